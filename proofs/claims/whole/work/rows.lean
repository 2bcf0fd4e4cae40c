section
-- ===== PART A: goes FIRST, ahead of the names: the tables' words, and 'selects' of the private methods out of them =====
/-- a private method of a class that the tables say can be made, by its rows of tables_1 -/
def lw_okq (q : MethodName × Nat) : Prop := (q.1.cls ≠ "java/lang/invoke/MethodHandle" ∧ q.1.cls ≠ "java/lang/invoke/VarHandle") ∧ Cond.instantiable q.1.cls q.2 ∈ tables_1 ∧ Cond.privateMethod q.1 ∈ tables_1 ∧ Cond.instanceMethod q.1 ∈ tables_1
theorem lw_p0 : lw_okq (⟨"BlindPost", "found", "(I)I"⟩, 12) := ⟨⟨by decide +kernel, by decide +kernel⟩, List.mem_of_getElem? (i := 14) (by decide +kernel), List.mem_of_getElem? (i := 250) (by decide +kernel), List.mem_of_getElem? (i := 251) (by decide +kernel)⟩
theorem lw_p1 : lw_okq (⟨"BlindPost", "tell", "(I)I"⟩, 12) := ⟨⟨by decide +kernel, by decide +kernel⟩, List.mem_of_getElem? (i := 14) (by decide +kernel), List.mem_of_getElem? (i := 273) (by decide +kernel), List.mem_of_getElem? (i := 274) (by decide +kernel)⟩
theorem lw_p2 : lw_okq (⟨"BlindPost$Land", "tie", "(III)V"⟩, 12) := ⟨⟨by decide +kernel, by decide +kernel⟩, List.mem_of_getElem? (i := 24) (by decide +kernel), List.mem_of_getElem? (i := 335) (by decide +kernel), List.mem_of_getElem? (i := 336) (by decide +kernel)⟩
theorem lw_p3 : lw_okq (⟨"BlindPost$Reading", "takes", "(I)Z"⟩, 5) := ⟨⟨by decide +kernel, by decide +kernel⟩, List.mem_of_getElem? (i := 116) (by decide +kernel), List.mem_of_getElem? (i := 342) (by decide +kernel), List.mem_of_getElem? (i := 343) (by decide +kernel)⟩
theorem lw_p4 : lw_okq (⟨"BlindPost$Reading", "takesTongue", "(I)Z"⟩, 5) := ⟨⟨by decide +kernel, by decide +kernel⟩, List.mem_of_getElem? (i := 116) (by decide +kernel), List.mem_of_getElem? (i := 346) (by decide +kernel), List.mem_of_getElem? (i := 347) (by decide +kernel)⟩
theorem lw_p5 : lw_okq (⟨"BlindPost$Reading", "takesStart", "(I)Z"⟩, 5) := ⟨⟨by decide +kernel, by decide +kernel⟩, List.mem_of_getElem? (i := 116) (by decide +kernel), List.mem_of_getElem? (i := 354) (by decide +kernel), List.mem_of_getElem? (i := 355) (by decide +kernel)⟩
theorem lw_p6 : lw_okq (⟨"BlindPost$Reading", "takesOne", "(I)Z"⟩, 5) := ⟨⟨by decide +kernel, by decide +kernel⟩, List.mem_of_getElem? (i := 116) (by decide +kernel), List.mem_of_getElem? (i := 365) (by decide +kernel), List.mem_of_getElem? (i := 366) (by decide +kernel)⟩
theorem lw_p7 : lw_okq (⟨"BlindPost$Reading", "takesOther", "(I)Z"⟩, 5) := ⟨⟨by decide +kernel, by decide +kernel⟩, List.mem_of_getElem? (i := 116) (by decide +kernel), List.mem_of_getElem? (i := 373) (by decide +kernel), List.mem_of_getElem? (i := 374) (by decide +kernel)⟩
theorem lw_p8 : lw_okq (⟨"BlindPost$Reading", "takesTime", "(I)Z"⟩, 5) := ⟨⟨by decide +kernel, by decide +kernel⟩, List.mem_of_getElem? (i := 116) (by decide +kernel), List.mem_of_getElem? (i := 377) (by decide +kernel), List.mem_of_getElem? (i := 378) (by decide +kernel)⟩
theorem lw_p9 : lw_okq (⟨"BlindPost$Land", "meetingsOf", "(I)I"⟩, 12) := ⟨⟨by decide +kernel, by decide +kernel⟩, List.mem_of_getElem? (i := 24) (by decide +kernel), List.mem_of_getElem? (i := 408) (by decide +kernel), List.mem_of_getElem? (i := 409) (by decide +kernel)⟩
theorem lw_p10 : lw_okq (⟨"BlindPost$Land", "lettersWith", "(I)I"⟩, 12) := ⟨⟨by decide +kernel, by decide +kernel⟩, List.mem_of_getElem? (i := 24) (by decide +kernel), List.mem_of_getElem? (i := 412) (by decide +kernel), List.mem_of_getElem? (i := 413) (by decide +kernel)⟩
theorem lw_p11 : lw_okq (⟨"BlindPost$Land", "lettersGivenOnBy", "(I)I"⟩, 12) := ⟨⟨by decide +kernel, by decide +kernel⟩, List.mem_of_getElem? (i := 24) (by decide +kernel), List.mem_of_getElem? (i := 445) (by decide +kernel), List.mem_of_getElem? (i := 446) (by decide +kernel)⟩
theorem lw_p12 : lw_okq (⟨"BlindPost", "noPair", "(II)Z"⟩, 12) := ⟨⟨by decide +kernel, by decide +kernel⟩, List.mem_of_getElem? (i := 14) (by decide +kernel), List.mem_of_getElem? (i := 463) (by decide +kernel), List.mem_of_getElem? (i := 464) (by decide +kernel)⟩
theorem lw_p13 : lw_okq (⟨"BlindPost$Land", "takesBetween", "(ILBlindPost$Letter;)Z"⟩, 12) := ⟨⟨by decide +kernel, by decide +kernel⟩, List.mem_of_getElem? (i := 24) (by decide +kernel), List.mem_of_getElem? (i := 531) (by decide +kernel), List.mem_of_getElem? (i := 532) (by decide +kernel)⟩
theorem lw_p14 : lw_okq (⟨"BlindPost$Ways", "weighAhead", "(II)V"⟩, 6) := ⟨⟨by decide +kernel, by decide +kernel⟩, List.mem_of_getElem? (i := 139) (by decide +kernel), List.mem_of_getElem? (i := 612) (by decide +kernel), List.mem_of_getElem? (i := 613) (by decide +kernel)⟩
theorem lw_p15 : lw_okq (⟨"BlindPost$Ways", "leadsOn", "(III)Z"⟩, 6) := ⟨⟨by decide +kernel, by decide +kernel⟩, List.mem_of_getElem? (i := 139) (by decide +kernel), List.mem_of_getElem? (i := 617) (by decide +kernel), List.mem_of_getElem? (i := 618) (by decide +kernel)⟩
def lw_privs_1 : List (MethodName × Nat) := [(⟨"BlindPost", "found", "(I)I"⟩, 12), (⟨"BlindPost", "tell", "(I)I"⟩, 12), (⟨"BlindPost$Land", "tie", "(III)V"⟩, 12), (⟨"BlindPost$Reading", "takes", "(I)Z"⟩, 5), (⟨"BlindPost$Reading", "takesTongue", "(I)Z"⟩, 5), (⟨"BlindPost$Reading", "takesStart", "(I)Z"⟩, 5), (⟨"BlindPost$Reading", "takesOne", "(I)Z"⟩, 5), (⟨"BlindPost$Reading", "takesOther", "(I)Z"⟩, 5), (⟨"BlindPost$Reading", "takesTime", "(I)Z"⟩, 5), (⟨"BlindPost$Land", "meetingsOf", "(I)I"⟩, 12), (⟨"BlindPost$Land", "lettersWith", "(I)I"⟩, 12), (⟨"BlindPost$Land", "lettersGivenOnBy", "(I)I"⟩, 12), (⟨"BlindPost", "noPair", "(II)Z"⟩, 12), (⟨"BlindPost$Land", "takesBetween", "(ILBlindPost$Letter;)Z"⟩, 12), (⟨"BlindPost$Ways", "weighAhead", "(II)V"⟩, 6), (⟨"BlindPost$Ways", "leadsOn", "(III)Z"⟩, 6)]
theorem lw_r1 : ∀ q ∈ lw_privs_1, lw_okq q := List.forall_mem_cons.mpr ⟨lw_p0, List.forall_mem_cons.mpr ⟨lw_p1, List.forall_mem_cons.mpr ⟨lw_p2, List.forall_mem_cons.mpr ⟨lw_p3, List.forall_mem_cons.mpr ⟨lw_p4, List.forall_mem_cons.mpr ⟨lw_p5, List.forall_mem_cons.mpr ⟨lw_p6, List.forall_mem_cons.mpr ⟨lw_p7, List.forall_mem_cons.mpr ⟨lw_p8, List.forall_mem_cons.mpr ⟨lw_p9, List.forall_mem_cons.mpr ⟨lw_p10, List.forall_mem_cons.mpr ⟨lw_p11, List.forall_mem_cons.mpr ⟨lw_p12, List.forall_mem_cons.mpr ⟨lw_p13, List.forall_mem_cons.mpr ⟨lw_p14, List.forall_mem_cons.mpr ⟨lw_p15, fun _ h => absurd h List.not_mem_nil⟩⟩⟩⟩⟩⟩⟩⟩⟩⟩⟩⟩⟩⟩⟩⟩
theorem lw_p16 : lw_okq (⟨"BlindPost$Ways", "weightBy", "(I)I"⟩, 6) := ⟨⟨by decide +kernel, by decide +kernel⟩, List.mem_of_getElem? (i := 139) (by decide +kernel), List.mem_of_getElem? (i := 621) (by decide +kernel), List.mem_of_getElem? (i := 622) (by decide +kernel)⟩
theorem lw_p17 : lw_okq (⟨"BlindPost$Ways", "nextOn", "(III)I"⟩, 6) := ⟨⟨by decide +kernel, by decide +kernel⟩, List.mem_of_getElem? (i := 139) (by decide +kernel), List.mem_of_getElem? (i := 626) (by decide +kernel), List.mem_of_getElem? (i := 627) (by decide +kernel)⟩
theorem lw_p18 : lw_okq (⟨"BlindPost$Ways", "leadsOver", "(III)Z"⟩, 6) := ⟨⟨by decide +kernel, by decide +kernel⟩, List.mem_of_getElem? (i := 139) (by decide +kernel), List.mem_of_getElem? (i := 650) (by decide +kernel), List.mem_of_getElem? (i := 651) (by decide +kernel)⟩
theorem lw_p19 : lw_okq (⟨"BlindPost$Ways", "metByAny", "(I)I"⟩, 6) := ⟨⟨by decide +kernel, by decide +kernel⟩, List.mem_of_getElem? (i := 139) (by decide +kernel), List.mem_of_getElem? (i := 654) (by decide +kernel), List.mem_of_getElem? (i := 655) (by decide +kernel)⟩
theorem lw_p20 : lw_okq (⟨"BlindPost$Pairs", "writtenBy", "(II)I"⟩, 5) := ⟨⟨by decide +kernel, by decide +kernel⟩, List.mem_of_getElem? (i := 166) (by decide +kernel), List.mem_of_getElem? (i := 691) (by decide +kernel), List.mem_of_getElem? (i := 692) (by decide +kernel)⟩
theorem lw_p21 : lw_okq (⟨"BlindPost$Pairs", "choicesOfPairs", "()I"⟩, 5) := ⟨⟨by decide +kernel, by decide +kernel⟩, List.mem_of_getElem? (i := 166) (by decide +kernel), List.mem_of_getElem? (i := 742) (by decide +kernel), List.mem_of_getElem? (i := 743) (by decide +kernel)⟩
theorem lw_p22 : lw_okq (⟨"BlindPost$Pairs", "tonguesTo", "(I)I"⟩, 5) := ⟨⟨by decide +kernel, by decide +kernel⟩, List.mem_of_getElem? (i := 166) (by decide +kernel), List.mem_of_getElem? (i := 746) (by decide +kernel), List.mem_of_getElem? (i := 747) (by decide +kernel)⟩
theorem lw_p23 : lw_okq (⟨"BlindPost", "refusedPairs", "(I)I"⟩, 12) := ⟨⟨by decide +kernel, by decide +kernel⟩, List.mem_of_getElem? (i := 14) (by decide +kernel), List.mem_of_getElem? (i := 758) (by decide +kernel), List.mem_of_getElem? (i := 759) (by decide +kernel)⟩
theorem lw_p24 : lw_okq (⟨"BlindPost", "sheetsThere", "([LBlindPost$Sheet;)I"⟩, 12) := ⟨⟨by decide +kernel, by decide +kernel⟩, List.mem_of_getElem? (i := 14) (by decide +kernel), List.mem_of_getElem? (i := 813) (by decide +kernel), List.mem_of_getElem? (i := 814) (by decide +kernel)⟩
theorem lw_p25 : lw_okq (⟨"BlindPost", "landsKept", "()I"⟩, 12) := ⟨⟨by decide +kernel, by decide +kernel⟩, List.mem_of_getElem? (i := 14) (by decide +kernel), List.mem_of_getElem? (i := 817) (by decide +kernel), List.mem_of_getElem? (i := 818) (by decide +kernel)⟩
theorem lw_p26 : lw_okq (⟨"BlindPostModel", "meetWith", "(I)I"⟩, 33) := ⟨⟨by decide +kernel, by decide +kernel⟩, List.mem_of_getElem? (i := 847) (by decide +kernel), List.mem_of_getElem? (i := 963) (by decide +kernel), List.mem_of_getElem? (i := 964) (by decide +kernel)⟩
theorem lw_p27 : lw_okq (⟨"BlindPostModel", "setRow", "(III)V"⟩, 33) := ⟨⟨by decide +kernel, by decide +kernel⟩, List.mem_of_getElem? (i := 847) (by decide +kernel), List.mem_of_getElem? (i := 967) (by decide +kernel), List.mem_of_getElem? (i := 968) (by decide +kernel)⟩
theorem lw_p28 : lw_okq (⟨"BlindPostModel", "askedRow", "(I)I"⟩, 33) := ⟨⟨by decide +kernel, by decide +kernel⟩, List.mem_of_getElem? (i := 847) (by decide +kernel), List.mem_of_getElem? (i := 975) (by decide +kernel), List.mem_of_getElem? (i := 976) (by decide +kernel)⟩
theorem lw_p29 : lw_okq (⟨"BlindPostModel", "rowAt", "(II)I"⟩, 33) := ⟨⟨by decide +kernel, by decide +kernel⟩, List.mem_of_getElem? (i := 847) (by decide +kernel), List.mem_of_getElem? (i := 979) (by decide +kernel), List.mem_of_getElem? (i := 980) (by decide +kernel)⟩
theorem lw_p30 : lw_okq (⟨"BlindPostModel", "ask", "(II)I"⟩, 33) := ⟨⟨by decide +kernel, by decide +kernel⟩, List.mem_of_getElem? (i := 847) (by decide +kernel), List.mem_of_getElem? (i := 983) (by decide +kernel), List.mem_of_getElem? (i := 984) (by decide +kernel)⟩
theorem lw_p31 : lw_okq (⟨"BlindPostModel", "askedText", "(I)I"⟩, 33) := ⟨⟨by decide +kernel, by decide +kernel⟩, List.mem_of_getElem? (i := 847) (by decide +kernel), List.mem_of_getElem? (i := 1015) (by decide +kernel), List.mem_of_getElem? (i := 1016) (by decide +kernel)⟩
def lw_privs_2 : List (MethodName × Nat) := [(⟨"BlindPost$Ways", "weightBy", "(I)I"⟩, 6), (⟨"BlindPost$Ways", "nextOn", "(III)I"⟩, 6), (⟨"BlindPost$Ways", "leadsOver", "(III)Z"⟩, 6), (⟨"BlindPost$Ways", "metByAny", "(I)I"⟩, 6), (⟨"BlindPost$Pairs", "writtenBy", "(II)I"⟩, 5), (⟨"BlindPost$Pairs", "choicesOfPairs", "()I"⟩, 5), (⟨"BlindPost$Pairs", "tonguesTo", "(I)I"⟩, 5), (⟨"BlindPost", "refusedPairs", "(I)I"⟩, 12), (⟨"BlindPost", "sheetsThere", "([LBlindPost$Sheet;)I"⟩, 12), (⟨"BlindPost", "landsKept", "()I"⟩, 12), (⟨"BlindPostModel", "meetWith", "(I)I"⟩, 33), (⟨"BlindPostModel", "setRow", "(III)V"⟩, 33), (⟨"BlindPostModel", "askedRow", "(I)I"⟩, 33), (⟨"BlindPostModel", "rowAt", "(II)I"⟩, 33), (⟨"BlindPostModel", "ask", "(II)I"⟩, 33), (⟨"BlindPostModel", "askedText", "(I)I"⟩, 33)]
theorem lw_r2 : ∀ q ∈ lw_privs_2, lw_okq q := List.forall_mem_cons.mpr ⟨lw_p16, List.forall_mem_cons.mpr ⟨lw_p17, List.forall_mem_cons.mpr ⟨lw_p18, List.forall_mem_cons.mpr ⟨lw_p19, List.forall_mem_cons.mpr ⟨lw_p20, List.forall_mem_cons.mpr ⟨lw_p21, List.forall_mem_cons.mpr ⟨lw_p22, List.forall_mem_cons.mpr ⟨lw_p23, List.forall_mem_cons.mpr ⟨lw_p24, List.forall_mem_cons.mpr ⟨lw_p25, List.forall_mem_cons.mpr ⟨lw_p26, List.forall_mem_cons.mpr ⟨lw_p27, List.forall_mem_cons.mpr ⟨lw_p28, List.forall_mem_cons.mpr ⟨lw_p29, List.forall_mem_cons.mpr ⟨lw_p30, List.forall_mem_cons.mpr ⟨lw_p31, fun _ h => absurd h List.not_mem_nil⟩⟩⟩⟩⟩⟩⟩⟩⟩⟩⟩⟩⟩⟩⟩⟩
theorem lw_p32 : lw_okq (⟨"BlindPostModel", "goesOn", "(I)I"⟩, 33) := ⟨⟨by decide +kernel, by decide +kernel⟩, List.mem_of_getElem? (i := 847) (by decide +kernel), List.mem_of_getElem? (i := 1023) (by decide +kernel), List.mem_of_getElem? (i := 1024) (by decide +kernel)⟩
theorem lw_p33 : lw_okq (⟨"BlindPostModel", "here", "(I)I"⟩, 33) := ⟨⟨by decide +kernel, by decide +kernel⟩, List.mem_of_getElem? (i := 847) (by decide +kernel), List.mem_of_getElem? (i := 1027) (by decide +kernel), List.mem_of_getElem? (i := 1028) (by decide +kernel)⟩
theorem lw_p34 : lw_okq (⟨"BlindPostModel", "readsMeeting", "(I)Z"⟩, 33) := ⟨⟨by decide +kernel, by decide +kernel⟩, List.mem_of_getElem? (i := 847) (by decide +kernel), List.mem_of_getElem? (i := 1031) (by decide +kernel), List.mem_of_getElem? (i := 1032) (by decide +kernel)⟩
theorem lw_p35 : lw_okq (⟨"BlindPostModel", "readsHand", "(I)Z"⟩, 33) := ⟨⟨by decide +kernel, by decide +kernel⟩, List.mem_of_getElem? (i := 847) (by decide +kernel), List.mem_of_getElem? (i := 1035) (by decide +kernel), List.mem_of_getElem? (i := 1036) (by decide +kernel)⟩
theorem lw_p36 : lw_okq (⟨"BlindPostModel", "isOne", "(I)Z"⟩, 33) := ⟨⟨by decide +kernel, by decide +kernel⟩, List.mem_of_getElem? (i := 847) (by decide +kernel), List.mem_of_getElem? (i := 1050) (by decide +kernel), List.mem_of_getElem? (i := 1051) (by decide +kernel)⟩
theorem lw_p37 : lw_okq (⟨"BlindPostModel", "handOf", "(II)I"⟩, 33) := ⟨⟨by decide +kernel, by decide +kernel⟩, List.mem_of_getElem? (i := 847) (by decide +kernel), List.mem_of_getElem? (i := 1054) (by decide +kernel), List.mem_of_getElem? (i := 1055) (by decide +kernel)⟩
theorem lw_p38 : lw_okq (⟨"BlindPostModel", "holderOf", "(I)I"⟩, 33) := ⟨⟨by decide +kernel, by decide +kernel⟩, List.mem_of_getElem? (i := 847) (by decide +kernel), List.mem_of_getElem? (i := 1058) (by decide +kernel), List.mem_of_getElem? (i := 1059) (by decide +kernel)⟩
theorem lw_p39 : lw_okq (⟨"BlindPostModel", "letterOf", "(II)I"⟩, 33) := ⟨⟨by decide +kernel, by decide +kernel⟩, List.mem_of_getElem? (i := 847) (by decide +kernel), List.mem_of_getElem? (i := 1062) (by decide +kernel), List.mem_of_getElem? (i := 1063) (by decide +kernel)⟩
theorem lw_p40 : lw_okq (⟨"BlindPostModel", "isThere", "(I)Z"⟩, 33) := ⟨⟨by decide +kernel, by decide +kernel⟩, List.mem_of_getElem? (i := 847) (by decide +kernel), List.mem_of_getElem? (i := 1066) (by decide +kernel), List.mem_of_getElem? (i := 1067) (by decide +kernel)⟩
theorem lw_p41 : lw_okq (⟨"BlindPostModel", "isA", "(II)Z"⟩, 33) := ⟨⟨by decide +kernel, by decide +kernel⟩, List.mem_of_getElem? (i := 847) (by decide +kernel), List.mem_of_getElem? (i := 1074) (by decide +kernel), List.mem_of_getElem? (i := 1075) (by decide +kernel)⟩
theorem lw_p42 : lw_okq (⟨"BlindPostModel", "barsOf", "(I)I"⟩, 33) := ⟨⟨by decide +kernel, by decide +kernel⟩, List.mem_of_getElem? (i := 847) (by decide +kernel), List.mem_of_getElem? (i := 1081) (by decide +kernel), List.mem_of_getElem? (i := 1082) (by decide +kernel)⟩
theorem lw_p43 : lw_okq (⟨"BlindPostModel", "givenOn", "(I)I"⟩, 33) := ⟨⟨by decide +kernel, by decide +kernel⟩, List.mem_of_getElem? (i := 847) (by decide +kernel), List.mem_of_getElem? (i := 1085) (by decide +kernel), List.mem_of_getElem? (i := 1086) (by decide +kernel)⟩
theorem lw_p44 : lw_okq (⟨"BlindPostModel", "metBy", "(II)I"⟩, 33) := ⟨⟨by decide +kernel, by decide +kernel⟩, List.mem_of_getElem? (i := 847) (by decide +kernel), List.mem_of_getElem? (i := 1089) (by decide +kernel), List.mem_of_getElem? (i := 1090) (by decide +kernel)⟩
theorem lw_p45 : lw_okq (⟨"BlindPostModel", "areTwo", "(II)Z"⟩, 33) := ⟨⟨by decide +kernel, by decide +kernel⟩, List.mem_of_getElem? (i := 847) (by decide +kernel), List.mem_of_getElem? (i := 1104) (by decide +kernel), List.mem_of_getElem? (i := 1105) (by decide +kernel)⟩
theorem lw_p46 : lw_okq (⟨"BlindPostModel", "mayCarry", "(II)Z"⟩, 33) := ⟨⟨by decide +kernel, by decide +kernel⟩, List.mem_of_getElem? (i := 847) (by decide +kernel), List.mem_of_getElem? (i := 1119) (by decide +kernel), List.mem_of_getElem? (i := 1120) (by decide +kernel)⟩
theorem lw_p47 : lw_okq (⟨"BlindPostModel", "writes", "(III)Z"⟩, 33) := ⟨⟨by decide +kernel, by decide +kernel⟩, List.mem_of_getElem? (i := 847) (by decide +kernel), List.mem_of_getElem? (i := 1131) (by decide +kernel), List.mem_of_getElem? (i := 1132) (by decide +kernel)⟩
def lw_privs_3 : List (MethodName × Nat) := [(⟨"BlindPostModel", "goesOn", "(I)I"⟩, 33), (⟨"BlindPostModel", "here", "(I)I"⟩, 33), (⟨"BlindPostModel", "readsMeeting", "(I)Z"⟩, 33), (⟨"BlindPostModel", "readsHand", "(I)Z"⟩, 33), (⟨"BlindPostModel", "isOne", "(I)Z"⟩, 33), (⟨"BlindPostModel", "handOf", "(II)I"⟩, 33), (⟨"BlindPostModel", "holderOf", "(I)I"⟩, 33), (⟨"BlindPostModel", "letterOf", "(II)I"⟩, 33), (⟨"BlindPostModel", "isThere", "(I)Z"⟩, 33), (⟨"BlindPostModel", "isA", "(II)Z"⟩, 33), (⟨"BlindPostModel", "barsOf", "(I)I"⟩, 33), (⟨"BlindPostModel", "givenOn", "(I)I"⟩, 33), (⟨"BlindPostModel", "metBy", "(II)I"⟩, 33), (⟨"BlindPostModel", "areTwo", "(II)Z"⟩, 33), (⟨"BlindPostModel", "mayCarry", "(II)Z"⟩, 33), (⟨"BlindPostModel", "writes", "(III)Z"⟩, 33)]
theorem lw_r3 : ∀ q ∈ lw_privs_3, lw_okq q := List.forall_mem_cons.mpr ⟨lw_p32, List.forall_mem_cons.mpr ⟨lw_p33, List.forall_mem_cons.mpr ⟨lw_p34, List.forall_mem_cons.mpr ⟨lw_p35, List.forall_mem_cons.mpr ⟨lw_p36, List.forall_mem_cons.mpr ⟨lw_p37, List.forall_mem_cons.mpr ⟨lw_p38, List.forall_mem_cons.mpr ⟨lw_p39, List.forall_mem_cons.mpr ⟨lw_p40, List.forall_mem_cons.mpr ⟨lw_p41, List.forall_mem_cons.mpr ⟨lw_p42, List.forall_mem_cons.mpr ⟨lw_p43, List.forall_mem_cons.mpr ⟨lw_p44, List.forall_mem_cons.mpr ⟨lw_p45, List.forall_mem_cons.mpr ⟨lw_p46, List.forall_mem_cons.mpr ⟨lw_p47, fun _ h => absurd h List.not_mem_nil⟩⟩⟩⟩⟩⟩⟩⟩⟩⟩⟩⟩⟩⟩⟩⟩
theorem lw_p48 : lw_okq (⟨"BlindPostModel", "askedLetter", "(I)I"⟩, 33) := ⟨⟨by decide +kernel, by decide +kernel⟩, List.mem_of_getElem? (i := 847) (by decide +kernel), List.mem_of_getElem? (i := 1139) (by decide +kernel), List.mem_of_getElem? (i := 1140) (by decide +kernel)⟩
theorem lw_p49 : lw_okq (⟨"BlindPostModel", "givable", "(I)I"⟩, 33) := ⟨⟨by decide +kernel, by decide +kernel⟩, List.mem_of_getElem? (i := 847) (by decide +kernel), List.mem_of_getElem? (i := 1143) (by decide +kernel), List.mem_of_getElem? (i := 1144) (by decide +kernel)⟩
theorem lw_p50 : lw_okq (⟨"BlindPostModel", "hadBy", "(I)I"⟩, 33) := ⟨⟨by decide +kernel, by decide +kernel⟩, List.mem_of_getElem? (i := 847) (by decide +kernel), List.mem_of_getElem? (i := 1147) (by decide +kernel), List.mem_of_getElem? (i := 1148) (by decide +kernel)⟩
theorem lw_p51 : lw_okq (⟨"BlindPostModel", "takes", "(III)Z"⟩, 33) := ⟨⟨by decide +kernel, by decide +kernel⟩, List.mem_of_getElem? (i := 847) (by decide +kernel), List.mem_of_getElem? (i := 1151) (by decide +kernel), List.mem_of_getElem? (i := 1152) (by decide +kernel)⟩
theorem lw_p52 : lw_okq (⟨"BlindPostModel", "giveTo", "(II)I"⟩, 33) := ⟨⟨by decide +kernel, by decide +kernel⟩, List.mem_of_getElem? (i := 847) (by decide +kernel), List.mem_of_getElem? (i := 1158) (by decide +kernel), List.mem_of_getElem? (i := 1159) (by decide +kernel)⟩
theorem lw_p53 : lw_okq (⟨"BlindPostModel", "isAsk", "(III)Z"⟩, 33) := ⟨⟨by decide +kernel, by decide +kernel⟩, List.mem_of_getElem? (i := 847) (by decide +kernel), List.mem_of_getElem? (i := 1191) (by decide +kernel), List.mem_of_getElem? (i := 1192) (by decide +kernel)⟩
theorem lw_p54 : lw_okq (⟨"BlindPostModel", "soonOf", "(IIII)I"⟩, 33) := ⟨⟨by decide +kernel, by decide +kernel⟩, List.mem_of_getElem? (i := 847) (by decide +kernel), List.mem_of_getElem? (i := 1195) (by decide +kernel), List.mem_of_getElem? (i := 1196) (by decide +kernel)⟩
theorem lw_p55 : lw_okq (⟨"BlindPostModel", "setWays", "(IIIZ)V"⟩, 33) := ⟨⟨by decide +kernel, by decide +kernel⟩, List.mem_of_getElem? (i := 847) (by decide +kernel), List.mem_of_getElem? (i := 1203) (by decide +kernel), List.mem_of_getElem? (i := 1204) (by decide +kernel)⟩
theorem lw_p56 : lw_okq (⟨"BlindPostModel", "wayOn", "(IIIIIZ)V"⟩, 33) := ⟨⟨by decide +kernel, by decide +kernel⟩, List.mem_of_getElem? (i := 847) (by decide +kernel), List.mem_of_getElem? (i := 1208) (by decide +kernel), List.mem_of_getElem? (i := 1209) (by decide +kernel)⟩
theorem lw_p57 : lw_okq (⟨"BlindPostModel", "meetWay", "(III)V"⟩, 33) := ⟨⟨by decide +kernel, by decide +kernel⟩, List.mem_of_getElem? (i := 847) (by decide +kernel), List.mem_of_getElem? (i := 1212) (by decide +kernel), List.mem_of_getElem? (i := 1213) (by decide +kernel)⟩
theorem lw_p58 : lw_okq (⟨"BlindPostModel", "costOf", "(II)I"⟩, 33) := ⟨⟨by decide +kernel, by decide +kernel⟩, List.mem_of_getElem? (i := 847) (by decide +kernel), List.mem_of_getElem? (i := 1216) (by decide +kernel), List.mem_of_getElem? (i := 1217) (by decide +kernel)⟩
theorem lw_p59 : lw_okq (⟨"BlindPostModel", "packOn", "(II)I"⟩, 33) := ⟨⟨by decide +kernel, by decide +kernel⟩, List.mem_of_getElem? (i := 847) (by decide +kernel), List.mem_of_getElem? (i := 1232) (by decide +kernel), List.mem_of_getElem? (i := 1233) (by decide +kernel)⟩
theorem lw_p60 : lw_okq (⟨"BlindPostModel", "isWayIn", "(III)Z"⟩, 33) := ⟨⟨by decide +kernel, by decide +kernel⟩, List.mem_of_getElem? (i := 847) (by decide +kernel), List.mem_of_getElem? (i := 1248) (by decide +kernel), List.mem_of_getElem? (i := 1249) (by decide +kernel)⟩
theorem lw_p61 : lw_okq (⟨"BlindPostModel", "cutNow", "()I"⟩, 33) := ⟨⟨by decide +kernel, by decide +kernel⟩, List.mem_of_getElem? (i := 847) (by decide +kernel), List.mem_of_getElem? (i := 1256) (by decide +kernel), List.mem_of_getElem? (i := 1257) (by decide +kernel)⟩
theorem lw_p62 : lw_okq (⟨"BlindPostModel", "tonguesOf", "(II)I"⟩, 33) := ⟨⟨by decide +kernel, by decide +kernel⟩, List.mem_of_getElem? (i := 847) (by decide +kernel), List.mem_of_getElem? (i := 1260) (by decide +kernel), List.mem_of_getElem? (i := 1261) (by decide +kernel)⟩
theorem lw_p63 : lw_okq (⟨"BlindPostModel", "cutIf", "(II)I"⟩, 33) := ⟨⟨by decide +kernel, by decide +kernel⟩, List.mem_of_getElem? (i := 847) (by decide +kernel), List.mem_of_getElem? (i := 1268) (by decide +kernel), List.mem_of_getElem? (i := 1269) (by decide +kernel)⟩
def lw_privs_4 : List (MethodName × Nat) := [(⟨"BlindPostModel", "askedLetter", "(I)I"⟩, 33), (⟨"BlindPostModel", "givable", "(I)I"⟩, 33), (⟨"BlindPostModel", "hadBy", "(I)I"⟩, 33), (⟨"BlindPostModel", "takes", "(III)Z"⟩, 33), (⟨"BlindPostModel", "giveTo", "(II)I"⟩, 33), (⟨"BlindPostModel", "isAsk", "(III)Z"⟩, 33), (⟨"BlindPostModel", "soonOf", "(IIII)I"⟩, 33), (⟨"BlindPostModel", "setWays", "(IIIZ)V"⟩, 33), (⟨"BlindPostModel", "wayOn", "(IIIIIZ)V"⟩, 33), (⟨"BlindPostModel", "meetWay", "(III)V"⟩, 33), (⟨"BlindPostModel", "costOf", "(II)I"⟩, 33), (⟨"BlindPostModel", "packOn", "(II)I"⟩, 33), (⟨"BlindPostModel", "isWayIn", "(III)Z"⟩, 33), (⟨"BlindPostModel", "cutNow", "()I"⟩, 33), (⟨"BlindPostModel", "tonguesOf", "(II)I"⟩, 33), (⟨"BlindPostModel", "cutIf", "(II)I"⟩, 33)]
theorem lw_r4 : ∀ q ∈ lw_privs_4, lw_okq q := List.forall_mem_cons.mpr ⟨lw_p48, List.forall_mem_cons.mpr ⟨lw_p49, List.forall_mem_cons.mpr ⟨lw_p50, List.forall_mem_cons.mpr ⟨lw_p51, List.forall_mem_cons.mpr ⟨lw_p52, List.forall_mem_cons.mpr ⟨lw_p53, List.forall_mem_cons.mpr ⟨lw_p54, List.forall_mem_cons.mpr ⟨lw_p55, List.forall_mem_cons.mpr ⟨lw_p56, List.forall_mem_cons.mpr ⟨lw_p57, List.forall_mem_cons.mpr ⟨lw_p58, List.forall_mem_cons.mpr ⟨lw_p59, List.forall_mem_cons.mpr ⟨lw_p60, List.forall_mem_cons.mpr ⟨lw_p61, List.forall_mem_cons.mpr ⟨lw_p62, List.forall_mem_cons.mpr ⟨lw_p63, fun _ h => absurd h List.not_mem_nil⟩⟩⟩⟩⟩⟩⟩⟩⟩⟩⟩⟩⟩⟩⟩⟩
theorem lw_p64 : lw_okq (⟨"BlindPostModel", "askedPairs", "(I)I"⟩, 33) := ⟨⟨by decide +kernel, by decide +kernel⟩, List.mem_of_getElem? (i := 847) (by decide +kernel), List.mem_of_getElem? (i := 1288) (by decide +kernel), List.mem_of_getElem? (i := 1289) (by decide +kernel)⟩
theorem lw_p65 : lw_okq (⟨"BlindPostModel", "isRead", "(II)Z"⟩, 33) := ⟨⟨by decide +kernel, by decide +kernel⟩, List.mem_of_getElem? (i := 847) (by decide +kernel), List.mem_of_getElem? (i := 1292) (by decide +kernel), List.mem_of_getElem? (i := 1293) (by decide +kernel)⟩
theorem lw_p66 : lw_okq (⟨"BlindPostModel", "tells", "(I)I"⟩, 33) := ⟨⟨by decide +kernel, by decide +kernel⟩, List.mem_of_getElem? (i := 847) (by decide +kernel), List.mem_of_getElem? (i := 1330) (by decide +kernel), List.mem_of_getElem? (i := 1331) (by decide +kernel)⟩
theorem lw_p67 : lw_okq (⟨"BlindPostModel", "mix", "(I)V"⟩, 33) := ⟨⟨by decide +kernel, by decide +kernel⟩, List.mem_of_getElem? (i := 847) (by decide +kernel), List.mem_of_getElem? (i := 1347) (by decide +kernel), List.mem_of_getElem? (i := 1348) (by decide +kernel)⟩
theorem lw_p68 : lw_okq (⟨"BlindPostModel", "mixLand", "()V"⟩, 33) := ⟨⟨by decide +kernel, by decide +kernel⟩, List.mem_of_getElem? (i := 847) (by decide +kernel), List.mem_of_getElem? (i := 1352) (by decide +kernel), List.mem_of_getElem? (i := 1353) (by decide +kernel)⟩
def lw_privs_5 : List (MethodName × Nat) := [(⟨"BlindPostModel", "askedPairs", "(I)I"⟩, 33), (⟨"BlindPostModel", "isRead", "(II)Z"⟩, 33), (⟨"BlindPostModel", "tells", "(I)I"⟩, 33), (⟨"BlindPostModel", "mix", "(I)V"⟩, 33), (⟨"BlindPostModel", "mixLand", "()V"⟩, 33)]
theorem lw_r5 : ∀ q ∈ lw_privs_5, lw_okq q := List.forall_mem_cons.mpr ⟨lw_p64, List.forall_mem_cons.mpr ⟨lw_p65, List.forall_mem_cons.mpr ⟨lw_p66, List.forall_mem_cons.mpr ⟨lw_p67, List.forall_mem_cons.mpr ⟨lw_p68, fun _ h => absurd h List.not_mem_nil⟩⟩⟩⟩⟩
def lw_privs : List (MethodName × Nat) := lw_privs_1 ++ (lw_privs_2 ++ (lw_privs_3 ++ (lw_privs_4 ++ (lw_privs_5))))
def lw_tbl : List Cond := k2_sels lw_privs ++ tables_1
theorem lw_privs_ok : ∀ q ∈ lw_privs, lw_okq q := by
  show ∀ q ∈ lw_privs_1 ++ (lw_privs_2 ++ (lw_privs_3 ++ (lw_privs_4 ++ (lw_privs_5)))), lw_okq q
  exact List.forall_mem_append.mpr ⟨lw_r1, List.forall_mem_append.mpr ⟨lw_r2, List.forall_mem_append.mpr ⟨lw_r3, List.forall_mem_append.mpr ⟨lw_r4, lw_r5⟩⟩⟩⟩
end
section
def RX0 : String := "BlindPost$Land"
def TX0 : u_T := fun k => match k with
  | 0 => ("BlindPost$Land", "kinds", "[I", true)
  | 1 => ("BlindPost$Land", "known", "[I", true)
  | 2 => ("BlindPost$Land", "ones", "[I", true)
  | 3 => ("BlindPost$Land", "others", "[I", true)
  | 4 => ("BlindPost$Land", "times", "[I", true)
  | 5 => ("BlindPost$Land", "metIn", "[[I", true)
  | 6 => ("BlindPost$Land", "metEver", "[I", true)
  | 7 => ("BlindPost$Land", "letters", "[LBlindPost$Letter;", true)
  | 8 => ("BlindPost$Land", "handCount", "I", false)
  | 9 => ("BlindPost$Land", "meetingCount", "I", false)
  | 10 => ("BlindPost$Land", "letterCount", "I", false)
  | _ => ("BlindPost$Land", "hour", "I", false)
def tyX0 : Nat → FieldType := fun k => match k with
  | 0 => .array .int
  | 1 => .array .int
  | 2 => .array .int
  | 3 => .array .int
  | 4 => .array .int
  | 5 => .array (.array .int)
  | 6 => .array .int
  | 7 => .array (.object "BlindPost$Letter")
  | 8 => .int
  | 9 => .int
  | 10 => .int
  | _ => .int
abbrev wsX00 : List Cond := u_ws RX0 TX0 12
theorem nmX0 : ∀ a, a < 12 → ∀ b, b < 12 → a ≠ b → (TX0 a).2.1 ≠ (TX0 b).2.1 := by decide +kernel
theorem tyX0_ok : ∀ k, k < 12 → parseFieldDescriptor (TX0 k).2.2.1 = some (tyX0 k) := by decide +kernel
def RX1 : String := "BlindPost$Letter"
def TX1 : u_T := fun k => match k with
  | 0 => ("BlindPost$Letter", "through", "[I", true)
  | 1 => ("BlindPost$Letter", "came", "[I", true)
  | 2 => ("BlindPost$Letter", "length", "I", false)
  | 3 => ("BlindPost$Letter", "to", "I", false)
  | _ => ("BlindPost$Letter", "tongues", "I", false)
def tyX1 : Nat → FieldType := fun k => match k with
  | 0 => .array .int
  | 1 => .array .int
  | 2 => .int
  | 3 => .int
  | _ => .int
abbrev wsX10 : List Cond := u_ws RX1 TX1 5
theorem nmX1 : ∀ a, a < 5 → ∀ b, b < 5 → a ≠ b → (TX1 a).2.1 ≠ (TX1 b).2.1 := by decide +kernel
theorem tyX1_ok : ∀ k, k < 5 → parseFieldDescriptor (TX1 k).2.2.1 = some (tyX1 k) := by decide +kernel
def RX2 : String := "BlindPost$Pairs"
def TX2 : u_T := fun k => match k with
  | 0 => ("BlindPost$Pairs", "land", "LBlindPost$Land;", true)
  | 1 => ("BlindPost$Pairs", "ways", "LBlindPost$Ways;", true)
  | 2 => ("BlindPost$Pairs", "reached", "[I", true)
  | 3 => ("BlindPost$Pairs", "all", "I", false)
  | _ => ("BlindPost$Pairs", "cut", "I", false)
def tyX2 : Nat → FieldType := fun k => match k with
  | 0 => .object "BlindPost$Land"
  | 1 => .object "BlindPost$Ways"
  | 2 => .array .int
  | 3 => .int
  | _ => .int
abbrev wsX20 : List Cond := u_ws RX2 TX2 5
theorem nmX2 : ∀ a, a < 5 → ∀ b, b < 5 → a ≠ b → (TX2 a).2.1 ≠ (TX2 b).2.1 := by decide +kernel
theorem tyX2_ok : ∀ k, k < 5 → parseFieldDescriptor (TX2 k).2.2.1 = some (tyX2 k) := by decide +kernel
def RX3 : String := "BlindPost$Reading"
def TX3 : u_T := fun k => match k with
  | 0 => ("BlindPost$Reading", "drawn", "LBlindPost$Land;", true)
  | 1 => ("BlindPost$Reading", "stage", "I", false)
  | 2 => ("BlindPost$Reading", "lastFigure", "I", false)
  | 3 => ("BlindPost$Reading", "one", "I", false)
  | _ => ("BlindPost$Reading", "other", "I", false)
def tyX3 : Nat → FieldType := fun k => match k with
  | 0 => .object "BlindPost$Land"
  | 1 => .int
  | 2 => .int
  | 3 => .int
  | _ => .int
abbrev wsX30 : List Cond := u_ws RX3 TX3 5
theorem nmX3 : ∀ a, a < 5 → ∀ b, b < 5 → a ≠ b → (TX3 a).2.1 ≠ (TX3 b).2.1 := by decide +kernel
theorem tyX3_ok : ∀ k, k < 5 → parseFieldDescriptor (TX3 k).2.2.1 = some (tyX3 k) := by decide +kernel
def RX4 : String := "BlindPost$Sheet"
def TX4 : u_T := fun k => match k with
  | 0 => ("BlindPost$Sheet", "places", "[I", true)
  | _ => ("BlindPost$Sheet", "size", "I", false)
def tyX4 : Nat → FieldType := fun k => match k with
  | 0 => .array .int
  | _ => .int
abbrev wsX40 : List Cond := u_ws RX4 TX4 2
theorem nmX4 : ∀ a, a < 2 → ∀ b, b < 2 → a ≠ b → (TX4 a).2.1 ≠ (TX4 b).2.1 := by decide +kernel
theorem tyX4_ok : ∀ k, k < 2 → parseFieldDescriptor (TX4 k).2.2.1 = some (tyX4 k) := by decide +kernel
def RX5 : String := "BlindPost$Ways"
def TX5 : u_T := fun k => match k with
  | 0 => ("BlindPost$Ways", "land", "LBlindPost$Land;", true)
  | 1 => ("BlindPost$Ways", "prices", "[I", true)
  | 2 => ("BlindPost$Ways", "ahead", "[I", true)
  | 3 => ("BlindPost$Ways", "mutes", "I", false)
  | 4 => ("BlindPost$Ways", "through", "[I", true)
  | _ => ("BlindPost$Ways", "length", "I", false)
def tyX5 : Nat → FieldType := fun k => match k with
  | 0 => .object "BlindPost$Land"
  | 1 => .array .int
  | 2 => .array .int
  | 3 => .int
  | 4 => .array .int
  | _ => .int
abbrev wsX50 : List Cond := u_ws RX5 TX5 6
theorem nmX5 : ∀ a, a < 6 → ∀ b, b < 6 → a ≠ b → (TX5 a).2.1 ≠ (TX5 b).2.1 := by decide +kernel
theorem tyX5_ok : ∀ k, k < 6 → parseFieldDescriptor (TX5 k).2.2.1 = some (tyX5 k) := by decide +kernel
def RX6 : String := "BlindPost"
def TX6 : u_T := fun k => match k with
  | 0 => ("BlindPost", "rows", "[LBlindPost$Sheet;", true)
  | 1 => ("BlindPost", "texts", "[LBlindPost$Sheet;", true)
  | 2 => ("BlindPost", "land", "LBlindPost$Land;", true)
  | 3 => ("BlindPost", "drawn", "LBlindPost$Land;", true)
  | 4 => ("BlindPost", "kept", "[LBlindPost$Land;", true)
  | 5 => ("BlindPost", "isKept", "[Z", true)
  | 6 => ("BlindPost", "reading", "LBlindPost$Reading;", true)
  | 7 => ("BlindPost", "ways", "LBlindPost$Ways;", true)
  | 8 => ("BlindPost", "pairs", "LBlindPost$Pairs;", true)
  | 9 => ("BlindPost", "timesFound", "[I", true)
  | 10 => ("BlindPost", "lastFound", "I", false)
  | _ => ("BlindPost", "told", "I", false)
def tyX6 : Nat → FieldType := fun k => match k with
  | 0 => .array (.object "BlindPost$Sheet")
  | 1 => .array (.object "BlindPost$Sheet")
  | 2 => .object "BlindPost$Land"
  | 3 => .object "BlindPost$Land"
  | 4 => .array (.object "BlindPost$Land")
  | 5 => .array .boolean
  | 6 => .object "BlindPost$Reading"
  | 7 => .object "BlindPost$Ways"
  | 8 => .object "BlindPost$Pairs"
  | 9 => .array .int
  | 10 => .int
  | _ => .int
abbrev wsX60 : List Cond := u_ws RX6 TX6 12
theorem nmX6 : ∀ a, a < 12 → ∀ b, b < 12 → a ≠ b → (TX6 a).2.1 ≠ (TX6 b).2.1 := by decide +kernel
theorem tyX6_ok : ∀ k, k < 12 → parseFieldDescriptor (TX6 k).2.2.1 = some (tyX6 k) := by decide +kernel
def RX7 : String := "BlindPostModel"
def TX7 : u_T := fun k => match k with
  | 0 => ("BlindPostModel", "finding", "I", false)
  | 1 => ("BlindPostModel", "findings", "[I", true)
  | 2 => ("BlindPostModel", "asked", "I", false)
  | 3 => ("BlindPostModel", "sizes", "[I", true)
  | 4 => ("BlindPostModel", "rows", "[I", true)
  | 5 => ("BlindPostModel", "moving", "[I", true)
  | 6 => ("BlindPostModel", "lengths", "[I", true)
  | 7 => ("BlindPostModel", "texts", "[I", true)
  | 8 => ("BlindPostModel", "many", "I", false)
  | 9 => ("BlindPostModel", "kinds", "[I", true)
  | 10 => ("BlindPostModel", "known", "[I", true)
  | 11 => ("BlindPostModel", "meetMany", "I", false)
  | 12 => ("BlindPostModel", "meetings", "[I", true)
  | 13 => ("BlindPostModel", "hour", "I", false)
  | 14 => ("BlindPostModel", "letterMany", "I", false)
  | 15 => ("BlindPostModel", "letters", "[I", true)
  | 16 => ("BlindPostModel", "readAt", "I", false)
  | 17 => ("BlindPostModel", "readMany", "I", false)
  | 18 => ("BlindPostModel", "readMeets", "I", false)
  | 19 => ("BlindPostModel", "readKinds", "[I", true)
  | 20 => ("BlindPostModel", "readKnown", "[I", true)
  | 21 => ("BlindPostModel", "readMeetings", "[I", true)
  | 22 => ("BlindPostModel", "kept", "[I", true)
  | 23 => ("BlindPostModel", "way", "[I", true)
  | 24 => ("BlindPostModel", "bestWay", "[I", true)
  | 25 => ("BlindPostModel", "bestMany", "I", false)
  | 26 => ("BlindPostModel", "bestCost", "I", false)
  | 27 => ("BlindPostModel", "wayMany", "I", false)
  | 28 => ("BlindPostModel", "eachSet", "I", false)
  | 29 => ("BlindPostModel", "isWay", "[Z", true)
  | 30 => ("BlindPostModel", "pairMany", "I", false)
  | 31 => ("BlindPostModel", "pairTongues", "[I", true)
  | _ => ("BlindPostModel", "h0", "J", false)
def tyX7 : Nat → FieldType := fun k => match k with
  | 0 => .int
  | 1 => .array .int
  | 2 => .int
  | 3 => .array .int
  | 4 => .array .int
  | 5 => .array .int
  | 6 => .array .int
  | 7 => .array .int
  | 8 => .int
  | 9 => .array .int
  | 10 => .array .int
  | 11 => .int
  | 12 => .array .int
  | 13 => .int
  | 14 => .int
  | 15 => .array .int
  | 16 => .int
  | 17 => .int
  | 18 => .int
  | 19 => .array .int
  | 20 => .array .int
  | 21 => .array .int
  | 22 => .array .int
  | 23 => .array .int
  | 24 => .array .int
  | 25 => .int
  | 26 => .int
  | 27 => .int
  | 28 => .int
  | 29 => .array .boolean
  | 30 => .int
  | 31 => .array .int
  | _ => .long
abbrev wsX70 : List Cond := u_ws RX7 TX7 33
theorem nmX7 : ∀ a, a < 33 → ∀ b, b < 33 → a ≠ b → (TX7 a).2.1 ≠ (TX7 b).2.1 := by decide +kernel
theorem tyX7_ok : ∀ k, k < 33 → parseFieldDescriptor (TX7 k).2.2.1 = some (tyX7 k) := by decide +kernel
def RL : String := "BlindPostLaw"
abbrev vwCl : List vw_C := [(RX0, TX0, 12), (RX1, TX1, 5), (RX2, TX2, 5), (RX3, TX3, 5), (RX4, TX4, 2), (RX5, TX5, 6), (RX6, TX6, 12), (RX7, TX7, 33)]
end
section
/-! THE REFLECTED MACHINE: cells numbered from a base address; one instruction in CPS over abstract locals, stack and heap; answers are Option-valued. -/
/-- a cell with relative references: an array (its component type, length, contents) or an object (its class's number, fields) -/
abbrev GC : Type := (FieldType × vp_A) ⊕ (Nat × List Value)
def cv (B : Nat) : Value → Value
  | .ref a => .ref (B + a)
  | .int x => .int x
  | .long x => .long x
  | .float x => .float x
  | .double x => .double x
  | .null => .null
  | .retAddr x => .retAddr x
abbrev Res (Hp : Type) : Type := Option (Option Value × Hp)
/-- the heap's own operations -/
abbrev Ops (Hp : Type) : Type :=
  (Hp → Nat → Nat → Nat → (Int32 → Res Hp) → Res Hp) ×
  (Hp → Nat → Nat → Nat → (Nat → Res Hp) → Res Hp) ×
  (Hp → Nat → Nat → Nat → (Int64 → Res Hp) → Res Hp) ×
  (Hp → Nat → Nat → Nat → Int32 → (Hp → Res Hp) → Res Hp) ×
  (Hp → Nat → Nat → Nat → Int64 → (Hp → Res Hp) → Res Hp) ×
  (Hp → Nat → Nat → Nat → Nat → (Hp → Res Hp) → Res Hp) ×
  (Hp → Nat → (Nat → Res Hp) → Res Hp) ×
  (Hp → Nat → Int32 → (Int32 → Res Hp) → Res Hp) ×
  (Hp → Nat → Int32 → (Int32 → Res Hp) → Res Hp) ×
  (Hp → Nat → Int32 → (Nat → Res Hp) → Res Hp) ×
  (Hp → Nat → Int32 → Int32 → (Hp → Res Hp) → Res Hp) ×
  (Hp → Nat → Int32 → Int32 → (Hp → Res Hp) → Res Hp) ×
  (Hp → Nat → Int32 → Nat → (Hp → Res Hp) → Res Hp) ×
  (Hp → Nat → Int32 → Nat → Int32 → Int32 → (Hp → Res Hp) → Res Hp)
section OPS
variable {Hp : Type}
abbrev oGI (O : Ops Hp) := O.1
abbrev oGR (O : Ops Hp) := O.2.1
abbrev oGL (O : Ops Hp) := O.2.2.1
abbrev oPI (O : Ops Hp) := O.2.2.2.1
abbrev oPL (O : Ops Hp) := O.2.2.2.2.1
abbrev oPR (O : Ops Hp) := O.2.2.2.2.2.1
abbrev oLN (O : Ops Hp) := O.2.2.2.2.2.2.1
abbrev oAI (O : Ops Hp) := O.2.2.2.2.2.2.2.1
abbrev oAZ (O : Ops Hp) := O.2.2.2.2.2.2.2.2.1
abbrev oAR (O : Ops Hp) := O.2.2.2.2.2.2.2.2.2.1
abbrev oSI (O : Ops Hp) := O.2.2.2.2.2.2.2.2.2.2.1
abbrev oSZ (O : Ops Hp) := O.2.2.2.2.2.2.2.2.2.2.2.1
abbrev oSR (O : Ops Hp) := O.2.2.2.2.2.2.2.2.2.2.2.2.1
abbrev oCP (O : Ops Hp) := O.2.2.2.2.2.2.2.2.2.2.2.2.2
end OPS
/-- abstract locals: what is known at each place -/
abbrev Loca : Type := List (Option Value)
def lget : Loca → Nat → Option Value
  | [], _ => none
  | a :: _, 0 => a
  | _ :: t, i + 1 => lget t i
def lset : Loca → Nat → Option Value → Loca
  | [], _, _ => []
  | _ :: t, 0, v => v :: t
  | a :: t, i + 1, v => a :: lset t i v
/-- the place ahead holds no long: then a store here leaves it alone -/
def lfree : Loca → Nat → Bool
  | _, 0 => true
  | L, i + 1 => match lget L i with
    | some (.long _) => false
    | some (.double _) => false
    | _ => true
def lsto1 (L : Loca) (i : Nat) (v : Value) : Loca := lset L i (some v)
def lsto2 (L : Loca) (i : Nat) (v : Value) : Loca := lset (lset L (i + 1) none) i (some v)
/-- place, instruction, length, targets or numbers of what is linked, a constant -/
abbrev Ent : Type := Nat × Instr × Nat × List Nat × Value
def fetch : List Ent → Nat → Option (Instr × Nat × List Nat × Value)
  | [], _ => none
  | e :: t, pc => match Nat.beq e.1 pc with
    | true => some e.2
    | false => fetch t pc
/-- a gate that no reduction opens: what stands behind it is named, not computed -/
theorem blk_ex : ∃ b : Bool, b = true := ⟨true, rfl⟩
noncomputable def blk : Bool := Classical.choose blk_ex
theorem blk_t : blk = true := Classical.choose_spec blk_ex
noncomputable section
def gt {ρ : Type} (x : Option ρ) : Option ρ := match blk with
  | true => x
  | false => none
theorem gt_t {ρ : Type} (x : Option ρ) : gt x = x := by unfold gt; rw [blk_t]
/-- a call's answer, by its kind -/
def bI {Hp ρ : Type} (r : Res Hp) (k : Int32 → Hp → Option ρ) : Option ρ := match blk, r with
  | true, some (some (.int v), h) => k v h
  | _, _ => none
def bL {Hp ρ : Type} (r : Res Hp) (k : Int64 → Hp → Option ρ) : Option ρ := match blk, r with
  | true, some (some (.long v), h) => k v h
  | _, _ => none
def bV {Hp ρ : Type} (r : Res Hp) (k : Hp → Option ρ) : Option ρ := match blk, r with
  | true, some (none, h) => k h
  | _, _ => none
/-- a new heap gets a name -/
def bH {Hp ρ : Type} (x : Hp) (k : Hp → Option ρ) : Option ρ := match blk with
  | true => k x
  | false => none
theorem bI_some {Hp ρ : Type} (v : Int32) (h : Hp) (k : Int32 → Hp → Option ρ) : bI (some (some (.int v), h)) k = k v h := by unfold bI; rw [blk_t]
theorem bL_some {Hp ρ : Type} (v : Int64) (h : Hp) (k : Int64 → Hp → Option ρ) : bL (some (some (.long v), h)) k = k v h := by unfold bL; rw [blk_t]
theorem bV_some {Hp ρ : Type} (h : Hp) (k : Hp → Option ρ) : bV (some (none, h)) k = k h := by unfold bV; rw [blk_t]
theorem bH_t {Hp ρ : Type} (x : Hp) (k : Hp → Option ρ) : bH x k = k x := by unfold bH; rw [blk_t]
theorem bI_inv {Hp ρ : Type} {r : Res Hp} {k : Int32 → Hp → Option ρ} {z : ρ} (e : bI r k = some z) : ∃ v h, r = some (some (.int v), h) ∧ k v h = some z := by
  unfold bI at e
  split at e
  · exact ⟨_, _, rfl, e⟩
  · cases e
theorem bL_inv {Hp ρ : Type} {r : Res Hp} {k : Int64 → Hp → Option ρ} {z : ρ} (e : bL r k = some z) : ∃ v h, r = some (some (.long v), h) ∧ k v h = some z := by
  unfold bL at e
  split at e
  · exact ⟨_, _, rfl, e⟩
  · cases e
theorem bV_inv {Hp ρ : Type} {r : Res Hp} {k : Hp → Option ρ} {z : ρ} (e : bV r k = some z) : ∃ h, r = some (none, h) ∧ k h = some z := by
  unfold bV at e
  split at e
  · exact ⟨_, rfl, e⟩
  · cases e
def retI {Hp : Type} (v : Int32) (h : Hp) : Res Hp := some (some (.int v), h)
def retL {Hp : Type} (v : Int64) (h : Hp) : Res Hp := some (some (.long v), h)
def retV {Hp : Type} (h : Hp) : Res Hp := some (none, h)
def retZ {Hp : Type} (v : Int32) (h : Hp) : Res Hp := if v = 0 then some (some (.int 0), h) else if v = 1 then some (some (.int 1), h) else none
/-- the arguments of a call: the top n of the stack, the first one lowest -/
def topn : Nat → List Value → List Value → Option (List Value × List Value)
  | 0, acc, st => some (acc, st)
  | n + 1, acc, v :: st => topn n (v :: acc) st
  | _ + 1, _, [] => none
def cats : List Value → Nat
  | [] => 0
  | v :: t => v.category + cats t
def fewc (st : List Value) : Bool := Nat.ble (cats st) 8
/-- a switch: pairs of key and target, the rest -/
def swc {Hp : Type} (x : Int32) : List Nat → Nat → (Nat → Res Hp) → Res Hp
  | k :: t :: r, d, κ => if x = Int32.ofNat k then κ t else swc x r d κ
  | _, d, κ => κ d
section STEP
variable {Hp : Type}
abbrev Kt (Hp : Type) : Type := Nat → Loca → List Value → Hp → Res Hp
def ldI (L : Loca) (i : Nat) (κ : Int32 → Res Hp) : Res Hp := match lget L i with
  | some (.int x) => κ x
  | _ => none
def ldL (L : Loca) (i : Nat) (κ : Int64 → Res Hp) : Res Hp := match lget L i with
  | some (.long x) => κ x
  | _ => none
def ldA (L : Loca) (i : Nat) (κ : Nat → Res Hp) : Res Hp := match lget L i with
  | some (.ref x) => κ x
  | _ => none
def on1 (L : Loca) (i : Nat) (v : Value) (κ : Loca → Res Hp) : Res Hp := match lfree L i && Nat.ble (i + 1) L.length with
  | true => κ (lsto1 L i v)
  | false => none
def on2 (L : Loca) (i : Nat) (v : Value) (κ : Loca → Res Hp) : Res Hp := match lfree L i && Nat.ble (i + 2) L.length with
  | true => κ (lsto2 L i v)
  | false => none
def stIf (c : ClassFile.Cond) (x y : Int32) (a b : Res Hp) : Res Hp := match c with
  | .eq => if x = y then a else b
  | .ne => if x = y then b else a
  | .lt => if x < y then a else b
  | .ge => if y ≤ x then a else b
  | .gt => if y < x then a else b
  | .le => if x ≤ y then a else b
def un1 (st : List Value) (κ : Int32 → List Value → Res Hp) : Res Hp := match st with
  | .int x :: r => κ x r
  | _ => none
def un2 (st : List Value) (κ : Int32 → Int32 → List Value → Res Hp) : Res Hp := match st with
  | .int y :: .int x :: r => κ x y r
  | _ => none
def ul1 (st : List Value) (κ : Int64 → List Value → Res Hp) : Res Hp := match st with
  | .long x :: r => κ x r
  | _ => none
def ul2 (st : List Value) (κ : Int64 → Int64 → List Value → Res Hp) : Res Hp := match st with
  | .long y :: .long x :: r => κ x y r
  | _ => none
def ua1 (st : List Value) (κ : Nat → List Value → Res Hp) : Res Hp := match st with
  | .ref x :: r => κ x r
  | _ => none
/-- one instruction that makes no cell and calls nothing; rk: what kind the method returns (0 void, 1 int, 2 boolean, 3 long) -/
def step (O : Ops Hp) (rk : Nat) (i : Instr) (aux : List Nat) (val : Value) (pc : Nat) (L : Loca) (st : List Value) (h : Hp) (k : Kt Hp) : Res Hp := match i with
  | .iconst _ => k (pc + 1) L (val :: st) h
  | .bipush _ => k (pc + 2) L (val :: st) h
  | .sipush _ => k (pc + 3) L (val :: st) h
  | .lconst _ => k (pc + 1) L (val :: st) h
  | .ldc _ => k (pc + 2) L (val :: st) h
  | .ldc_w _ => k (pc + 3) L (val :: st) h
  | .ldc2_w _ => k (pc + 3) L (val :: st) h
  | .iload_n j => ldI L j.val fun x => k (pc + 1) L (.int x :: st) h
  | .iload j => ldI L j fun x => k (pc + 2) L (.int x :: st) h
  | .lload_n j => ldL L j.val fun x => k (pc + 1) L (.long x :: st) h
  | .lload j => ldL L j fun x => k (pc + 2) L (.long x :: st) h
  | .aload_n j => ldA L j.val fun x => k (pc + 1) L (.ref x :: st) h
  | .aload j => ldA L j fun x => k (pc + 2) L (.ref x :: st) h
  | .istore_n j => un1 st fun x r => on1 L j.val (.int x) fun L' => k (pc + 1) L' r h
  | .istore j => un1 st fun x r => on1 L j (.int x) fun L' => k (pc + 2) L' r h
  | .lstore_n j => ul1 st fun x r => on2 L j.val (.long x) fun L' => k (pc + 1) L' r h
  | .lstore j => ul1 st fun x r => on2 L j (.long x) fun L' => k (pc + 2) L' r h
  | .astore_n j => ua1 st fun x r => on1 L j.val (.ref x) fun L' => k (pc + 1) L' r h
  | .astore j => ua1 st fun x r => on1 L j (.ref x) fun L' => k (pc + 2) L' r h
  | .iinc j _ => ldI L j fun x => match val with
    | .int v => on1 L j (.int (x + v)) fun L' => k (pc + 3) L' st h
    | _ => none
  | .iadd => un2 st fun x y r => k (pc + 1) L (.int (x + y) :: r) h
  | .isub => un2 st fun x y r => k (pc + 1) L (.int (x - y) :: r) h
  | .imul => un2 st fun x y r => k (pc + 1) L (.int (x * y) :: r) h
  | .iand => un2 st fun x y r => k (pc + 1) L (.int (x &&& y) :: r) h
  | .ior => un2 st fun x y r => k (pc + 1) L (.int (x ||| y) :: r) h
  | .ixor => un2 st fun x y r => k (pc + 1) L (.int (x ^^^ y) :: r) h
  | .ishl => un2 st fun x y r => k (pc + 1) L (.int (x <<< (y &&& 31)) :: r) h
  | .ishr => un2 st fun x y r => k (pc + 1) L (.int (x >>> (y &&& 31)) :: r) h
  | .iushr => un2 st fun x y r => k (pc + 1) L (.int (x.toUInt32 >>> (y.toUInt32 &&& Int32.toUInt32 31)).toInt32 :: r) h
  | .idiv => un2 st fun x y r => if y = 0 then none else k (pc + 1) L (.int (x / y) :: r) h
  | .irem => un2 st fun x y r => if y = 0 then none else k (pc + 1) L (.int (x - x / y * y) :: r) h
  | .ladd => ul2 st fun x y r => k (pc + 1) L (.long (x + y) :: r) h
  | .lsub => ul2 st fun x y r => k (pc + 1) L (.long (x - y) :: r) h
  | .lmul => ul2 st fun x y r => k (pc + 1) L (.long (x * y) :: r) h
  | .ldiv => ul2 st fun x y r => if y = 0 then none else k (pc + 1) L (.long (x / y) :: r) h
  | .lrem => ul2 st fun x y r => if y = 0 then none else k (pc + 1) L (.long (x - x / y * y) :: r) h
  | .lcmp => ul2 st fun x y r => k (pc + 1) L (.int (lg_cmp x y) :: r) h
  | .i2l => un1 st fun x r => k (pc + 1) L (.long x.toInt64 :: r) h
  | .l2i => ul1 st fun x r => k (pc + 1) L (.int x.toInt32 :: r) h
  | .i2b => un1 st fun x r => k (pc + 1) L (.int x.toInt8.toInt32 :: r) h
  | .dup => match st with
    | .int x :: r => k (pc + 1) L (.int x :: .int x :: r) h
    | .ref x :: r => k (pc + 1) L (.ref x :: .ref x :: r) h
    | _ => none
  | .dup2 => match st with
    | .int y :: .ref x :: r => k (pc + 1) L (.int y :: .ref x :: .int y :: .ref x :: r) h
    | _ => none
  | .pop => match st with
    | .int _ :: r => k (pc + 1) L r h
    | _ => none
  | .goto _ => match aux with
    | t :: _ => k t L st h
    | [] => none
  | .ifCond c _ => match aux with
    | t :: _ => un1 st fun x r => stIf c x 0 (k t L r h) (k (pc + 3) L r h)
    | [] => none
  | .if_icmp c _ => match aux with
    | t :: _ => un2 st fun x y r => stIf c x y (k t L r h) (k (pc + 3) L r h)
    | [] => none
  | .tableswitch _ _ _ _ => match aux with
    | d :: ps => un1 st fun x r => swc x ps d fun t => k t L r h
    | [] => none
  | .lookupswitch _ _ => match aux with
    | d :: ps => un1 st fun x r => swc x ps d fun t => k t L r h
    | [] => none
  | .getfield _ => match aux with
    | [ci, f, 0] => ua1 st fun a r => oGI O h a ci f fun v => k (pc + 3) L (.int v :: r) h
    | [ci, f, 1] => ua1 st fun a r => oGR O h a ci f fun v => k (pc + 3) L (.ref v :: r) h
    | [ci, f, 2] => ua1 st fun a r => oGL O h a ci f fun v => k (pc + 3) L (.long v :: r) h
    | _ => none
  | .putfield _ => match aux with
    | [ci, f, 0] => un1 st fun v r => ua1 r fun a r => oPI O h a ci f v fun h' => k (pc + 3) L r h'
    | [ci, f, 1] => ua1 st fun v r => ua1 r fun a r => oPR O h a ci f v fun h' => k (pc + 3) L r h'
    | [ci, f, 2] => ul1 st fun v r => ua1 r fun a r => oPL O h a ci f v fun h' => k (pc + 3) L r h'
    | _ => none
  | .arraylength => ua1 st fun a r => oLN O h a fun n => k (pc + 1) L (.int (Int32.ofNat n) :: r) h
  | .iaload => un1 st fun i r => ua1 r fun a r => oAI O h a i fun v => k (pc + 1) L (.int v :: r) h
  | .baload => un1 st fun i r => ua1 r fun a r => oAZ O h a i fun v => k (pc + 1) L (.int v :: r) h
  | .aaload => un1 st fun i r => ua1 r fun a r => oAR O h a i fun v => k (pc + 1) L (.ref v :: r) h
  | .iastore => un2 st fun i v r => ua1 r fun a r => oSI O h a i v fun h' => k (pc + 1) L r h'
  | .bastore => un2 st fun i v r => ua1 r fun a r => oSZ O h a i v fun h' => k (pc + 1) L r h'
  | .aastore => ua1 st fun v r => un1 r fun i r => ua1 r fun a r => oSR O h a i v fun h' => k (pc + 1) L r h'
  | .ireturn => match st with
    | [.int v] => match rk with
      | 1 => retI v h
      | 2 => retZ v h
      | _ => none
    | _ => none
  | .lreturn => match st with
    | [.long v] => match rk with
      | 3 => retL v h
      | _ => none
    | _ => none
  | .return_ => match st with
    | [] => match rk with
      | 0 => retV h
      | _ => none
    | _ => none
  | _ => none
abbrev Sem (Hp : Type) : Type := List (Nat × (List Value → Hp → Res Hp))
def semOf : Sem Hp → Nat → List Value → Hp → Res Hp
  | [], _ => fun _ _ => none
  | e :: t, mi => match Nat.beq e.1 mi with
    | true => e.2
    | false => semOf t mi
/-- a call: aux = the method's number, how many values it takes, what kind it returns -/
def callF (S : Sem Hp) (aux : List Nat) (pc : Nat) (L : Loca) (st : List Value) (h : Hp) (k : Kt Hp) : Res Hp := match aux with
  | [mi, n, rk] => match topn n [] st with
    | none => none
    | some (as, r) => match fewc r with
     | false => none
     | true => match rk with
      | 0 => bV (semOf S mi as h) fun h' => k (pc + 3) L r h'
      | 3 => bL (semOf S mi as h) fun v h' => k (pc + 3) L (.long v :: r) h'
      | _ => bI (semOf S mi as h) fun v h' => k (pc + 3) L (.int v :: r) h'
  | _ => none
/-- System.arraycopy over ints -/
def copyF (O : Ops Hp) (pc : Nat) (L : Loca) (st : List Value) (h : Hp) (k : Kt Hp) : Res Hp := match st with
  | .int n :: .int j :: .ref b :: .int i :: .ref a :: r => match fewc r with
    | true => oCP O h a i b j n fun h' => k (pc + 3) L r h'
    | false => none
  | _ => none
/-- the instructions of a method that makes no cell -/
def exec1 (O : Ops Hp) (S : Sem Hp) (rk : Nat) (code : List Ent) (pc : Nat) (L : Loca) (st : List Value) (h : Hp) (k : Kt Hp) : Res Hp := match fetch code pc with
  | none => none
  | some (i, _, aux, val) => match i with
    | .invokevirtual _ => callF S aux pc L st h k
    | .invokestatic _ => match aux with
      | [] => copyF O pc L st h k
      | _ => callF S aux pc L st h k
    | _ => step O rk i aux val pc L st h k
abbrev Stop (Hp : Type) : Type := List (Nat × List Nat × (List Value → List Value → Hp → Res Hp))
def pickL (L : Loca) : List Nat → Option (List Value)
  | [] => some []
  | i :: is => match lget L i with
    | none => none
    | some v => match pickL L is with
      | none => none
      | some vs => some (v :: vs)
def stopOf : Stop Hp → Nat → Option (List Nat × (List Value → List Value → Hp → Res Hp))
  | [], _ => none
  | e :: t, pc => match Nat.beq e.1 pc with
    | true => some e.2
    | false => stopOf t pc
def runF (O : Ops Hp) (S : Sem Hp) (Z : Stop Hp) (rk : Nat) (code : List Ent) (n : Nat) : Kt Hp :=
  Nat.rec (fun _ _ _ _ => none) (fun _ ih pc L st h => match stopOf Z pc with
    | some z => match pickL L z.1 with
      | some vs => z.2 vs st h
      | none => none
    | none => exec1 O S rk code pc L st h ih) n
end STEP
/-- a loop in CPS -/
def loopC {S ρ : Type} (b : S → (S → Option ρ) → Option ρ) (n : Nat) : S → Option ρ :=
  Nat.rec (fun _ => none) (fun _ ih s => b s ih) n
end
end
section
/-! the static shape of the heap behind both constructors: (code, length, references); codes 0 .. 7 objects of the classes, 100 int[], 101 boolean[], 102 Sheet[], 103 Land[], 104 Letter[], 105 int[][] -/
abbrev ShE : Type := Nat × Nat × List Nat
def shT : List ShE := [(6, 12, [1, 2, 3, 32, 61, 62, 63, 64, 68, 70, 0, 0]),
  (102, 6, [71, 73, 75, 77, 79, 81]),
  (102, 4, [83, 85, 87, 89]),
  (0, 12, [4, 5, 6, 7, 8, 9, 18, 19, 0, 0, 0, 0]),
  (100, 7, []),
  (100, 7, []),
  (100, 16, []),
  (100, 16, []),
  (100, 16, []),
  (105, 8, [10, 11, 12, 13, 14, 15, 16, 17]),
  (100, 7, []),
  (100, 7, []),
  (100, 7, []),
  (100, 7, []),
  (100, 7, []),
  (100, 7, []),
  (100, 7, []),
  (100, 7, []),
  (100, 7, []),
  (104, 4, [20, 23, 26, 29]),
  (1, 5, [21, 22, 0, 0, 0]),
  (100, 7, []),
  (100, 7, []),
  (1, 5, [24, 25, 0, 0, 0]),
  (100, 7, []),
  (100, 7, []),
  (1, 5, [27, 28, 0, 0, 0]),
  (100, 7, []),
  (100, 7, []),
  (1, 5, [30, 31, 0, 0, 0]),
  (100, 7, []),
  (100, 7, []),
  (0, 12, [33, 34, 35, 36, 37, 38, 47, 48, 0, 0, 0, 0]),
  (100, 7, []),
  (100, 7, []),
  (100, 16, []),
  (100, 16, []),
  (100, 16, []),
  (105, 8, [39, 40, 41, 42, 43, 44, 45, 46]),
  (100, 7, []),
  (100, 7, []),
  (100, 7, []),
  (100, 7, []),
  (100, 7, []),
  (100, 7, []),
  (100, 7, []),
  (100, 7, []),
  (100, 7, []),
  (104, 4, [49, 52, 55, 58]),
  (1, 5, [50, 51, 0, 0, 0]),
  (100, 7, []),
  (100, 7, []),
  (1, 5, [53, 54, 0, 0, 0]),
  (100, 7, []),
  (100, 7, []),
  (1, 5, [56, 57, 0, 0, 0]),
  (100, 7, []),
  (100, 7, []),
  (1, 5, [59, 60, 0, 0, 0]),
  (100, 7, []),
  (100, 7, []),
  (103, 3, [91, 120, 149]),
  (101, 3, []),
  (3, 5, [32, 0, 0, 0, 0]),
  (5, 6, [3, 65, 66, 0, 67, 0]),
  (100, 7, []),
  (100, 7, []),
  (100, 7, []),
  (2, 5, [3, 64, 69, 0, 0]),
  (100, 5, []),
  (100, 6, []),
  (4, 2, [72, 0]),
  (100, 40, []),
  (4, 2, [74, 0]),
  (100, 40, []),
  (4, 2, [76, 0]),
  (100, 40, []),
  (4, 2, [78, 0]),
  (100, 40, []),
  (4, 2, [80, 0]),
  (100, 40, []),
  (4, 2, [82, 0]),
  (100, 40, []),
  (4, 2, [84, 0]),
  (100, 80, []),
  (4, 2, [86, 0]),
  (100, 80, []),
  (4, 2, [88, 0]),
  (100, 80, []),
  (4, 2, [90, 0]),
  (100, 80, []),
  (0, 12, [92, 93, 94, 95, 96, 97, 106, 107, 0, 0, 0, 0]),
  (100, 7, []),
  (100, 7, []),
  (100, 16, []),
  (100, 16, []),
  (100, 16, []),
  (105, 8, [98, 99, 100, 101, 102, 103, 104, 105]),
  (100, 7, []),
  (100, 7, []),
  (100, 7, []),
  (100, 7, []),
  (100, 7, []),
  (100, 7, []),
  (100, 7, []),
  (100, 7, []),
  (100, 7, []),
  (104, 4, [108, 111, 114, 117]),
  (1, 5, [109, 110, 0, 0, 0]),
  (100, 7, []),
  (100, 7, []),
  (1, 5, [112, 113, 0, 0, 0]),
  (100, 7, []),
  (100, 7, []),
  (1, 5, [115, 116, 0, 0, 0]),
  (100, 7, []),
  (100, 7, []),
  (1, 5, [118, 119, 0, 0, 0]),
  (100, 7, []),
  (100, 7, []),
  (0, 12, [121, 122, 123, 124, 125, 126, 135, 136, 0, 0, 0, 0]),
  (100, 7, []),
  (100, 7, []),
  (100, 16, []),
  (100, 16, []),
  (100, 16, []),
  (105, 8, [127, 128, 129, 130, 131, 132, 133, 134]),
  (100, 7, []),
  (100, 7, []),
  (100, 7, []),
  (100, 7, []),
  (100, 7, []),
  (100, 7, []),
  (100, 7, []),
  (100, 7, []),
  (100, 7, []),
  (104, 4, [137, 140, 143, 146]),
  (1, 5, [138, 139, 0, 0, 0]),
  (100, 7, []),
  (100, 7, []),
  (1, 5, [141, 142, 0, 0, 0]),
  (100, 7, []),
  (100, 7, []),
  (1, 5, [144, 145, 0, 0, 0]),
  (100, 7, []),
  (100, 7, []),
  (1, 5, [147, 148, 0, 0, 0]),
  (100, 7, []),
  (100, 7, []),
  (0, 12, [150, 151, 152, 153, 154, 155, 164, 165, 0, 0, 0, 0]),
  (100, 7, []),
  (100, 7, []),
  (100, 16, []),
  (100, 16, []),
  (100, 16, []),
  (105, 8, [156, 157, 158, 159, 160, 161, 162, 163]),
  (100, 7, []),
  (100, 7, []),
  (100, 7, []),
  (100, 7, []),
  (100, 7, []),
  (100, 7, []),
  (100, 7, []),
  (100, 7, []),
  (100, 7, []),
  (104, 4, [166, 169, 172, 175]),
  (1, 5, [167, 168, 0, 0, 0]),
  (100, 7, []),
  (100, 7, []),
  (1, 5, [170, 171, 0, 0, 0]),
  (100, 7, []),
  (100, 7, []),
  (1, 5, [173, 174, 0, 0, 0]),
  (100, 7, []),
  (100, 7, []),
  (1, 5, [176, 177, 0, 0, 0]),
  (100, 7, []),
  (100, 7, []),
  (7, 33, [0, 179, 0, 180, 181, 182, 183, 184, 0, 185, 186, 0, 187, 0, 0, 188, 0, 0, 0, 189, 190, 191, 192, 193, 194, 0, 0, 0, 0, 195, 0, 196, 0]),
  (100, 6, []),
  (100, 6, []),
  (100, 240, []),
  (100, 40, []),
  (100, 4, []),
  (100, 320, []),
  (100, 7, []),
  (100, 7, []),
  (100, 48, []),
  (100, 68, []),
  (100, 7, []),
  (100, 7, []),
  (100, 48, []),
  (100, 420, []),
  (100, 7, []),
  (100, 7, []),
  (101, 128, []),
  (100, 49, [])]
def fkT : List (List Nat) := [[1, 1, 1, 1, 1, 1, 1, 1, 0, 0, 0, 0], [1, 1, 0, 0, 0], [1, 1, 1, 0, 0], [1, 0, 0, 0, 0], [1, 0], [1, 1, 1, 0, 1, 0], [1, 1, 1, 1, 1, 1, 1, 1, 1, 1, 0, 0], [0, 1, 0, 1, 1, 1, 1, 1, 0, 1, 1, 0, 1, 0, 0, 1, 0, 0, 0, 1, 1, 1, 1, 1, 1, 0, 0, 0, 0, 1, 0, 1, 2]]
/-- by recursion on the number, so that an unknown number stops at once -/
def drp {α : Type} (l : List α) (n : Nat) : List α := Nat.rec l (fun _ ih => ih.tail) n
def shAt (l : List ShE) (n : Nat) : ShE := match drp l n with
  | [] => (999, 0, [])
  | e :: _ => e
def nthN (l : List Nat) (n : Nat) : Nat := match drp l n with
  | [] => 0
  | e :: _ => e
def nthL (l : List (List Nat)) (n : Nat) : List Nat := match drp l n with
  | [] => []
  | e :: _ => e
def nth9 (l : List Nat) (n : Nat) : Nat := match drp l n with
  | [] => 9
  | e :: _ => e
def shC (a : Nat) : Nat := (shAt shT a).1
def shN (a : Nat) : Nat := (shAt shT a).2.1
def shR (a k : Nat) : Nat := nthN (shAt shT a).2.2 k
def fk (ci k : Nat) : Nat := nth9 (nthL fkT ci) k
/-- the heap: ints by cell and place, and the one long (field 32 of the reference's object) -/
abbrev Hp : Type := (Nat → Nat → Int32) × Int64
def hg (h : Hp) (a k : Nat) : Int32 := h.1 a k
def hs (h : Hp) (a k : Nat) (v : Int32) : Hp := (fun b j => if b = a ∧ j = k then v else h.1 b j, h.2)
def hl (h : Hp) : Int64 := h.2
def hsl (h : Hp) (v : Int64) : Hp := (h.1, v)
def hcp (h : Hp) (a : Nat) (i : Int32) (b : Nat) (j n : Int32) : Hp := (fun c x => if c = b then va_cpy (h.1 a) (h.1 b) i.toNatClampNeg j.toNatClampNeg n.toNatClampNeg x else h.1 c x, h.2)
def okF (a ci k kd : Nat) : Bool := Nat.beq (shC a) ci && Nat.beq (fk ci k) kd
def inB (i : Int32) (n : Nat) : Bool := !(decide (i < 0)) && Nat.blt i.toNatClampNeg n
def okA (a code : Nat) (i : Int32) : Bool := Nat.beq (shC a) code && inB i (shN a)
def okR (a : Nat) (i : Int32) : Bool := Nat.ble 102 (shC a) && Nat.ble (shC a) 105 && inB i (shN a)
def okN (a : Nat) : Bool := Nat.ble 100 (shC a) && Nat.ble (shC a) 105
def okC (a : Nat) (i : Int32) (b : Nat) (j n : Int32) : Bool := Nat.beq (shC a) 100 && Nat.beq (shC b) 100 && !(decide (i < 0)) && !(decide (j < 0)) && !(decide (n < 0)) && Nat.ble (i.toNatClampNeg + n.toNatClampNeg) (shN a) && Nat.ble (j.toNatClampNeg + n.toNatClampNeg) (shN b)
noncomputable def OI : Ops Hp :=
  (fun h a ci k κ => bif okF a ci k 0 then κ (hg h a k) else none,
   fun _ a ci k κ => bif okF a ci k 1 then κ (shR a k) else none,
   fun h a ci k κ => bif okF a ci k 2 then κ (hl h) else none,
   fun h a ci k v κ => bif okF a ci k 0 then bH (hs h a k v) κ else none,
   fun h a ci k v κ => bif okF a ci k 2 then bH (hsl h v) κ else none,
   fun _ _ _ _ _ _ => none,
   fun _ a κ => bif okN a then κ (shN a) else none,
   fun h a i κ => bif okA a 100 i then κ (hg h a i.toNatClampNeg) else none,
   fun h a i κ => bif okA a 101 i then κ (hg h a i.toNatClampNeg) else none,
   fun _ a i κ => bif okR a i then κ (shR a i.toNatClampNeg) else none,
   fun h a i v κ => bif okA a 100 i then bH (hs h a i.toNatClampNeg v) κ else none,
   fun h a i v κ => bif okA a 101 i then bH (hs h a i.toNatClampNeg (vp_nar .boolean v)) κ else none,
   fun _ _ _ _ _ => none,
   fun h a i b j n κ => bif okC a i b j n then bH (hcp h a i b j n) κ else none)
def FU : Nat := 4096
theorem x_ite {α : Type} {c : Prop} [Decidable c] {a b a' b' : α} (h1 : a = a') (h2 : b = b') : (if c then a else b) = (if c then a' else b') := by rw [h1, h2]
theorem x_if0 {ρ : Type} {c : Prop} [Decidable c] {b b' : Option ρ} (h2 : b = b') : (if c then none else b) = (if c then none else b') := by rw [h2]
theorem x_bif {ρ : Type} {c : Bool} {a a' : Option ρ} (h1 : a = a') : (bif c then a else none) = (bif c then a' else none) := by rw [h1]
theorem x_bH {ρ : Type} {x : Hp} {k k' : Hp → Option ρ} (h1 : ∀ h, k h = k' h) : bH x k = bH x k' := by rw [show k = k' from funext fun h => h1 h]
theorem x_bI {ρ : Type} {S : Sem Hp} {mi : Nat} {f : List Value → Hp → Res Hp} {as : List Value} {h0 : Hp} {r : Res Hp} {k k' : Int32 → Hp → Option ρ} (hS : semOf S mi = f) (hf : f as h0 = r) (h1 : ∀ v h, k v h = k' v h) : bI r k = bI (semOf S mi as h0) k' := by rw [hS, hf, show k = k' from funext fun v => funext fun h => h1 v h]
theorem x_bL {ρ : Type} {S : Sem Hp} {mi : Nat} {f : List Value → Hp → Res Hp} {as : List Value} {h0 : Hp} {r : Res Hp} {k k' : Int64 → Hp → Option ρ} (hS : semOf S mi = f) (hf : f as h0 = r) (h1 : ∀ v h, k v h = k' v h) : bL r k = bL (semOf S mi as h0) k' := by rw [hS, hf, show k = k' from funext fun v => funext fun h => h1 v h]
theorem x_bV {ρ : Type} {S : Sem Hp} {mi : Nat} {f : List Value → Hp → Res Hp} {as : List Value} {h0 : Hp} {r : Res Hp} {k k' : Hp → Option ρ} (hS : semOf S mi = f) (hf : f as h0 = r) (h1 : ∀ h, k h = k' h) : bV r k = bV (semOf S mi as h0) k' := by rw [hS, hf, show k = k' from funext fun h => h1 h]
end
section
noncomputable section
def k_Bp_noRow : List Ent := [(0, .iload_n 0, 1, [], .null), (1, .ifCond .lt (9), 3, [10], .null), (4, .iload_n 0, 1, [], .null), (5, .bipush (6), 2, [], .int (6)), (7, .if_icmp .lt (7), 3, [14], .null), (10, .iconst 1, 1, [], .int (1)), (11, .goto (4), 3, [15], .null), (14, .iconst 0, 1, [], .int (0)), (15, .ireturn, 1, [], .null)]
def F_Bp_noRow (x0 : Int32) (h : Hp) : Res Hp :=
  if x0 < (0 : Int32) then
  (retZ (1 : Int32) h)
  else
  (if x0 < (6 : Int32) then
  (retZ (0 : Int32) h)
  else
  (retZ (1 : Int32) h))
def sF_Bp_noRow : List Value → Hp → Res Hp := fun as h => match as with | [.int x0] => F_Bp_noRow x0 h | _ => none
theorem w_Bp_noRow (x0 : Int32) (h : Hp) : sF_Bp_noRow [.int x0] h = F_Bp_noRow x0 h := rfl
def S_Bp_noRow : Sem Hp := []
set_option maxRecDepth 100000 in
theorem e_Bp_noRow_0 (x0 : Int32) (h : Hp) : F_Bp_noRow x0 h = exec1 OI S_Bp_noRow 2 k_Bp_noRow 0 [some (.int x0)] [] h (runF OI S_Bp_noRow [] 2 k_Bp_noRow 400) :=
  (x_ite rfl (x_ite rfl rfl))
def k_Bp_found : List Ent := [(0, .aload_n 0, 1, [], .null), (1, .iload_n 1, 1, [], .null), (2, .putfield 65, 3, [6, 10, 0], .null), (5, .aload_n 0, 1, [], .null), (6, .getfield 61, 3, [6, 9, 1], .null), (9, .iload_n 1, 1, [], .null), (10, .dup2, 1, [], .null), (11, .iaload, 1, [], .null), (12, .iconst 1, 1, [], .int (1)), (13, .iadd, 1, [], .null), (14, .iastore, 1, [], .null), (15, .bipush (-3), 2, [], .int (-3)), (17, .ireturn, 1, [], .null)]
def F_Bp_found (x1 : Int32) (h : Hp) : Res Hp :=
  bH (hs h 0 10 x1) fun h1 =>
  bif okA 70 100 x1 then
  bif okA 70 100 x1 then
  bH (hs h1 70 x1.toNatClampNeg ((hg h1 70 x1.toNatClampNeg) + (1 : Int32))) fun h2 =>
  retI (-3 : Int32) h2
  else none
  else none
def sF_Bp_found : List Value → Hp → Res Hp := fun as h => match as with | [.ref f0, .int x1] => (match Nat.beq f0 0 with | true => F_Bp_found x1 h | false => none) | _ => none
theorem w_Bp_found (x1 : Int32) (h : Hp) : sF_Bp_found [.ref 0, .int x1] h = F_Bp_found x1 h := rfl
def S_Bp_found : Sem Hp := []
set_option maxRecDepth 100000 in
theorem e_Bp_found_0 (x1 : Int32) (h : Hp) : F_Bp_found x1 h = exec1 OI S_Bp_found 1 k_Bp_found 0 [some (.ref 0), some (.int x1)] [] h (runF OI S_Bp_found [] 1 k_Bp_found 400) :=
  (x_bH fun h1 => (x_bif (x_bif (x_bH fun h2 => rfl))))
def k_Jmath_min : List Ent := [(0, .iload_n 0, 1, [], .null), (1, .iload_n 1, 1, [], .null), (2, .if_icmp .gt (7), 3, [9], .null), (5, .iload_n 0, 1, [], .null), (6, .goto (4), 3, [10], .null), (9, .iload_n 1, 1, [], .null), (10, .ireturn, 1, [], .null)]
def F_Jmath_min (x0 : Int32) (x1 : Int32) (h : Hp) : Res Hp :=
  if x1 < x0 then
  (retI x1 h)
  else
  (retI x0 h)
def sF_Jmath_min : List Value → Hp → Res Hp := fun as h => match as with | [.int x0, .int x1] => F_Jmath_min x0 x1 h | _ => none
theorem w_Jmath_min (x0 : Int32) (x1 : Int32) (h : Hp) : sF_Jmath_min [.int x0, .int x1] h = F_Jmath_min x0 x1 h := rfl
def S_Jmath_min : Sem Hp := []
set_option maxRecDepth 100000 in
theorem e_Jmath_min_0 (x0 : Int32) (x1 : Int32) (h : Hp) : F_Jmath_min x0 x1 h = exec1 OI S_Jmath_min 1 k_Jmath_min 0 [some (.int x0), some (.int x1)] [] h (runF OI S_Jmath_min [] 1 k_Jmath_min 400) :=
  (x_ite rfl rfl)
def k_Sh_renew : List Ent := [(0, .aload_n 0, 1, [], .null), (1, .iload_n 1, 1, [], .null), (2, .aload_n 0, 1, [], .null), (3, .getfield 15, 3, [4, 0, 1], .null), (6, .arraylength, 1, [], .null), (7, .invokestatic 23, 3, [252, 2, 1], .null), (10, .putfield 11, 3, [4, 1, 0], .null), (13, .iconst 0, 1, [], .int (0)), (14, .istore_n 3, 1, [], .null), (15, .iload_n 3, 1, [], .null), (16, .aload_n 0, 1, [], .null), (17, .getfield 11, 3, [4, 1, 0], .null), (20, .if_icmp .ge (16), 3, [36], .null), (23, .aload_n 0, 1, [], .null), (24, .getfield 15, 3, [4, 0, 1], .null), (27, .iload_n 3, 1, [], .null), (28, .iload_n 2, 1, [], .null), (29, .iastore, 1, [], .null), (30, .iinc 3 (1), 3, [], .int (1)), (33, .goto (-18), 3, [15], .null), (36, .return_, 1, [], .null)]
def Sh_renew_15  (o0 : Nat) (x2 : Int32)  : (Int32 × Hp) → ((Int32 × Hp) → Res Hp) → Res Hp := fun s κ15 => match s with
  | (x3, h) =>
  bif okF o0 4 1 0 then
  if (hg h o0 1) ≤ x3 then
  (retV h)
  else
  (bif okF o0 4 0 1 then
  bif okA (shR o0 0) 100 x3 then
  bH (hs h (shR o0 0) x3.toNatClampNeg x2) fun h1 =>
  κ15 ((x3 + (1 : Int32)), h1)
  else none
  else none)
  else none
def F_Sh_renew (o0 : Nat) (x1 : Int32) (x2 : Int32) (h : Hp) : Res Hp :=
  bif okF o0 4 0 1 then
  bif okN (shR o0 0) then
  bI (F_Jmath_min x1 (Int32.ofNat (shN (shR o0 0))) h) fun v2 h1 =>
  bif okF o0 4 1 0 then
  bH (hs h1 o0 1 v2) fun h3 =>
  loopC (Sh_renew_15  o0 x2 ) FU ((0 : Int32), h3)
  else none
  else none
  else none
def sF_Sh_renew : List Value → Hp → Res Hp := fun as h => match as with | [.ref o0, .int x1, .int x2] => F_Sh_renew o0 x1 x2 h | _ => none
theorem w_Sh_renew (o0 : Nat) (x1 : Int32) (x2 : Int32) (h : Hp) : sF_Sh_renew [.ref o0, .int x1, .int x2] h = F_Sh_renew o0 x1 x2 h := rfl
def S_Sh_renew : Sem Hp := [(252, sF_Jmath_min)]
set_option maxRecDepth 100000 in
theorem e_Sh_renew_0 (o0 : Nat) (x1 : Int32) (x2 : Int32) (h : Hp) : F_Sh_renew o0 x1 x2 h = exec1 OI S_Sh_renew 0 k_Sh_renew 0 [some (.ref o0), some (.int x1), some (.int x2), none] [] h (runF OI S_Sh_renew [(15, [0, 2, 3], fun vs st h => match vs, st with | [.ref o0, .int x2, .int x3], [] => loopC (Sh_renew_15  o0 x2 ) FU (x3, h) | _, _ => none)] 0 k_Sh_renew 400) :=
  (x_bif (x_bif (x_bI (f := sF_Jmath_min) rfl (w_Jmath_min _ _ _) fun v2 h1 => (x_bif (x_bH fun h3 => rfl)))))
set_option maxRecDepth 100000 in
theorem e_Sh_renew_15 (κ15 : (Int32 × Hp) → Res Hp) (o0 : Nat) (x2 : Int32) (x3 : Int32)  (h : Hp) : Sh_renew_15  o0 x2  (x3, h) κ15 = exec1 OI S_Sh_renew 0 k_Sh_renew 15 [some (.ref o0), none, some (.int x2), some (.int x3)] [] h (runF OI S_Sh_renew [(15, [0, 2, 3], fun vs st h => match vs, st with | [.ref o0, .int x2, .int x3], [] => κ15 (x3, h) | _, _ => none)] 0 k_Sh_renew 400) :=
  (x_bif (x_ite rfl (x_bif (x_bif (x_bH fun h1 => rfl)))))
def k_Bp_row : List Ent := [(0, .iload_n 1, 1, [], .null), (1, .invokestatic 75, 3, [52, 1, 2], .null), (4, .ifCond .ne (9), 3, [13], .null), (7, .iload_n 2, 1, [], .null), (8, .bipush (40), 2, [], .int (40)), (10, .if_icmp .le (5), 3, [15], .null), (13, .iconst (-1), 1, [], .int (-1)), (14, .ireturn, 1, [], .null), (15, .iload_n 2, 1, [], .null), (16, .ifCond .ge (9), 3, [25], .null), (19, .aload_n 0, 1, [], .null), (20, .iconst 5, 1, [], .int (5)), (21, .invokevirtual 79, 3, [50, 2, 1], .null), (24, .ireturn, 1, [], .null), (25, .aload_n 0, 1, [], .null), (26, .getfield 11, 3, [6, 0, 1], .null), (29, .iload_n 1, 1, [], .null), (30, .aaload, 1, [], .null), (31, .iload_n 2, 1, [], .null), (32, .iconst 0, 1, [], .int (0)), (33, .invokevirtual 83, 3, [228, 3, 0], .null), (36, .iload_n 2, 1, [], .null), (37, .ireturn, 1, [], .null)]
def F_Bp_row (x1 : Int32) (x2 : Int32) (h : Hp) : Res Hp :=
  bI (F_Bp_noRow x1 h) fun v2 h1 =>
  if v2 = (0 : Int32) then
  (if x2 ≤ (40 : Int32) then
  (if (0 : Int32) ≤ x2 then
  (bif okR 1 x1 then
  bV (F_Sh_renew (shR 1 x1.toNatClampNeg) x2 (0 : Int32) h1) fun h3 =>
  retI x2 h3
  else none)
  else
  (bI (F_Bp_found (5 : Int32) h1) fun v5 h4 =>
  retI v5 h4))
  else
  (retI (-1 : Int32) h1))
  else
  (retI (-1 : Int32) h1)
def sF_Bp_row : List Value → Hp → Res Hp := fun as h => match as with | [.ref f0, .int x1, .int x2] => (match Nat.beq f0 0 with | true => F_Bp_row x1 x2 h | false => none) | _ => none
theorem w_Bp_row (x1 : Int32) (x2 : Int32) (h : Hp) : sF_Bp_row [.ref 0, .int x1, .int x2] h = F_Bp_row x1 x2 h := rfl
def S_Bp_row : Sem Hp := [(52, sF_Bp_noRow), (228, sF_Sh_renew), (50, sF_Bp_found)]
set_option maxRecDepth 100000 in
theorem e_Bp_row_0 (x1 : Int32) (x2 : Int32) (h : Hp) : F_Bp_row x1 x2 h = exec1 OI S_Bp_row 1 k_Bp_row 0 [some (.ref 0), some (.int x1), some (.int x2)] [] h (runF OI S_Bp_row [] 1 k_Bp_row 400) :=
  (x_bI (f := sF_Bp_noRow) rfl (w_Bp_noRow _ _) fun v2 h1 => (x_ite (x_ite (x_ite (x_bif (x_bV (f := sF_Sh_renew) rfl (w_Sh_renew _ _ _ _) fun h3 => rfl)) (x_bI (f := sF_Bp_found) rfl (w_Bp_found _ _) fun v5 h4 => rfl)) rfl) rfl))
def k_Sh_isThere : List Ent := [(0, .aload_n 0, 1, [], .null), (1, .getfield 11, 3, [4, 1, 0], .null), (4, .iconst (-1), 1, [], .int (-1)), (5, .if_icmp .eq (7), 3, [12], .null), (8, .iconst 1, 1, [], .int (1)), (9, .goto (4), 3, [13], .null), (12, .iconst 0, 1, [], .int (0)), (13, .ireturn, 1, [], .null)]
def F_Sh_isThere (o0 : Nat) (h : Hp) : Res Hp :=
  bif okF o0 4 1 0 then
  if (hg h o0 1) = (-1 : Int32) then
  (retZ (0 : Int32) h)
  else
  (retZ (1 : Int32) h)
  else none
def sF_Sh_isThere : List Value → Hp → Res Hp := fun as h => match as with | [.ref o0] => F_Sh_isThere o0 h | _ => none
theorem w_Sh_isThere (o0 : Nat) (h : Hp) : sF_Sh_isThere [.ref o0] h = F_Sh_isThere o0 h := rfl
def S_Sh_isThere : Sem Hp := []
set_option maxRecDepth 100000 in
theorem e_Sh_isThere_0 (o0 : Nat) (h : Hp) : F_Sh_isThere o0 h = exec1 OI S_Sh_isThere 2 k_Sh_isThere 0 [some (.ref o0)] [] h (runF OI S_Sh_isThere [] 2 k_Sh_isThere 400) :=
  (x_bif (x_ite rfl rfl))
def k_Sh_lackAt : List Ent := [(0, .aload_n 0, 1, [], .null), (1, .invokevirtual 19, 3, [225, 1, 2], .null), (4, .ifCond .ne (5), 3, [9], .null), (7, .iconst 1, 1, [], .int (1)), (8, .ireturn, 1, [], .null), (9, .iload_n 1, 1, [], .null), (10, .ifCond .lt (11), 3, [21], .null), (13, .iload_n 1, 1, [], .null), (14, .aload_n 0, 1, [], .null), (15, .getfield 11, 3, [4, 1, 0], .null), (18, .if_icmp .lt (7), 3, [25], .null), (21, .iconst 2, 1, [], .int (2)), (22, .goto (4), 3, [26], .null), (25, .iconst 0, 1, [], .int (0)), (26, .ireturn, 1, [], .null)]
def F_Sh_lackAt (o0 : Nat) (x1 : Int32) (h : Hp) : Res Hp :=
  bI (F_Sh_isThere o0 h) fun v2 h1 =>
  if v2 = (0 : Int32) then
  (retI (1 : Int32) h1)
  else
  (if x1 < (0 : Int32) then
  (retI (2 : Int32) h1)
  else
  (bif okF o0 4 1 0 then
  if x1 < (hg h1 o0 1) then
  (retI (0 : Int32) h1)
  else
  (retI (2 : Int32) h1)
  else none))
def sF_Sh_lackAt : List Value → Hp → Res Hp := fun as h => match as with | [.ref o0, .int x1] => F_Sh_lackAt o0 x1 h | _ => none
theorem w_Sh_lackAt (o0 : Nat) (x1 : Int32) (h : Hp) : sF_Sh_lackAt [.ref o0, .int x1] h = F_Sh_lackAt o0 x1 h := rfl
def S_Sh_lackAt : Sem Hp := [(225, sF_Sh_isThere)]
set_option maxRecDepth 100000 in
theorem e_Sh_lackAt_0 (o0 : Nat) (x1 : Int32) (h : Hp) : F_Sh_lackAt o0 x1 h = exec1 OI S_Sh_lackAt 1 k_Sh_lackAt 0 [some (.ref o0), some (.int x1)] [] h (runF OI S_Sh_lackAt [] 1 k_Sh_lackAt 400) :=
  (x_bI (f := sF_Sh_isThere) rfl (w_Sh_isThere _ _) fun v2 h1 => (x_ite rfl (x_ite rfl (x_bif (x_ite rfl rfl)))))
def k_Bp_tell : List Ent := [(0, .aload_n 0, 1, [], .null), (1, .iload_n 1, 1, [], .null), (2, .putfield 69, 3, [6, 11, 0], .null), (5, .iconst 1, 1, [], .int (1)), (6, .ireturn, 1, [], .null)]
def F_Bp_tell (x1 : Int32) (h : Hp) : Res Hp :=
  bH (hs h 0 11 x1) fun h1 =>
  retI (1 : Int32) h1
def sF_Bp_tell : List Value → Hp → Res Hp := fun as h => match as with | [.ref f0, .int x1] => (match Nat.beq f0 0 with | true => F_Bp_tell x1 h | false => none) | _ => none
theorem w_Bp_tell (x1 : Int32) (h : Hp) : sF_Bp_tell [.ref 0, .int x1] h = F_Bp_tell x1 h := rfl
def S_Bp_tell : Sem Hp := []
set_option maxRecDepth 100000 in
theorem e_Bp_tell_0 (x1 : Int32) (h : Hp) : F_Bp_tell x1 h = exec1 OI S_Bp_tell 1 k_Bp_tell 0 [some (.ref 0), some (.int x1)] [] h (runF OI S_Bp_tell [] 1 k_Bp_tell 400) :=
  (x_bH fun h1 => rfl)
def k_Bp_lay : List Ent := [(0, .iload_n 1, 1, [], .null), (1, .invokestatic 75, 3, [52, 1, 2], .null), (4, .ifCond .eq (5), 3, [9], .null), (7, .iconst (-1), 1, [], .int (-1)), (8, .ireturn, 1, [], .null), (9, .aload_n 0, 1, [], .null), (10, .getfield 11, 3, [6, 0, 1], .null), (13, .iload_n 1, 1, [], .null), (14, .aaload, 1, [], .null), (15, .iload_n 2, 1, [], .null), (16, .invokevirtual 87, 3, [226, 2, 1], .null), (19, .istore 4, 2, [], .null), (21, .iload 4, 2, [], .null), (23, .ifCond .eq (10), 3, [33], .null), (26, .aload_n 0, 1, [], .null), (27, .iload 4, 2, [], .null), (29, .invokevirtual 79, 3, [50, 2, 1], .null), (32, .ireturn, 1, [], .null), (33, .aload_n 0, 1, [], .null), (34, .getfield 11, 3, [6, 0, 1], .null), (37, .iload_n 1, 1, [], .null), (38, .aaload, 1, [], .null), (39, .getfield 90, 3, [4, 0, 1], .null), (42, .iload_n 2, 1, [], .null), (43, .iaload, 1, [], .null), (44, .istore 5, 2, [], .null), (46, .aload_n 0, 1, [], .null), (47, .getfield 11, 3, [6, 0, 1], .null), (50, .iload_n 1, 1, [], .null), (51, .aaload, 1, [], .null), (52, .getfield 90, 3, [4, 0, 1], .null), (55, .iload_n 2, 1, [], .null), (56, .iload_n 3, 1, [], .null), (57, .iastore, 1, [], .null), (58, .aload_n 0, 1, [], .null), (59, .iload 5, 2, [], .null), (61, .invokevirtual 93, 3, [51, 2, 1], .null), (64, .ireturn, 1, [], .null)]
def F_Bp_lay (x1 : Int32) (x2 : Int32) (x3 : Int32) (h : Hp) : Res Hp :=
  bI (F_Bp_noRow x1 h) fun v2 h1 =>
  if v2 = (0 : Int32) then
  (bif okR 1 x1 then
  bI (F_Sh_lackAt (shR 1 x1.toNatClampNeg) x2 h1) fun v4 h3 =>
  if v4 = (0 : Int32) then
  (bif okR 1 x1 then
  bif okF (shR 1 x1.toNatClampNeg) 4 0 1 then
  bif okA (shR (shR 1 x1.toNatClampNeg) 0) 100 x2 then
  bif okR 1 x1 then
  bif okF (shR 1 x1.toNatClampNeg) 4 0 1 then
  bif okA (shR (shR 1 x1.toNatClampNeg) 0) 100 x2 then
  bH (hs h3 (shR (shR 1 x1.toNatClampNeg) 0) x2.toNatClampNeg x3) fun h5 =>
  bI (F_Bp_tell (hg h3 (shR (shR 1 x1.toNatClampNeg) 0) x2.toNatClampNeg) h5) fun v7 h6 =>
  retI v7 h6
  else none
  else none
  else none
  else none
  else none
  else none)
  else
  (bI (F_Bp_found v4 h3) fun v9 h8 =>
  retI v9 h8)
  else none)
  else
  (retI (-1 : Int32) h1)
def sF_Bp_lay : List Value → Hp → Res Hp := fun as h => match as with | [.ref f0, .int x1, .int x2, .int x3] => (match Nat.beq f0 0 with | true => F_Bp_lay x1 x2 x3 h | false => none) | _ => none
theorem w_Bp_lay (x1 : Int32) (x2 : Int32) (x3 : Int32) (h : Hp) : sF_Bp_lay [.ref 0, .int x1, .int x2, .int x3] h = F_Bp_lay x1 x2 x3 h := rfl
def S_Bp_lay : Sem Hp := [(52, sF_Bp_noRow), (226, sF_Sh_lackAt), (51, sF_Bp_tell), (50, sF_Bp_found)]
set_option maxRecDepth 100000 in
theorem e_Bp_lay_0 (x1 : Int32) (x2 : Int32) (x3 : Int32) (h : Hp) : F_Bp_lay x1 x2 x3 h = exec1 OI S_Bp_lay 1 k_Bp_lay 0 [some (.ref 0), some (.int x1), some (.int x2), some (.int x3), none, none] [] h (runF OI S_Bp_lay [] 1 k_Bp_lay 400) :=
  (x_bI (f := sF_Bp_noRow) rfl (w_Bp_noRow _ _) fun v2 h1 => (x_ite (x_bif (x_bI (f := sF_Sh_lackAt) rfl (w_Sh_lackAt _ _ _) fun v4 h3 => (x_ite (x_bif (x_bif (x_bif (x_bif (x_bif (x_bif (x_bH fun h5 => (x_bI (f := sF_Bp_tell) rfl (w_Bp_tell _ _) fun v7 h6 => rfl)))))))) (x_bI (f := sF_Bp_found) rfl (w_Bp_found _ _) fun v9 h8 => rfl)))) rfl))
def k_Bp_at : List Ent := [(0, .iload_n 1, 1, [], .null), (1, .invokestatic 75, 3, [52, 1, 2], .null), (4, .ifCond .eq (5), 3, [9], .null), (7, .iconst (-1), 1, [], .int (-1)), (8, .ireturn, 1, [], .null), (9, .aload_n 0, 1, [], .null), (10, .getfield 11, 3, [6, 0, 1], .null), (13, .iload_n 1, 1, [], .null), (14, .aaload, 1, [], .null), (15, .iload_n 2, 1, [], .null), (16, .invokevirtual 87, 3, [226, 2, 1], .null), (19, .istore_n 3, 1, [], .null), (20, .iload_n 3, 1, [], .null), (21, .ifCond .eq (9), 3, [30], .null), (24, .aload_n 0, 1, [], .null), (25, .iload_n 3, 1, [], .null), (26, .invokevirtual 79, 3, [50, 2, 1], .null), (29, .ireturn, 1, [], .null), (30, .aload_n 0, 1, [], .null), (31, .aload_n 0, 1, [], .null), (32, .getfield 11, 3, [6, 0, 1], .null), (35, .iload_n 1, 1, [], .null), (36, .aaload, 1, [], .null), (37, .getfield 90, 3, [4, 0, 1], .null), (40, .iload_n 2, 1, [], .null), (41, .iaload, 1, [], .null), (42, .invokevirtual 93, 3, [51, 2, 1], .null), (45, .ireturn, 1, [], .null)]
def F_Bp_at (x1 : Int32) (x2 : Int32) (h : Hp) : Res Hp :=
  bI (F_Bp_noRow x1 h) fun v2 h1 =>
  if v2 = (0 : Int32) then
  (bif okR 1 x1 then
  bI (F_Sh_lackAt (shR 1 x1.toNatClampNeg) x2 h1) fun v4 h3 =>
  if v4 = (0 : Int32) then
  (bif okR 1 x1 then
  bif okF (shR 1 x1.toNatClampNeg) 4 0 1 then
  bif okA (shR (shR 1 x1.toNatClampNeg) 0) 100 x2 then
  bI (F_Bp_tell (hg h3 (shR (shR 1 x1.toNatClampNeg) 0) x2.toNatClampNeg) h3) fun v6 h5 =>
  retI v6 h5
  else none
  else none
  else none)
  else
  (bI (F_Bp_found v4 h3) fun v8 h7 =>
  retI v8 h7)
  else none)
  else
  (retI (-1 : Int32) h1)
def sF_Bp_at : List Value → Hp → Res Hp := fun as h => match as with | [.ref f0, .int x1, .int x2] => (match Nat.beq f0 0 with | true => F_Bp_at x1 x2 h | false => none) | _ => none
theorem w_Bp_at (x1 : Int32) (x2 : Int32) (h : Hp) : sF_Bp_at [.ref 0, .int x1, .int x2] h = F_Bp_at x1 x2 h := rfl
def S_Bp_at : Sem Hp := [(52, sF_Bp_noRow), (226, sF_Sh_lackAt), (51, sF_Bp_tell), (50, sF_Bp_found)]
set_option maxRecDepth 100000 in
theorem e_Bp_at_0 (x1 : Int32) (x2 : Int32) (h : Hp) : F_Bp_at x1 x2 h = exec1 OI S_Bp_at 1 k_Bp_at 0 [some (.ref 0), some (.int x1), some (.int x2), none] [] h (runF OI S_Bp_at [] 1 k_Bp_at 400) :=
  (x_bI (f := sF_Bp_noRow) rfl (w_Bp_noRow _ _) fun v2 h1 => (x_ite (x_bif (x_bI (f := sF_Sh_lackAt) rfl (w_Sh_lackAt _ _ _) fun v4 h3 => (x_ite (x_bif (x_bif (x_bif (x_bI (f := sF_Bp_tell) rfl (w_Bp_tell _ _) fun v6 h5 => rfl)))) (x_bI (f := sF_Bp_found) rfl (w_Bp_found _ _) fun v8 h7 => rfl)))) rfl))
def k_Bp_tear : List Ent := [(0, .iload_n 1, 1, [], .null), (1, .invokestatic 75, 3, [52, 1, 2], .null), (4, .ifCond .eq (5), 3, [9], .null), (7, .iconst (-1), 1, [], .int (-1)), (8, .ireturn, 1, [], .null), (9, .aload_n 0, 1, [], .null), (10, .getfield 11, 3, [6, 0, 1], .null), (13, .iload_n 1, 1, [], .null), (14, .aaload, 1, [], .null), (15, .invokevirtual 96, 3, [225, 1, 2], .null), (18, .ifCond .ne (9), 3, [27], .null), (21, .aload_n 0, 1, [], .null), (22, .iconst 1, 1, [], .int (1)), (23, .invokevirtual 79, 3, [50, 2, 1], .null), (26, .ireturn, 1, [], .null), (27, .aload_n 0, 1, [], .null), (28, .getfield 11, 3, [6, 0, 1], .null), (31, .iload_n 1, 1, [], .null), (32, .aaload, 1, [], .null), (33, .iconst (-1), 1, [], .int (-1)), (34, .putfield 100, 3, [4, 1, 0], .null), (37, .iconst 1, 1, [], .int (1)), (38, .ireturn, 1, [], .null)]
def F_Bp_tear (x1 : Int32) (h : Hp) : Res Hp :=
  bI (F_Bp_noRow x1 h) fun v2 h1 =>
  if v2 = (0 : Int32) then
  (bif okR 1 x1 then
  bI (F_Sh_isThere (shR 1 x1.toNatClampNeg) h1) fun v4 h3 =>
  if v4 = (0 : Int32) then
  (bI (F_Bp_found (1 : Int32) h3) fun v7 h6 =>
  retI v7 h6)
  else
  (bif okR 1 x1 then
  bif okF (shR 1 x1.toNatClampNeg) 4 1 0 then
  bH (hs h3 (shR 1 x1.toNatClampNeg) 1 (-1 : Int32)) fun h5 =>
  retI (1 : Int32) h5
  else none
  else none)
  else none)
  else
  (retI (-1 : Int32) h1)
def sF_Bp_tear : List Value → Hp → Res Hp := fun as h => match as with | [.ref f0, .int x1] => (match Nat.beq f0 0 with | true => F_Bp_tear x1 h | false => none) | _ => none
theorem w_Bp_tear (x1 : Int32) (h : Hp) : sF_Bp_tear [.ref 0, .int x1] h = F_Bp_tear x1 h := rfl
def S_Bp_tear : Sem Hp := [(52, sF_Bp_noRow), (225, sF_Sh_isThere), (50, sF_Bp_found)]
set_option maxRecDepth 100000 in
theorem e_Bp_tear_0 (x1 : Int32) (h : Hp) : F_Bp_tear x1 h = exec1 OI S_Bp_tear 1 k_Bp_tear 0 [some (.ref 0), some (.int x1)] [] h (runF OI S_Bp_tear [] 1 k_Bp_tear 400) :=
  (x_bI (f := sF_Bp_noRow) rfl (w_Bp_noRow _ _) fun v2 h1 => (x_ite (x_bif (x_bI (f := sF_Sh_isThere) rfl (w_Sh_isThere _ _) fun v4 h3 => (x_ite (x_bI (f := sF_Bp_found) rfl (w_Bp_found _ _) fun v7 h6 => rfl) (x_bif (x_bif (x_bH fun h5 => rfl)))))) rfl))
def k_Sh_spans : List Ent := [(0, .iload_n 1, 1, [], .null), (1, .ifCond .lt (29), 3, [30], .null), (4, .iload_n 1, 1, [], .null), (5, .aload_n 0, 1, [], .null), (6, .getfield 11, 3, [4, 1, 0], .null), (9, .if_icmp .gt (21), 3, [30], .null), (12, .iload_n 2, 1, [], .null), (13, .ifCond .lt (17), 3, [30], .null), (16, .iload_n 2, 1, [], .null), (17, .aload_n 0, 1, [], .null), (18, .getfield 11, 3, [4, 1, 0], .null), (21, .iload_n 1, 1, [], .null), (22, .isub, 1, [], .null), (23, .if_icmp .gt (7), 3, [30], .null), (26, .iconst 1, 1, [], .int (1)), (27, .goto (4), 3, [31], .null), (30, .iconst 0, 1, [], .int (0)), (31, .ireturn, 1, [], .null)]
def F_Sh_spans (o0 : Nat) (x1 : Int32) (x2 : Int32) (h : Hp) : Res Hp :=
  if x1 < (0 : Int32) then
  (retZ (0 : Int32) h)
  else
  (bif okF o0 4 1 0 then
  if (hg h o0 1) < x1 then
  (retZ (0 : Int32) h)
  else
  (if x2 < (0 : Int32) then
  (retZ (0 : Int32) h)
  else
  (bif okF o0 4 1 0 then
  if ((hg h o0 1) - x1) < x2 then
  (retZ (0 : Int32) h)
  else
  (retZ (1 : Int32) h)
  else none))
  else none)
def sF_Sh_spans : List Value → Hp → Res Hp := fun as h => match as with | [.ref o0, .int x1, .int x2] => F_Sh_spans o0 x1 x2 h | _ => none
theorem w_Sh_spans (o0 : Nat) (x1 : Int32) (x2 : Int32) (h : Hp) : sF_Sh_spans [.ref o0, .int x1, .int x2] h = F_Sh_spans o0 x1 x2 h := rfl
def S_Sh_spans : Sem Hp := []
set_option maxRecDepth 100000 in
theorem e_Sh_spans_0 (o0 : Nat) (x1 : Int32) (x2 : Int32) (h : Hp) : F_Sh_spans o0 x1 x2 h = exec1 OI S_Sh_spans 2 k_Sh_spans 0 [some (.ref o0), some (.int x1), some (.int x2)] [] h (runF OI S_Sh_spans [] 2 k_Sh_spans 400) :=
  (x_ite rfl (x_bif (x_ite rfl (x_ite rfl (x_bif (x_ite rfl rfl))))))
def k_Bp_copy : List Ent := [(0, .iload_n 1, 1, [], .null), (1, .invokestatic 75, 3, [52, 1, 2], .null), (4, .ifCond .ne (10), 3, [14], .null), (7, .iload_n 3, 1, [], .null), (8, .invokestatic 75, 3, [52, 1, 2], .null), (11, .ifCond .eq (5), 3, [16], .null), (14, .iconst (-1), 1, [], .int (-1)), (15, .ireturn, 1, [], .null), (16, .iload 5, 2, [], .null), (18, .ifCond .ge (9), 3, [27], .null), (21, .aload_n 0, 1, [], .null), (22, .iconst 5, 1, [], .int (5)), (23, .invokevirtual 79, 3, [50, 2, 1], .null), (26, .ireturn, 1, [], .null), (27, .aload_n 0, 1, [], .null), (28, .getfield 11, 3, [6, 0, 1], .null), (31, .iload_n 1, 1, [], .null), (32, .aaload, 1, [], .null), (33, .invokevirtual 96, 3, [225, 1, 2], .null), (36, .ifCond .eq (15), 3, [51], .null), (39, .aload_n 0, 1, [], .null), (40, .getfield 11, 3, [6, 0, 1], .null), (43, .iload_n 3, 1, [], .null), (44, .aaload, 1, [], .null), (45, .invokevirtual 96, 3, [225, 1, 2], .null), (48, .ifCond .ne (9), 3, [57], .null), (51, .aload_n 0, 1, [], .null), (52, .iconst 1, 1, [], .int (1)), (53, .invokevirtual 79, 3, [50, 2, 1], .null), (56, .ireturn, 1, [], .null), (57, .aload_n 0, 1, [], .null), (58, .getfield 11, 3, [6, 0, 1], .null), (61, .iload_n 1, 1, [], .null), (62, .aaload, 1, [], .null), (63, .iload_n 2, 1, [], .null), (64, .iload 5, 2, [], .null), (66, .invokevirtual 103, 3, [227, 3, 2], .null), (69, .ifCond .eq (19), 3, [88], .null), (72, .aload_n 0, 1, [], .null), (73, .getfield 11, 3, [6, 0, 1], .null), (76, .iload_n 3, 1, [], .null), (77, .aaload, 1, [], .null), (78, .iload 4, 2, [], .null), (80, .iload 5, 2, [], .null), (82, .invokevirtual 103, 3, [227, 3, 2], .null), (85, .ifCond .ne (9), 3, [94], .null), (88, .aload_n 0, 1, [], .null), (89, .iconst 2, 1, [], .int (2)), (90, .invokevirtual 79, 3, [50, 2, 1], .null), (93, .ireturn, 1, [], .null), (94, .aload_n 0, 1, [], .null), (95, .getfield 11, 3, [6, 0, 1], .null), (98, .iload_n 1, 1, [], .null), (99, .aaload, 1, [], .null), (100, .getfield 90, 3, [4, 0, 1], .null), (103, .iload_n 2, 1, [], .null), (104, .aload_n 0, 1, [], .null), (105, .getfield 11, 3, [6, 0, 1], .null), (108, .iload_n 3, 1, [], .null), (109, .aaload, 1, [], .null), (110, .getfield 90, 3, [4, 0, 1], .null), (113, .iload 4, 2, [], .null), (115, .iload 5, 2, [], .null), (117, .invokestatic 107, 3, [], .null), (120, .iconst 1, 1, [], .int (1)), (121, .ireturn, 1, [], .null)]
def F_Bp_copy (x1 : Int32) (x2 : Int32) (x3 : Int32) (x4 : Int32) (x5 : Int32) (h : Hp) : Res Hp :=
  bI (F_Bp_noRow x1 h) fun v2 h1 =>
  if v2 = (0 : Int32) then
  (bI (F_Bp_noRow x3 h1) fun v4 h3 =>
  if v4 = (0 : Int32) then
  (if (0 : Int32) ≤ x5 then
  (bif okR 1 x1 then
  bI (F_Sh_isThere (shR 1 x1.toNatClampNeg) h3) fun v6 h5 =>
  if v6 = (0 : Int32) then
  (bI (F_Bp_found (1 : Int32) h5) fun v8 h7 =>
  retI v8 h7)
  else
  (bif okR 1 x3 then
  bI (F_Sh_isThere (shR 1 x3.toNatClampNeg) h5) fun v10 h9 =>
  if v10 = (0 : Int32) then
  (bI (F_Bp_found (1 : Int32) h9) fun v21 h20 =>
  retI v21 h20)
  else
  (bif okR 1 x1 then
  bI (F_Sh_spans (shR 1 x1.toNatClampNeg) x2 x5 h9) fun v12 h11 =>
  if v12 = (0 : Int32) then
  (bI (F_Bp_found (2 : Int32) h11) fun v14 h13 =>
  retI v14 h13)
  else
  (bif okR 1 x3 then
  bI (F_Sh_spans (shR 1 x3.toNatClampNeg) x4 x5 h11) fun v16 h15 =>
  if v16 = (0 : Int32) then
  (bI (F_Bp_found (2 : Int32) h15) fun v19 h18 =>
  retI v19 h18)
  else
  (bif okR 1 x1 then
  bif okF (shR 1 x1.toNatClampNeg) 4 0 1 then
  bif okR 1 x3 then
  bif okF (shR 1 x3.toNatClampNeg) 4 0 1 then
  bif okC (shR (shR 1 x1.toNatClampNeg) 0) x2 (shR (shR 1 x3.toNatClampNeg) 0) x4 x5 then
  bH (hcp h15 (shR (shR 1 x1.toNatClampNeg) 0) x2 (shR (shR 1 x3.toNatClampNeg) 0) x4 x5) fun h17 =>
  retI (1 : Int32) h17
  else none
  else none
  else none
  else none
  else none)
  else none)
  else none)
  else none)
  else none)
  else
  (bI (F_Bp_found (5 : Int32) h3) fun v23 h22 =>
  retI v23 h22))
  else
  (retI (-1 : Int32) h3))
  else
  (retI (-1 : Int32) h1)
def sF_Bp_copy : List Value → Hp → Res Hp := fun as h => match as with | [.ref f0, .int x1, .int x2, .int x3, .int x4, .int x5] => (match Nat.beq f0 0 with | true => F_Bp_copy x1 x2 x3 x4 x5 h | false => none) | _ => none
theorem w_Bp_copy (x1 : Int32) (x2 : Int32) (x3 : Int32) (x4 : Int32) (x5 : Int32) (h : Hp) : sF_Bp_copy [.ref 0, .int x1, .int x2, .int x3, .int x4, .int x5] h = F_Bp_copy x1 x2 x3 x4 x5 h := rfl
def S_Bp_copy : Sem Hp := [(52, sF_Bp_noRow), (225, sF_Sh_isThere), (50, sF_Bp_found), (227, sF_Sh_spans)]
set_option maxRecDepth 100000 in
theorem e_Bp_copy_0 (x1 : Int32) (x2 : Int32) (x3 : Int32) (x4 : Int32) (x5 : Int32) (h : Hp) : F_Bp_copy x1 x2 x3 x4 x5 h = exec1 OI S_Bp_copy 1 k_Bp_copy 0 [some (.ref 0), some (.int x1), some (.int x2), some (.int x3), some (.int x4), some (.int x5)] [] h (runF OI S_Bp_copy [] 1 k_Bp_copy 400) :=
  (x_bI (f := sF_Bp_noRow) rfl (w_Bp_noRow _ _) fun v2 h1 => (x_ite (x_bI (f := sF_Bp_noRow) rfl (w_Bp_noRow _ _) fun v4 h3 => (x_ite (x_ite (x_bif (x_bI (f := sF_Sh_isThere) rfl (w_Sh_isThere _ _) fun v6 h5 => (x_ite (x_bI (f := sF_Bp_found) rfl (w_Bp_found _ _) fun v8 h7 => rfl) (x_bif (x_bI (f := sF_Sh_isThere) rfl (w_Sh_isThere _ _) fun v10 h9 => (x_ite (x_bI (f := sF_Bp_found) rfl (w_Bp_found _ _) fun v21 h20 => rfl) (x_bif (x_bI (f := sF_Sh_spans) rfl (w_Sh_spans _ _ _ _) fun v12 h11 => (x_ite (x_bI (f := sF_Bp_found) rfl (w_Bp_found _ _) fun v14 h13 => rfl) (x_bif (x_bI (f := sF_Sh_spans) rfl (w_Sh_spans _ _ _ _) fun v16 h15 => (x_ite (x_bI (f := sF_Bp_found) rfl (w_Bp_found _ _) fun v19 h18 => rfl) (x_bif (x_bif (x_bif (x_bif (x_bif (x_bH fun h17 => rfl)))))))))))))))))) (x_bI (f := sF_Bp_found) rfl (w_Bp_found _ _) fun v23 h22 => rfl)) rfl)) rfl))
def k_Sh_sum : List Ent := [(0, .lconst 0, 1, [], .long 0), (1, .lstore_n 1, 1, [], .null), (2, .iconst 0, 1, [], .int (0)), (3, .istore_n 3, 1, [], .null), (4, .iload_n 3, 1, [], .null), (5, .aload_n 0, 1, [], .null), (6, .getfield 11, 3, [4, 1, 0], .null), (9, .if_icmp .ge (19), 3, [28], .null), (12, .lload_n 1, 1, [], .null), (13, .aload_n 0, 1, [], .null), (14, .getfield 15, 3, [4, 0, 1], .null), (17, .iload_n 3, 1, [], .null), (18, .iaload, 1, [], .null), (19, .i2l, 1, [], .null), (20, .ladd, 1, [], .null), (21, .lstore_n 1, 1, [], .null), (22, .iinc 3 (1), 3, [], .int (1)), (25, .goto (-21), 3, [4], .null), (28, .lload_n 1, 1, [], .null), (29, .lreturn, 1, [], .null)]
def Sh_sum_4  (o0 : Nat) (h : Hp) : (Int64 × Int32) → ((Int64 × Int32) → Res Hp) → Res Hp := fun s κ4 => match s with
  | (y1, x3) =>
  bif okF o0 4 1 0 then
  if (hg h o0 1) ≤ x3 then
  (retL y1 h)
  else
  (bif okF o0 4 0 1 then
  bif okA (shR o0 0) 100 x3 then
  κ4 ((y1 + (hg h (shR o0 0) x3.toNatClampNeg).toInt64), (x3 + (1 : Int32)))
  else none
  else none)
  else none
def F_Sh_sum (o0 : Nat) (h : Hp) : Res Hp :=
  loopC (Sh_sum_4  o0 h) FU ((0 : Int64), (0 : Int32))
def sF_Sh_sum : List Value → Hp → Res Hp := fun as h => match as with | [.ref o0] => F_Sh_sum o0 h | _ => none
theorem w_Sh_sum (o0 : Nat) (h : Hp) : sF_Sh_sum [.ref o0] h = F_Sh_sum o0 h := rfl
def S_Sh_sum : Sem Hp := []
set_option maxRecDepth 100000 in
theorem e_Sh_sum_0 (o0 : Nat) (h : Hp) : F_Sh_sum o0 h = exec1 OI S_Sh_sum 3 k_Sh_sum 0 [some (.ref o0), none, none, none] [] h (runF OI S_Sh_sum [(4, [0, 1, 3], fun vs st h => match vs, st with | [.ref o0, .long y1, .int x3], [] => loopC (Sh_sum_4  o0 h) FU (y1, x3) | _, _ => none)] 3 k_Sh_sum 400) :=
  rfl
set_option maxRecDepth 100000 in
theorem e_Sh_sum_4 (κ4 : (Int64 × Int32) → Res Hp) (o0 : Nat) (y1 : Int64) (x3 : Int32)  (h : Hp) : Sh_sum_4  o0 h (y1, x3) κ4 = exec1 OI S_Sh_sum 3 k_Sh_sum 4 [some (.ref o0), some (.long y1), none, some (.int x3)] [] h (runF OI S_Sh_sum [(4, [0, 1, 3], fun vs st h => match vs, st with | [.ref o0, .long y1, .int x3], [] => κ4 (y1, x3) | _, _ => none)] 3 k_Sh_sum 400) :=
  (x_bif (x_ite rfl (x_bif (x_bif rfl))))
def k_Bp_mean : List Ent := [(0, .iload_n 1, 1, [], .null), (1, .invokestatic 75, 3, [52, 1, 2], .null), (4, .ifCond .eq (5), 3, [9], .null), (7, .iconst (-1), 1, [], .int (-1)), (8, .ireturn, 1, [], .null), (9, .aload_n 0, 1, [], .null), (10, .getfield 11, 3, [6, 0, 1], .null), (13, .iload_n 1, 1, [], .null), (14, .aaload, 1, [], .null), (15, .astore_n 2, 1, [], .null), (16, .aload_n 2, 1, [], .null), (17, .invokevirtual 96, 3, [225, 1, 2], .null), (20, .ifCond .ne (9), 3, [29], .null), (23, .aload_n 0, 1, [], .null), (24, .iconst 1, 1, [], .int (1)), (25, .invokevirtual 79, 3, [50, 2, 1], .null), (28, .ireturn, 1, [], .null), (29, .aload_n 2, 1, [], .null), (30, .getfield 100, 3, [4, 1, 0], .null), (33, .ifCond .ne (9), 3, [42], .null), (36, .aload_n 0, 1, [], .null), (37, .iconst 4, 1, [], .int (4)), (38, .invokevirtual 79, 3, [50, 2, 1], .null), (41, .ireturn, 1, [], .null), (42, .aload_n 0, 1, [], .null), (43, .aload_n 2, 1, [], .null), (44, .invokevirtual 113, 3, [230, 1, 3], .null), (47, .aload_n 2, 1, [], .null), (48, .getfield 100, 3, [4, 1, 0], .null), (51, .i2l, 1, [], .null), (52, .ldiv, 1, [], .null), (53, .l2i, 1, [], .null), (54, .invokevirtual 93, 3, [51, 2, 1], .null), (57, .ireturn, 1, [], .null)]
def F_Bp_mean (x1 : Int32) (h : Hp) : Res Hp :=
  bI (F_Bp_noRow x1 h) fun v2 h1 =>
  if v2 = (0 : Int32) then
  (bif okR 1 x1 then
  bI (F_Sh_isThere (shR 1 x1.toNatClampNeg) h1) fun v4 h3 =>
  if v4 = (0 : Int32) then
  (bI (F_Bp_found (1 : Int32) h3) fun v12 h11 =>
  retI v12 h11)
  else
  (bif okF (shR 1 x1.toNatClampNeg) 4 1 0 then
  if (hg h3 (shR 1 x1.toNatClampNeg) 1) = (0 : Int32) then
  (bI (F_Bp_found (4 : Int32) h3) fun v10 h9 =>
  retI v10 h9)
  else
  (bL (F_Sh_sum (shR 1 x1.toNatClampNeg) h3) fun w6 h5 =>
  bif okF (shR 1 x1.toNatClampNeg) 4 1 0 then
  if (hg h5 (shR 1 x1.toNatClampNeg) 1).toInt64 = 0 then none else
  bI (F_Bp_tell ((w6 / (hg h5 (shR 1 x1.toNatClampNeg) 1).toInt64)).toInt32 h5) fun v8 h7 =>
  retI v8 h7
  else none)
  else none)
  else none)
  else
  (retI (-1 : Int32) h1)
def sF_Bp_mean : List Value → Hp → Res Hp := fun as h => match as with | [.ref f0, .int x1] => (match Nat.beq f0 0 with | true => F_Bp_mean x1 h | false => none) | _ => none
theorem w_Bp_mean (x1 : Int32) (h : Hp) : sF_Bp_mean [.ref 0, .int x1] h = F_Bp_mean x1 h := rfl
def S_Bp_mean : Sem Hp := [(52, sF_Bp_noRow), (225, sF_Sh_isThere), (230, sF_Sh_sum), (51, sF_Bp_tell), (50, sF_Bp_found)]
set_option maxRecDepth 100000 in
theorem e_Bp_mean_0 (x1 : Int32) (h : Hp) : F_Bp_mean x1 h = exec1 OI S_Bp_mean 1 k_Bp_mean 0 [some (.ref 0), some (.int x1), none] [] h (runF OI S_Bp_mean [] 1 k_Bp_mean 400) :=
  (x_bI (f := sF_Bp_noRow) rfl (w_Bp_noRow _ _) fun v2 h1 => (x_ite (x_bif (x_bI (f := sF_Sh_isThere) rfl (w_Sh_isThere _ _) fun v4 h3 => (x_ite (x_bI (f := sF_Bp_found) rfl (w_Bp_found _ _) fun v12 h11 => rfl) (x_bif (x_ite (x_bI (f := sF_Bp_found) rfl (w_Bp_found _ _) fun v10 h9 => rfl) (x_bL (f := sF_Sh_sum) rfl (w_Sh_sum _ _) fun w6 h5 => (x_bif (x_if0 (x_bI (f := sF_Bp_tell) rfl (w_Bp_tell _ _) fun v8 h7 => rfl))))))))) rfl))
def k_Bp_noText : List Ent := [(0, .iload_n 0, 1, [], .null), (1, .ifCond .lt (8), 3, [9], .null), (4, .iload_n 0, 1, [], .null), (5, .iconst 4, 1, [], .int (4)), (6, .if_icmp .lt (7), 3, [13], .null), (9, .iconst 1, 1, [], .int (1)), (10, .goto (4), 3, [14], .null), (13, .iconst 0, 1, [], .int (0)), (14, .ireturn, 1, [], .null)]
def F_Bp_noText (x0 : Int32) (h : Hp) : Res Hp :=
  if x0 < (0 : Int32) then
  (retZ (1 : Int32) h)
  else
  (if x0 < (4 : Int32) then
  (retZ (0 : Int32) h)
  else
  (retZ (1 : Int32) h))
def sF_Bp_noText : List Value → Hp → Res Hp := fun as h => match as with | [.int x0] => F_Bp_noText x0 h | _ => none
theorem w_Bp_noText (x0 : Int32) (h : Hp) : sF_Bp_noText [.int x0] h = F_Bp_noText x0 h := rfl
def S_Bp_noText : Sem Hp := []
set_option maxRecDepth 100000 in
theorem e_Bp_noText_0 (x0 : Int32) (h : Hp) : F_Bp_noText x0 h = exec1 OI S_Bp_noText 2 k_Bp_noText 0 [some (.int x0)] [] h (runF OI S_Bp_noText [] 2 k_Bp_noText 400) :=
  (x_ite rfl (x_ite rfl rfl))
def k_Bp_text : List Ent := [(0, .iload_n 1, 1, [], .null), (1, .invokestatic 117, 3, [53, 1, 2], .null), (4, .ifCond .ne (9), 3, [13], .null), (7, .iload_n 2, 1, [], .null), (8, .bipush (80), 2, [], .int (80)), (10, .if_icmp .le (5), 3, [15], .null), (13, .iconst (-1), 1, [], .int (-1)), (14, .ireturn, 1, [], .null), (15, .iload_n 2, 1, [], .null), (16, .ifCond .ge (9), 3, [25], .null), (19, .aload_n 0, 1, [], .null), (20, .iconst 5, 1, [], .int (5)), (21, .invokevirtual 79, 3, [50, 2, 1], .null), (24, .ireturn, 1, [], .null), (25, .aload_n 0, 1, [], .null), (26, .getfield 15, 3, [6, 1, 1], .null), (29, .iload_n 1, 1, [], .null), (30, .aaload, 1, [], .null), (31, .iload_n 2, 1, [], .null), (32, .bipush (32), 2, [], .int (32)), (34, .invokevirtual 83, 3, [228, 3, 0], .null), (37, .iload_n 2, 1, [], .null), (38, .ireturn, 1, [], .null)]
def F_Bp_text (x1 : Int32) (x2 : Int32) (h : Hp) : Res Hp :=
  bI (F_Bp_noText x1 h) fun v2 h1 =>
  if v2 = (0 : Int32) then
  (if x2 ≤ (80 : Int32) then
  (if (0 : Int32) ≤ x2 then
  (bif okR 2 x1 then
  bV (F_Sh_renew (shR 2 x1.toNatClampNeg) x2 (32 : Int32) h1) fun h3 =>
  retI x2 h3
  else none)
  else
  (bI (F_Bp_found (5 : Int32) h1) fun v5 h4 =>
  retI v5 h4))
  else
  (retI (-1 : Int32) h1))
  else
  (retI (-1 : Int32) h1)
def sF_Bp_text : List Value → Hp → Res Hp := fun as h => match as with | [.ref f0, .int x1, .int x2] => (match Nat.beq f0 0 with | true => F_Bp_text x1 x2 h | false => none) | _ => none
theorem w_Bp_text (x1 : Int32) (x2 : Int32) (h : Hp) : sF_Bp_text [.ref 0, .int x1, .int x2] h = F_Bp_text x1 x2 h := rfl
def S_Bp_text : Sem Hp := [(53, sF_Bp_noText), (228, sF_Sh_renew), (50, sF_Bp_found)]
set_option maxRecDepth 100000 in
theorem e_Bp_text_0 (x1 : Int32) (x2 : Int32) (h : Hp) : F_Bp_text x1 x2 h = exec1 OI S_Bp_text 1 k_Bp_text 0 [some (.ref 0), some (.int x1), some (.int x2)] [] h (runF OI S_Bp_text [] 1 k_Bp_text 400) :=
  (x_bI (f := sF_Bp_noText) rfl (w_Bp_noText _ _) fun v2 h1 => (x_ite (x_ite (x_ite (x_bif (x_bV (f := sF_Sh_renew) rfl (w_Sh_renew _ _ _ _) fun h3 => rfl)) (x_bI (f := sF_Bp_found) rfl (w_Bp_found _ _) fun v5 h4 => rfl)) rfl) rfl))
def k_Bp_put : List Ent := [(0, .iload_n 1, 1, [], .null), (1, .invokestatic 117, 3, [53, 1, 2], .null), (4, .ifCond .eq (5), 3, [9], .null), (7, .iconst (-1), 1, [], .int (-1)), (8, .ireturn, 1, [], .null), (9, .aload_n 0, 1, [], .null), (10, .getfield 15, 3, [6, 1, 1], .null), (13, .iload_n 1, 1, [], .null), (14, .aaload, 1, [], .null), (15, .iload_n 2, 1, [], .null), (16, .invokevirtual 87, 3, [226, 2, 1], .null), (19, .istore 4, 2, [], .null), (21, .iload 4, 2, [], .null), (23, .ifCond .eq (10), 3, [33], .null), (26, .aload_n 0, 1, [], .null), (27, .iload 4, 2, [], .null), (29, .invokevirtual 79, 3, [50, 2, 1], .null), (32, .ireturn, 1, [], .null), (33, .aload_n 0, 1, [], .null), (34, .getfield 15, 3, [6, 1, 1], .null), (37, .iload_n 1, 1, [], .null), (38, .aaload, 1, [], .null), (39, .getfield 90, 3, [4, 0, 1], .null), (42, .iload_n 2, 1, [], .null), (43, .iaload, 1, [], .null), (44, .istore 5, 2, [], .null), (46, .aload_n 0, 1, [], .null), (47, .getfield 15, 3, [6, 1, 1], .null), (50, .iload_n 1, 1, [], .null), (51, .aaload, 1, [], .null), (52, .getfield 90, 3, [4, 0, 1], .null), (55, .iload_n 2, 1, [], .null), (56, .iload_n 3, 1, [], .null), (57, .i2b, 1, [], .null), (58, .iastore, 1, [], .null), (59, .iload 5, 2, [], .null), (61, .sipush (1000), 3, [], .int (1000)), (64, .iadd, 1, [], .null), (65, .ireturn, 1, [], .null)]
def F_Bp_put (x1 : Int32) (x2 : Int32) (x3 : Int32) (h : Hp) : Res Hp :=
  bI (F_Bp_noText x1 h) fun v2 h1 =>
  if v2 = (0 : Int32) then
  (bif okR 2 x1 then
  bI (F_Sh_lackAt (shR 2 x1.toNatClampNeg) x2 h1) fun v4 h3 =>
  if v4 = (0 : Int32) then
  (bif okR 2 x1 then
  bif okF (shR 2 x1.toNatClampNeg) 4 0 1 then
  bif okA (shR (shR 2 x1.toNatClampNeg) 0) 100 x2 then
  bif okR 2 x1 then
  bif okF (shR 2 x1.toNatClampNeg) 4 0 1 then
  bif okA (shR (shR 2 x1.toNatClampNeg) 0) 100 x2 then
  bH (hs h3 (shR (shR 2 x1.toNatClampNeg) 0) x2.toNatClampNeg x3.toInt8.toInt32) fun h5 =>
  retI ((hg h3 (shR (shR 2 x1.toNatClampNeg) 0) x2.toNatClampNeg) + (1000 : Int32)) h5
  else none
  else none
  else none
  else none
  else none
  else none)
  else
  (bI (F_Bp_found v4 h3) fun v7 h6 =>
  retI v7 h6)
  else none)
  else
  (retI (-1 : Int32) h1)
def sF_Bp_put : List Value → Hp → Res Hp := fun as h => match as with | [.ref f0, .int x1, .int x2, .int x3] => (match Nat.beq f0 0 with | true => F_Bp_put x1 x2 x3 h | false => none) | _ => none
theorem w_Bp_put (x1 : Int32) (x2 : Int32) (x3 : Int32) (h : Hp) : sF_Bp_put [.ref 0, .int x1, .int x2, .int x3] h = F_Bp_put x1 x2 x3 h := rfl
def S_Bp_put : Sem Hp := [(53, sF_Bp_noText), (226, sF_Sh_lackAt), (50, sF_Bp_found)]
set_option maxRecDepth 100000 in
theorem e_Bp_put_0 (x1 : Int32) (x2 : Int32) (x3 : Int32) (h : Hp) : F_Bp_put x1 x2 x3 h = exec1 OI S_Bp_put 1 k_Bp_put 0 [some (.ref 0), some (.int x1), some (.int x2), some (.int x3), none, none] [] h (runF OI S_Bp_put [] 1 k_Bp_put 400) :=
  (x_bI (f := sF_Bp_noText) rfl (w_Bp_noText _ _) fun v2 h1 => (x_ite (x_bif (x_bI (f := sF_Sh_lackAt) rfl (w_Sh_lackAt _ _ _) fun v4 h3 => (x_ite (x_bif (x_bif (x_bif (x_bif (x_bif (x_bif (x_bH fun h5 => rfl))))))) (x_bI (f := sF_Bp_found) rfl (w_Bp_found _ _) fun v7 h6 => rfl)))) rfl))
def k_Jarr_fill : List Ent := [(0, .iconst 0, 1, [], .int (0)), (1, .istore_n 2, 1, [], .null), (2, .aload_n 0, 1, [], .null), (3, .arraylength, 1, [], .null), (4, .istore_n 3, 1, [], .null), (5, .iload_n 2, 1, [], .null), (6, .iload_n 3, 1, [], .null), (7, .if_icmp .ge (13), 3, [20], .null), (10, .aload_n 0, 1, [], .null), (11, .iload_n 2, 1, [], .null), (12, .iload_n 1, 1, [], .null), (13, .iastore, 1, [], .null), (14, .iinc 2 (1), 3, [], .int (1)), (17, .goto (-12), 3, [5], .null), (20, .return_, 1, [], .null)]
def Jarr_fill_5  (o0 : Nat) (x1 : Int32) (x3 : Int32)  : (Int32 × Hp) → ((Int32 × Hp) → Res Hp) → Res Hp := fun s κ5 => match s with
  | (x2, h) =>
  if x3 ≤ x2 then
  (retV h)
  else
  (bif okA o0 100 x2 then
  bH (hs h o0 x2.toNatClampNeg x1) fun h1 =>
  κ5 ((x2 + (1 : Int32)), h1)
  else none)
def F_Jarr_fill (o0 : Nat) (x1 : Int32) (h : Hp) : Res Hp :=
  bif okN o0 then
  loopC (Jarr_fill_5  o0 x1 (Int32.ofNat (shN o0)) ) FU ((0 : Int32), h)
  else none
def sF_Jarr_fill : List Value → Hp → Res Hp := fun as h => match as with | [.ref o0, .int x1] => F_Jarr_fill o0 x1 h | _ => none
theorem w_Jarr_fill (o0 : Nat) (x1 : Int32) (h : Hp) : sF_Jarr_fill [.ref o0, .int x1] h = F_Jarr_fill o0 x1 h := rfl
def S_Jarr_fill : Sem Hp := []
set_option maxRecDepth 100000 in
theorem e_Jarr_fill_0 (o0 : Nat) (x1 : Int32) (h : Hp) : F_Jarr_fill o0 x1 h = exec1 OI S_Jarr_fill 0 k_Jarr_fill 0 [some (.ref o0), some (.int x1), none, none] [] h (runF OI S_Jarr_fill [(5, [0, 1, 2, 3], fun vs st h => match vs, st with | [.ref o0, .int x1, .int x2, .int x3], [] => loopC (Jarr_fill_5  o0 x1 x3 ) FU (x2, h) | _, _ => none)] 0 k_Jarr_fill 400) :=
  (x_bif rfl)
set_option maxRecDepth 100000 in
theorem e_Jarr_fill_5 (κ5 : (Int32 × Hp) → Res Hp) (o0 : Nat) (x1 : Int32) (x2 : Int32) (x3 : Int32)  (h : Hp) : Jarr_fill_5  o0 x1 x3  (x2, h) κ5 = exec1 OI S_Jarr_fill 0 k_Jarr_fill 5 [some (.ref o0), some (.int x1), some (.int x2), some (.int x3)] [] h (runF OI S_Jarr_fill [(5, [0, 1, 2, 3], fun vs st h => match vs, st with | [.ref o0, .int x1, .int x2, .int x3], [] => κ5 (x2, h) | _, _ => none)] 0 k_Jarr_fill 400) :=
  (x_ite rfl (x_bif (x_bH fun h1 => rfl)))
def k_Bp_bit : List Ent := [(0, .iconst 1, 1, [], .int (1)), (1, .iload_n 0, 1, [], .null), (2, .ishl, 1, [], .null), (3, .ireturn, 1, [], .null)]
def F_Bp_bit (x0 : Int32) (h : Hp) : Res Hp :=
  retI ((1 : Int32) <<< (x0 &&& 31)) h
def sF_Bp_bit : List Value → Hp → Res Hp := fun as h => match as with | [.int x0] => F_Bp_bit x0 h | _ => none
theorem w_Bp_bit (x0 : Int32) (h : Hp) : sF_Bp_bit [.int x0] h = F_Bp_bit x0 h := rfl
def S_Bp_bit : Sem Hp := []
set_option maxRecDepth 100000 in
theorem e_Bp_bit_0 (x0 : Int32) (h : Hp) : F_Bp_bit x0 h = exec1 OI S_Bp_bit 1 k_Bp_bit 0 [some (.int x0)] [] h (runF OI S_Bp_bit [] 1 k_Bp_bit 400) :=
  rfl
def k_La_tie : List Ent := [(0, .aload_n 0, 1, [], .null), (1, .getfield 29, 3, [0, 5, 1], .null), (4, .iload_n 3, 1, [], .null), (5, .aaload, 1, [], .null), (6, .iload_n 1, 1, [], .null), (7, .dup2, 1, [], .null), (8, .iaload, 1, [], .null), (9, .iload_n 2, 1, [], .null), (10, .invokestatic 72, 3, [64, 1, 1], .null), (13, .ior, 1, [], .null), (14, .iastore, 1, [], .null), (15, .aload_n 0, 1, [], .null), (16, .getfield 29, 3, [0, 5, 1], .null), (19, .iload_n 3, 1, [], .null), (20, .aaload, 1, [], .null), (21, .iload_n 2, 1, [], .null), (22, .dup2, 1, [], .null), (23, .iaload, 1, [], .null), (24, .iload_n 1, 1, [], .null), (25, .invokestatic 72, 3, [64, 1, 1], .null), (28, .ior, 1, [], .null), (29, .iastore, 1, [], .null), (30, .aload_n 0, 1, [], .null), (31, .getfield 32, 3, [0, 6, 1], .null), (34, .iload_n 1, 1, [], .null), (35, .dup2, 1, [], .null), (36, .iaload, 1, [], .null), (37, .iload_n 2, 1, [], .null), (38, .invokestatic 72, 3, [64, 1, 1], .null), (41, .ior, 1, [], .null), (42, .iastore, 1, [], .null), (43, .aload_n 0, 1, [], .null), (44, .getfield 32, 3, [0, 6, 1], .null), (47, .iload_n 2, 1, [], .null), (48, .dup2, 1, [], .null), (49, .iaload, 1, [], .null), (50, .iload_n 1, 1, [], .null), (51, .invokestatic 72, 3, [64, 1, 1], .null), (54, .ior, 1, [], .null), (55, .iastore, 1, [], .null), (56, .return_, 1, [], .null)]
def F_La_tie (o0 : Nat) (x1 : Int32) (x2 : Int32) (x3 : Int32) (h : Hp) : Res Hp :=
  bif okF o0 0 5 1 then
  bif okR (shR o0 5) x3 then
  bif okA (shR (shR o0 5) x3.toNatClampNeg) 100 x1 then
  bI (F_Bp_bit x2 h) fun v2 h1 =>
  bif okA (shR (shR o0 5) x3.toNatClampNeg) 100 x1 then
  bH (hs h1 (shR (shR o0 5) x3.toNatClampNeg) x1.toNatClampNeg ((hg h (shR (shR o0 5) x3.toNatClampNeg) x1.toNatClampNeg) ||| v2)) fun h3 =>
  bif okF o0 0 5 1 then
  bif okR (shR o0 5) x3 then
  bif okA (shR (shR o0 5) x3.toNatClampNeg) 100 x2 then
  bI (F_Bp_bit x1 h3) fun v5 h4 =>
  bif okA (shR (shR o0 5) x3.toNatClampNeg) 100 x2 then
  bH (hs h4 (shR (shR o0 5) x3.toNatClampNeg) x2.toNatClampNeg ((hg h3 (shR (shR o0 5) x3.toNatClampNeg) x2.toNatClampNeg) ||| v5)) fun h6 =>
  bif okF o0 0 6 1 then
  bif okA (shR o0 6) 100 x1 then
  bI (F_Bp_bit x2 h6) fun v8 h7 =>
  bif okA (shR o0 6) 100 x1 then
  bH (hs h7 (shR o0 6) x1.toNatClampNeg ((hg h6 (shR o0 6) x1.toNatClampNeg) ||| v8)) fun h9 =>
  bif okF o0 0 6 1 then
  bif okA (shR o0 6) 100 x2 then
  bI (F_Bp_bit x1 h9) fun v11 h10 =>
  bif okA (shR o0 6) 100 x2 then
  bH (hs h10 (shR o0 6) x2.toNatClampNeg ((hg h9 (shR o0 6) x2.toNatClampNeg) ||| v11)) fun h12 =>
  retV h12
  else none
  else none
  else none
  else none
  else none
  else none
  else none
  else none
  else none
  else none
  else none
  else none
  else none
  else none
def sF_La_tie : List Value → Hp → Res Hp := fun as h => match as with | [.ref o0, .int x1, .int x2, .int x3] => F_La_tie o0 x1 x2 x3 h | _ => none
theorem w_La_tie (o0 : Nat) (x1 : Int32) (x2 : Int32) (x3 : Int32) (h : Hp) : sF_La_tie [.ref o0, .int x1, .int x2, .int x3] h = F_La_tie o0 x1 x2 x3 h := rfl
def S_La_tie : Sem Hp := [(64, sF_Bp_bit)]
set_option maxRecDepth 100000 in
theorem e_La_tie_0 (o0 : Nat) (x1 : Int32) (x2 : Int32) (x3 : Int32) (h : Hp) : F_La_tie o0 x1 x2 x3 h = exec1 OI S_La_tie 0 k_La_tie 0 [some (.ref o0), some (.int x1), some (.int x2), some (.int x3)] [] h (runF OI S_La_tie [] 0 k_La_tie 400) :=
  (x_bif (x_bif (x_bif (x_bI (f := sF_Bp_bit) rfl (w_Bp_bit _ _) fun v2 h1 => (x_bif (x_bH fun h3 => (x_bif (x_bif (x_bif (x_bI (f := sF_Bp_bit) rfl (w_Bp_bit _ _) fun v5 h4 => (x_bif (x_bH fun h6 => (x_bif (x_bif (x_bI (f := sF_Bp_bit) rfl (w_Bp_bit _ _) fun v8 h7 => (x_bif (x_bH fun h9 => (x_bif (x_bif (x_bI (f := sF_Bp_bit) rfl (w_Bp_bit _ _) fun v11 h10 => (x_bif (x_bH fun h12 => rfl))))))))))))))))))))))
def k_La_tieAll : List Ent := [(0, .aload_n 0, 1, [], .null), (1, .getfield 32, 3, [0, 6, 1], .null), (4, .iconst 0, 1, [], .int (0)), (5, .invokestatic 76, 3, [254, 2, 0], .null), (8, .iconst 0, 1, [], .int (0)), (9, .istore_n 1, 1, [], .null), (10, .iload_n 1, 1, [], .null), (11, .bipush (8), 2, [], .int (8)), (13, .if_icmp .ge (19), 3, [32], .null), (16, .aload_n 0, 1, [], .null), (17, .getfield 29, 3, [0, 5, 1], .null), (20, .iload_n 1, 1, [], .null), (21, .aaload, 1, [], .null), (22, .iconst 0, 1, [], .int (0)), (23, .invokestatic 76, 3, [254, 2, 0], .null), (26, .iinc 1 (1), 3, [], .int (1)), (29, .goto (-19), 3, [10], .null), (32, .iconst 0, 1, [], .int (0)), (33, .istore_n 1, 1, [], .null), (34, .iload_n 1, 1, [], .null), (35, .aload_n 0, 1, [], .null), (36, .getfield 45, 3, [0, 9, 0], .null), (39, .if_icmp .ge (31), 3, [70], .null), (42, .aload_n 0, 1, [], .null), (43, .aload_n 0, 1, [], .null), (44, .getfield 18, 3, [0, 2, 1], .null), (47, .iload_n 1, 1, [], .null), (48, .iaload, 1, [], .null), (49, .aload_n 0, 1, [], .null), (50, .getfield 21, 3, [0, 3, 1], .null), (53, .iload_n 1, 1, [], .null), (54, .iaload, 1, [], .null), (55, .aload_n 0, 1, [], .null), (56, .getfield 24, 3, [0, 4, 1], .null), (59, .iload_n 1, 1, [], .null), (60, .iaload, 1, [], .null), (61, .invokevirtual 68, 3, [178, 4, 0], .null), (64, .iinc 1 (1), 3, [], .int (1)), (67, .goto (-33), 3, [34], .null), (70, .return_, 1, [], .null)]
def La_tieAll_34  (o0 : Nat)  : (Int32 × Hp) → ((Int32 × Hp) → Res Hp) → Res Hp := fun s κ34 => match s with
  | (x1, h) =>
  bif okF o0 0 9 0 then
  if (hg h o0 9) ≤ x1 then
  (retV h)
  else
  (bif okF o0 0 2 1 then
  bif okA (shR o0 2) 100 x1 then
  bif okF o0 0 3 1 then
  bif okA (shR o0 3) 100 x1 then
  bif okF o0 0 4 1 then
  bif okA (shR o0 4) 100 x1 then
  bV (F_La_tie o0 (hg h (shR o0 2) x1.toNatClampNeg) (hg h (shR o0 3) x1.toNatClampNeg) (hg h (shR o0 4) x1.toNatClampNeg) h) fun h1 =>
  κ34 ((x1 + (1 : Int32)), h1)
  else none
  else none
  else none
  else none
  else none
  else none)
  else none
def La_tieAll_10  (o0 : Nat)  : (Int32 × Hp) → ((Int32 × Hp) → Res Hp) → Res Hp := fun s κ10 => match s with
  | (x1, h) =>
  if (8 : Int32) ≤ x1 then
  (loopC (La_tieAll_34  o0 ) FU ((0 : Int32), h))
  else
  (bif okF o0 0 5 1 then
  bif okR (shR o0 5) x1 then
  bV (F_Jarr_fill (shR (shR o0 5) x1.toNatClampNeg) (0 : Int32) h) fun h1 =>
  κ10 ((x1 + (1 : Int32)), h1)
  else none
  else none)
def F_La_tieAll (o0 : Nat) (h : Hp) : Res Hp :=
  bif okF o0 0 6 1 then
  bV (F_Jarr_fill (shR o0 6) (0 : Int32) h) fun h1 =>
  loopC (La_tieAll_10  o0 ) FU ((0 : Int32), h1)
  else none
def sF_La_tieAll : List Value → Hp → Res Hp := fun as h => match as with | [.ref o0] => F_La_tieAll o0 h | _ => none
theorem w_La_tieAll (o0 : Nat) (h : Hp) : sF_La_tieAll [.ref o0] h = F_La_tieAll o0 h := rfl
def S_La_tieAll : Sem Hp := [(254, sF_Jarr_fill), (178, sF_La_tie)]
set_option maxRecDepth 100000 in
theorem e_La_tieAll_0 (o0 : Nat) (h : Hp) : F_La_tieAll o0 h = exec1 OI S_La_tieAll 0 k_La_tieAll 0 [some (.ref o0), none] [] h (runF OI S_La_tieAll [(10, [0, 1], fun vs st h => match vs, st with | [.ref o0, .int x1], [] => loopC (La_tieAll_10  o0 ) FU (x1, h) | _, _ => none)] 0 k_La_tieAll 400) :=
  (x_bif (x_bV (f := sF_Jarr_fill) rfl (w_Jarr_fill _ _ _) fun h1 => rfl))
set_option maxRecDepth 100000 in
theorem e_La_tieAll_10 (κ10 : (Int32 × Hp) → Res Hp) (o0 : Nat) (x1 : Int32)  (h : Hp) : La_tieAll_10  o0  (x1, h) κ10 = exec1 OI S_La_tieAll 0 k_La_tieAll 10 [some (.ref o0), some (.int x1)] [] h (runF OI S_La_tieAll [(34, [0, 1], fun vs st h => match vs, st with | [.ref o0, .int x1], [] => loopC (La_tieAll_34  o0 ) FU (x1, h) | _, _ => none), (10, [0, 1], fun vs st h => match vs, st with | [.ref o0, .int x1], [] => κ10 (x1, h) | _, _ => none)] 0 k_La_tieAll 400) :=
  (x_ite rfl (x_bif (x_bif (x_bV (f := sF_Jarr_fill) rfl (w_Jarr_fill _ _ _) fun h1 => rfl))))
set_option maxRecDepth 100000 in
theorem e_La_tieAll_34 (κ34 : (Int32 × Hp) → Res Hp) (o0 : Nat) (x1 : Int32)  (h : Hp) : La_tieAll_34  o0  (x1, h) κ34 = exec1 OI S_La_tieAll 0 k_La_tieAll 34 [some (.ref o0), some (.int x1)] [] h (runF OI S_La_tieAll [(34, [0, 1], fun vs st h => match vs, st with | [.ref o0, .int x1], [] => κ34 (x1, h) | _, _ => none)] 0 k_La_tieAll 400) :=
  (x_bif (x_ite rfl (x_bif (x_bif (x_bif (x_bif (x_bif (x_bif (x_bV (f := sF_La_tie) rfl (w_La_tie _ _ _ _ _) fun h1 => rfl)))))))))
def k_La_clear : List Ent := [(0, .aload_n 0, 1, [], .null), (1, .iconst 0, 1, [], .int (0)), (2, .putfield 41, 3, [0, 8, 0], .null), (5, .aload_n 0, 1, [], .null), (6, .iconst 0, 1, [], .int (0)), (7, .putfield 45, 3, [0, 9, 0], .null), (10, .aload_n 0, 1, [], .null), (11, .iconst 0, 1, [], .int (0)), (12, .putfield 48, 3, [0, 10, 0], .null), (15, .aload_n 0, 1, [], .null), (16, .iconst 0, 1, [], .int (0)), (17, .putfield 51, 3, [0, 11, 0], .null), (20, .aload_n 0, 1, [], .null), (21, .invokevirtual 55, 3, [179, 1, 0], .null), (24, .return_, 1, [], .null)]
def F_La_clear (o0 : Nat) (h : Hp) : Res Hp :=
  bif okF o0 0 8 0 then
  bH (hs h o0 8 (0 : Int32)) fun h1 =>
  bif okF o0 0 9 0 then
  bH (hs h1 o0 9 (0 : Int32)) fun h2 =>
  bif okF o0 0 10 0 then
  bH (hs h2 o0 10 (0 : Int32)) fun h3 =>
  bif okF o0 0 11 0 then
  bH (hs h3 o0 11 (0 : Int32)) fun h4 =>
  bV (F_La_tieAll o0 h4) fun h5 =>
  retV h5
  else none
  else none
  else none
  else none
def sF_La_clear : List Value → Hp → Res Hp := fun as h => match as with | [.ref o0] => F_La_clear o0 h | _ => none
theorem w_La_clear (o0 : Nat) (h : Hp) : sF_La_clear [.ref o0] h = F_La_clear o0 h := rfl
def S_La_clear : Sem Hp := [(179, sF_La_tieAll)]
set_option maxRecDepth 100000 in
theorem e_La_clear_0 (o0 : Nat) (h : Hp) : F_La_clear o0 h = exec1 OI S_La_clear 0 k_La_clear 0 [some (.ref o0)] [] h (runF OI S_La_clear [] 0 k_La_clear 400) :=
  (x_bif (x_bH fun h1 => (x_bif (x_bH fun h2 => (x_bif (x_bH fun h3 => (x_bif (x_bH fun h4 => (x_bV (f := sF_La_tieAll) rfl (w_La_tieAll _ _) fun h5 => rfl)))))))))
def k_Bp_noTongue : List Ent := [(0, .iload_n 0, 1, [], .null), (1, .ifCond .lt (8), 3, [9], .null), (4, .iload_n 0, 1, [], .null), (5, .iconst 5, 1, [], .int (5)), (6, .if_icmp .lt (7), 3, [13], .null), (9, .iconst 1, 1, [], .int (1)), (10, .goto (4), 3, [14], .null), (13, .iconst 0, 1, [], .int (0)), (14, .ireturn, 1, [], .null)]
def F_Bp_noTongue (x0 : Int32) (h : Hp) : Res Hp :=
  if x0 < (0 : Int32) then
  (retZ (1 : Int32) h)
  else
  (if x0 < (5 : Int32) then
  (retZ (0 : Int32) h)
  else
  (retZ (1 : Int32) h))
def sF_Bp_noTongue : List Value → Hp → Res Hp := fun as h => match as with | [.int x0] => F_Bp_noTongue x0 h | _ => none
theorem w_Bp_noTongue (x0 : Int32) (h : Hp) : sF_Bp_noTongue [.int x0] h = F_Bp_noTongue x0 h := rfl
def S_Bp_noTongue : Sem Hp := []
set_option maxRecDepth 100000 in
theorem e_Bp_noTongue_0 (x0 : Int32) (h : Hp) : F_Bp_noTongue x0 h = exec1 OI S_Bp_noTongue 2 k_Bp_noTongue 0 [some (.int x0)] [] h (runF OI S_Bp_noTongue [] 2 k_Bp_noTongue 400) :=
  (x_ite rfl (x_ite rfl rfl))
def k_Re_takesTongue : List Ent := [(0, .iload_n 1, 1, [], .null), (1, .invokestatic 75, 3, [55, 1, 2], .null), (4, .ifCond .ne (21), 3, [25], .null), (7, .iload_n 1, 1, [], .null), (8, .aload_n 0, 1, [], .null), (9, .getfield 15, 3, [3, 2, 0], .null), (12, .if_icmp .le (13), 3, [25], .null), (15, .aload_n 0, 1, [], .null), (16, .getfield 24, 3, [3, 0, 1], .null), (19, .getfield 68, 3, [0, 8, 0], .null), (22, .ifCond .ne (5), 3, [27], .null), (25, .iconst 0, 1, [], .int (0)), (26, .ireturn, 1, [], .null), (27, .aload_n 0, 1, [], .null), (28, .getfield 24, 3, [3, 0, 1], .null), (31, .getfield 78, 3, [0, 1, 1], .null), (34, .aload_n 0, 1, [], .null), (35, .getfield 24, 3, [3, 0, 1], .null), (38, .getfield 68, 3, [0, 8, 0], .null), (41, .iconst 1, 1, [], .int (1)), (42, .isub, 1, [], .null), (43, .dup2, 1, [], .null), (44, .iaload, 1, [], .null), (45, .iload_n 1, 1, [], .null), (46, .invokestatic 81, 3, [64, 1, 1], .null), (49, .ior, 1, [], .null), (50, .iastore, 1, [], .null), (51, .aload_n 0, 1, [], .null), (52, .iload_n 1, 1, [], .null), (53, .putfield 15, 3, [3, 2, 0], .null), (56, .iconst 1, 1, [], .int (1)), (57, .ireturn, 1, [], .null)]
def F_Re_takesTongue (x1 : Int32) (h : Hp) : Res Hp :=
  bI (F_Bp_noTongue x1 h) fun v2 h1 =>
  if v2 = (0 : Int32) then
  (if x1 ≤ (hg h1 63 2) then
  (retZ (0 : Int32) h1)
  else
  (if (hg h1 32 8) = (0 : Int32) then
  (retZ (0 : Int32) h1)
  else
  (bif okA 34 100 ((hg h1 32 8) - (1 : Int32)) then
  bI (F_Bp_bit x1 h1) fun v4 h3 =>
  bif okA 34 100 ((hg h1 32 8) - (1 : Int32)) then
  bH (hs h3 34 ((hg h1 32 8) - (1 : Int32)).toNatClampNeg ((hg h1 34 ((hg h1 32 8) - (1 : Int32)).toNatClampNeg) ||| v4)) fun h5 =>
  bH (hs h5 63 2 x1) fun h6 =>
  retZ (1 : Int32) h6
  else none
  else none)))
  else
  (retZ (0 : Int32) h1)
def sF_Re_takesTongue : List Value → Hp → Res Hp := fun as h => match as with | [.ref f0, .int x1] => (match Nat.beq f0 63 with | true => F_Re_takesTongue x1 h | false => none) | _ => none
theorem w_Re_takesTongue (x1 : Int32) (h : Hp) : sF_Re_takesTongue [.ref 63, .int x1] h = F_Re_takesTongue x1 h := rfl
def S_Re_takesTongue : Sem Hp := [(55, sF_Bp_noTongue), (64, sF_Bp_bit)]
set_option maxRecDepth 100000 in
theorem e_Re_takesTongue_0 (x1 : Int32) (h : Hp) : F_Re_takesTongue x1 h = exec1 OI S_Re_takesTongue 2 k_Re_takesTongue 0 [some (.ref 63), some (.int x1)] [] h (runF OI S_Re_takesTongue [] 2 k_Re_takesTongue 400) :=
  (x_bI (f := sF_Bp_noTongue) rfl (w_Bp_noTongue _ _) fun v2 h1 => (x_ite (x_ite rfl (x_ite rfl (x_bif (x_bI (f := sF_Bp_bit) rfl (w_Bp_bit _ _) fun v4 h3 => (x_bif (x_bH fun h5 => (x_bH fun h6 => rfl))))))) rfl))
def k_Bp_kindBy : List Ent := [(0, .iload_n 0, 1, [], .null), (1, .lookupswitch (71) #[(99, 61), (104, 59), (108, 65), (115, 63), (117, 67), (121, 69)], 59, [72, 99, 62, 104, 60, 108, 66, 115, 64, 117, 68, 121, 70], .null), (60, .iconst 0, 1, [], .int (0)), (61, .ireturn, 1, [], .null), (62, .iconst 1, 1, [], .int (1)), (63, .ireturn, 1, [], .null), (64, .iconst 2, 1, [], .int (2)), (65, .ireturn, 1, [], .null), (66, .iconst 3, 1, [], .int (3)), (67, .ireturn, 1, [], .null), (68, .iconst 4, 1, [], .int (4)), (69, .ireturn, 1, [], .null), (70, .iconst 5, 1, [], .int (5)), (71, .ireturn, 1, [], .null), (72, .bipush (-9), 2, [], .int (-9)), (74, .ireturn, 1, [], .null)]
def F_Bp_kindBy (x0 : Int32) (h : Hp) : Res Hp :=
  if x0 = (99 : Int32) then
  (retI (1 : Int32) h)
  else if x0 = (104 : Int32) then
  (retI (0 : Int32) h)
  else if x0 = (108 : Int32) then
  (retI (3 : Int32) h)
  else if x0 = (115 : Int32) then
  (retI (2 : Int32) h)
  else if x0 = (117 : Int32) then
  (retI (4 : Int32) h)
  else if x0 = (121 : Int32) then
  (retI (5 : Int32) h)
  else 
  (retI (-9 : Int32) h)
def sF_Bp_kindBy : List Value → Hp → Res Hp := fun as h => match as with | [.int x0] => F_Bp_kindBy x0 h | _ => none
theorem w_Bp_kindBy (x0 : Int32) (h : Hp) : sF_Bp_kindBy [.int x0] h = F_Bp_kindBy x0 h := rfl
def S_Bp_kindBy : Sem Hp := []
set_option maxRecDepth 100000 in
theorem e_Bp_kindBy_0 (x0 : Int32) (h : Hp) : F_Bp_kindBy x0 h = exec1 OI S_Bp_kindBy 1 k_Bp_kindBy 0 [some (.int x0)] [] h (runF OI S_Bp_kindBy [] 1 k_Bp_kindBy 400) :=
  (x_ite rfl (x_ite rfl (x_ite rfl (x_ite rfl (x_ite rfl (x_ite rfl rfl))))))
def k_La_addHand : List Ent := [(0, .aload_n 0, 1, [], .null), (1, .getfield 41, 3, [0, 8, 0], .null), (4, .bipush (7), 2, [], .int (7)), (6, .if_icmp .ge (33), 3, [39], .null), (9, .aload_n 0, 1, [], .null), (10, .getfield 9, 3, [0, 0, 1], .null), (13, .aload_n 0, 1, [], .null), (14, .getfield 41, 3, [0, 8, 0], .null), (17, .iload_n 1, 1, [], .null), (18, .iastore, 1, [], .null), (19, .aload_n 0, 1, [], .null), (20, .getfield 15, 3, [0, 1, 1], .null), (23, .aload_n 0, 1, [], .null), (24, .getfield 41, 3, [0, 8, 0], .null), (27, .iconst 0, 1, [], .int (0)), (28, .iastore, 1, [], .null), (29, .aload_n 0, 1, [], .null), (30, .dup, 1, [], .null), (31, .getfield 41, 3, [0, 8, 0], .null), (34, .iconst 1, 1, [], .int (1)), (35, .iadd, 1, [], .null), (36, .putfield 41, 3, [0, 8, 0], .null), (39, .return_, 1, [], .null)]
def F_La_addHand (o0 : Nat) (x1 : Int32) (h : Hp) : Res Hp :=
  bif okF o0 0 8 0 then
  if (7 : Int32) ≤ (hg h o0 8) then
  (retV h)
  else
  (bif okF o0 0 0 1 then
  bif okF o0 0 8 0 then
  bif okA (shR o0 0) 100 (hg h o0 8) then
  bH (hs h (shR o0 0) (hg h o0 8).toNatClampNeg x1) fun h1 =>
  bif okF o0 0 1 1 then
  bif okF o0 0 8 0 then
  bif okA (shR o0 1) 100 (hg h1 o0 8) then
  bH (hs h1 (shR o0 1) (hg h1 o0 8).toNatClampNeg (0 : Int32)) fun h2 =>
  bif okF o0 0 8 0 then
  bif okF o0 0 8 0 then
  bH (hs h2 o0 8 ((hg h2 o0 8) + (1 : Int32))) fun h3 =>
  retV h3
  else none
  else none
  else none
  else none
  else none
  else none
  else none
  else none)
  else none
def sF_La_addHand : List Value → Hp → Res Hp := fun as h => match as with | [.ref o0, .int x1] => F_La_addHand o0 x1 h | _ => none
theorem w_La_addHand (o0 : Nat) (x1 : Int32) (h : Hp) : sF_La_addHand [.ref o0, .int x1] h = F_La_addHand o0 x1 h := rfl
def S_La_addHand : Sem Hp := []
set_option maxRecDepth 100000 in
theorem e_La_addHand_0 (o0 : Nat) (x1 : Int32) (h : Hp) : F_La_addHand o0 x1 h = exec1 OI S_La_addHand 0 k_La_addHand 0 [some (.ref o0), some (.int x1)] [] h (runF OI S_La_addHand [] 0 k_La_addHand 400) :=
  (x_bif (x_ite rfl (x_bif (x_bif (x_bif (x_bH fun h1 => (x_bif (x_bif (x_bif (x_bH fun h2 => (x_bif (x_bif (x_bH fun h3 => rfl)))))))))))))
def k_Re_takesStart : List Ent := [(0, .iload_n 1, 1, [], .null), (1, .bipush (32), 2, [], .int (32)), (3, .if_icmp .ne (10), 3, [13], .null), (6, .aload_n 0, 1, [], .null), (7, .iconst 0, 1, [], .int (0)), (8, .putfield 11, 3, [3, 1, 0], .null), (11, .iconst 1, 1, [], .int (1)), (12, .ireturn, 1, [], .null), (13, .iload_n 1, 1, [], .null), (14, .bipush (109), 2, [], .int (109)), (16, .if_icmp .ne (26), 3, [42], .null), (19, .aload_n 0, 1, [], .null), (20, .iconst 2, 1, [], .int (2)), (21, .putfield 11, 3, [3, 1, 0], .null), (24, .aload_n 0, 1, [], .null), (25, .getfield 24, 3, [3, 0, 1], .null), (28, .getfield 61, 3, [0, 9, 0], .null), (31, .bipush (16), 2, [], .int (16)), (33, .if_icmp .ge (7), 3, [40], .null), (36, .iconst 1, 1, [], .int (1)), (37, .goto (4), 3, [41], .null), (40, .iconst 0, 1, [], .int (0)), (41, .ireturn, 1, [], .null), (42, .iload_n 1, 1, [], .null), (43, .invokestatic 64, 3, [68, 1, 1], .null), (46, .istore_n 2, 1, [], .null), (47, .iload_n 2, 1, [], .null), (48, .bipush (-9), 2, [], .int (-9)), (50, .if_icmp .eq (25), 3, [75], .null), (53, .aload_n 0, 1, [], .null), (54, .getfield 24, 3, [3, 0, 1], .null), (57, .getfield 61, 3, [0, 9, 0], .null), (60, .ifCond .gt (15), 3, [75], .null), (63, .aload_n 0, 1, [], .null), (64, .getfield 24, 3, [3, 0, 1], .null), (67, .getfield 68, 3, [0, 8, 0], .null), (70, .bipush (7), 2, [], .int (7)), (72, .if_icmp .lt (5), 3, [77], .null), (75, .iconst 0, 1, [], .int (0)), (76, .ireturn, 1, [], .null), (77, .aload_n 0, 1, [], .null), (78, .getfield 24, 3, [3, 0, 1], .null), (81, .iload_n 2, 1, [], .null), (82, .invokevirtual 71, 3, [176, 2, 0], .null), (85, .aload_n 0, 1, [], .null), (86, .iconst 1, 1, [], .int (1)), (87, .putfield 11, 3, [3, 1, 0], .null), (90, .aload_n 0, 1, [], .null), (91, .bipush (-9), 2, [], .int (-9)), (93, .putfield 15, 3, [3, 2, 0], .null), (96, .iconst 1, 1, [], .int (1)), (97, .ireturn, 1, [], .null)]
def F_Re_takesStart (x1 : Int32) (h : Hp) : Res Hp :=
  if x1 = (32 : Int32) then
  (bH (hs h 63 1 (0 : Int32)) fun h7 =>
  retZ (1 : Int32) h7)
  else
  (if x1 = (109 : Int32) then
  (bH (hs h 63 1 (2 : Int32)) fun h6 =>
  if (16 : Int32) ≤ (hg h6 32 9) then
  (retZ (0 : Int32) h6)
  else
  (retZ (1 : Int32) h6))
  else
  (bI (F_Bp_kindBy x1 h) fun v2 h1 =>
  if v2 = (-9 : Int32) then
  (retZ (0 : Int32) h1)
  else
  (if (0 : Int32) < (hg h1 32 9) then
  (retZ (0 : Int32) h1)
  else
  (if (hg h1 32 8) < (7 : Int32) then
  (bV (F_La_addHand 32 v2 h1) fun h3 =>
  bH (hs h3 63 1 (1 : Int32)) fun h4 =>
  bH (hs h4 63 2 (-9 : Int32)) fun h5 =>
  retZ (1 : Int32) h5)
  else
  (retZ (0 : Int32) h1)))))
def sF_Re_takesStart : List Value → Hp → Res Hp := fun as h => match as with | [.ref f0, .int x1] => (match Nat.beq f0 63 with | true => F_Re_takesStart x1 h | false => none) | _ => none
theorem w_Re_takesStart (x1 : Int32) (h : Hp) : sF_Re_takesStart [.ref 63, .int x1] h = F_Re_takesStart x1 h := rfl
def S_Re_takesStart : Sem Hp := [(68, sF_Bp_kindBy), (176, sF_La_addHand)]
set_option maxRecDepth 100000 in
theorem e_Re_takesStart_0 (x1 : Int32) (h : Hp) : F_Re_takesStart x1 h = exec1 OI S_Re_takesStart 2 k_Re_takesStart 0 [some (.ref 63), some (.int x1), none] [] h (runF OI S_Re_takesStart [] 2 k_Re_takesStart 400) :=
  (x_ite (x_bH fun h7 => rfl) (x_ite (x_bH fun h6 => (x_ite rfl rfl)) (x_bI (f := sF_Bp_kindBy) rfl (w_Bp_kindBy _ _) fun v2 h1 => (x_ite rfl (x_ite rfl (x_ite (x_bV (f := sF_La_addHand) rfl (w_La_addHand _ _ _) fun h3 => (x_bH fun h4 => (x_bH fun h5 => rfl))) rfl))))))
def k_La_lacks : List Ent := [(0, .iload_n 1, 1, [], .null), (1, .ifCond .lt (11), 3, [12], .null), (4, .iload_n 1, 1, [], .null), (5, .aload_n 0, 1, [], .null), (6, .getfield 41, 3, [0, 8, 0], .null), (9, .if_icmp .lt (7), 3, [16], .null), (12, .iconst 1, 1, [], .int (1)), (13, .goto (4), 3, [17], .null), (16, .iconst 0, 1, [], .int (0)), (17, .ireturn, 1, [], .null)]
def F_La_lacks (o0 : Nat) (x1 : Int32) (h : Hp) : Res Hp :=
  if x1 < (0 : Int32) then
  (retZ (1 : Int32) h)
  else
  (bif okF o0 0 8 0 then
  if x1 < (hg h o0 8) then
  (retZ (0 : Int32) h)
  else
  (retZ (1 : Int32) h)
  else none)
def sF_La_lacks : List Value → Hp → Res Hp := fun as h => match as with | [.ref o0, .int x1] => F_La_lacks o0 x1 h | _ => none
theorem w_La_lacks (o0 : Nat) (x1 : Int32) (h : Hp) : sF_La_lacks [.ref o0, .int x1] h = F_La_lacks o0 x1 h := rfl
def S_La_lacks : Sem Hp := []
set_option maxRecDepth 100000 in
theorem e_La_lacks_0 (o0 : Nat) (x1 : Int32) (h : Hp) : F_La_lacks o0 x1 h = exec1 OI S_La_lacks 2 k_La_lacks 0 [some (.ref o0), some (.int x1)] [] h (runF OI S_La_lacks [] 2 k_La_lacks 400) :=
  (x_ite rfl (x_bif (x_ite rfl rfl)))
def k_Re_takesOne : List Ent := [(0, .aload_n 0, 1, [], .null), (1, .iload_n 1, 1, [], .null), (2, .putfield 18, 3, [3, 3, 0], .null), (5, .aload_n 0, 1, [], .null), (6, .iconst 3, 1, [], .int (3)), (7, .putfield 11, 3, [3, 1, 0], .null), (10, .aload_n 0, 1, [], .null), (11, .getfield 24, 3, [3, 0, 1], .null), (14, .iload_n 1, 1, [], .null), (15, .invokevirtual 84, 3, [175, 2, 2], .null), (18, .ifCond .ne (7), 3, [25], .null), (21, .iconst 1, 1, [], .int (1)), (22, .goto (4), 3, [26], .null), (25, .iconst 0, 1, [], .int (0)), (26, .ireturn, 1, [], .null)]
def F_Re_takesOne (x1 : Int32) (h : Hp) : Res Hp :=
  bH (hs h 63 3 x1) fun h1 =>
  bH (hs h1 63 1 (3 : Int32)) fun h2 =>
  bI (F_La_lacks 32 x1 h2) fun v4 h3 =>
  if v4 = (0 : Int32) then
  (retZ (1 : Int32) h3)
  else
  (retZ (0 : Int32) h3)
def sF_Re_takesOne : List Value → Hp → Res Hp := fun as h => match as with | [.ref f0, .int x1] => (match Nat.beq f0 63 with | true => F_Re_takesOne x1 h | false => none) | _ => none
theorem w_Re_takesOne (x1 : Int32) (h : Hp) : sF_Re_takesOne [.ref 63, .int x1] h = F_Re_takesOne x1 h := rfl
def S_Re_takesOne : Sem Hp := [(175, sF_La_lacks)]
set_option maxRecDepth 100000 in
theorem e_Re_takesOne_0 (x1 : Int32) (h : Hp) : F_Re_takesOne x1 h = exec1 OI S_Re_takesOne 2 k_Re_takesOne 0 [some (.ref 63), some (.int x1)] [] h (runF OI S_Re_takesOne [] 2 k_Re_takesOne 400) :=
  (x_bH fun h1 => (x_bH fun h2 => (x_bI (f := sF_La_lacks) rfl (w_La_lacks _ _ _) fun v4 h3 => (x_ite rfl rfl))))
def k_Re_takesOther : List Ent := [(0, .aload_n 0, 1, [], .null), (1, .iload_n 1, 1, [], .null), (2, .putfield 21, 3, [3, 4, 0], .null), (5, .aload_n 0, 1, [], .null), (6, .iconst 4, 1, [], .int (4)), (7, .putfield 11, 3, [3, 1, 0], .null), (10, .aload_n 0, 1, [], .null), (11, .getfield 24, 3, [3, 0, 1], .null), (14, .iload_n 1, 1, [], .null), (15, .invokevirtual 84, 3, [175, 2, 2], .null), (18, .ifCond .ne (15), 3, [33], .null), (21, .iload_n 1, 1, [], .null), (22, .aload_n 0, 1, [], .null), (23, .getfield 18, 3, [3, 3, 0], .null), (26, .if_icmp .eq (7), 3, [33], .null), (29, .iconst 1, 1, [], .int (1)), (30, .goto (4), 3, [34], .null), (33, .iconst 0, 1, [], .int (0)), (34, .ireturn, 1, [], .null)]
def F_Re_takesOther (x1 : Int32) (h : Hp) : Res Hp :=
  bH (hs h 63 4 x1) fun h1 =>
  bH (hs h1 63 1 (4 : Int32)) fun h2 =>
  bI (F_La_lacks 32 x1 h2) fun v4 h3 =>
  if v4 = (0 : Int32) then
  (if x1 = (hg h3 63 3) then
  (retZ (0 : Int32) h3)
  else
  (retZ (1 : Int32) h3))
  else
  (retZ (0 : Int32) h3)
def sF_Re_takesOther : List Value → Hp → Res Hp := fun as h => match as with | [.ref f0, .int x1] => (match Nat.beq f0 63 with | true => F_Re_takesOther x1 h | false => none) | _ => none
theorem w_Re_takesOther (x1 : Int32) (h : Hp) : sF_Re_takesOther [.ref 63, .int x1] h = F_Re_takesOther x1 h := rfl
def S_Re_takesOther : Sem Hp := [(175, sF_La_lacks)]
set_option maxRecDepth 100000 in
theorem e_Re_takesOther_0 (x1 : Int32) (h : Hp) : F_Re_takesOther x1 h = exec1 OI S_Re_takesOther 2 k_Re_takesOther 0 [some (.ref 63), some (.int x1)] [] h (runF OI S_Re_takesOther [] 2 k_Re_takesOther 400) :=
  (x_bH fun h1 => (x_bH fun h2 => (x_bI (f := sF_La_lacks) rfl (w_La_lacks _ _ _) fun v4 h3 => (x_ite (x_ite rfl rfl) rfl))))
def k_La_addMeeting : List Ent := [(0, .aload_n 0, 1, [], .null), (1, .getfield 45, 3, [0, 9, 0], .null), (4, .bipush (16), 2, [], .int (16)), (6, .if_icmp .ge (50), 3, [56], .null), (9, .aload_n 0, 1, [], .null), (10, .getfield 18, 3, [0, 2, 1], .null), (13, .aload_n 0, 1, [], .null), (14, .getfield 45, 3, [0, 9, 0], .null), (17, .iload_n 1, 1, [], .null), (18, .iastore, 1, [], .null), (19, .aload_n 0, 1, [], .null), (20, .getfield 21, 3, [0, 3, 1], .null), (23, .aload_n 0, 1, [], .null), (24, .getfield 45, 3, [0, 9, 0], .null), (27, .iload_n 2, 1, [], .null), (28, .iastore, 1, [], .null), (29, .aload_n 0, 1, [], .null), (30, .getfield 24, 3, [0, 4, 1], .null), (33, .aload_n 0, 1, [], .null), (34, .getfield 45, 3, [0, 9, 0], .null), (37, .iload_n 3, 1, [], .null), (38, .iastore, 1, [], .null), (39, .aload_n 0, 1, [], .null), (40, .iload_n 1, 1, [], .null), (41, .iload_n 2, 1, [], .null), (42, .iload_n 3, 1, [], .null), (43, .invokevirtual 68, 3, [178, 4, 0], .null), (46, .aload_n 0, 1, [], .null), (47, .dup, 1, [], .null), (48, .getfield 45, 3, [0, 9, 0], .null), (51, .iconst 1, 1, [], .int (1)), (52, .iadd, 1, [], .null), (53, .putfield 45, 3, [0, 9, 0], .null), (56, .return_, 1, [], .null)]
def F_La_addMeeting (o0 : Nat) (x1 : Int32) (x2 : Int32) (x3 : Int32) (h : Hp) : Res Hp :=
  bif okF o0 0 9 0 then
  if (16 : Int32) ≤ (hg h o0 9) then
  (retV h)
  else
  (bif okF o0 0 2 1 then
  bif okF o0 0 9 0 then
  bif okA (shR o0 2) 100 (hg h o0 9) then
  bH (hs h (shR o0 2) (hg h o0 9).toNatClampNeg x1) fun h1 =>
  bif okF o0 0 3 1 then
  bif okF o0 0 9 0 then
  bif okA (shR o0 3) 100 (hg h1 o0 9) then
  bH (hs h1 (shR o0 3) (hg h1 o0 9).toNatClampNeg x2) fun h2 =>
  bif okF o0 0 4 1 then
  bif okF o0 0 9 0 then
  bif okA (shR o0 4) 100 (hg h2 o0 9) then
  bH (hs h2 (shR o0 4) (hg h2 o0 9).toNatClampNeg x3) fun h3 =>
  bV (F_La_tie o0 x1 x2 x3 h3) fun h4 =>
  bif okF o0 0 9 0 then
  bif okF o0 0 9 0 then
  bH (hs h4 o0 9 ((hg h4 o0 9) + (1 : Int32))) fun h5 =>
  retV h5
  else none
  else none
  else none
  else none
  else none
  else none
  else none
  else none
  else none
  else none
  else none)
  else none
def sF_La_addMeeting : List Value → Hp → Res Hp := fun as h => match as with | [.ref o0, .int x1, .int x2, .int x3] => F_La_addMeeting o0 x1 x2 x3 h | _ => none
theorem w_La_addMeeting (o0 : Nat) (x1 : Int32) (x2 : Int32) (x3 : Int32) (h : Hp) : sF_La_addMeeting [.ref o0, .int x1, .int x2, .int x3] h = F_La_addMeeting o0 x1 x2 x3 h := rfl
def S_La_addMeeting : Sem Hp := [(178, sF_La_tie)]
set_option maxRecDepth 100000 in
theorem e_La_addMeeting_0 (o0 : Nat) (x1 : Int32) (x2 : Int32) (x3 : Int32) (h : Hp) : F_La_addMeeting o0 x1 x2 x3 h = exec1 OI S_La_addMeeting 0 k_La_addMeeting 0 [some (.ref o0), some (.int x1), some (.int x2), some (.int x3)] [] h (runF OI S_La_addMeeting [] 0 k_La_addMeeting 400) :=
  (x_bif (x_ite rfl (x_bif (x_bif (x_bif (x_bH fun h1 => (x_bif (x_bif (x_bif (x_bH fun h2 => (x_bif (x_bif (x_bif (x_bH fun h3 => (x_bV (f := sF_La_tie) rfl (w_La_tie _ _ _ _ _) fun h4 => (x_bif (x_bif (x_bH fun h5 => rfl))))))))))))))))))
def k_Re_takesTime : List Ent := [(0, .iload_n 1, 1, [], .null), (1, .ifCond .lt (9), 3, [10], .null), (4, .iload_n 1, 1, [], .null), (5, .bipush (8), 2, [], .int (8)), (7, .if_icmp .lt (5), 3, [12], .null), (10, .iconst 0, 1, [], .int (0)), (11, .ireturn, 1, [], .null), (12, .aload_n 0, 1, [], .null), (13, .getfield 24, 3, [3, 0, 1], .null), (16, .aload_n 0, 1, [], .null), (17, .getfield 18, 3, [3, 3, 0], .null), (20, .aload_n 0, 1, [], .null), (21, .getfield 21, 3, [3, 4, 0], .null), (24, .iload_n 1, 1, [], .null), (25, .invokevirtual 87, 3, [177, 4, 0], .null), (28, .aload_n 0, 1, [], .null), (29, .iconst 0, 1, [], .int (0)), (30, .putfield 11, 3, [3, 1, 0], .null), (33, .iconst 1, 1, [], .int (1)), (34, .ireturn, 1, [], .null)]
def F_Re_takesTime (x1 : Int32) (h : Hp) : Res Hp :=
  if x1 < (0 : Int32) then
  (retZ (0 : Int32) h)
  else
  (if x1 < (8 : Int32) then
  (bV (F_La_addMeeting 32 (hg h 63 3) (hg h 63 4) x1 h) fun h1 =>
  bH (hs h1 63 1 (0 : Int32)) fun h2 =>
  retZ (1 : Int32) h2)
  else
  (retZ (0 : Int32) h))
def sF_Re_takesTime : List Value → Hp → Res Hp := fun as h => match as with | [.ref f0, .int x1] => (match Nat.beq f0 63 with | true => F_Re_takesTime x1 h | false => none) | _ => none
theorem w_Re_takesTime (x1 : Int32) (h : Hp) : sF_Re_takesTime [.ref 63, .int x1] h = F_Re_takesTime x1 h := rfl
def S_Re_takesTime : Sem Hp := [(177, sF_La_addMeeting)]
set_option maxRecDepth 100000 in
theorem e_Re_takesTime_0 (x1 : Int32) (h : Hp) : F_Re_takesTime x1 h = exec1 OI S_Re_takesTime 2 k_Re_takesTime 0 [some (.ref 63), some (.int x1)] [] h (runF OI S_Re_takesTime [] 2 k_Re_takesTime 400) :=
  (x_ite rfl (x_ite (x_bV (f := sF_La_addMeeting) rfl (w_La_addMeeting _ _ _ _ _) fun h1 => (x_bH fun h2 => rfl)) rfl))
def k_Re_takes : List Ent := [(0, .iload_n 1, 1, [], .null), (1, .bipush (48), 2, [], .int (48)), (3, .if_icmp .lt (16), 3, [19], .null), (6, .iload_n 1, 1, [], .null), (7, .bipush (57), 2, [], .int (57)), (9, .if_icmp .gt (10), 3, [19], .null), (12, .iload_n 1, 1, [], .null), (13, .bipush (48), 2, [], .int (48)), (15, .isub, 1, [], .null), (16, .goto (5), 3, [21], .null), (19, .bipush (-9), 2, [], .int (-9)), (21, .istore_n 2, 1, [], .null), (22, .aload_n 0, 1, [], .null), (23, .getfield 11, 3, [3, 1, 0], .null), (26, .tableswitch (70) 1 4 #[30, 52, 58, 64], 30, [96, 1, 56, 2, 78, 3, 84, 4, 90], .null), (56, .aload_n 0, 1, [], .null), (57, .iload_n 2, 1, [], .null), (58, .invokevirtual 46, 3, [220, 2, 2], .null), (61, .ifCond .ne (11), 3, [72], .null), (64, .aload_n 0, 1, [], .null), (65, .iload_n 1, 1, [], .null), (66, .invokevirtual 49, 3, [219, 2, 2], .null), (69, .ifCond .eq (7), 3, [76], .null), (72, .iconst 1, 1, [], .int (1)), (73, .goto (4), 3, [77], .null), (76, .iconst 0, 1, [], .int (0)), (77, .ireturn, 1, [], .null), (78, .aload_n 0, 1, [], .null), (79, .iload_n 2, 1, [], .null), (80, .invokevirtual 52, 3, [221, 2, 2], .null), (83, .ireturn, 1, [], .null), (84, .aload_n 0, 1, [], .null), (85, .iload_n 2, 1, [], .null), (86, .invokevirtual 55, 3, [222, 2, 2], .null), (89, .ireturn, 1, [], .null), (90, .aload_n 0, 1, [], .null), (91, .iload_n 2, 1, [], .null), (92, .invokevirtual 58, 3, [223, 2, 2], .null), (95, .ireturn, 1, [], .null), (96, .aload_n 0, 1, [], .null), (97, .iload_n 1, 1, [], .null), (98, .invokevirtual 49, 3, [219, 2, 2], .null), (101, .ireturn, 1, [], .null)]
def F_Re_takes (x1 : Int32) (h : Hp) : Res Hp :=
  if x1 < (48 : Int32) then
  (if (hg h 63 1) = (1 : Int32) then
  (bI (F_Re_takesTongue (-9 : Int32) h) fun v2 h1 =>
  if v2 = (0 : Int32) then
  (bI (F_Re_takesStart x1 h1) fun v4 h3 =>
  if v4 = (0 : Int32) then
  (retZ (0 : Int32) h3)
  else
  (retZ (1 : Int32) h3))
  else
  (retZ (1 : Int32) h1))
  else if (hg h 63 1) = (2 : Int32) then
  (bI (F_Re_takesOne (-9 : Int32) h) fun v6 h5 =>
  retZ v6 h5)
  else if (hg h 63 1) = (3 : Int32) then
  (bI (F_Re_takesOther (-9 : Int32) h) fun v8 h7 =>
  retZ v8 h7)
  else if (hg h 63 1) = (4 : Int32) then
  (bI (F_Re_takesTime (-9 : Int32) h) fun v10 h9 =>
  retZ v10 h9)
  else 
  (bI (F_Re_takesStart x1 h) fun v12 h11 =>
  retZ v12 h11))
  else
  (if (57 : Int32) < x1 then
  (if (hg h 63 1) = (1 : Int32) then
  (bI (F_Re_takesTongue (-9 : Int32) h) fun v14 h13 =>
  if v14 = (0 : Int32) then
  (bI (F_Re_takesStart x1 h13) fun v16 h15 =>
  if v16 = (0 : Int32) then
  (retZ (0 : Int32) h15)
  else
  (retZ (1 : Int32) h15))
  else
  (retZ (1 : Int32) h13))
  else if (hg h 63 1) = (2 : Int32) then
  (bI (F_Re_takesOne (-9 : Int32) h) fun v18 h17 =>
  retZ v18 h17)
  else if (hg h 63 1) = (3 : Int32) then
  (bI (F_Re_takesOther (-9 : Int32) h) fun v20 h19 =>
  retZ v20 h19)
  else if (hg h 63 1) = (4 : Int32) then
  (bI (F_Re_takesTime (-9 : Int32) h) fun v22 h21 =>
  retZ v22 h21)
  else 
  (bI (F_Re_takesStart x1 h) fun v24 h23 =>
  retZ v24 h23))
  else
  (if (hg h 63 1) = (1 : Int32) then
  (bI (F_Re_takesTongue (x1 - (48 : Int32)) h) fun v26 h25 =>
  if v26 = (0 : Int32) then
  (bI (F_Re_takesStart x1 h25) fun v28 h27 =>
  if v28 = (0 : Int32) then
  (retZ (0 : Int32) h27)
  else
  (retZ (1 : Int32) h27))
  else
  (retZ (1 : Int32) h25))
  else if (hg h 63 1) = (2 : Int32) then
  (bI (F_Re_takesOne (x1 - (48 : Int32)) h) fun v30 h29 =>
  retZ v30 h29)
  else if (hg h 63 1) = (3 : Int32) then
  (bI (F_Re_takesOther (x1 - (48 : Int32)) h) fun v32 h31 =>
  retZ v32 h31)
  else if (hg h 63 1) = (4 : Int32) then
  (bI (F_Re_takesTime (x1 - (48 : Int32)) h) fun v34 h33 =>
  retZ v34 h33)
  else 
  (bI (F_Re_takesStart x1 h) fun v36 h35 =>
  retZ v36 h35)))
def sF_Re_takes : List Value → Hp → Res Hp := fun as h => match as with | [.ref f0, .int x1] => (match Nat.beq f0 63 with | true => F_Re_takes x1 h | false => none) | _ => none
theorem w_Re_takes (x1 : Int32) (h : Hp) : sF_Re_takes [.ref 63, .int x1] h = F_Re_takes x1 h := rfl
def S_Re_takes : Sem Hp := [(220, sF_Re_takesTongue), (219, sF_Re_takesStart), (221, sF_Re_takesOne), (222, sF_Re_takesOther), (223, sF_Re_takesTime)]
set_option maxRecDepth 100000 in
theorem e_Re_takes_0 (x1 : Int32) (h : Hp) : F_Re_takes x1 h = exec1 OI S_Re_takes 2 k_Re_takes 0 [some (.ref 63), some (.int x1), none] [] h (runF OI S_Re_takes [] 2 k_Re_takes 400) :=
  (x_ite (x_ite (x_bI (f := sF_Re_takesTongue) rfl (w_Re_takesTongue _ _) fun v2 h1 => (x_ite (x_bI (f := sF_Re_takesStart) rfl (w_Re_takesStart _ _) fun v4 h3 => (x_ite rfl rfl)) rfl)) (x_ite (x_bI (f := sF_Re_takesOne) rfl (w_Re_takesOne _ _) fun v6 h5 => rfl) (x_ite (x_bI (f := sF_Re_takesOther) rfl (w_Re_takesOther _ _) fun v8 h7 => rfl) (x_ite (x_bI (f := sF_Re_takesTime) rfl (w_Re_takesTime _ _) fun v10 h9 => rfl) (x_bI (f := sF_Re_takesStart) rfl (w_Re_takesStart _ _) fun v12 h11 => rfl))))) (x_ite (x_ite (x_bI (f := sF_Re_takesTongue) rfl (w_Re_takesTongue _ _) fun v14 h13 => (x_ite (x_bI (f := sF_Re_takesStart) rfl (w_Re_takesStart _ _) fun v16 h15 => (x_ite rfl rfl)) rfl)) (x_ite (x_bI (f := sF_Re_takesOne) rfl (w_Re_takesOne _ _) fun v18 h17 => rfl) (x_ite (x_bI (f := sF_Re_takesOther) rfl (w_Re_takesOther _ _) fun v20 h19 => rfl) (x_ite (x_bI (f := sF_Re_takesTime) rfl (w_Re_takesTime _ _) fun v22 h21 => rfl) (x_bI (f := sF_Re_takesStart) rfl (w_Re_takesStart _ _) fun v24 h23 => rfl))))) (x_ite (x_bI (f := sF_Re_takesTongue) rfl (w_Re_takesTongue _ _) fun v26 h25 => (x_ite (x_bI (f := sF_Re_takesStart) rfl (w_Re_takesStart _ _) fun v28 h27 => (x_ite rfl rfl)) rfl)) (x_ite (x_bI (f := sF_Re_takesOne) rfl (w_Re_takesOne _ _) fun v30 h29 => rfl) (x_ite (x_bI (f := sF_Re_takesOther) rfl (w_Re_takesOther _ _) fun v32 h31 => rfl) (x_ite (x_bI (f := sF_Re_takesTime) rfl (w_Re_takesTime _ _) fun v34 h33 => rfl) (x_bI (f := sF_Re_takesStart) rfl (w_Re_takesStart _ _) fun v36 h35 => rfl)))))))
def k_Re_faultOf : List Ent := [(0, .aload_n 0, 1, [], .null), (1, .getfield 24, 3, [3, 0, 1], .null), (4, .invokevirtual 28, 3, [173, 1, 0], .null), (7, .aload_n 0, 1, [], .null), (8, .iconst 0, 1, [], .int (0)), (9, .putfield 11, 3, [3, 1, 0], .null), (12, .iconst 0, 1, [], .int (0)), (13, .istore_n 2, 1, [], .null), (14, .iload_n 2, 1, [], .null), (15, .aload_n 1, 1, [], .null), (16, .getfield 33, 3, [4, 1, 0], .null), (19, .if_icmp .ge (24), 3, [43], .null), (22, .aload_n 0, 1, [], .null), (23, .aload_n 1, 1, [], .null), (24, .getfield 38, 3, [4, 0, 1], .null), (27, .iload_n 2, 1, [], .null), (28, .iaload, 1, [], .null), (29, .invokevirtual 42, 3, [218, 2, 2], .null), (32, .ifCond .ne (5), 3, [37], .null), (35, .iload_n 2, 1, [], .null), (36, .ireturn, 1, [], .null), (37, .iinc 2 (1), 3, [], .int (1)), (40, .goto (-26), 3, [14], .null), (43, .aload_n 0, 1, [], .null), (44, .getfield 11, 3, [3, 1, 0], .null), (47, .iconst 2, 1, [], .int (2)), (48, .if_icmp .lt (10), 3, [58], .null), (51, .aload_n 1, 1, [], .null), (52, .getfield 33, 3, [4, 1, 0], .null), (55, .goto (5), 3, [60], .null), (58, .bipush (-9), 2, [], .int (-9)), (60, .ireturn, 1, [], .null)]
def Re_faultOf_14  (o1 : Nat)  : (Int32 × Hp) → ((Int32 × Hp) → Res Hp) → Res Hp := fun s κ14 => match s with
  | (x2, h) =>
  bif okF o1 4 1 0 then
  if (hg h o1 1) ≤ x2 then
  (if (hg h 63 1) < (2 : Int32) then
  (retI (-9 : Int32) h)
  else
  (bif okF o1 4 1 0 then
  retI (hg h o1 1) h
  else none))
  else
  (bif okF o1 4 0 1 then
  bif okA (shR o1 0) 100 x2 then
  bI (F_Re_takes (hg h (shR o1 0) x2.toNatClampNeg) h) fun v2 h1 =>
  if v2 = (0 : Int32) then
  (retI x2 h1)
  else
  (κ14 ((x2 + (1 : Int32)), h1))
  else none
  else none)
  else none
def F_Re_faultOf (o1 : Nat) (h : Hp) : Res Hp :=
  bV (F_La_clear 32 h) fun h1 =>
  bH (hs h1 63 1 (0 : Int32)) fun h2 =>
  loopC (Re_faultOf_14  o1 ) FU ((0 : Int32), h2)
def sF_Re_faultOf : List Value → Hp → Res Hp := fun as h => match as with | [.ref f0, .ref o1] => (match Nat.beq f0 63 with | true => F_Re_faultOf o1 h | false => none) | _ => none
theorem w_Re_faultOf (o1 : Nat) (h : Hp) : sF_Re_faultOf [.ref 63, .ref o1] h = F_Re_faultOf o1 h := rfl
def S_Re_faultOf : Sem Hp := [(173, sF_La_clear), (218, sF_Re_takes)]
set_option maxRecDepth 100000 in
theorem e_Re_faultOf_0 (o1 : Nat) (h : Hp) : F_Re_faultOf o1 h = exec1 OI S_Re_faultOf 1 k_Re_faultOf 0 [some (.ref 63), some (.ref o1), none] [] h (runF OI S_Re_faultOf [(14, [0, 1, 2], fun vs st h => match vs, st with | [.ref f0, .ref o1, .int x2], [] => (match Nat.beq f0 63 with | true => loopC (Re_faultOf_14  o1 ) FU (x2, h) | false => none) | _, _ => none)] 1 k_Re_faultOf 400) :=
  (x_bV (f := sF_La_clear) rfl (w_La_clear _ _) fun h1 => (x_bH fun h2 => rfl))
set_option maxRecDepth 100000 in
theorem e_Re_faultOf_14 (κ14 : (Int32 × Hp) → Res Hp) (o1 : Nat) (x2 : Int32)  (h : Hp) : Re_faultOf_14  o1  (x2, h) κ14 = exec1 OI S_Re_faultOf 1 k_Re_faultOf 14 [some (.ref 63), some (.ref o1), some (.int x2)] [] h (runF OI S_Re_faultOf [(14, [0, 1, 2], fun vs st h => match vs, st with | [.ref f0, .ref o1, .int x2], [] => (match Nat.beq f0 63 with | true => κ14 (x2, h) | false => none) | _, _ => none)] 1 k_Re_faultOf 400) :=
  (x_bif (x_ite (x_ite rfl (x_bif rfl)) (x_bif (x_bif (x_bI (f := sF_Re_takes) rfl (w_Re_takes _ _) fun v2 h1 => (x_ite rfl rfl))))))
def k_Bp_fault : List Ent := [(0, .iload_n 1, 1, [], .null), (1, .invokestatic 117, 3, [53, 1, 2], .null), (4, .ifCond .eq (5), 3, [9], .null), (7, .iconst (-1), 1, [], .int (-1)), (8, .ireturn, 1, [], .null), (9, .aload_n 0, 1, [], .null), (10, .getfield 15, 3, [6, 1, 1], .null), (13, .iload_n 1, 1, [], .null), (14, .aaload, 1, [], .null), (15, .invokevirtual 96, 3, [225, 1, 2], .null), (18, .ifCond .ne (9), 3, [27], .null), (21, .aload_n 0, 1, [], .null), (22, .iconst 1, 1, [], .int (1)), (23, .invokevirtual 79, 3, [50, 2, 1], .null), (26, .ireturn, 1, [], .null), (27, .aload_n 0, 1, [], .null), (28, .getfield 41, 3, [6, 6, 1], .null), (31, .aload_n 0, 1, [], .null), (32, .getfield 15, 3, [6, 1, 1], .null), (35, .iload_n 1, 1, [], .null), (36, .aaload, 1, [], .null), (37, .invokevirtual 120, 3, [217, 2, 1], .null), (40, .ireturn, 1, [], .null)]
def F_Bp_fault (x1 : Int32) (h : Hp) : Res Hp :=
  bI (F_Bp_noText x1 h) fun v2 h1 =>
  if v2 = (0 : Int32) then
  (bif okR 2 x1 then
  bI (F_Sh_isThere (shR 2 x1.toNatClampNeg) h1) fun v4 h3 =>
  if v4 = (0 : Int32) then
  (bI (F_Bp_found (1 : Int32) h3) fun v8 h7 =>
  retI v8 h7)
  else
  (bif okR 2 x1 then
  bI (F_Re_faultOf (shR 2 x1.toNatClampNeg) h3) fun v6 h5 =>
  retI v6 h5
  else none)
  else none)
  else
  (retI (-1 : Int32) h1)
def sF_Bp_fault : List Value → Hp → Res Hp := fun as h => match as with | [.ref f0, .int x1] => (match Nat.beq f0 0 with | true => F_Bp_fault x1 h | false => none) | _ => none
theorem w_Bp_fault (x1 : Int32) (h : Hp) : sF_Bp_fault [.ref 0, .int x1] h = F_Bp_fault x1 h := rfl
def S_Bp_fault : Sem Hp := [(53, sF_Bp_noText), (225, sF_Sh_isThere), (217, sF_Re_faultOf), (50, sF_Bp_found)]
set_option maxRecDepth 100000 in
theorem e_Bp_fault_0 (x1 : Int32) (h : Hp) : F_Bp_fault x1 h = exec1 OI S_Bp_fault 1 k_Bp_fault 0 [some (.ref 0), some (.int x1)] [] h (runF OI S_Bp_fault [] 1 k_Bp_fault 400) :=
  (x_bI (f := sF_Bp_noText) rfl (w_Bp_noText _ _) fun v2 h1 => (x_ite (x_bif (x_bI (f := sF_Sh_isThere) rfl (w_Sh_isThere _ _) fun v4 h3 => (x_ite (x_bI (f := sF_Bp_found) rfl (w_Bp_found _ _) fun v8 h7 => rfl) (x_bif (x_bI (f := sF_Re_faultOf) rfl (w_Re_faultOf _ _) fun v6 h5 => rfl))))) rfl))
def k_Le_takeFrom : List Ent := [(0, .aload_n 1, 1, [], .null), (1, .getfield 9, 3, [1, 0, 1], .null), (4, .iconst 0, 1, [], .int (0)), (5, .aload_n 0, 1, [], .null), (6, .getfield 9, 3, [1, 0, 1], .null), (9, .iconst 0, 1, [], .int (0)), (10, .bipush (7), 2, [], .int (7)), (12, .invokestatic 28, 3, [], .null), (15, .aload_n 1, 1, [], .null), (16, .getfield 15, 3, [1, 1, 1], .null), (19, .iconst 0, 1, [], .int (0)), (20, .aload_n 0, 1, [], .null), (21, .getfield 15, 3, [1, 1, 1], .null), (24, .iconst 0, 1, [], .int (0)), (25, .bipush (7), 2, [], .int (7)), (27, .invokestatic 28, 3, [], .null), (30, .aload_n 0, 1, [], .null), (31, .aload_n 1, 1, [], .null), (32, .getfield 18, 3, [1, 2, 0], .null), (35, .putfield 18, 3, [1, 2, 0], .null), (38, .aload_n 0, 1, [], .null), (39, .aload_n 1, 1, [], .null), (40, .getfield 22, 3, [1, 3, 0], .null), (43, .putfield 22, 3, [1, 3, 0], .null), (46, .aload_n 0, 1, [], .null), (47, .aload_n 1, 1, [], .null), (48, .getfield 25, 3, [1, 4, 0], .null), (51, .putfield 25, 3, [1, 4, 0], .null), (54, .return_, 1, [], .null)]
def F_Le_takeFrom (o0 : Nat) (o1 : Nat) (h : Hp) : Res Hp :=
  bif okF o1 1 0 1 then
  bif okF o0 1 0 1 then
  bif okC (shR o1 0) (0 : Int32) (shR o0 0) (0 : Int32) (7 : Int32) then
  bH (hcp h (shR o1 0) (0 : Int32) (shR o0 0) (0 : Int32) (7 : Int32)) fun h1 =>
  bif okF o1 1 1 1 then
  bif okF o0 1 1 1 then
  bif okC (shR o1 1) (0 : Int32) (shR o0 1) (0 : Int32) (7 : Int32) then
  bH (hcp h1 (shR o1 1) (0 : Int32) (shR o0 1) (0 : Int32) (7 : Int32)) fun h2 =>
  bif okF o1 1 2 0 then
  bif okF o0 1 2 0 then
  bH (hs h2 o0 2 (hg h2 o1 2)) fun h3 =>
  bif okF o1 1 3 0 then
  bif okF o0 1 3 0 then
  bH (hs h3 o0 3 (hg h3 o1 3)) fun h4 =>
  bif okF o1 1 4 0 then
  bif okF o0 1 4 0 then
  bH (hs h4 o0 4 (hg h4 o1 4)) fun h5 =>
  retV h5
  else none
  else none
  else none
  else none
  else none
  else none
  else none
  else none
  else none
  else none
  else none
  else none
def sF_Le_takeFrom : List Value → Hp → Res Hp := fun as h => match as with | [.ref o0, .ref o1] => F_Le_takeFrom o0 o1 h | _ => none
theorem w_Le_takeFrom (o0 : Nat) (o1 : Nat) (h : Hp) : sF_Le_takeFrom [.ref o0, .ref o1] h = F_Le_takeFrom o0 o1 h := rfl
def S_Le_takeFrom : Sem Hp := []
set_option maxRecDepth 100000 in
theorem e_Le_takeFrom_0 (o0 : Nat) (o1 : Nat) (h : Hp) : F_Le_takeFrom o0 o1 h = exec1 OI S_Le_takeFrom 0 k_Le_takeFrom 0 [some (.ref o0), some (.ref o1)] [] h (runF OI S_Le_takeFrom [] 0 k_Le_takeFrom 400) :=
  (x_bif (x_bif (x_bif (x_bH fun h1 => (x_bif (x_bif (x_bif (x_bH fun h2 => (x_bif (x_bif (x_bH fun h3 => (x_bif (x_bif (x_bH fun h4 => (x_bif (x_bif (x_bH fun h5 => rfl)))))))))))))))))
end
end
section
noncomputable section
def k_La_takeFrom : List Ent := [(0, .aload_n 1, 1, [], .null), (1, .getfield 9, 3, [0, 0, 1], .null), (4, .iconst 0, 1, [], .int (0)), (5, .aload_n 0, 1, [], .null), (6, .getfield 9, 3, [0, 0, 1], .null), (9, .iconst 0, 1, [], .int (0)), (10, .bipush (7), 2, [], .int (7)), (12, .invokestatic 58, 3, [], .null), (15, .aload_n 1, 1, [], .null), (16, .getfield 15, 3, [0, 1, 1], .null), (19, .iconst 0, 1, [], .int (0)), (20, .aload_n 0, 1, [], .null), (21, .getfield 15, 3, [0, 1, 1], .null), (24, .iconst 0, 1, [], .int (0)), (25, .bipush (7), 2, [], .int (7)), (27, .invokestatic 58, 3, [], .null), (30, .aload_n 1, 1, [], .null), (31, .getfield 18, 3, [0, 2, 1], .null), (34, .iconst 0, 1, [], .int (0)), (35, .aload_n 0, 1, [], .null), (36, .getfield 18, 3, [0, 2, 1], .null), (39, .iconst 0, 1, [], .int (0)), (40, .bipush (16), 2, [], .int (16)), (42, .invokestatic 58, 3, [], .null), (45, .aload_n 1, 1, [], .null), (46, .getfield 21, 3, [0, 3, 1], .null), (49, .iconst 0, 1, [], .int (0)), (50, .aload_n 0, 1, [], .null), (51, .getfield 21, 3, [0, 3, 1], .null), (54, .iconst 0, 1, [], .int (0)), (55, .bipush (16), 2, [], .int (16)), (57, .invokestatic 58, 3, [], .null), (60, .aload_n 1, 1, [], .null), (61, .getfield 24, 3, [0, 4, 1], .null), (64, .iconst 0, 1, [], .int (0)), (65, .aload_n 0, 1, [], .null), (66, .getfield 24, 3, [0, 4, 1], .null), (69, .iconst 0, 1, [], .int (0)), (70, .bipush (16), 2, [], .int (16)), (72, .invokestatic 58, 3, [], .null), (75, .iconst 0, 1, [], .int (0)), (76, .istore_n 2, 1, [], .null), (77, .iload_n 2, 1, [], .null), (78, .aload_n 1, 1, [], .null), (79, .getfield 48, 3, [0, 10, 0], .null), (82, .if_icmp .ge (24), 3, [106], .null), (85, .aload_n 0, 1, [], .null), (86, .getfield 37, 3, [0, 7, 1], .null), (89, .iload_n 2, 1, [], .null), (90, .aaload, 1, [], .null), (91, .aload_n 1, 1, [], .null), (92, .getfield 37, 3, [0, 7, 1], .null), (95, .iload_n 2, 1, [], .null), (96, .aaload, 1, [], .null), (97, .invokevirtual 64, 3, [197, 2, 0], .null), (100, .iinc 2 (1), 3, [], .int (1)), (103, .goto (-26), 3, [77], .null), (106, .aload_n 0, 1, [], .null), (107, .aload_n 1, 1, [], .null), (108, .getfield 41, 3, [0, 8, 0], .null), (111, .putfield 41, 3, [0, 8, 0], .null), (114, .aload_n 0, 1, [], .null), (115, .aload_n 1, 1, [], .null), (116, .getfield 45, 3, [0, 9, 0], .null), (119, .putfield 45, 3, [0, 9, 0], .null), (122, .aload_n 0, 1, [], .null), (123, .aload_n 1, 1, [], .null), (124, .getfield 48, 3, [0, 10, 0], .null), (127, .putfield 48, 3, [0, 10, 0], .null), (130, .aload_n 0, 1, [], .null), (131, .aload_n 1, 1, [], .null), (132, .getfield 51, 3, [0, 11, 0], .null), (135, .putfield 51, 3, [0, 11, 0], .null), (138, .aload_n 0, 1, [], .null), (139, .invokevirtual 55, 3, [179, 1, 0], .null), (142, .return_, 1, [], .null)]
def La_takeFrom_77  (o0 : Nat) (o1 : Nat)  : (Int32 × Hp) → ((Int32 × Hp) → Res Hp) → Res Hp := fun s κ77 => match s with
  | (x2, h) =>
  bif okF o1 0 10 0 then
  if (hg h o1 10) ≤ x2 then
  (bif okF o1 0 8 0 then
  bif okF o0 0 8 0 then
  bH (hs h o0 8 (hg h o1 8)) fun h1 =>
  bif okF o1 0 9 0 then
  bif okF o0 0 9 0 then
  bH (hs h1 o0 9 (hg h1 o1 9)) fun h2 =>
  bif okF o1 0 10 0 then
  bif okF o0 0 10 0 then
  bH (hs h2 o0 10 (hg h2 o1 10)) fun h3 =>
  bif okF o1 0 11 0 then
  bif okF o0 0 11 0 then
  bH (hs h3 o0 11 (hg h3 o1 11)) fun h4 =>
  bV (F_La_tieAll o0 h4) fun h5 =>
  retV h5
  else none
  else none
  else none
  else none
  else none
  else none
  else none
  else none)
  else
  (bif okF o0 0 7 1 then
  bif okR (shR o0 7) x2 then
  bif okF o1 0 7 1 then
  bif okR (shR o1 7) x2 then
  bV (F_Le_takeFrom (shR (shR o0 7) x2.toNatClampNeg) (shR (shR o1 7) x2.toNatClampNeg) h) fun h6 =>
  κ77 ((x2 + (1 : Int32)), h6)
  else none
  else none
  else none
  else none)
  else none
def F_La_takeFrom (o0 : Nat) (o1 : Nat) (h : Hp) : Res Hp :=
  bif okF o1 0 0 1 then
  bif okF o0 0 0 1 then
  bif okC (shR o1 0) (0 : Int32) (shR o0 0) (0 : Int32) (7 : Int32) then
  bH (hcp h (shR o1 0) (0 : Int32) (shR o0 0) (0 : Int32) (7 : Int32)) fun h1 =>
  bif okF o1 0 1 1 then
  bif okF o0 0 1 1 then
  bif okC (shR o1 1) (0 : Int32) (shR o0 1) (0 : Int32) (7 : Int32) then
  bH (hcp h1 (shR o1 1) (0 : Int32) (shR o0 1) (0 : Int32) (7 : Int32)) fun h2 =>
  bif okF o1 0 2 1 then
  bif okF o0 0 2 1 then
  bif okC (shR o1 2) (0 : Int32) (shR o0 2) (0 : Int32) (16 : Int32) then
  bH (hcp h2 (shR o1 2) (0 : Int32) (shR o0 2) (0 : Int32) (16 : Int32)) fun h3 =>
  bif okF o1 0 3 1 then
  bif okF o0 0 3 1 then
  bif okC (shR o1 3) (0 : Int32) (shR o0 3) (0 : Int32) (16 : Int32) then
  bH (hcp h3 (shR o1 3) (0 : Int32) (shR o0 3) (0 : Int32) (16 : Int32)) fun h4 =>
  bif okF o1 0 4 1 then
  bif okF o0 0 4 1 then
  bif okC (shR o1 4) (0 : Int32) (shR o0 4) (0 : Int32) (16 : Int32) then
  bH (hcp h4 (shR o1 4) (0 : Int32) (shR o0 4) (0 : Int32) (16 : Int32)) fun h5 =>
  loopC (La_takeFrom_77  o0 o1 ) FU ((0 : Int32), h5)
  else none
  else none
  else none
  else none
  else none
  else none
  else none
  else none
  else none
  else none
  else none
  else none
  else none
  else none
  else none
def sF_La_takeFrom : List Value → Hp → Res Hp := fun as h => match as with | [.ref o0, .ref o1] => F_La_takeFrom o0 o1 h | _ => none
theorem w_La_takeFrom (o0 : Nat) (o1 : Nat) (h : Hp) : sF_La_takeFrom [.ref o0, .ref o1] h = F_La_takeFrom o0 o1 h := rfl
def S_La_takeFrom : Sem Hp := [(179, sF_La_tieAll), (197, sF_Le_takeFrom)]
set_option maxRecDepth 100000 in
theorem e_La_takeFrom_0 (o0 : Nat) (o1 : Nat) (h : Hp) : F_La_takeFrom o0 o1 h = exec1 OI S_La_takeFrom 0 k_La_takeFrom 0 [some (.ref o0), some (.ref o1), none] [] h (runF OI S_La_takeFrom [(77, [0, 1, 2], fun vs st h => match vs, st with | [.ref o0, .ref o1, .int x2], [] => loopC (La_takeFrom_77  o0 o1 ) FU (x2, h) | _, _ => none)] 0 k_La_takeFrom 400) :=
  (x_bif (x_bif (x_bif (x_bH fun h1 => (x_bif (x_bif (x_bif (x_bH fun h2 => (x_bif (x_bif (x_bif (x_bH fun h3 => (x_bif (x_bif (x_bif (x_bH fun h4 => (x_bif (x_bif (x_bif (x_bH fun h5 => rfl))))))))))))))))))))
set_option maxRecDepth 100000 in
theorem e_La_takeFrom_77 (κ77 : (Int32 × Hp) → Res Hp) (o0 : Nat) (o1 : Nat) (x2 : Int32)  (h : Hp) : La_takeFrom_77  o0 o1  (x2, h) κ77 = exec1 OI S_La_takeFrom 0 k_La_takeFrom 77 [some (.ref o0), some (.ref o1), some (.int x2)] [] h (runF OI S_La_takeFrom [(77, [0, 1, 2], fun vs st h => match vs, st with | [.ref o0, .ref o1, .int x2], [] => κ77 (x2, h) | _, _ => none)] 0 k_La_takeFrom 400) :=
  (x_bif (x_ite (x_bif (x_bif (x_bH fun h1 => (x_bif (x_bif (x_bH fun h2 => (x_bif (x_bif (x_bH fun h3 => (x_bif (x_bif (x_bH fun h4 => (x_bV (f := sF_La_tieAll) rfl (w_La_tieAll _ _) fun h5 => rfl))))))))))))) (x_bif (x_bif (x_bif (x_bif (x_bV (f := sF_Le_takeFrom) rfl (w_Le_takeFrom _ _ _) fun h6 => rfl)))))))
def k_Bp_land : List Ent := [(0, .iload_n 1, 1, [], .null), (1, .invokestatic 117, 3, [53, 1, 2], .null), (4, .ifCond .eq (5), 3, [9], .null), (7, .iconst (-1), 1, [], .int (-1)), (8, .ireturn, 1, [], .null), (9, .aload_n 0, 1, [], .null), (10, .getfield 15, 3, [6, 1, 1], .null), (13, .iload_n 1, 1, [], .null), (14, .aaload, 1, [], .null), (15, .invokevirtual 96, 3, [225, 1, 2], .null), (18, .ifCond .ne (9), 3, [27], .null), (21, .aload_n 0, 1, [], .null), (22, .iconst 1, 1, [], .int (1)), (23, .invokevirtual 79, 3, [50, 2, 1], .null), (26, .ireturn, 1, [], .null), (27, .aload_n 0, 1, [], .null), (28, .getfield 41, 3, [6, 6, 1], .null), (31, .aload_n 0, 1, [], .null), (32, .getfield 15, 3, [6, 1, 1], .null), (35, .iload_n 1, 1, [], .null), (36, .aaload, 1, [], .null), (37, .invokevirtual 120, 3, [217, 2, 1], .null), (40, .bipush (-9), 2, [], .int (-9)), (42, .if_icmp .eq (6), 3, [48], .null), (45, .bipush (-4), 2, [], .int (-4)), (47, .ireturn, 1, [], .null), (48, .aload_n 0, 1, [], .null), (49, .getfield 21, 3, [6, 2, 1], .null), (52, .aload_n 0, 1, [], .null), (53, .getfield 25, 3, [6, 3, 1], .null), (56, .invokevirtual 124, 3, [174, 2, 0], .null), (59, .iconst 0, 1, [], .int (0)), (60, .istore_n 2, 1, [], .null), (61, .iload_n 2, 1, [], .null), (62, .iconst 3, 1, [], .int (3)), (63, .if_icmp .ge (16), 3, [79], .null), (66, .aload_n 0, 1, [], .null), (67, .getfield 32, 3, [6, 5, 1], .null), (70, .iload_n 2, 1, [], .null), (71, .iconst 0, 1, [], .int (0)), (72, .bastore, 1, [], .null), (73, .iinc 2 (1), 3, [], .int (1)), (76, .goto (-15), 3, [61], .null), (79, .aload_n 0, 1, [], .null), (80, .getfield 21, 3, [6, 2, 1], .null), (83, .getfield 127, 3, [0, 8, 0], .null), (86, .ireturn, 1, [], .null)]
def Bp_land_61    : (Int32 × Hp) → ((Int32 × Hp) → Res Hp) → Res Hp := fun s κ61 => match s with
  | (x2, h) =>
  if (3 : Int32) ≤ x2 then
  (retI (hg h 3 8) h)
  else
  (bif okA 62 101 x2 then
  bH (hs h 62 x2.toNatClampNeg (vp_nar .boolean (0 : Int32))) fun h1 =>
  κ61 ((x2 + (1 : Int32)), h1)
  else none)
def F_Bp_land (x1 : Int32) (h : Hp) : Res Hp :=
  bI (F_Bp_noText x1 h) fun v2 h1 =>
  if v2 = (0 : Int32) then
  (bif okR 2 x1 then
  bI (F_Sh_isThere (shR 2 x1.toNatClampNeg) h1) fun v4 h3 =>
  if v4 = (0 : Int32) then
  (bI (F_Bp_found (1 : Int32) h3) fun v9 h8 =>
  retI v9 h8)
  else
  (bif okR 2 x1 then
  bI (F_Re_faultOf (shR 2 x1.toNatClampNeg) h3) fun v6 h5 =>
  if v6 = (-9 : Int32) then
  (bV (F_La_takeFrom 3 32 h5) fun h7 =>
  loopC (Bp_land_61   ) FU ((0 : Int32), h7))
  else
  (retI (-4 : Int32) h5)
  else none)
  else none)
  else
  (retI (-1 : Int32) h1)
def sF_Bp_land : List Value → Hp → Res Hp := fun as h => match as with | [.ref f0, .int x1] => (match Nat.beq f0 0 with | true => F_Bp_land x1 h | false => none) | _ => none
theorem w_Bp_land (x1 : Int32) (h : Hp) : sF_Bp_land [.ref 0, .int x1] h = F_Bp_land x1 h := rfl
def S_Bp_land : Sem Hp := [(53, sF_Bp_noText), (225, sF_Sh_isThere), (217, sF_Re_faultOf), (174, sF_La_takeFrom), (50, sF_Bp_found)]
set_option maxRecDepth 100000 in
theorem e_Bp_land_0 (x1 : Int32) (h : Hp) : F_Bp_land x1 h = exec1 OI S_Bp_land 1 k_Bp_land 0 [some (.ref 0), some (.int x1), none] [] h (runF OI S_Bp_land [(61, [0, 2], fun vs st h => match vs, st with | [.ref f0, .int x2], [] => (match Nat.beq f0 0 with | true => loopC (Bp_land_61   ) FU (x2, h) | false => none) | _, _ => none)] 1 k_Bp_land 400) :=
  (x_bI (f := sF_Bp_noText) rfl (w_Bp_noText _ _) fun v2 h1 => (x_ite (x_bif (x_bI (f := sF_Sh_isThere) rfl (w_Sh_isThere _ _) fun v4 h3 => (x_ite (x_bI (f := sF_Bp_found) rfl (w_Bp_found _ _) fun v9 h8 => rfl) (x_bif (x_bI (f := sF_Re_faultOf) rfl (w_Re_faultOf _ _) fun v6 h5 => (x_ite (x_bV (f := sF_La_takeFrom) rfl (w_La_takeFrom _ _ _) fun h7 => rfl) rfl)))))) rfl))
set_option maxRecDepth 100000 in
theorem e_Bp_land_61 (κ61 : (Int32 × Hp) → Res Hp) (x2 : Int32)  (h : Hp) : Bp_land_61    (x2, h) κ61 = exec1 OI S_Bp_land 1 k_Bp_land 61 [some (.ref 0), none, some (.int x2)] [] h (runF OI S_Bp_land [(61, [0, 2], fun vs st h => match vs, st with | [.ref f0, .int x2], [] => (match Nat.beq f0 0 with | true => κ61 (x2, h) | false => none) | _, _ => none)] 1 k_Bp_land 400) :=
  (x_ite rfl (x_bif (x_bH fun h1 => rfl)))
def k_La_meetingsOf : List Ent := [(0, .iconst 0, 1, [], .int (0)), (1, .istore_n 2, 1, [], .null), (2, .iconst 0, 1, [], .int (0)), (3, .istore_n 3, 1, [], .null), (4, .iload_n 3, 1, [], .null), (5, .aload_n 0, 1, [], .null), (6, .getfield 45, 3, [0, 9, 0], .null), (9, .if_icmp .ge (32), 3, [41], .null), (12, .aload_n 0, 1, [], .null), (13, .getfield 18, 3, [0, 2, 1], .null), (16, .iload_n 3, 1, [], .null), (17, .iaload, 1, [], .null), (18, .iload_n 1, 1, [], .null), (19, .if_icmp .eq (13), 3, [32], .null), (22, .aload_n 0, 1, [], .null), (23, .getfield 21, 3, [0, 3, 1], .null), (26, .iload_n 3, 1, [], .null), (27, .iaload, 1, [], .null), (28, .iload_n 1, 1, [], .null), (29, .if_icmp .ne (6), 3, [35], .null), (32, .iinc 2 (1), 3, [], .int (1)), (35, .iinc 3 (1), 3, [], .int (1)), (38, .goto (-34), 3, [4], .null), (41, .iload_n 2, 1, [], .null), (42, .ireturn, 1, [], .null)]
def La_meetingsOf_4  (o0 : Nat) (x1 : Int32) (h : Hp) : (Int32 × Int32) → ((Int32 × Int32) → Res Hp) → Res Hp := fun s κ4 => match s with
  | (x2, x3) =>
  bif okF o0 0 9 0 then
  if (hg h o0 9) ≤ x3 then
  (retI x2 h)
  else
  (bif okF o0 0 2 1 then
  bif okA (shR o0 2) 100 x3 then
  if (hg h (shR o0 2) x3.toNatClampNeg) = x1 then
  (κ4 ((x2 + (1 : Int32)), (x3 + (1 : Int32))))
  else
  (bif okF o0 0 3 1 then
  bif okA (shR o0 3) 100 x3 then
  if (hg h (shR o0 3) x3.toNatClampNeg) = x1 then
  (κ4 ((x2 + (1 : Int32)), (x3 + (1 : Int32))))
  else
  (κ4 (x2, (x3 + (1 : Int32))))
  else none
  else none)
  else none
  else none)
  else none
def F_La_meetingsOf (o0 : Nat) (x1 : Int32) (h : Hp) : Res Hp :=
  loopC (La_meetingsOf_4  o0 x1 h) FU ((0 : Int32), (0 : Int32))
def sF_La_meetingsOf : List Value → Hp → Res Hp := fun as h => match as with | [.ref o0, .int x1] => F_La_meetingsOf o0 x1 h | _ => none
theorem w_La_meetingsOf (o0 : Nat) (x1 : Int32) (h : Hp) : sF_La_meetingsOf [.ref o0, .int x1] h = F_La_meetingsOf o0 x1 h := rfl
def S_La_meetingsOf : Sem Hp := []
set_option maxRecDepth 100000 in
theorem e_La_meetingsOf_0 (o0 : Nat) (x1 : Int32) (h : Hp) : F_La_meetingsOf o0 x1 h = exec1 OI S_La_meetingsOf 1 k_La_meetingsOf 0 [some (.ref o0), some (.int x1), none, none] [] h (runF OI S_La_meetingsOf [(4, [0, 1, 2, 3], fun vs st h => match vs, st with | [.ref o0, .int x1, .int x2, .int x3], [] => loopC (La_meetingsOf_4  o0 x1 h) FU (x2, x3) | _, _ => none)] 1 k_La_meetingsOf 400) :=
  rfl
set_option maxRecDepth 100000 in
theorem e_La_meetingsOf_4 (κ4 : (Int32 × Int32) → Res Hp) (o0 : Nat) (x1 : Int32) (x2 : Int32) (x3 : Int32)  (h : Hp) : La_meetingsOf_4  o0 x1 h (x2, x3) κ4 = exec1 OI S_La_meetingsOf 1 k_La_meetingsOf 4 [some (.ref o0), some (.int x1), some (.int x2), some (.int x3)] [] h (runF OI S_La_meetingsOf [(4, [0, 1, 2, 3], fun vs st h => match vs, st with | [.ref o0, .int x1, .int x2, .int x3], [] => κ4 (x2, x3) | _, _ => none)] 1 k_La_meetingsOf 400) :=
  (x_bif (x_ite rfl (x_bif (x_bif (x_ite rfl (x_bif (x_bif (x_ite rfl rfl))))))))
def k_Le_holder : List Ent := [(0, .aload_n 0, 1, [], .null), (1, .getfield 9, 3, [1, 0, 1], .null), (4, .aload_n 0, 1, [], .null), (5, .getfield 18, 3, [1, 2, 0], .null), (8, .iconst 1, 1, [], .int (1)), (9, .isub, 1, [], .null), (10, .iaload, 1, [], .null), (11, .ireturn, 1, [], .null)]
def F_Le_holder (o0 : Nat) (h : Hp) : Res Hp :=
  bif okF o0 1 0 1 then
  bif okF o0 1 2 0 then
  bif okA (shR o0 0) 100 ((hg h o0 2) - (1 : Int32)) then
  retI (hg h (shR o0 0) ((hg h o0 2) - (1 : Int32)).toNatClampNeg) h
  else none
  else none
  else none
def sF_Le_holder : List Value → Hp → Res Hp := fun as h => match as with | [.ref o0] => F_Le_holder o0 h | _ => none
theorem w_Le_holder (o0 : Nat) (h : Hp) : sF_Le_holder [.ref o0] h = F_Le_holder o0 h := rfl
def S_Le_holder : Sem Hp := []
set_option maxRecDepth 100000 in
theorem e_Le_holder_0 (o0 : Nat) (h : Hp) : F_Le_holder o0 h = exec1 OI S_Le_holder 1 k_Le_holder 0 [some (.ref o0)] [] h (runF OI S_Le_holder [] 1 k_Le_holder 400) :=
  (x_bif (x_bif (x_bif rfl)))
def k_Le_isThere : List Ent := [(0, .aload_n 0, 1, [], .null), (1, .invokevirtual 34, 3, [198, 1, 1], .null), (4, .aload_n 0, 1, [], .null), (5, .getfield 22, 3, [1, 3, 0], .null), (8, .if_icmp .ne (7), 3, [15], .null), (11, .iconst 1, 1, [], .int (1)), (12, .goto (4), 3, [16], .null), (15, .iconst 0, 1, [], .int (0)), (16, .ireturn, 1, [], .null)]
def F_Le_isThere (o0 : Nat) (h : Hp) : Res Hp :=
  bI (F_Le_holder o0 h) fun v2 h1 =>
  bif okF o0 1 3 0 then
  if v2 = (hg h1 o0 3) then
  (retZ (1 : Int32) h1)
  else
  (retZ (0 : Int32) h1)
  else none
def sF_Le_isThere : List Value → Hp → Res Hp := fun as h => match as with | [.ref o0] => F_Le_isThere o0 h | _ => none
theorem w_Le_isThere (o0 : Nat) (h : Hp) : sF_Le_isThere [.ref o0] h = F_Le_isThere o0 h := rfl
def S_Le_isThere : Sem Hp := [(198, sF_Le_holder)]
set_option maxRecDepth 100000 in
theorem e_Le_isThere_0 (o0 : Nat) (h : Hp) : F_Le_isThere o0 h = exec1 OI S_Le_isThere 2 k_Le_isThere 0 [some (.ref o0)] [] h (runF OI S_Le_isThere [] 2 k_Le_isThere 400) :=
  (x_bI (f := sF_Le_holder) rfl (w_Le_holder _ _) fun v2 h1 => (x_bif (x_ite rfl rfl)))
def k_La_lettersWith : List Ent := [(0, .iconst 0, 1, [], .int (0)), (1, .istore_n 2, 1, [], .null), (2, .iconst 0, 1, [], .int (0)), (3, .istore_n 3, 1, [], .null), (4, .iload_n 3, 1, [], .null), (5, .aload_n 0, 1, [], .null), (6, .getfield 48, 3, [0, 10, 0], .null), (9, .if_icmp .ge (37), 3, [46], .null), (12, .aload_n 0, 1, [], .null), (13, .getfield 37, 3, [0, 7, 1], .null), (16, .iload_n 3, 1, [], .null), (17, .aaload, 1, [], .null), (18, .invokevirtual 104, 3, [198, 1, 1], .null), (21, .iload_n 1, 1, [], .null), (22, .if_icmp .ne (18), 3, [40], .null), (25, .aload_n 0, 1, [], .null), (26, .getfield 37, 3, [0, 7, 1], .null), (29, .iload_n 3, 1, [], .null), (30, .aaload, 1, [], .null), (31, .invokevirtual 96, 3, [200, 1, 2], .null), (34, .ifCond .ne (6), 3, [40], .null), (37, .iinc 2 (1), 3, [], .int (1)), (40, .iinc 3 (1), 3, [], .int (1)), (43, .goto (-39), 3, [4], .null), (46, .iload_n 2, 1, [], .null), (47, .ireturn, 1, [], .null)]
def La_lettersWith_4  (o0 : Nat) (x1 : Int32)  : (Int32 × Int32 × Hp) → ((Int32 × Int32 × Hp) → Res Hp) → Res Hp := fun s κ4 => match s with
  | (x2, x3, h) =>
  bif okF o0 0 10 0 then
  if (hg h o0 10) ≤ x3 then
  (retI x2 h)
  else
  (bif okF o0 0 7 1 then
  bif okR (shR o0 7) x3 then
  bI (F_Le_holder (shR (shR o0 7) x3.toNatClampNeg) h) fun v2 h1 =>
  if v2 = x1 then
  (bif okF o0 0 7 1 then
  bif okR (shR o0 7) x3 then
  bI (F_Le_isThere (shR (shR o0 7) x3.toNatClampNeg) h1) fun v4 h3 =>
  if v4 = (0 : Int32) then
  (κ4 ((x2 + (1 : Int32)), (x3 + (1 : Int32)), h3))
  else
  (κ4 (x2, (x3 + (1 : Int32)), h3))
  else none
  else none)
  else
  (κ4 (x2, (x3 + (1 : Int32)), h1))
  else none
  else none)
  else none
def F_La_lettersWith (o0 : Nat) (x1 : Int32) (h : Hp) : Res Hp :=
  loopC (La_lettersWith_4  o0 x1 ) FU ((0 : Int32), (0 : Int32), h)
def sF_La_lettersWith : List Value → Hp → Res Hp := fun as h => match as with | [.ref o0, .int x1] => F_La_lettersWith o0 x1 h | _ => none
theorem w_La_lettersWith (o0 : Nat) (x1 : Int32) (h : Hp) : sF_La_lettersWith [.ref o0, .int x1] h = F_La_lettersWith o0 x1 h := rfl
def S_La_lettersWith : Sem Hp := [(198, sF_Le_holder), (200, sF_Le_isThere)]
set_option maxRecDepth 100000 in
theorem e_La_lettersWith_0 (o0 : Nat) (x1 : Int32) (h : Hp) : F_La_lettersWith o0 x1 h = exec1 OI S_La_lettersWith 1 k_La_lettersWith 0 [some (.ref o0), some (.int x1), none, none] [] h (runF OI S_La_lettersWith [(4, [0, 1, 2, 3], fun vs st h => match vs, st with | [.ref o0, .int x1, .int x2, .int x3], [] => loopC (La_lettersWith_4  o0 x1 ) FU (x2, x3, h) | _, _ => none)] 1 k_La_lettersWith 400) :=
  rfl
set_option maxRecDepth 100000 in
theorem e_La_lettersWith_4 (κ4 : (Int32 × Int32 × Hp) → Res Hp) (o0 : Nat) (x1 : Int32) (x2 : Int32) (x3 : Int32)  (h : Hp) : La_lettersWith_4  o0 x1  (x2, x3, h) κ4 = exec1 OI S_La_lettersWith 1 k_La_lettersWith 4 [some (.ref o0), some (.int x1), some (.int x2), some (.int x3)] [] h (runF OI S_La_lettersWith [(4, [0, 1, 2, 3], fun vs st h => match vs, st with | [.ref o0, .int x1, .int x2, .int x3], [] => κ4 (x2, x3, h) | _, _ => none)] 1 k_La_lettersWith 400) :=
  (x_bif (x_ite rfl (x_bif (x_bif (x_bI (f := sF_Le_holder) rfl (w_Le_holder _ _) fun v2 h1 => (x_ite (x_bif (x_bif (x_bI (f := sF_Le_isThere) rfl (w_Le_isThere _ _) fun v4 h3 => (x_ite rfl rfl)))) rfl))))))
def k_La_factOf : List Ent := [(0, .iload_n 2, 1, [], .null), (1, .tableswitch (47) 0 2 #[27, 34, 41], 27, [48, 0, 28, 1, 35, 2, 42], .null), (28, .aload_n 0, 1, [], .null), (29, .getfield 9, 3, [0, 0, 1], .null), (32, .iload_n 1, 1, [], .null), (33, .iaload, 1, [], .null), (34, .ireturn, 1, [], .null), (35, .aload_n 0, 1, [], .null), (36, .getfield 15, 3, [0, 1, 1], .null), (39, .iload_n 1, 1, [], .null), (40, .iaload, 1, [], .null), (41, .ireturn, 1, [], .null), (42, .aload_n 0, 1, [], .null), (43, .iload_n 1, 1, [], .null), (44, .invokevirtual 151, 3, [189, 2, 1], .null), (47, .ireturn, 1, [], .null), (48, .aload_n 0, 1, [], .null), (49, .iload_n 1, 1, [], .null), (50, .invokevirtual 154, 3, [190, 2, 1], .null), (53, .ireturn, 1, [], .null)]
def F_La_factOf (o0 : Nat) (x1 : Int32) (x2 : Int32) (h : Hp) : Res Hp :=
  if x2 = (0 : Int32) then
  (bif okF o0 0 0 1 then
  bif okA (shR o0 0) 100 x1 then
  retI (hg h (shR o0 0) x1.toNatClampNeg) h
  else none
  else none)
  else if x2 = (1 : Int32) then
  (bif okF o0 0 1 1 then
  bif okA (shR o0 1) 100 x1 then
  retI (hg h (shR o0 1) x1.toNatClampNeg) h
  else none
  else none)
  else if x2 = (2 : Int32) then
  (bI (F_La_meetingsOf o0 x1 h) fun v2 h1 =>
  retI v2 h1)
  else 
  (bI (F_La_lettersWith o0 x1 h) fun v4 h3 =>
  retI v4 h3)
def sF_La_factOf : List Value → Hp → Res Hp := fun as h => match as with | [.ref o0, .int x1, .int x2] => F_La_factOf o0 x1 x2 h | _ => none
theorem w_La_factOf (o0 : Nat) (x1 : Int32) (x2 : Int32) (h : Hp) : sF_La_factOf [.ref o0, .int x1, .int x2] h = F_La_factOf o0 x1 x2 h := rfl
def S_La_factOf : Sem Hp := [(189, sF_La_meetingsOf), (190, sF_La_lettersWith)]
set_option maxRecDepth 100000 in
theorem e_La_factOf_0 (o0 : Nat) (x1 : Int32) (x2 : Int32) (h : Hp) : F_La_factOf o0 x1 x2 h = exec1 OI S_La_factOf 1 k_La_factOf 0 [some (.ref o0), some (.int x1), some (.int x2)] [] h (runF OI S_La_factOf [] 1 k_La_factOf 400) :=
  (x_ite (x_bif (x_bif rfl)) (x_ite (x_bif (x_bif rfl)) (x_ite (x_bI (f := sF_La_meetingsOf) rfl (w_La_meetingsOf _ _ _) fun v2 h1 => rfl) (x_bI (f := sF_La_lettersWith) rfl (w_La_lettersWith _ _ _) fun v4 h3 => rfl))))
def k_Bp_hand : List Ent := [(0, .aload_n 0, 1, [], .null), (1, .getfield 21, 3, [6, 2, 1], .null), (4, .iload_n 1, 1, [], .null), (5, .invokevirtual 130, 3, [175, 2, 2], .null), (8, .ifCond .ne (12), 3, [20], .null), (11, .iload_n 2, 1, [], .null), (12, .ifCond .lt (8), 3, [20], .null), (15, .iload_n 2, 1, [], .null), (16, .iconst 3, 1, [], .int (3)), (17, .if_icmp .le (5), 3, [22], .null), (20, .iconst (-1), 1, [], .int (-1)), (21, .ireturn, 1, [], .null), (22, .aload_n 0, 1, [], .null), (23, .aload_n 0, 1, [], .null), (24, .getfield 21, 3, [6, 2, 1], .null), (27, .iload_n 1, 1, [], .null), (28, .iload_n 2, 1, [], .null), (29, .invokevirtual 133, 3, [188, 3, 1], .null), (32, .invokevirtual 93, 3, [51, 2, 1], .null), (35, .ireturn, 1, [], .null)]
def F_Bp_hand (x1 : Int32) (x2 : Int32) (h : Hp) : Res Hp :=
  bI (F_La_lacks 3 x1 h) fun v2 h1 =>
  if v2 = (0 : Int32) then
  (if x2 < (0 : Int32) then
  (retI (-1 : Int32) h1)
  else
  (if x2 ≤ (3 : Int32) then
  (bI (F_La_factOf 3 x1 x2 h1) fun v4 h3 =>
  bI (F_Bp_tell v4 h3) fun v6 h5 =>
  retI v6 h5)
  else
  (retI (-1 : Int32) h1)))
  else
  (retI (-1 : Int32) h1)
def sF_Bp_hand : List Value → Hp → Res Hp := fun as h => match as with | [.ref f0, .int x1, .int x2] => (match Nat.beq f0 0 with | true => F_Bp_hand x1 x2 h | false => none) | _ => none
theorem w_Bp_hand (x1 : Int32) (x2 : Int32) (h : Hp) : sF_Bp_hand [.ref 0, .int x1, .int x2] h = F_Bp_hand x1 x2 h := rfl
def S_Bp_hand : Sem Hp := [(175, sF_La_lacks), (188, sF_La_factOf), (51, sF_Bp_tell)]
set_option maxRecDepth 100000 in
theorem e_Bp_hand_0 (x1 : Int32) (x2 : Int32) (h : Hp) : F_Bp_hand x1 x2 h = exec1 OI S_Bp_hand 1 k_Bp_hand 0 [some (.ref 0), some (.int x1), some (.int x2)] [] h (runF OI S_Bp_hand [] 1 k_Bp_hand 400) :=
  (x_bI (f := sF_La_lacks) rfl (w_La_lacks _ _ _) fun v2 h1 => (x_ite (x_ite rfl (x_ite (x_bI (f := sF_La_factOf) rfl (w_La_factOf _ _ _ _) fun v4 h3 => (x_bI (f := sF_Bp_tell) rfl (w_Bp_tell _ _) fun v6 h5 => rfl)) rfl)) rfl))
def k_Bp_isOf : List Ent := [(0, .iload_n 0, 1, [], .null), (1, .iload_n 1, 1, [], .null), (2, .if_icmp .eq (27), 3, [29], .null), (5, .iload_n 1, 1, [], .null), (6, .ifCond .eq (23), 3, [29], .null), (9, .iload_n 0, 1, [], .null), (10, .iconst 4, 1, [], .int (4)), (11, .if_icmp .ne (8), 3, [19], .null), (14, .iload_n 1, 1, [], .null), (15, .iconst 1, 1, [], .int (1)), (16, .if_icmp .eq (13), 3, [29], .null), (19, .iload_n 0, 1, [], .null), (20, .iconst 5, 1, [], .int (5)), (21, .if_icmp .ne (12), 3, [33], .null), (24, .iload_n 1, 1, [], .null), (25, .iconst 3, 1, [], .int (3)), (26, .if_icmp .ne (7), 3, [33], .null), (29, .iconst 1, 1, [], .int (1)), (30, .goto (4), 3, [34], .null), (33, .iconst 0, 1, [], .int (0)), (34, .ireturn, 1, [], .null)]
def F_Bp_isOf (x0 : Int32) (x1 : Int32) (h : Hp) : Res Hp :=
  if x0 = x1 then
  (retZ (1 : Int32) h)
  else
  (if x1 = (0 : Int32) then
  (retZ (1 : Int32) h)
  else
  (if x0 = (4 : Int32) then
  (if x1 = (1 : Int32) then
  (retZ (1 : Int32) h)
  else
  (if x0 = (5 : Int32) then
  (if x1 = (3 : Int32) then
  (retZ (1 : Int32) h)
  else
  (retZ (0 : Int32) h))
  else
  (retZ (0 : Int32) h)))
  else
  (if x0 = (5 : Int32) then
  (if x1 = (3 : Int32) then
  (retZ (1 : Int32) h)
  else
  (retZ (0 : Int32) h))
  else
  (retZ (0 : Int32) h))))
def sF_Bp_isOf : List Value → Hp → Res Hp := fun as h => match as with | [.int x0, .int x1] => F_Bp_isOf x0 x1 h | _ => none
theorem w_Bp_isOf (x0 : Int32) (x1 : Int32) (h : Hp) : sF_Bp_isOf [.int x0, .int x1] h = F_Bp_isOf x0 x1 h := rfl
def S_Bp_isOf : Sem Hp := []
set_option maxRecDepth 100000 in
theorem e_Bp_isOf_0 (x0 : Int32) (x1 : Int32) (h : Hp) : F_Bp_isOf x0 x1 h = exec1 OI S_Bp_isOf 2 k_Bp_isOf 0 [some (.int x0), some (.int x1)] [] h (runF OI S_Bp_isOf [] 2 k_Bp_isOf 400) :=
  (x_ite rfl (x_ite rfl (x_ite (x_ite rfl (x_ite (x_ite rfl rfl) rfl)) (x_ite (x_ite rfl rfl) rfl))))
def k_Jint_bitCount : List Ent := [(0, .iload_n 0, 1, [], .null), (1, .iload_n 0, 1, [], .null), (2, .iconst 1, 1, [], .int (1)), (3, .iushr, 1, [], .null), (4, .ldc_w 265, 3, [], .int (1431655765)), (7, .iand, 1, [], .null), (8, .isub, 1, [], .null), (9, .istore_n 0, 1, [], .null), (10, .iload_n 0, 1, [], .null), (11, .ldc_w 266, 3, [], .int (858993459)), (14, .iand, 1, [], .null), (15, .iload_n 0, 1, [], .null), (16, .iconst 2, 1, [], .int (2)), (17, .iushr, 1, [], .null), (18, .ldc_w 266, 3, [], .int (858993459)), (21, .iand, 1, [], .null), (22, .iadd, 1, [], .null), (23, .istore_n 0, 1, [], .null), (24, .iload_n 0, 1, [], .null), (25, .iload_n 0, 1, [], .null), (26, .iconst 4, 1, [], .int (4)), (27, .iushr, 1, [], .null), (28, .iadd, 1, [], .null), (29, .ldc_w 267, 3, [], .int (252645135)), (32, .iand, 1, [], .null), (33, .istore_n 0, 1, [], .null), (34, .iload_n 0, 1, [], .null), (35, .iload_n 0, 1, [], .null), (36, .bipush (8), 2, [], .int (8)), (38, .iushr, 1, [], .null), (39, .iadd, 1, [], .null), (40, .istore_n 0, 1, [], .null), (41, .iload_n 0, 1, [], .null), (42, .iload_n 0, 1, [], .null), (43, .bipush (16), 2, [], .int (16)), (45, .iushr, 1, [], .null), (46, .iadd, 1, [], .null), (47, .istore_n 0, 1, [], .null), (48, .iload_n 0, 1, [], .null), (49, .bipush (63), 2, [], .int (63)), (51, .iand, 1, [], .null), (52, .ireturn, 1, [], .null)]
def F_Jint_bitCount (x0 : Int32) (h : Hp) : Res Hp :=
  retI ((((((((x0 - ((x0.toUInt32 >>> ((1 : Int32).toUInt32 &&& Int32.toUInt32 31)).toInt32 &&& (1431655765 : Int32))) &&& (858993459 : Int32)) + (((x0 - ((x0.toUInt32 >>> ((1 : Int32).toUInt32 &&& Int32.toUInt32 31)).toInt32 &&& (1431655765 : Int32))).toUInt32 >>> ((2 : Int32).toUInt32 &&& Int32.toUInt32 31)).toInt32 &&& (858993459 : Int32))) + ((((x0 - ((x0.toUInt32 >>> ((1 : Int32).toUInt32 &&& Int32.toUInt32 31)).toInt32 &&& (1431655765 : Int32))) &&& (858993459 : Int32)) + (((x0 - ((x0.toUInt32 >>> ((1 : Int32).toUInt32 &&& Int32.toUInt32 31)).toInt32 &&& (1431655765 : Int32))).toUInt32 >>> ((2 : Int32).toUInt32 &&& Int32.toUInt32 31)).toInt32 &&& (858993459 : Int32))).toUInt32 >>> ((4 : Int32).toUInt32 &&& Int32.toUInt32 31)).toInt32) &&& (252645135 : Int32)) + ((((((x0 - ((x0.toUInt32 >>> ((1 : Int32).toUInt32 &&& Int32.toUInt32 31)).toInt32 &&& (1431655765 : Int32))) &&& (858993459 : Int32)) + (((x0 - ((x0.toUInt32 >>> ((1 : Int32).toUInt32 &&& Int32.toUInt32 31)).toInt32 &&& (1431655765 : Int32))).toUInt32 >>> ((2 : Int32).toUInt32 &&& Int32.toUInt32 31)).toInt32 &&& (858993459 : Int32))) + ((((x0 - ((x0.toUInt32 >>> ((1 : Int32).toUInt32 &&& Int32.toUInt32 31)).toInt32 &&& (1431655765 : Int32))) &&& (858993459 : Int32)) + (((x0 - ((x0.toUInt32 >>> ((1 : Int32).toUInt32 &&& Int32.toUInt32 31)).toInt32 &&& (1431655765 : Int32))).toUInt32 >>> ((2 : Int32).toUInt32 &&& Int32.toUInt32 31)).toInt32 &&& (858993459 : Int32))).toUInt32 >>> ((4 : Int32).toUInt32 &&& Int32.toUInt32 31)).toInt32) &&& (252645135 : Int32)).toUInt32 >>> ((8 : Int32).toUInt32 &&& Int32.toUInt32 31)).toInt32) + (((((((x0 - ((x0.toUInt32 >>> ((1 : Int32).toUInt32 &&& Int32.toUInt32 31)).toInt32 &&& (1431655765 : Int32))) &&& (858993459 : Int32)) + (((x0 - ((x0.toUInt32 >>> ((1 : Int32).toUInt32 &&& Int32.toUInt32 31)).toInt32 &&& (1431655765 : Int32))).toUInt32 >>> ((2 : Int32).toUInt32 &&& Int32.toUInt32 31)).toInt32 &&& (858993459 : Int32))) + ((((x0 - ((x0.toUInt32 >>> ((1 : Int32).toUInt32 &&& Int32.toUInt32 31)).toInt32 &&& (1431655765 : Int32))) &&& (858993459 : Int32)) + (((x0 - ((x0.toUInt32 >>> ((1 : Int32).toUInt32 &&& Int32.toUInt32 31)).toInt32 &&& (1431655765 : Int32))).toUInt32 >>> ((2 : Int32).toUInt32 &&& Int32.toUInt32 31)).toInt32 &&& (858993459 : Int32))).toUInt32 >>> ((4 : Int32).toUInt32 &&& Int32.toUInt32 31)).toInt32) &&& (252645135 : Int32)) + ((((((x0 - ((x0.toUInt32 >>> ((1 : Int32).toUInt32 &&& Int32.toUInt32 31)).toInt32 &&& (1431655765 : Int32))) &&& (858993459 : Int32)) + (((x0 - ((x0.toUInt32 >>> ((1 : Int32).toUInt32 &&& Int32.toUInt32 31)).toInt32 &&& (1431655765 : Int32))).toUInt32 >>> ((2 : Int32).toUInt32 &&& Int32.toUInt32 31)).toInt32 &&& (858993459 : Int32))) + ((((x0 - ((x0.toUInt32 >>> ((1 : Int32).toUInt32 &&& Int32.toUInt32 31)).toInt32 &&& (1431655765 : Int32))) &&& (858993459 : Int32)) + (((x0 - ((x0.toUInt32 >>> ((1 : Int32).toUInt32 &&& Int32.toUInt32 31)).toInt32 &&& (1431655765 : Int32))).toUInt32 >>> ((2 : Int32).toUInt32 &&& Int32.toUInt32 31)).toInt32 &&& (858993459 : Int32))).toUInt32 >>> ((4 : Int32).toUInt32 &&& Int32.toUInt32 31)).toInt32) &&& (252645135 : Int32)).toUInt32 >>> ((8 : Int32).toUInt32 &&& Int32.toUInt32 31)).toInt32).toUInt32 >>> ((16 : Int32).toUInt32 &&& Int32.toUInt32 31)).toInt32) &&& (63 : Int32)) h
def sF_Jint_bitCount : List Value → Hp → Res Hp := fun as h => match as with | [.int x0] => F_Jint_bitCount x0 h | _ => none
theorem w_Jint_bitCount (x0 : Int32) (h : Hp) : sF_Jint_bitCount [.int x0] h = F_Jint_bitCount x0 h := rfl
def S_Jint_bitCount : Sem Hp := []
set_option maxRecDepth 100000 in
theorem e_Jint_bitCount_0 (x0 : Int32) (h : Hp) : F_Jint_bitCount x0 h = exec1 OI S_Jint_bitCount 1 k_Jint_bitCount 0 [some (.int x0)] [] h (runF OI S_Jint_bitCount [] 1 k_Jint_bitCount 400) :=
  rfl
def k_Bp_withNeighbours : List Ent := [(0, .iload_n 0, 1, [], .null), (1, .iload_n 0, 1, [], .null), (2, .iconst 1, 1, [], .int (1)), (3, .ishl, 1, [], .null), (4, .ior, 1, [], .null), (5, .iload_n 0, 1, [], .null), (6, .iconst 1, 1, [], .int (1)), (7, .ishr, 1, [], .null), (8, .ior, 1, [], .null), (9, .bipush (31), 2, [], .int (31)), (11, .iand, 1, [], .null), (12, .ireturn, 1, [], .null)]
def F_Bp_withNeighbours (x0 : Int32) (h : Hp) : Res Hp :=
  retI (((x0 ||| (x0 <<< ((1 : Int32) &&& 31))) ||| (x0 >>> ((1 : Int32) &&& 31))) &&& (31 : Int32)) h
def sF_Bp_withNeighbours : List Value → Hp → Res Hp := fun as h => match as with | [.int x0] => F_Bp_withNeighbours x0 h | _ => none
theorem w_Bp_withNeighbours (x0 : Int32) (h : Hp) : sF_Bp_withNeighbours [.int x0] h = F_Bp_withNeighbours x0 h := rfl
def S_Bp_withNeighbours : Sem Hp := []
set_option maxRecDepth 100000 in
theorem e_Bp_withNeighbours_0 (x0 : Int32) (h : Hp) : F_Bp_withNeighbours x0 h = exec1 OI S_Bp_withNeighbours 1 k_Bp_withNeighbours 0 [some (.int x0)] [] h (runF OI S_Bp_withNeighbours [] 1 k_Bp_withNeighbours 400) :=
  rfl
def k_Le_wasGivenOnBy : List Ent := [(0, .iconst 1, 1, [], .int (1)), (1, .istore_n 2, 1, [], .null), (2, .iload_n 2, 1, [], .null), (3, .aload_n 0, 1, [], .null), (4, .getfield 18, 3, [1, 2, 0], .null), (7, .iconst 1, 1, [], .int (1)), (8, .isub, 1, [], .null), (9, .if_icmp .ge (21), 3, [30], .null), (12, .aload_n 0, 1, [], .null), (13, .getfield 9, 3, [1, 0, 1], .null), (16, .iload_n 2, 1, [], .null), (17, .iaload, 1, [], .null), (18, .iload_n 1, 1, [], .null), (19, .if_icmp .ne (5), 3, [24], .null), (22, .iconst 1, 1, [], .int (1)), (23, .ireturn, 1, [], .null), (24, .iinc 2 (1), 3, [], .int (1)), (27, .goto (-25), 3, [2], .null), (30, .iconst 0, 1, [], .int (0)), (31, .ireturn, 1, [], .null)]
def Le_wasGivenOnBy_2  (o0 : Nat) (x1 : Int32) (h : Hp) : (Int32) → ((Int32) → Res Hp) → Res Hp := fun s κ2 => match s with
  | x2 =>
  bif okF o0 1 2 0 then
  if ((hg h o0 2) - (1 : Int32)) ≤ x2 then
  (retZ (0 : Int32) h)
  else
  (bif okF o0 1 0 1 then
  bif okA (shR o0 0) 100 x2 then
  if (hg h (shR o0 0) x2.toNatClampNeg) = x1 then
  (retZ (1 : Int32) h)
  else
  (κ2 (x2 + (1 : Int32)))
  else none
  else none)
  else none
def F_Le_wasGivenOnBy (o0 : Nat) (x1 : Int32) (h : Hp) : Res Hp :=
  loopC (Le_wasGivenOnBy_2  o0 x1 h) FU (1 : Int32)
def sF_Le_wasGivenOnBy : List Value → Hp → Res Hp := fun as h => match as with | [.ref o0, .int x1] => F_Le_wasGivenOnBy o0 x1 h | _ => none
theorem w_Le_wasGivenOnBy (o0 : Nat) (x1 : Int32) (h : Hp) : sF_Le_wasGivenOnBy [.ref o0, .int x1] h = F_Le_wasGivenOnBy o0 x1 h := rfl
def S_Le_wasGivenOnBy : Sem Hp := []
set_option maxRecDepth 100000 in
theorem e_Le_wasGivenOnBy_0 (o0 : Nat) (x1 : Int32) (h : Hp) : F_Le_wasGivenOnBy o0 x1 h = exec1 OI S_Le_wasGivenOnBy 2 k_Le_wasGivenOnBy 0 [some (.ref o0), some (.int x1), none] [] h (runF OI S_Le_wasGivenOnBy [(2, [0, 1, 2], fun vs st h => match vs, st with | [.ref o0, .int x1, .int x2], [] => loopC (Le_wasGivenOnBy_2  o0 x1 h) FU x2 | _, _ => none)] 2 k_Le_wasGivenOnBy 400) :=
  rfl
set_option maxRecDepth 100000 in
theorem e_Le_wasGivenOnBy_2 (κ2 : (Int32) → Res Hp) (o0 : Nat) (x1 : Int32) (x2 : Int32)  (h : Hp) : Le_wasGivenOnBy_2  o0 x1 h x2 κ2 = exec1 OI S_Le_wasGivenOnBy 2 k_Le_wasGivenOnBy 2 [some (.ref o0), some (.int x1), some (.int x2)] [] h (runF OI S_Le_wasGivenOnBy [(2, [0, 1, 2], fun vs st h => match vs, st with | [.ref o0, .int x1, .int x2], [] => κ2 x2 | _, _ => none)] 2 k_Le_wasGivenOnBy 400) :=
  (x_bif (x_ite rfl (x_bif (x_bif (x_ite rfl rfl)))))
def k_La_lettersGivenOnBy : List Ent := [(0, .iconst 0, 1, [], .int (0)), (1, .istore_n 2, 1, [], .null), (2, .iconst 0, 1, [], .int (0)), (3, .istore_n 3, 1, [], .null), (4, .iload_n 3, 1, [], .null), (5, .aload_n 0, 1, [], .null), (6, .getfield 48, 3, [0, 10, 0], .null), (9, .if_icmp .ge (25), 3, [34], .null), (12, .aload_n 0, 1, [], .null), (13, .getfield 37, 3, [0, 7, 1], .null), (16, .iload_n 3, 1, [], .null), (17, .aaload, 1, [], .null), (18, .iload_n 1, 1, [], .null), (19, .invokevirtual 160, 3, [204, 2, 2], .null), (22, .ifCond .eq (6), 3, [28], .null), (25, .iinc 2 (1), 3, [], .int (1)), (28, .iinc 3 (1), 3, [], .int (1)), (31, .goto (-27), 3, [4], .null), (34, .iload_n 2, 1, [], .null), (35, .ireturn, 1, [], .null)]
def La_lettersGivenOnBy_4  (o0 : Nat) (x1 : Int32)  : (Int32 × Int32 × Hp) → ((Int32 × Int32 × Hp) → Res Hp) → Res Hp := fun s κ4 => match s with
  | (x2, x3, h) =>
  bif okF o0 0 10 0 then
  if (hg h o0 10) ≤ x3 then
  (retI x2 h)
  else
  (bif okF o0 0 7 1 then
  bif okR (shR o0 7) x3 then
  bI (F_Le_wasGivenOnBy (shR (shR o0 7) x3.toNatClampNeg) x1 h) fun v2 h1 =>
  if v2 = (0 : Int32) then
  (κ4 (x2, (x3 + (1 : Int32)), h1))
  else
  (κ4 ((x2 + (1 : Int32)), (x3 + (1 : Int32)), h1))
  else none
  else none)
  else none
def F_La_lettersGivenOnBy (o0 : Nat) (x1 : Int32) (h : Hp) : Res Hp :=
  loopC (La_lettersGivenOnBy_4  o0 x1 ) FU ((0 : Int32), (0 : Int32), h)
def sF_La_lettersGivenOnBy : List Value → Hp → Res Hp := fun as h => match as with | [.ref o0, .int x1] => F_La_lettersGivenOnBy o0 x1 h | _ => none
theorem w_La_lettersGivenOnBy (o0 : Nat) (x1 : Int32) (h : Hp) : sF_La_lettersGivenOnBy [.ref o0, .int x1] h = F_La_lettersGivenOnBy o0 x1 h := rfl
def S_La_lettersGivenOnBy : Sem Hp := [(204, sF_Le_wasGivenOnBy)]
set_option maxRecDepth 100000 in
theorem e_La_lettersGivenOnBy_0 (o0 : Nat) (x1 : Int32) (h : Hp) : F_La_lettersGivenOnBy o0 x1 h = exec1 OI S_La_lettersGivenOnBy 1 k_La_lettersGivenOnBy 0 [some (.ref o0), some (.int x1), none, none] [] h (runF OI S_La_lettersGivenOnBy [(4, [0, 1, 2, 3], fun vs st h => match vs, st with | [.ref o0, .int x1, .int x2, .int x3], [] => loopC (La_lettersGivenOnBy_4  o0 x1 ) FU (x2, x3, h) | _, _ => none)] 1 k_La_lettersGivenOnBy 400) :=
  rfl
set_option maxRecDepth 100000 in
theorem e_La_lettersGivenOnBy_4 (κ4 : (Int32 × Int32 × Hp) → Res Hp) (o0 : Nat) (x1 : Int32) (x2 : Int32) (x3 : Int32)  (h : Hp) : La_lettersGivenOnBy_4  o0 x1  (x2, x3, h) κ4 = exec1 OI S_La_lettersGivenOnBy 1 k_La_lettersGivenOnBy 4 [some (.ref o0), some (.int x1), some (.int x2), some (.int x3)] [] h (runF OI S_La_lettersGivenOnBy [(4, [0, 1, 2, 3], fun vs st h => match vs, st with | [.ref o0, .int x1, .int x2, .int x3], [] => κ4 (x2, x3, h) | _, _ => none)] 1 k_La_lettersGivenOnBy 400) :=
  (x_bif (x_ite rfl (x_bif (x_bif (x_bI (f := sF_Le_wasGivenOnBy) rfl (w_Le_wasGivenOnBy _ _ _) fun v2 h1 => (x_ite rfl rfl))))))
def k_La_markOf : List Ent := [(0, .iload_n 2, 1, [], .null), (1, .tableswitch (67) 1 4 #[31, 41, 51, 57], 31, [68, 1, 32, 2, 42, 3, 52, 4, 58], .null), (32, .aload_n 0, 1, [], .null), (33, .getfield 15, 3, [0, 1, 1], .null), (36, .iload_n 1, 1, [], .null), (37, .iaload, 1, [], .null), (38, .invokestatic 135, 3, [250, 1, 1], .null), (41, .ireturn, 1, [], .null), (42, .aload_n 0, 1, [], .null), (43, .getfield 15, 3, [0, 1, 1], .null), (46, .iload_n 1, 1, [], .null), (47, .iaload, 1, [], .null), (48, .invokestatic 89, 3, [69, 1, 1], .null), (51, .ireturn, 1, [], .null), (52, .aload_n 0, 1, [], .null), (53, .iload_n 1, 1, [], .null), (54, .invokevirtual 157, 3, [193, 2, 1], .null), (57, .ireturn, 1, [], .null), (58, .aload_n 0, 1, [], .null), (59, .getfield 32, 3, [0, 6, 1], .null), (62, .iload_n 1, 1, [], .null), (63, .iaload, 1, [], .null), (64, .invokestatic 135, 3, [250, 1, 1], .null), (67, .ireturn, 1, [], .null), (68, .iconst 5, 1, [], .int (5)), (69, .aload_n 0, 1, [], .null), (70, .getfield 15, 3, [0, 1, 1], .null), (73, .iload_n 1, 1, [], .null), (74, .iaload, 1, [], .null), (75, .invokestatic 135, 3, [250, 1, 1], .null), (78, .isub, 1, [], .null), (79, .ireturn, 1, [], .null)]
def F_La_markOf (o0 : Nat) (x1 : Int32) (x2 : Int32) (h : Hp) : Res Hp :=
  if x2 = (1 : Int32) then
  (bif okF o0 0 1 1 then
  bif okA (shR o0 1) 100 x1 then
  bI (F_Jint_bitCount (hg h (shR o0 1) x1.toNatClampNeg) h) fun v2 h1 =>
  retI v2 h1
  else none
  else none)
  else if x2 = (2 : Int32) then
  (bif okF o0 0 1 1 then
  bif okA (shR o0 1) 100 x1 then
  bI (F_Bp_withNeighbours (hg h (shR o0 1) x1.toNatClampNeg) h) fun v4 h3 =>
  retI v4 h3
  else none
  else none)
  else if x2 = (3 : Int32) then
  (bI (F_La_lettersGivenOnBy o0 x1 h) fun v6 h5 =>
  retI v6 h5)
  else if x2 = (4 : Int32) then
  (bif okF o0 0 6 1 then
  bif okA (shR o0 6) 100 x1 then
  bI (F_Jint_bitCount (hg h (shR o0 6) x1.toNatClampNeg) h) fun v8 h7 =>
  retI v8 h7
  else none
  else none)
  else 
  (bif okF o0 0 1 1 then
  bif okA (shR o0 1) 100 x1 then
  bI (F_Jint_bitCount (hg h (shR o0 1) x1.toNatClampNeg) h) fun v10 h9 =>
  retI ((5 : Int32) - v10) h9
  else none
  else none)
def sF_La_markOf : List Value → Hp → Res Hp := fun as h => match as with | [.ref o0, .int x1, .int x2] => F_La_markOf o0 x1 x2 h | _ => none
theorem w_La_markOf (o0 : Nat) (x1 : Int32) (x2 : Int32) (h : Hp) : sF_La_markOf [.ref o0, .int x1, .int x2] h = F_La_markOf o0 x1 x2 h := rfl
def S_La_markOf : Sem Hp := [(250, sF_Jint_bitCount), (69, sF_Bp_withNeighbours), (193, sF_La_lettersGivenOnBy)]
set_option maxRecDepth 100000 in
theorem e_La_markOf_0 (o0 : Nat) (x1 : Int32) (x2 : Int32) (h : Hp) : F_La_markOf o0 x1 x2 h = exec1 OI S_La_markOf 1 k_La_markOf 0 [some (.ref o0), some (.int x1), some (.int x2)] [] h (runF OI S_La_markOf [] 1 k_La_markOf 400) :=
  (x_ite (x_bif (x_bif (x_bI (f := sF_Jint_bitCount) rfl (w_Jint_bitCount _ _) fun v2 h1 => rfl))) (x_ite (x_bif (x_bif (x_bI (f := sF_Bp_withNeighbours) rfl (w_Bp_withNeighbours _ _) fun v4 h3 => rfl))) (x_ite (x_bI (f := sF_La_lettersGivenOnBy) rfl (w_La_lettersGivenOnBy _ _ _) fun v6 h5 => rfl) (x_ite (x_bif (x_bif (x_bI (f := sF_Jint_bitCount) rfl (w_Jint_bitCount _ _) fun v8 h7 => rfl))) (x_bif (x_bif (x_bI (f := sF_Jint_bitCount) rfl (w_Jint_bitCount _ _) fun v10 h9 => rfl)))))))
def k_Bp_mark : List Ent := [(0, .aload_n 0, 1, [], .null), (1, .getfield 21, 3, [6, 2, 1], .null), (4, .iload_n 1, 1, [], .null), (5, .invokevirtual 130, 3, [175, 2, 2], .null), (8, .ifCond .ne (13), 3, [21], .null), (11, .iload_n 2, 1, [], .null), (12, .ifCond .le (9), 3, [21], .null), (15, .iload_n 2, 1, [], .null), (16, .bipush (6), 2, [], .int (6)), (18, .if_icmp .lt (5), 3, [23], .null), (21, .iconst (-1), 1, [], .int (-1)), (22, .ireturn, 1, [], .null), (23, .aload_n 0, 1, [], .null), (24, .getfield 21, 3, [6, 2, 1], .null), (27, .getfield 137, 3, [0, 0, 1], .null), (30, .iload_n 1, 1, [], .null), (31, .iaload, 1, [], .null), (32, .iload_n 2, 1, [], .null), (33, .invokestatic 140, 3, [67, 2, 2], .null), (36, .ifCond .ne (9), 3, [45], .null), (39, .aload_n 0, 1, [], .null), (40, .iconst 3, 1, [], .int (3)), (41, .invokevirtual 79, 3, [50, 2, 1], .null), (44, .ireturn, 1, [], .null), (45, .aload_n 0, 1, [], .null), (46, .getfield 21, 3, [6, 2, 1], .null), (49, .iload_n 1, 1, [], .null), (50, .iload_n 2, 1, [], .null), (51, .invokevirtual 143, 3, [192, 3, 1], .null), (54, .ireturn, 1, [], .null)]
def F_Bp_mark (x1 : Int32) (x2 : Int32) (h : Hp) : Res Hp :=
  bI (F_La_lacks 3 x1 h) fun v2 h1 =>
  if v2 = (0 : Int32) then
  (if x2 ≤ (0 : Int32) then
  (retI (-1 : Int32) h1)
  else
  (if x2 < (6 : Int32) then
  (bif okA 4 100 x1 then
  bI (F_Bp_isOf (hg h1 4 x1.toNatClampNeg) x2 h1) fun v4 h3 =>
  if v4 = (0 : Int32) then
  (bI (F_Bp_found (3 : Int32) h3) fun v8 h7 =>
  retI v8 h7)
  else
  (bI (F_La_markOf 3 x1 x2 h3) fun v6 h5 =>
  retI v6 h5)
  else none)
  else
  (retI (-1 : Int32) h1)))
  else
  (retI (-1 : Int32) h1)
def sF_Bp_mark : List Value → Hp → Res Hp := fun as h => match as with | [.ref f0, .int x1, .int x2] => (match Nat.beq f0 0 with | true => F_Bp_mark x1 x2 h | false => none) | _ => none
theorem w_Bp_mark (x1 : Int32) (x2 : Int32) (h : Hp) : sF_Bp_mark [.ref 0, .int x1, .int x2] h = F_Bp_mark x1 x2 h := rfl
def S_Bp_mark : Sem Hp := [(175, sF_La_lacks), (67, sF_Bp_isOf), (192, sF_La_markOf), (50, sF_Bp_found)]
set_option maxRecDepth 100000 in
theorem e_Bp_mark_0 (x1 : Int32) (x2 : Int32) (h : Hp) : F_Bp_mark x1 x2 h = exec1 OI S_Bp_mark 1 k_Bp_mark 0 [some (.ref 0), some (.int x1), some (.int x2)] [] h (runF OI S_Bp_mark [] 1 k_Bp_mark 400) :=
  (x_bI (f := sF_La_lacks) rfl (w_La_lacks _ _ _) fun v2 h1 => (x_ite (x_ite rfl (x_ite (x_bif (x_bI (f := sF_Bp_isOf) rfl (w_Bp_isOf _ _ _) fun v4 h3 => (x_ite (x_bI (f := sF_Bp_found) rfl (w_Bp_found _ _) fun v8 h7 => rfl) (x_bI (f := sF_La_markOf) rfl (w_La_markOf _ _ _ _) fun v6 h5 => rfl)))) rfl)) rfl))
def k_Bp_teach : List Ent := [(0, .aload_n 0, 1, [], .null), (1, .getfield 21, 3, [6, 2, 1], .null), (4, .iload_n 1, 1, [], .null), (5, .invokevirtual 130, 3, [175, 2, 2], .null), (8, .ifCond .ne (19), 3, [27], .null), (11, .iload_n 2, 1, [], .null), (12, .invokestatic 146, 3, [55, 1, 2], .null), (15, .ifCond .ne (12), 3, [27], .null), (18, .iload_n 3, 1, [], .null), (19, .ifCond .lt (8), 3, [27], .null), (22, .iload_n 3, 1, [], .null), (23, .iconst 1, 1, [], .int (1)), (24, .if_icmp .le (5), 3, [29], .null), (27, .iconst (-1), 1, [], .int (-1)), (28, .ireturn, 1, [], .null), (29, .aload_n 0, 1, [], .null), (30, .getfield 21, 3, [6, 2, 1], .null), (33, .getfield 149, 3, [0, 1, 1], .null), (36, .iload_n 1, 1, [], .null), (37, .iaload, 1, [], .null), (38, .iload_n 2, 1, [], .null), (39, .ishr, 1, [], .null), (40, .iconst 1, 1, [], .int (1)), (41, .iand, 1, [], .null), (42, .istore 4, 2, [], .null), (44, .aload_n 0, 1, [], .null), (45, .getfield 21, 3, [6, 2, 1], .null), (48, .getfield 149, 3, [0, 1, 1], .null), (51, .iload_n 1, 1, [], .null), (52, .iload_n 3, 1, [], .null), (53, .iconst 1, 1, [], .int (1)), (54, .if_icmp .ne (20), 3, [74], .null), (57, .aload_n 0, 1, [], .null), (58, .getfield 21, 3, [6, 2, 1], .null), (61, .getfield 149, 3, [0, 1, 1], .null), (64, .iload_n 1, 1, [], .null), (65, .iaload, 1, [], .null), (66, .iload_n 2, 1, [], .null), (67, .invokestatic 152, 3, [64, 1, 1], .null), (70, .ior, 1, [], .null), (71, .goto (19), 3, [90], .null), (74, .aload_n 0, 1, [], .null), (75, .getfield 21, 3, [6, 2, 1], .null), (78, .getfield 149, 3, [0, 1, 1], .null), (81, .iload_n 1, 1, [], .null), (82, .iaload, 1, [], .null), (83, .iload_n 2, 1, [], .null), (84, .invokestatic 152, 3, [64, 1, 1], .null), (87, .iconst (-1), 1, [], .int (-1)), (88, .ixor, 1, [], .null), (89, .iand, 1, [], .null), (90, .iastore, 1, [], .null), (91, .iload 4, 2, [], .null), (93, .ireturn, 1, [], .null)]
def F_Bp_teach (x1 : Int32) (x2 : Int32) (x3 : Int32) (h : Hp) : Res Hp :=
  bI (F_La_lacks 3 x1 h) fun v2 h1 =>
  if v2 = (0 : Int32) then
  (bI (F_Bp_noTongue x2 h1) fun v4 h3 =>
  if v4 = (0 : Int32) then
  (if x3 < (0 : Int32) then
  (retI (-1 : Int32) h3)
  else
  (if x3 ≤ (1 : Int32) then
  (bif okA 5 100 x1 then
  if x3 = (1 : Int32) then
  (bif okA 5 100 x1 then
  bI (F_Bp_bit x2 h3) fun v9 h8 =>
  bif okA 5 100 x1 then
  bH (hs h8 5 x1.toNatClampNeg ((hg h3 5 x1.toNatClampNeg) ||| v9)) fun h10 =>
  retI (((hg h3 5 x1.toNatClampNeg) >>> (x2 &&& 31)) &&& (1 : Int32)) h10
  else none
  else none)
  else
  (bif okA 5 100 x1 then
  bI (F_Bp_bit x2 h3) fun v6 h5 =>
  bif okA 5 100 x1 then
  bH (hs h5 5 x1.toNatClampNeg ((hg h3 5 x1.toNatClampNeg) &&& (v6 ^^^ (-1 : Int32)))) fun h7 =>
  retI (((hg h3 5 x1.toNatClampNeg) >>> (x2 &&& 31)) &&& (1 : Int32)) h7
  else none
  else none)
  else none)
  else
  (retI (-1 : Int32) h3)))
  else
  (retI (-1 : Int32) h3))
  else
  (retI (-1 : Int32) h1)
def sF_Bp_teach : List Value → Hp → Res Hp := fun as h => match as with | [.ref f0, .int x1, .int x2, .int x3] => (match Nat.beq f0 0 with | true => F_Bp_teach x1 x2 x3 h | false => none) | _ => none
theorem w_Bp_teach (x1 : Int32) (x2 : Int32) (x3 : Int32) (h : Hp) : sF_Bp_teach [.ref 0, .int x1, .int x2, .int x3] h = F_Bp_teach x1 x2 x3 h := rfl
def S_Bp_teach : Sem Hp := [(175, sF_La_lacks), (55, sF_Bp_noTongue), (64, sF_Bp_bit)]
set_option maxRecDepth 100000 in
theorem e_Bp_teach_0 (x1 : Int32) (x2 : Int32) (x3 : Int32) (h : Hp) : F_Bp_teach x1 x2 x3 h = exec1 OI S_Bp_teach 1 k_Bp_teach 0 [some (.ref 0), some (.int x1), some (.int x2), some (.int x3), none] [] h (runF OI S_Bp_teach [] 1 k_Bp_teach 400) :=
  (x_bI (f := sF_La_lacks) rfl (w_La_lacks _ _ _) fun v2 h1 => (x_ite (x_bI (f := sF_Bp_noTongue) rfl (w_Bp_noTongue _ _) fun v4 h3 => (x_ite (x_ite rfl (x_ite (x_bif (x_ite (x_bif (x_bI (f := sF_Bp_bit) rfl (w_Bp_bit _ _) fun v9 h8 => (x_bif (x_bH fun h10 => rfl)))) (x_bif (x_bI (f := sF_Bp_bit) rfl (w_Bp_bit _ _) fun v6 h5 => (x_bif (x_bH fun h7 => rfl)))))) rfl)) rfl)) rfl))
def k_Bp_noPair : List Ent := [(0, .aload_n 0, 1, [], .null), (1, .getfield 21, 3, [6, 2, 1], .null), (4, .iload_n 1, 1, [], .null), (5, .invokevirtual 130, 3, [175, 2, 2], .null), (8, .ifCond .ne (19), 3, [27], .null), (11, .aload_n 0, 1, [], .null), (12, .getfield 21, 3, [6, 2, 1], .null), (15, .iload_n 2, 1, [], .null), (16, .invokevirtual 130, 3, [175, 2, 2], .null), (19, .ifCond .ne (8), 3, [27], .null), (22, .iload_n 1, 1, [], .null), (23, .iload_n 2, 1, [], .null), (24, .if_icmp .ne (7), 3, [31], .null), (27, .iconst 1, 1, [], .int (1)), (28, .goto (4), 3, [32], .null), (31, .iconst 0, 1, [], .int (0)), (32, .ireturn, 1, [], .null)]
def F_Bp_noPair (x1 : Int32) (x2 : Int32) (h : Hp) : Res Hp :=
  bI (F_La_lacks 3 x1 h) fun v2 h1 =>
  if v2 = (0 : Int32) then
  (bI (F_La_lacks 3 x2 h1) fun v4 h3 =>
  if v4 = (0 : Int32) then
  (if x1 = x2 then
  (retZ (1 : Int32) h3)
  else
  (retZ (0 : Int32) h3))
  else
  (retZ (1 : Int32) h3))
  else
  (retZ (1 : Int32) h1)
def sF_Bp_noPair : List Value → Hp → Res Hp := fun as h => match as with | [.ref f0, .int x1, .int x2] => (match Nat.beq f0 0 with | true => F_Bp_noPair x1 x2 h | false => none) | _ => none
theorem w_Bp_noPair (x1 : Int32) (x2 : Int32) (h : Hp) : sF_Bp_noPair [.ref 0, .int x1, .int x2] h = F_Bp_noPair x1 x2 h := rfl
def S_Bp_noPair : Sem Hp := [(175, sF_La_lacks)]
set_option maxRecDepth 100000 in
theorem e_Bp_noPair_0 (x1 : Int32) (x2 : Int32) (h : Hp) : F_Bp_noPair x1 x2 h = exec1 OI S_Bp_noPair 2 k_Bp_noPair 0 [some (.ref 0), some (.int x1), some (.int x2)] [] h (runF OI S_Bp_noPair [] 2 k_Bp_noPair 400) :=
  (x_bI (f := sF_La_lacks) rfl (w_La_lacks _ _ _) fun v2 h1 => (x_ite (x_bI (f := sF_La_lacks) rfl (w_La_lacks _ _ _) fun v4 h3 => (x_ite (x_ite rfl rfl) rfl)) rfl))
def k_Bp_meet : List Ent := [(0, .aload_n 0, 1, [], .null), (1, .iload_n 1, 1, [], .null), (2, .iload_n 2, 1, [], .null), (3, .invokevirtual 155, 3, [58, 3, 2], .null), (6, .ifCond .ne (13), 3, [19], .null), (9, .iload_n 3, 1, [], .null), (10, .ifCond .lt (9), 3, [19], .null), (13, .iload_n 3, 1, [], .null), (14, .bipush (8), 2, [], .int (8)), (16, .if_icmp .lt (5), 3, [21], .null), (19, .iconst (-1), 1, [], .int (-1)), (20, .ireturn, 1, [], .null), (21, .aload_n 0, 1, [], .null), (22, .getfield 21, 3, [6, 2, 1], .null), (25, .getfield 158, 3, [0, 9, 0], .null), (28, .bipush (16), 2, [], .int (16)), (30, .if_icmp .lt (6), 3, [36], .null), (33, .bipush (-2), 2, [], .int (-2)), (35, .ireturn, 1, [], .null), (36, .aload_n 0, 1, [], .null), (37, .getfield 21, 3, [6, 2, 1], .null), (40, .iload_n 1, 1, [], .null), (41, .iload_n 2, 1, [], .null), (42, .iload_n 3, 1, [], .null), (43, .invokevirtual 161, 3, [177, 4, 0], .null), (46, .aload_n 0, 1, [], .null), (47, .getfield 21, 3, [6, 2, 1], .null), (50, .getfield 158, 3, [0, 9, 0], .null), (53, .iconst 1, 1, [], .int (1)), (54, .isub, 1, [], .null), (55, .ireturn, 1, [], .null)]
def F_Bp_meet (x1 : Int32) (x2 : Int32) (x3 : Int32) (h : Hp) : Res Hp :=
  bI (F_Bp_noPair x1 x2 h) fun v2 h1 =>
  if v2 = (0 : Int32) then
  (if x3 < (0 : Int32) then
  (retI (-1 : Int32) h1)
  else
  (if x3 < (8 : Int32) then
  (if (hg h1 3 9) < (16 : Int32) then
  (bV (F_La_addMeeting 3 x1 x2 x3 h1) fun h3 =>
  retI ((hg h3 3 9) - (1 : Int32)) h3)
  else
  (retI (-2 : Int32) h1))
  else
  (retI (-1 : Int32) h1)))
  else
  (retI (-1 : Int32) h1)
def sF_Bp_meet : List Value → Hp → Res Hp := fun as h => match as with | [.ref f0, .int x1, .int x2, .int x3] => (match Nat.beq f0 0 with | true => F_Bp_meet x1 x2 x3 h | false => none) | _ => none
theorem w_Bp_meet (x1 : Int32) (x2 : Int32) (x3 : Int32) (h : Hp) : sF_Bp_meet [.ref 0, .int x1, .int x2, .int x3] h = F_Bp_meet x1 x2 x3 h := rfl
def S_Bp_meet : Sem Hp := [(58, sF_Bp_noPair), (177, sF_La_addMeeting)]
set_option maxRecDepth 100000 in
theorem e_Bp_meet_0 (x1 : Int32) (x2 : Int32) (x3 : Int32) (h : Hp) : F_Bp_meet x1 x2 x3 h = exec1 OI S_Bp_meet 1 k_Bp_meet 0 [some (.ref 0), some (.int x1), some (.int x2), some (.int x3)] [] h (runF OI S_Bp_meet [] 1 k_Bp_meet 400) :=
  (x_bI (f := sF_Bp_noPair) rfl (w_Bp_noPair _ _ _) fun v2 h1 => (x_ite (x_ite rfl (x_ite (x_ite (x_bV (f := sF_La_addMeeting) rfl (w_La_addMeeting _ _ _ _ _) fun h3 => rfl) rfl) rfl)) rfl))
def k_Bp_off : List Ent := [(0, .iload_n 1, 1, [], .null), (1, .ifCond .lt (14), 3, [15], .null), (4, .iload_n 1, 1, [], .null), (5, .aload_n 0, 1, [], .null), (6, .getfield 21, 3, [6, 2, 1], .null), (9, .getfield 158, 3, [0, 9, 0], .null), (12, .if_icmp .le (5), 3, [17], .null), (15, .iconst (-1), 1, [], .int (-1)), (16, .ireturn, 1, [], .null), (17, .aload_n 0, 1, [], .null), (18, .getfield 21, 3, [6, 2, 1], .null), (21, .getfield 158, 3, [0, 9, 0], .null), (24, .iload_n 1, 1, [], .null), (25, .isub, 1, [], .null), (26, .istore_n 2, 1, [], .null), (27, .aload_n 0, 1, [], .null), (28, .getfield 21, 3, [6, 2, 1], .null), (31, .iload_n 1, 1, [], .null), (32, .putfield 158, 3, [0, 9, 0], .null), (35, .aload_n 0, 1, [], .null), (36, .getfield 21, 3, [6, 2, 1], .null), (39, .invokevirtual 165, 3, [179, 1, 0], .null), (42, .iload_n 2, 1, [], .null), (43, .ireturn, 1, [], .null)]
def F_Bp_off (x1 : Int32) (h : Hp) : Res Hp :=
  if x1 < (0 : Int32) then
  (retI (-1 : Int32) h)
  else
  (if x1 ≤ (hg h 3 9) then
  (bH (hs h 3 9 x1) fun h1 =>
  bV (F_La_tieAll 3 h1) fun h2 =>
  retI ((hg h 3 9) - x1) h2)
  else
  (retI (-1 : Int32) h))
def sF_Bp_off : List Value → Hp → Res Hp := fun as h => match as with | [.ref f0, .int x1] => (match Nat.beq f0 0 with | true => F_Bp_off x1 h | false => none) | _ => none
theorem w_Bp_off (x1 : Int32) (h : Hp) : sF_Bp_off [.ref 0, .int x1] h = F_Bp_off x1 h := rfl
def S_Bp_off : Sem Hp := [(179, sF_La_tieAll)]
set_option maxRecDepth 100000 in
theorem e_Bp_off_0 (x1 : Int32) (h : Hp) : F_Bp_off x1 h = exec1 OI S_Bp_off 1 k_Bp_off 0 [some (.ref 0), some (.int x1), none] [] h (runF OI S_Bp_off [] 1 k_Bp_off 400) :=
  (x_ite rfl (x_ite (x_bH fun h1 => (x_bV (f := sF_La_tieAll) rfl (w_La_tieAll _ _) fun h2 => rfl)) rfl))
def k_Bp_noTongues : List Ent := [(0, .iload_n 0, 1, [], .null), (1, .iconst 1, 1, [], .int (1)), (2, .if_icmp .lt (9), 3, [11], .null), (5, .iload_n 0, 1, [], .null), (6, .bipush (31), 2, [], .int (31)), (8, .if_icmp .le (7), 3, [15], .null), (11, .iconst 1, 1, [], .int (1)), (12, .goto (4), 3, [16], .null), (15, .iconst 0, 1, [], .int (0)), (16, .ireturn, 1, [], .null)]
def F_Bp_noTongues (x0 : Int32) (h : Hp) : Res Hp :=
  if x0 < (1 : Int32) then
  (retZ (1 : Int32) h)
  else
  (if x0 ≤ (31 : Int32) then
  (retZ (0 : Int32) h)
  else
  (retZ (1 : Int32) h))
def sF_Bp_noTongues : List Value → Hp → Res Hp := fun as h => match as with | [.int x0] => F_Bp_noTongues x0 h | _ => none
theorem w_Bp_noTongues (x0 : Int32) (h : Hp) : sF_Bp_noTongues [.int x0] h = F_Bp_noTongues x0 h := rfl
def S_Bp_noTongues : Sem Hp := []
set_option maxRecDepth 100000 in
theorem e_Bp_noTongues_0 (x0 : Int32) (h : Hp) : F_Bp_noTongues x0 h = exec1 OI S_Bp_noTongues 2 k_Bp_noTongues 0 [some (.int x0)] [] h (runF OI S_Bp_noTongues [] 2 k_Bp_noTongues 400) :=
  (x_ite rfl (x_ite rfl rfl))
def k_La_bars : List Ent := [(0, .aload_n 0, 1, [], .null), (1, .getfield 9, 3, [0, 0, 1], .null), (4, .iload_n 1, 1, [], .null), (5, .iaload, 1, [], .null), (6, .tableswitch (48) 1 5 #[34, 36, 48, 34, 34], 34, [54, 1, 40, 2, 42, 3, 54, 4, 40, 5, 40], .null), (40, .iconst 0, 1, [], .int (0)), (41, .ireturn, 1, [], .null), (42, .aload_n 0, 1, [], .null), (43, .getfield 15, 3, [0, 1, 1], .null), (46, .iload_n 1, 1, [], .null), (47, .iaload, 1, [], .null), (48, .iload_n 2, 1, [], .null), (49, .invokestatic 89, 3, [69, 1, 1], .null), (52, .iand, 1, [], .null), (53, .ireturn, 1, [], .null), (54, .aload_n 0, 1, [], .null), (55, .getfield 15, 3, [0, 1, 1], .null), (58, .iload_n 1, 1, [], .null), (59, .iaload, 1, [], .null), (60, .iload_n 2, 1, [], .null), (61, .iand, 1, [], .null), (62, .ireturn, 1, [], .null)]
def F_La_bars (o0 : Nat) (x1 : Int32) (x2 : Int32) (h : Hp) : Res Hp :=
  bif okF o0 0 0 1 then
  bif okA (shR o0 0) 100 x1 then
  if (hg h (shR o0 0) x1.toNatClampNeg) = (1 : Int32) then
  (retI (0 : Int32) h)
  else if (hg h (shR o0 0) x1.toNatClampNeg) = (2 : Int32) then
  (bif okF o0 0 1 1 then
  bif okA (shR o0 1) 100 x1 then
  bI (F_Bp_withNeighbours x2 h) fun v2 h1 =>
  retI ((hg h (shR o0 1) x1.toNatClampNeg) &&& v2) h1
  else none
  else none)
  else if (hg h (shR o0 0) x1.toNatClampNeg) = (3 : Int32) then
  (bif okF o0 0 1 1 then
  bif okA (shR o0 1) 100 x1 then
  retI ((hg h (shR o0 1) x1.toNatClampNeg) &&& x2) h
  else none
  else none)
  else if (hg h (shR o0 0) x1.toNatClampNeg) = (4 : Int32) then
  (retI (0 : Int32) h)
  else if (hg h (shR o0 0) x1.toNatClampNeg) = (5 : Int32) then
  (retI (0 : Int32) h)
  else 
  (bif okF o0 0 1 1 then
  bif okA (shR o0 1) 100 x1 then
  retI ((hg h (shR o0 1) x1.toNatClampNeg) &&& x2) h
  else none
  else none)
  else none
  else none
def sF_La_bars : List Value → Hp → Res Hp := fun as h => match as with | [.ref o0, .int x1, .int x2] => F_La_bars o0 x1 x2 h | _ => none
theorem w_La_bars (o0 : Nat) (x1 : Int32) (x2 : Int32) (h : Hp) : sF_La_bars [.ref o0, .int x1, .int x2] h = F_La_bars o0 x1 x2 h := rfl
def S_La_bars : Sem Hp := [(69, sF_Bp_withNeighbours)]
set_option maxRecDepth 100000 in
theorem e_La_bars_0 (o0 : Nat) (x1 : Int32) (x2 : Int32) (h : Hp) : F_La_bars o0 x1 x2 h = exec1 OI S_La_bars 1 k_La_bars 0 [some (.ref o0), some (.int x1), some (.int x2)] [] h (runF OI S_La_bars [] 1 k_La_bars 400) :=
  (x_bif (x_bif (x_ite rfl (x_ite (x_bif (x_bif (x_bI (f := sF_Bp_withNeighbours) rfl (w_Bp_withNeighbours _ _) fun v2 h1 => rfl))) (x_ite (x_bif (x_bif rfl)) (x_ite rfl (x_ite rfl (x_bif (x_bif rfl)))))))))
def k_La_carries : List Ent := [(0, .aload_n 0, 1, [], .null), (1, .iload_n 1, 1, [], .null), (2, .iload_n 2, 1, [], .null), (3, .invokevirtual 92, 3, [182, 3, 1], .null), (6, .ifCond .ne (7), 3, [13], .null), (9, .iconst 1, 1, [], .int (1)), (10, .goto (4), 3, [14], .null), (13, .iconst 0, 1, [], .int (0)), (14, .ireturn, 1, [], .null)]
def F_La_carries (o0 : Nat) (x1 : Int32) (x2 : Int32) (h : Hp) : Res Hp :=
  bI (F_La_bars o0 x1 x2 h) fun v2 h1 =>
  if v2 = (0 : Int32) then
  (retZ (1 : Int32) h1)
  else
  (retZ (0 : Int32) h1)
def sF_La_carries : List Value → Hp → Res Hp := fun as h => match as with | [.ref o0, .int x1, .int x2] => F_La_carries o0 x1 x2 h | _ => none
theorem w_La_carries (o0 : Nat) (x1 : Int32) (x2 : Int32) (h : Hp) : sF_La_carries [.ref o0, .int x1, .int x2] h = F_La_carries o0 x1 x2 h := rfl
def S_La_carries : Sem Hp := [(182, sF_La_bars)]
set_option maxRecDepth 100000 in
theorem e_La_carries_0 (o0 : Nat) (x1 : Int32) (x2 : Int32) (h : Hp) : F_La_carries o0 x1 x2 h = exec1 OI S_La_carries 2 k_La_carries 0 [some (.ref o0), some (.int x1), some (.int x2)] [] h (runF OI S_La_carries [] 2 k_La_carries 400) :=
  (x_bI (f := sF_La_bars) rfl (w_La_bars _ _ _ _) fun v2 h1 => (x_ite rfl rfl))
def k_Bp_may : List Ent := [(0, .aload_n 0, 1, [], .null), (1, .getfield 21, 3, [6, 2, 1], .null), (4, .iload_n 1, 1, [], .null), (5, .invokevirtual 130, 3, [175, 2, 2], .null), (8, .ifCond .ne (10), 3, [18], .null), (11, .iload_n 2, 1, [], .null), (12, .invokestatic 168, 3, [56, 1, 2], .null), (15, .ifCond .eq (5), 3, [20], .null), (18, .iconst (-1), 1, [], .int (-1)), (19, .ireturn, 1, [], .null), (20, .aload_n 0, 1, [], .null), (21, .getfield 21, 3, [6, 2, 1], .null), (24, .iload_n 1, 1, [], .null), (25, .iload_n 2, 1, [], .null), (26, .invokevirtual 171, 3, [183, 3, 2], .null), (29, .ifCond .eq (7), 3, [36], .null), (32, .iconst 1, 1, [], .int (1)), (33, .goto (4), 3, [37], .null), (36, .iconst 0, 1, [], .int (0)), (37, .ireturn, 1, [], .null)]
def F_Bp_may (x1 : Int32) (x2 : Int32) (h : Hp) : Res Hp :=
  bI (F_La_lacks 3 x1 h) fun v2 h1 =>
  if v2 = (0 : Int32) then
  (bI (F_Bp_noTongues x2 h1) fun v4 h3 =>
  if v4 = (0 : Int32) then
  (bI (F_La_carries 3 x1 x2 h3) fun v6 h5 =>
  if v6 = (0 : Int32) then
  (retI (0 : Int32) h5)
  else
  (retI (1 : Int32) h5))
  else
  (retI (-1 : Int32) h3))
  else
  (retI (-1 : Int32) h1)
def sF_Bp_may : List Value → Hp → Res Hp := fun as h => match as with | [.ref f0, .int x1, .int x2] => (match Nat.beq f0 0 with | true => F_Bp_may x1 x2 h | false => none) | _ => none
theorem w_Bp_may (x1 : Int32) (x2 : Int32) (h : Hp) : sF_Bp_may [.ref 0, .int x1, .int x2] h = F_Bp_may x1 x2 h := rfl
def S_Bp_may : Sem Hp := [(175, sF_La_lacks), (56, sF_Bp_noTongues), (183, sF_La_carries)]
set_option maxRecDepth 100000 in
theorem e_Bp_may_0 (x1 : Int32) (x2 : Int32) (h : Hp) : F_Bp_may x1 x2 h = exec1 OI S_Bp_may 1 k_Bp_may 0 [some (.ref 0), some (.int x1), some (.int x2)] [] h (runF OI S_Bp_may [] 1 k_Bp_may 400) :=
  (x_bI (f := sF_La_lacks) rfl (w_La_lacks _ _ _) fun v2 h1 => (x_ite (x_bI (f := sF_Bp_noTongues) rfl (w_Bp_noTongues _ _) fun v4 h3 => (x_ite (x_bI (f := sF_La_carries) rfl (w_La_carries _ _ _ _) fun v6 h5 => (x_ite rfl rfl)) rfl)) rfl))
def k_Bp_noHour : List Ent := [(0, .iload_n 0, 1, [], .null), (1, .ifCond .lt (9), 3, [10], .null), (4, .iload_n 0, 1, [], .null), (5, .bipush (99), 2, [], .int (99)), (7, .if_icmp .le (7), 3, [14], .null), (10, .iconst 1, 1, [], .int (1)), (11, .goto (4), 3, [15], .null), (14, .iconst 0, 1, [], .int (0)), (15, .ireturn, 1, [], .null)]
def F_Bp_noHour (x0 : Int32) (h : Hp) : Res Hp :=
  if x0 < (0 : Int32) then
  (retZ (1 : Int32) h)
  else
  (if x0 ≤ (99 : Int32) then
  (retZ (0 : Int32) h)
  else
  (retZ (1 : Int32) h))
def sF_Bp_noHour : List Value → Hp → Res Hp := fun as h => match as with | [.int x0] => F_Bp_noHour x0 h | _ => none
theorem w_Bp_noHour (x0 : Int32) (h : Hp) : sF_Bp_noHour [.int x0] h = F_Bp_noHour x0 h := rfl
def S_Bp_noHour : Sem Hp := []
set_option maxRecDepth 100000 in
theorem e_Bp_noHour_0 (x0 : Int32) (h : Hp) : F_Bp_noHour x0 h = exec1 OI S_Bp_noHour 2 k_Bp_noHour 0 [some (.int x0)] [] h (runF OI S_Bp_noHour [] 2 k_Bp_noHour 400) :=
  (x_ite rfl (x_ite rfl rfl))
def k_Bp_meets : List Ent := [(0, .aload_n 0, 1, [], .null), (1, .getfield 21, 3, [6, 2, 1], .null), (4, .iload_n 1, 1, [], .null), (5, .invokevirtual 130, 3, [175, 2, 2], .null), (8, .ifCond .ne (10), 3, [18], .null), (11, .iload_n 2, 1, [], .null), (12, .invokestatic 174, 3, [57, 1, 2], .null), (15, .ifCond .eq (5), 3, [20], .null), (18, .iconst (-1), 1, [], .int (-1)), (19, .ireturn, 1, [], .null), (20, .aload_n 0, 1, [], .null), (21, .getfield 21, 3, [6, 2, 1], .null), (24, .getfield 177, 3, [0, 5, 1], .null), (27, .iload_n 2, 1, [], .null), (28, .bipush (8), 2, [], .int (8)), (30, .irem, 1, [], .null), (31, .aaload, 1, [], .null), (32, .iload_n 1, 1, [], .null), (33, .iaload, 1, [], .null), (34, .ireturn, 1, [], .null)]
def F_Bp_meets (x1 : Int32) (x2 : Int32) (h : Hp) : Res Hp :=
  bI (F_La_lacks 3 x1 h) fun v2 h1 =>
  if v2 = (0 : Int32) then
  (bI (F_Bp_noHour x2 h1) fun v4 h3 =>
  if v4 = (0 : Int32) then
  (bif okR 9 (x2 - x2 / (8 : Int32) * (8 : Int32)) then
  bif okA (shR 9 (x2 - x2 / (8 : Int32) * (8 : Int32)).toNatClampNeg) 100 x1 then
  retI (hg h3 (shR 9 (x2 - x2 / (8 : Int32) * (8 : Int32)).toNatClampNeg) x1.toNatClampNeg) h3
  else none
  else none)
  else
  (retI (-1 : Int32) h3))
  else
  (retI (-1 : Int32) h1)
def sF_Bp_meets : List Value → Hp → Res Hp := fun as h => match as with | [.ref f0, .int x1, .int x2] => (match Nat.beq f0 0 with | true => F_Bp_meets x1 x2 h | false => none) | _ => none
theorem w_Bp_meets (x1 : Int32) (x2 : Int32) (h : Hp) : sF_Bp_meets [.ref 0, .int x1, .int x2] h = F_Bp_meets x1 x2 h := rfl
def S_Bp_meets : Sem Hp := [(175, sF_La_lacks), (57, sF_Bp_noHour)]
set_option maxRecDepth 100000 in
theorem e_Bp_meets_0 (x1 : Int32) (x2 : Int32) (h : Hp) : F_Bp_meets x1 x2 h = exec1 OI S_Bp_meets 1 k_Bp_meets 0 [some (.ref 0), some (.int x1), some (.int x2)] [] h (runF OI S_Bp_meets [] 1 k_Bp_meets 400) :=
  (x_bI (f := sF_La_lacks) rfl (w_La_lacks _ _ _) fun v2 h1 => (x_ite (x_bI (f := sF_Bp_noHour) rfl (w_Bp_noHour _ _) fun v4 h3 => (x_ite (x_bif (x_bif rfl)) rfl)) rfl))
def k_Le_start : List Ent := [(0, .aload_n 0, 1, [], .null), (1, .getfield 9, 3, [1, 0, 1], .null), (4, .iconst 0, 1, [], .int (0)), (5, .iload_n 1, 1, [], .null), (6, .iastore, 1, [], .null), (7, .aload_n 0, 1, [], .null), (8, .getfield 15, 3, [1, 1, 1], .null), (11, .iconst 0, 1, [], .int (0)), (12, .iload 4, 2, [], .null), (14, .iastore, 1, [], .null), (15, .aload_n 0, 1, [], .null), (16, .iconst 1, 1, [], .int (1)), (17, .putfield 18, 3, [1, 2, 0], .null), (20, .aload_n 0, 1, [], .null), (21, .iload_n 2, 1, [], .null), (22, .putfield 22, 3, [1, 3, 0], .null), (25, .aload_n 0, 1, [], .null), (26, .iload_n 3, 1, [], .null), (27, .putfield 25, 3, [1, 4, 0], .null), (30, .return_, 1, [], .null)]
def F_Le_start (o0 : Nat) (x1 : Int32) (x2 : Int32) (x3 : Int32) (x4 : Int32) (h : Hp) : Res Hp :=
  bif okF o0 1 0 1 then
  bif okA (shR o0 0) 100 (0 : Int32) then
  bH (hs h (shR o0 0) 0 x1) fun h1 =>
  bif okF o0 1 1 1 then
  bif okA (shR o0 1) 100 (0 : Int32) then
  bH (hs h1 (shR o0 1) 0 x4) fun h2 =>
  bif okF o0 1 2 0 then
  bH (hs h2 o0 2 (1 : Int32)) fun h3 =>
  bif okF o0 1 3 0 then
  bH (hs h3 o0 3 x2) fun h4 =>
  bif okF o0 1 4 0 then
  bH (hs h4 o0 4 x3) fun h5 =>
  retV h5
  else none
  else none
  else none
  else none
  else none
  else none
  else none
def sF_Le_start : List Value → Hp → Res Hp := fun as h => match as with | [.ref o0, .int x1, .int x2, .int x3, .int x4] => F_Le_start o0 x1 x2 x3 x4 h | _ => none
theorem w_Le_start (o0 : Nat) (x1 : Int32) (x2 : Int32) (x3 : Int32) (x4 : Int32) (h : Hp) : sF_Le_start [.ref o0, .int x1, .int x2, .int x3, .int x4] h = F_Le_start o0 x1 x2 x3 x4 h := rfl
def S_Le_start : Sem Hp := []
set_option maxRecDepth 100000 in
theorem e_Le_start_0 (o0 : Nat) (x1 : Int32) (x2 : Int32) (x3 : Int32) (x4 : Int32) (h : Hp) : F_Le_start o0 x1 x2 x3 x4 h = exec1 OI S_Le_start 0 k_Le_start 0 [some (.ref o0), some (.int x1), some (.int x2), some (.int x3), some (.int x4)] [] h (runF OI S_Le_start [] 0 k_Le_start 400) :=
  (x_bif (x_bif (x_bH fun h1 => (x_bif (x_bif (x_bH fun h2 => (x_bif (x_bH fun h3 => (x_bif (x_bH fun h4 => (x_bif (x_bH fun h5 => rfl))))))))))))
def k_Bp_send : List Ent := [(0, .aload_n 0, 1, [], .null), (1, .iload_n 1, 1, [], .null), (2, .iload_n 2, 1, [], .null), (3, .invokevirtual 155, 3, [58, 3, 2], .null), (6, .ifCond .ne (10), 3, [16], .null), (9, .iload_n 3, 1, [], .null), (10, .invokestatic 168, 3, [56, 1, 2], .null), (13, .ifCond .eq (5), 3, [18], .null), (16, .iconst (-1), 1, [], .int (-1)), (17, .ireturn, 1, [], .null), (18, .aload_n 0, 1, [], .null), (19, .getfield 21, 3, [6, 2, 1], .null), (22, .getfield 149, 3, [0, 1, 1], .null), (25, .iload_n 1, 1, [], .null), (26, .iaload, 1, [], .null), (27, .aload_n 0, 1, [], .null), (28, .getfield 21, 3, [6, 2, 1], .null), (31, .getfield 149, 3, [0, 1, 1], .null), (34, .iload_n 2, 1, [], .null), (35, .iaload, 1, [], .null), (36, .iand, 1, [], .null), (37, .iload_n 3, 1, [], .null), (38, .iand, 1, [], .null), (39, .iload_n 3, 1, [], .null), (40, .if_icmp .eq (6), 3, [46], .null), (43, .bipush (-4), 2, [], .int (-4)), (45, .ireturn, 1, [], .null), (46, .aload_n 0, 1, [], .null), (47, .getfield 21, 3, [6, 2, 1], .null), (50, .getfield 181, 3, [0, 10, 0], .null), (53, .iconst 4, 1, [], .int (4)), (54, .if_icmp .lt (6), 3, [60], .null), (57, .bipush (-2), 2, [], .int (-2)), (59, .ireturn, 1, [], .null), (60, .aload_n 0, 1, [], .null), (61, .getfield 21, 3, [6, 2, 1], .null), (64, .getfield 184, 3, [0, 7, 1], .null), (67, .aload_n 0, 1, [], .null), (68, .getfield 21, 3, [6, 2, 1], .null), (71, .getfield 181, 3, [0, 10, 0], .null), (74, .aaload, 1, [], .null), (75, .iload_n 1, 1, [], .null), (76, .iload_n 2, 1, [], .null), (77, .iload_n 3, 1, [], .null), (78, .aload_n 0, 1, [], .null), (79, .getfield 21, 3, [6, 2, 1], .null), (82, .getfield 188, 3, [0, 11, 0], .null), (85, .invokevirtual 191, 3, [196, 5, 0], .null), (88, .aload_n 0, 1, [], .null), (89, .getfield 21, 3, [6, 2, 1], .null), (92, .dup, 1, [], .null), (93, .getfield 181, 3, [0, 10, 0], .null), (96, .iconst 1, 1, [], .int (1)), (97, .iadd, 1, [], .null), (98, .putfield 181, 3, [0, 10, 0], .null), (101, .aload_n 0, 1, [], .null), (102, .getfield 21, 3, [6, 2, 1], .null), (105, .getfield 181, 3, [0, 10, 0], .null), (108, .iconst 1, 1, [], .int (1)), (109, .isub, 1, [], .null), (110, .ireturn, 1, [], .null)]
def F_Bp_send (x1 : Int32) (x2 : Int32) (x3 : Int32) (h : Hp) : Res Hp :=
  bI (F_Bp_noPair x1 x2 h) fun v2 h1 =>
  if v2 = (0 : Int32) then
  (bI (F_Bp_noTongues x3 h1) fun v4 h3 =>
  if v4 = (0 : Int32) then
  (bif okA 5 100 x1 then
  bif okA 5 100 x2 then
  if (((hg h3 5 x1.toNatClampNeg) &&& (hg h3 5 x2.toNatClampNeg)) &&& x3) = x3 then
  (if (hg h3 3 10) < (4 : Int32) then
  (bif okR 19 (hg h3 3 10) then
  bV (F_Le_start (shR 19 (hg h3 3 10).toNatClampNeg) x1 x2 x3 (hg h3 3 11) h3) fun h5 =>
  bH (hs h5 3 10 ((hg h5 3 10) + (1 : Int32))) fun h6 =>
  retI ((hg h6 3 10) - (1 : Int32)) h6
  else none)
  else
  (retI (-2 : Int32) h3))
  else
  (retI (-4 : Int32) h3)
  else none
  else none)
  else
  (retI (-1 : Int32) h3))
  else
  (retI (-1 : Int32) h1)
def sF_Bp_send : List Value → Hp → Res Hp := fun as h => match as with | [.ref f0, .int x1, .int x2, .int x3] => (match Nat.beq f0 0 with | true => F_Bp_send x1 x2 x3 h | false => none) | _ => none
theorem w_Bp_send (x1 : Int32) (x2 : Int32) (x3 : Int32) (h : Hp) : sF_Bp_send [.ref 0, .int x1, .int x2, .int x3] h = F_Bp_send x1 x2 x3 h := rfl
def S_Bp_send : Sem Hp := [(58, sF_Bp_noPair), (56, sF_Bp_noTongues), (196, sF_Le_start)]
set_option maxRecDepth 100000 in
theorem e_Bp_send_0 (x1 : Int32) (x2 : Int32) (x3 : Int32) (h : Hp) : F_Bp_send x1 x2 x3 h = exec1 OI S_Bp_send 1 k_Bp_send 0 [some (.ref 0), some (.int x1), some (.int x2), some (.int x3)] [] h (runF OI S_Bp_send [] 1 k_Bp_send 400) :=
  (x_bI (f := sF_Bp_noPair) rfl (w_Bp_noPair _ _ _) fun v2 h1 => (x_ite (x_bI (f := sF_Bp_noTongues) rfl (w_Bp_noTongues _ _) fun v4 h3 => (x_ite (x_bif (x_bif (x_ite (x_ite (x_bif (x_bV (f := sF_Le_start) rfl (w_Le_start _ _ _ _ _ _) fun h5 => (x_bH fun h6 => rfl))) rfl) rfl))) rfl)) rfl))
def k_Le_isWithSender : List Ent := [(0, .aload_n 0, 1, [], .null), (1, .getfield 18, 3, [1, 2, 0], .null), (4, .iconst 1, 1, [], .int (1)), (5, .if_icmp .ne (7), 3, [12], .null), (8, .iconst 1, 1, [], .int (1)), (9, .goto (4), 3, [13], .null), (12, .iconst 0, 1, [], .int (0)), (13, .ireturn, 1, [], .null)]
def F_Le_isWithSender (o0 : Nat) (h : Hp) : Res Hp :=
  bif okF o0 1 2 0 then
  if (hg h o0 2) = (1 : Int32) then
  (retZ (1 : Int32) h)
  else
  (retZ (0 : Int32) h)
  else none
def sF_Le_isWithSender : List Value → Hp → Res Hp := fun as h => match as with | [.ref o0] => F_Le_isWithSender o0 h | _ => none
theorem w_Le_isWithSender (o0 : Nat) (h : Hp) : sF_Le_isWithSender [.ref o0] h = F_Le_isWithSender o0 h := rfl
def S_Le_isWithSender : Sem Hp := []
set_option maxRecDepth 100000 in
theorem e_Le_isWithSender_0 (o0 : Nat) (h : Hp) : F_Le_isWithSender o0 h = exec1 OI S_Le_isWithSender 2 k_Le_isWithSender 0 [some (.ref o0)] [] h (runF OI S_Le_isWithSender [] 2 k_Le_isWithSender 400) :=
  (x_bif (x_ite rfl rfl))
def k_Le_cameWhen : List Ent := [(0, .aload_n 0, 1, [], .null), (1, .getfield 15, 3, [1, 1, 1], .null), (4, .aload_n 0, 1, [], .null), (5, .getfield 18, 3, [1, 2, 0], .null), (8, .iconst 1, 1, [], .int (1)), (9, .isub, 1, [], .null), (10, .iaload, 1, [], .null), (11, .ireturn, 1, [], .null)]
def F_Le_cameWhen (o0 : Nat) (h : Hp) : Res Hp :=
  bif okF o0 1 1 1 then
  bif okF o0 1 2 0 then
  bif okA (shR o0 1) 100 ((hg h o0 2) - (1 : Int32)) then
  retI (hg h (shR o0 1) ((hg h o0 2) - (1 : Int32)).toNatClampNeg) h
  else none
  else none
  else none
def sF_Le_cameWhen : List Value → Hp → Res Hp := fun as h => match as with | [.ref o0] => F_Le_cameWhen o0 h | _ => none
theorem w_Le_cameWhen (o0 : Nat) (h : Hp) : sF_Le_cameWhen [.ref o0] h = F_Le_cameWhen o0 h := rfl
def S_Le_cameWhen : Sem Hp := []
set_option maxRecDepth 100000 in
theorem e_Le_cameWhen_0 (o0 : Nat) (h : Hp) : F_Le_cameWhen o0 h = exec1 OI S_Le_cameWhen 1 k_Le_cameWhen 0 [some (.ref o0)] [] h (runF OI S_Le_cameWhen [] 1 k_Le_cameWhen 400) :=
  (x_bif (x_bif (x_bif rfl)))
def k_Le_wasGivenIn : List Ent := [(0, .aload_n 0, 1, [], .null), (1, .invokevirtual 38, 3, [201, 1, 2], .null), (4, .ifCond .ne (15), 3, [19], .null), (7, .aload_n 0, 1, [], .null), (8, .invokevirtual 42, 3, [199, 1, 1], .null), (11, .iload_n 1, 1, [], .null), (12, .if_icmp .ne (7), 3, [19], .null), (15, .iconst 1, 1, [], .int (1)), (16, .goto (4), 3, [20], .null), (19, .iconst 0, 1, [], .int (0)), (20, .ireturn, 1, [], .null)]
def F_Le_wasGivenIn (o0 : Nat) (x1 : Int32) (h : Hp) : Res Hp :=
  bI (F_Le_isWithSender o0 h) fun v2 h1 =>
  if v2 = (0 : Int32) then
  (bI (F_Le_cameWhen o0 h1) fun v4 h3 =>
  if v4 = x1 then
  (retZ (1 : Int32) h3)
  else
  (retZ (0 : Int32) h3))
  else
  (retZ (0 : Int32) h1)
def sF_Le_wasGivenIn : List Value → Hp → Res Hp := fun as h => match as with | [.ref o0, .int x1] => F_Le_wasGivenIn o0 x1 h | _ => none
theorem w_Le_wasGivenIn (o0 : Nat) (x1 : Int32) (h : Hp) : sF_Le_wasGivenIn [.ref o0, .int x1] h = F_Le_wasGivenIn o0 x1 h := rfl
def S_Le_wasGivenIn : Sem Hp := [(201, sF_Le_isWithSender), (199, sF_Le_cameWhen)]
set_option maxRecDepth 100000 in
theorem e_Le_wasGivenIn_0 (o0 : Nat) (x1 : Int32) (h : Hp) : F_Le_wasGivenIn o0 x1 h = exec1 OI S_Le_wasGivenIn 2 k_Le_wasGivenIn 0 [some (.ref o0), some (.int x1)] [] h (runF OI S_Le_wasGivenIn [] 2 k_Le_wasGivenIn 400) :=
  (x_bI (f := sF_Le_isWithSender) rfl (w_Le_isWithSender _ _) fun v2 h1 => (x_ite (x_bI (f := sF_Le_cameWhen) rfl (w_Le_cameWhen _ _) fun v4 h3 => (x_ite rfl rfl)) rfl))
def k_Le_seen : List Ent := [(0, .iconst 0, 1, [], .int (0)), (1, .istore_n 1, 1, [], .null), (2, .iconst 0, 1, [], .int (0)), (3, .istore_n 2, 1, [], .null), (4, .iload_n 2, 1, [], .null), (5, .aload_n 0, 1, [], .null), (6, .getfield 18, 3, [1, 2, 0], .null), (9, .if_icmp .ge (21), 3, [30], .null), (12, .iload_n 1, 1, [], .null), (13, .aload_n 0, 1, [], .null), (14, .getfield 9, 3, [1, 0, 1], .null), (17, .iload_n 2, 1, [], .null), (18, .iaload, 1, [], .null), (19, .invokestatic 45, 3, [64, 1, 1], .null), (22, .ior, 1, [], .null), (23, .istore_n 1, 1, [], .null), (24, .iinc 2 (1), 3, [], .int (1)), (27, .goto (-23), 3, [4], .null), (30, .iload_n 1, 1, [], .null), (31, .ireturn, 1, [], .null)]
def Le_seen_4  (o0 : Nat)  : (Int32 × Int32 × Hp) → ((Int32 × Int32 × Hp) → Res Hp) → Res Hp := fun s κ4 => match s with
  | (x1, x2, h) =>
  bif okF o0 1 2 0 then
  if (hg h o0 2) ≤ x2 then
  (retI x1 h)
  else
  (bif okF o0 1 0 1 then
  bif okA (shR o0 0) 100 x2 then
  bI (F_Bp_bit (hg h (shR o0 0) x2.toNatClampNeg) h) fun v2 h1 =>
  κ4 ((x1 ||| v2), (x2 + (1 : Int32)), h1)
  else none
  else none)
  else none
def F_Le_seen (o0 : Nat) (h : Hp) : Res Hp :=
  loopC (Le_seen_4  o0 ) FU ((0 : Int32), (0 : Int32), h)
def sF_Le_seen : List Value → Hp → Res Hp := fun as h => match as with | [.ref o0] => F_Le_seen o0 h | _ => none
theorem w_Le_seen (o0 : Nat) (h : Hp) : sF_Le_seen [.ref o0] h = F_Le_seen o0 h := rfl
def S_Le_seen : Sem Hp := [(64, sF_Bp_bit)]
set_option maxRecDepth 100000 in
theorem e_Le_seen_0 (o0 : Nat) (h : Hp) : F_Le_seen o0 h = exec1 OI S_Le_seen 1 k_Le_seen 0 [some (.ref o0), none, none] [] h (runF OI S_Le_seen [(4, [0, 1, 2], fun vs st h => match vs, st with | [.ref o0, .int x1, .int x2], [] => loopC (Le_seen_4  o0 ) FU (x1, x2, h) | _, _ => none)] 1 k_Le_seen 400) :=
  rfl
set_option maxRecDepth 100000 in
theorem e_Le_seen_4 (κ4 : (Int32 × Int32 × Hp) → Res Hp) (o0 : Nat) (x1 : Int32) (x2 : Int32)  (h : Hp) : Le_seen_4  o0  (x1, x2, h) κ4 = exec1 OI S_Le_seen 1 k_Le_seen 4 [some (.ref o0), some (.int x1), some (.int x2)] [] h (runF OI S_Le_seen [(4, [0, 1, 2], fun vs st h => match vs, st with | [.ref o0, .int x1, .int x2], [] => κ4 (x1, x2, h) | _, _ => none)] 1 k_Le_seen 400) :=
  (x_bif (x_ite rfl (x_bif (x_bif (x_bI (f := sF_Bp_bit) rfl (w_Bp_bit _ _) fun v2 h1 => rfl)))))
def k_Bp_has : List Ent := [(0, .iload_n 0, 1, [], .null), (1, .iload_n 1, 1, [], .null), (2, .ishr, 1, [], .null), (3, .iconst 1, 1, [], .int (1)), (4, .iand, 1, [], .null), (5, .iconst 1, 1, [], .int (1)), (6, .if_icmp .ne (7), 3, [13], .null), (9, .iconst 1, 1, [], .int (1)), (10, .goto (4), 3, [14], .null), (13, .iconst 0, 1, [], .int (0)), (14, .ireturn, 1, [], .null)]
def F_Bp_has (x0 : Int32) (x1 : Int32) (h : Hp) : Res Hp :=
  if ((x0 >>> (x1 &&& 31)) &&& (1 : Int32)) = (1 : Int32) then
  (retZ (1 : Int32) h)
  else
  (retZ (0 : Int32) h)
def sF_Bp_has : List Value → Hp → Res Hp := fun as h => match as with | [.int x0, .int x1] => F_Bp_has x0 x1 h | _ => none
theorem w_Bp_has (x0 : Int32) (x1 : Int32) (h : Hp) : sF_Bp_has [.int x0, .int x1] h = F_Bp_has x0 x1 h := rfl
def S_Bp_has : Sem Hp := []
set_option maxRecDepth 100000 in
theorem e_Bp_has_0 (x0 : Int32) (x1 : Int32) (h : Hp) : F_Bp_has x0 x1 h = exec1 OI S_Bp_has 2 k_Bp_has 0 [some (.int x0), some (.int x1)] [] h (runF OI S_Bp_has [] 2 k_Bp_has 400) :=
  (x_ite rfl rfl)
def k_La_takesBetween : List Ent := [(0, .aload_n 0, 1, [], .null), (1, .iload_n 1, 1, [], .null), (2, .aload_n 2, 1, [], .null), (3, .getfield 118, 3, [1, 4, 0], .null), (6, .invokevirtual 121, 3, [183, 3, 2], .null), (9, .ifCond .eq (24), 3, [33], .null), (12, .aload_n 0, 1, [], .null), (13, .getfield 9, 3, [0, 0, 1], .null), (16, .iload_n 1, 1, [], .null), (17, .iaload, 1, [], .null), (18, .iconst 4, 1, [], .int (4)), (19, .if_icmp .ne (10), 3, [29], .null), (22, .aload_n 2, 1, [], .null), (23, .invokevirtual 124, 3, [201, 1, 2], .null), (26, .ifCond .eq (7), 3, [33], .null), (29, .iconst 1, 1, [], .int (1)), (30, .goto (4), 3, [34], .null), (33, .iconst 0, 1, [], .int (0)), (34, .ireturn, 1, [], .null)]
def F_La_takesBetween (o0 : Nat) (x1 : Int32) (o2 : Nat) (h : Hp) : Res Hp :=
  bif okF o2 1 4 0 then
  bI (F_La_carries o0 x1 (hg h o2 4) h) fun v2 h1 =>
  if v2 = (0 : Int32) then
  (retZ (0 : Int32) h1)
  else
  (bif okF o0 0 0 1 then
  bif okA (shR o0 0) 100 x1 then
  if (hg h1 (shR o0 0) x1.toNatClampNeg) = (4 : Int32) then
  (bI (F_Le_isWithSender o2 h1) fun v4 h3 =>
  if v4 = (0 : Int32) then
  (retZ (0 : Int32) h3)
  else
  (retZ (1 : Int32) h3))
  else
  (retZ (1 : Int32) h1)
  else none
  else none)
  else none
def sF_La_takesBetween : List Value → Hp → Res Hp := fun as h => match as with | [.ref o0, .int x1, .ref o2] => F_La_takesBetween o0 x1 o2 h | _ => none
theorem w_La_takesBetween (o0 : Nat) (x1 : Int32) (o2 : Nat) (h : Hp) : sF_La_takesBetween [.ref o0, .int x1, .ref o2] h = F_La_takesBetween o0 x1 o2 h := rfl
def S_La_takesBetween : Sem Hp := [(183, sF_La_carries), (201, sF_Le_isWithSender)]
set_option maxRecDepth 100000 in
theorem e_La_takesBetween_0 (o0 : Nat) (x1 : Int32) (o2 : Nat) (h : Hp) : F_La_takesBetween o0 x1 o2 h = exec1 OI S_La_takesBetween 2 k_La_takesBetween 0 [some (.ref o0), some (.int x1), some (.ref o2)] [] h (runF OI S_La_takesBetween [] 2 k_La_takesBetween 400) :=
  (x_bif (x_bI (f := sF_La_carries) rfl (w_La_carries _ _ _ _) fun v2 h1 => (x_ite rfl (x_bif (x_bif (x_ite (x_bI (f := sF_Le_isWithSender) rfl (w_Le_isWithSender _ _) fun v4 h3 => (x_ite rfl rfl)) rfl))))))
def k_La_takers : List Ent := [(0, .aload_n 1, 1, [], .null), (1, .invokevirtual 96, 3, [200, 1, 2], .null), (4, .ifCond .ne (14), 3, [18], .null), (7, .aload_n 1, 1, [], .null), (8, .aload_n 0, 1, [], .null), (9, .getfield 51, 3, [0, 11, 0], .null), (12, .invokevirtual 100, 3, [202, 2, 2], .null), (15, .ifCond .eq (5), 3, [20], .null), (18, .iconst 0, 1, [], .int (0)), (19, .ireturn, 1, [], .null), (20, .aload_n 0, 1, [], .null), (21, .getfield 29, 3, [0, 5, 1], .null), (24, .aload_n 0, 1, [], .null), (25, .getfield 51, 3, [0, 11, 0], .null), (28, .bipush (8), 2, [], .int (8)), (30, .irem, 1, [], .null), (31, .aaload, 1, [], .null), (32, .aload_n 1, 1, [], .null), (33, .invokevirtual 104, 3, [198, 1, 1], .null), (36, .iaload, 1, [], .null), (37, .aload_n 1, 1, [], .null), (38, .invokevirtual 108, 3, [203, 1, 1], .null), (41, .iconst (-1), 1, [], .int (-1)), (42, .ixor, 1, [], .null), (43, .iand, 1, [], .null), (44, .istore_n 2, 1, [], .null), (45, .iconst 0, 1, [], .int (0)), (46, .istore_n 3, 1, [], .null), (47, .iconst 0, 1, [], .int (0)), (48, .istore 4, 2, [], .null), (50, .iload 4, 2, [], .null), (52, .aload_n 0, 1, [], .null), (53, .getfield 41, 3, [0, 8, 0], .null), (56, .if_icmp .ge (45), 3, [101], .null), (59, .iload_n 2, 1, [], .null), (60, .iload 4, 2, [], .null), (62, .invokestatic 86, 3, [65, 2, 2], .null), (65, .ifCond .eq (30), 3, [95], .null), (68, .iload 4, 2, [], .null), (70, .aload_n 1, 1, [], .null), (71, .getfield 111, 3, [1, 3, 0], .null), (74, .if_icmp .eq (13), 3, [87], .null), (77, .aload_n 0, 1, [], .null), (78, .iload 4, 2, [], .null), (80, .aload_n 1, 1, [], .null), (81, .invokevirtual 114, 3, [185, 3, 2], .null), (84, .ifCond .eq (11), 3, [95], .null), (87, .iload_n 3, 1, [], .null), (88, .iload 4, 2, [], .null), (90, .invokestatic 72, 3, [64, 1, 1], .null), (93, .ior, 1, [], .null), (94, .istore_n 3, 1, [], .null), (95, .iinc 4 (1), 3, [], .int (1)), (98, .goto (-48), 3, [50], .null), (101, .iload_n 3, 1, [], .null), (102, .ireturn, 1, [], .null)]
def La_takers_50  (o0 : Nat) (o1 : Nat) (x2 : Int32)  : (Int32 × Int32 × Hp) → ((Int32 × Int32 × Hp) → Res Hp) → Res Hp := fun s κ50 => match s with
  | (x3, x4, h) =>
  bif okF o0 0 8 0 then
  if (hg h o0 8) ≤ x4 then
  (retI x3 h)
  else
  (bI (F_Bp_has x2 x4 h) fun v2 h1 =>
  if v2 = (0 : Int32) then
  (κ50 (x3, (x4 + (1 : Int32)), h1))
  else
  (bif okF o1 1 3 0 then
  if x4 = (hg h1 o1 3) then
  (bI (F_Bp_bit x4 h1) fun v4 h3 =>
  κ50 ((x3 ||| v4), (x4 + (1 : Int32)), h3))
  else
  (bI (F_La_takesBetween o0 x4 o1 h1) fun v6 h5 =>
  if v6 = (0 : Int32) then
  (κ50 (x3, (x4 + (1 : Int32)), h5))
  else
  (bI (F_Bp_bit x4 h5) fun v8 h7 =>
  κ50 ((x3 ||| v8), (x4 + (1 : Int32)), h7)))
  else none))
  else none
def F_La_takers (o0 : Nat) (o1 : Nat) (h : Hp) : Res Hp :=
  bI (F_Le_isThere o1 h) fun v2 h1 =>
  if v2 = (0 : Int32) then
  (bif okF o0 0 11 0 then
  bI (F_Le_wasGivenIn o1 (hg h1 o0 11) h1) fun v4 h3 =>
  if v4 = (0 : Int32) then
  (bif okF o0 0 5 1 then
  bif okF o0 0 11 0 then
  bif okR (shR o0 5) ((hg h3 o0 11) - (hg h3 o0 11) / (8 : Int32) * (8 : Int32)) then
  bI (F_Le_holder o1 h3) fun v6 h5 =>
  bif okA (shR (shR o0 5) ((hg h3 o0 11) - (hg h3 o0 11) / (8 : Int32) * (8 : Int32)).toNatClampNeg) 100 v6 then
  bI (F_Le_seen o1 h5) fun v8 h7 =>
  loopC (La_takers_50  o0 o1 ((hg h5 (shR (shR o0 5) ((hg h3 o0 11) - (hg h3 o0 11) / (8 : Int32) * (8 : Int32)).toNatClampNeg) v6.toNatClampNeg) &&& (v8 ^^^ (-1 : Int32))) ) FU ((0 : Int32), (0 : Int32), h7)
  else none
  else none
  else none
  else none)
  else
  (retI (0 : Int32) h3)
  else none)
  else
  (retI (0 : Int32) h1)
def sF_La_takers : List Value → Hp → Res Hp := fun as h => match as with | [.ref o0, .ref o1] => F_La_takers o0 o1 h | _ => none
theorem w_La_takers (o0 : Nat) (o1 : Nat) (h : Hp) : sF_La_takers [.ref o0, .ref o1] h = F_La_takers o0 o1 h := rfl
def S_La_takers : Sem Hp := [(200, sF_Le_isThere), (202, sF_Le_wasGivenIn), (198, sF_Le_holder), (203, sF_Le_seen), (65, sF_Bp_has), (64, sF_Bp_bit), (185, sF_La_takesBetween)]
set_option maxRecDepth 100000 in
theorem e_La_takers_0 (o0 : Nat) (o1 : Nat) (h : Hp) : F_La_takers o0 o1 h = exec1 OI S_La_takers 1 k_La_takers 0 [some (.ref o0), some (.ref o1), none, none, none] [] h (runF OI S_La_takers [(50, [0, 1, 2, 3, 4], fun vs st h => match vs, st with | [.ref o0, .ref o1, .int x2, .int x3, .int x4], [] => loopC (La_takers_50  o0 o1 x2 ) FU (x3, x4, h) | _, _ => none)] 1 k_La_takers 400) :=
  (x_bI (f := sF_Le_isThere) rfl (w_Le_isThere _ _) fun v2 h1 => (x_ite (x_bif (x_bI (f := sF_Le_wasGivenIn) rfl (w_Le_wasGivenIn _ _ _) fun v4 h3 => (x_ite (x_bif (x_bif (x_bif (x_bI (f := sF_Le_holder) rfl (w_Le_holder _ _) fun v6 h5 => (x_bif (x_bI (f := sF_Le_seen) rfl (w_Le_seen _ _) fun v8 h7 => rfl)))))) rfl))) rfl))
set_option maxRecDepth 100000 in
theorem e_La_takers_50 (κ50 : (Int32 × Int32 × Hp) → Res Hp) (o0 : Nat) (o1 : Nat) (x2 : Int32) (x3 : Int32) (x4 : Int32)  (h : Hp) : La_takers_50  o0 o1 x2  (x3, x4, h) κ50 = exec1 OI S_La_takers 1 k_La_takers 50 [some (.ref o0), some (.ref o1), some (.int x2), some (.int x3), some (.int x4)] [] h (runF OI S_La_takers [(50, [0, 1, 2, 3, 4], fun vs st h => match vs, st with | [.ref o0, .ref o1, .int x2, .int x3, .int x4], [] => κ50 (x3, x4, h) | _, _ => none)] 1 k_La_takers 400) :=
  (x_bif (x_ite rfl (x_bI (f := sF_Bp_has) rfl (w_Bp_has _ _ _) fun v2 h1 => (x_ite rfl (x_bif (x_ite (x_bI (f := sF_Bp_bit) rfl (w_Bp_bit _ _) fun v4 h3 => rfl) (x_bI (f := sF_La_takesBetween) rfl (w_La_takesBetween _ _ _ _) fun v6 h5 => (x_ite rfl (x_bI (f := sF_Bp_bit) rfl (w_Bp_bit _ _) fun v8 h7 => rfl)))))))))
def k_Le_add : List Ent := [(0, .aload_n 0, 1, [], .null), (1, .getfield 18, 3, [1, 2, 0], .null), (4, .bipush (7), 2, [], .int (7)), (6, .if_icmp .ge (33), 3, [39], .null), (9, .aload_n 0, 1, [], .null), (10, .getfield 9, 3, [1, 0, 1], .null), (13, .aload_n 0, 1, [], .null), (14, .getfield 18, 3, [1, 2, 0], .null), (17, .iload_n 1, 1, [], .null), (18, .iastore, 1, [], .null), (19, .aload_n 0, 1, [], .null), (20, .getfield 15, 3, [1, 1, 1], .null), (23, .aload_n 0, 1, [], .null), (24, .getfield 18, 3, [1, 2, 0], .null), (27, .iload_n 2, 1, [], .null), (28, .iastore, 1, [], .null), (29, .aload_n 0, 1, [], .null), (30, .dup, 1, [], .null), (31, .getfield 18, 3, [1, 2, 0], .null), (34, .iconst 1, 1, [], .int (1)), (35, .iadd, 1, [], .null), (36, .putfield 18, 3, [1, 2, 0], .null), (39, .return_, 1, [], .null)]
def F_Le_add (o0 : Nat) (x1 : Int32) (x2 : Int32) (h : Hp) : Res Hp :=
  bif okF o0 1 2 0 then
  if (7 : Int32) ≤ (hg h o0 2) then
  (retV h)
  else
  (bif okF o0 1 0 1 then
  bif okF o0 1 2 0 then
  bif okA (shR o0 0) 100 (hg h o0 2) then
  bH (hs h (shR o0 0) (hg h o0 2).toNatClampNeg x1) fun h1 =>
  bif okF o0 1 1 1 then
  bif okF o0 1 2 0 then
  bif okA (shR o0 1) 100 (hg h1 o0 2) then
  bH (hs h1 (shR o0 1) (hg h1 o0 2).toNatClampNeg x2) fun h2 =>
  bif okF o0 1 2 0 then
  bif okF o0 1 2 0 then
  bH (hs h2 o0 2 ((hg h2 o0 2) + (1 : Int32))) fun h3 =>
  retV h3
  else none
  else none
  else none
  else none
  else none
  else none
  else none
  else none)
  else none
def sF_Le_add : List Value → Hp → Res Hp := fun as h => match as with | [.ref o0, .int x1, .int x2] => F_Le_add o0 x1 x2 h | _ => none
theorem w_Le_add (o0 : Nat) (x1 : Int32) (x2 : Int32) (h : Hp) : sF_Le_add [.ref o0, .int x1, .int x2] h = F_Le_add o0 x1 x2 h := rfl
def S_Le_add : Sem Hp := []
set_option maxRecDepth 100000 in
theorem e_Le_add_0 (o0 : Nat) (x1 : Int32) (x2 : Int32) (h : Hp) : F_Le_add o0 x1 x2 h = exec1 OI S_Le_add 0 k_Le_add 0 [some (.ref o0), some (.int x1), some (.int x2)] [] h (runF OI S_Le_add [] 0 k_Le_add 400) :=
  (x_bif (x_ite rfl (x_bif (x_bif (x_bif (x_bH fun h1 => (x_bif (x_bif (x_bif (x_bH fun h2 => (x_bif (x_bif (x_bH fun h3 => rfl)))))))))))))
def k_La_pass : List Ent := [(0, .aload_n 1, 1, [], .null), (1, .invokevirtual 104, 3, [198, 1, 1], .null), (4, .istore_n 3, 1, [], .null), (5, .aload_n 0, 1, [], .null), (6, .getfield 9, 3, [0, 0, 1], .null), (9, .iload_n 3, 1, [], .null), (10, .iaload, 1, [], .null), (11, .iconst 3, 1, [], .int (3)), (12, .invokestatic 82, 3, [67, 2, 2], .null), (15, .ifCond .eq (16), 3, [31], .null), (18, .aload_n 0, 1, [], .null), (19, .getfield 15, 3, [0, 1, 1], .null), (22, .iload_n 3, 1, [], .null), (23, .dup2, 1, [], .null), (24, .iaload, 1, [], .null), (25, .aload_n 1, 1, [], .null), (26, .getfield 118, 3, [1, 4, 0], .null), (29, .ior, 1, [], .null), (30, .iastore, 1, [], .null), (31, .aload_n 1, 1, [], .null), (32, .iload_n 2, 1, [], .null), (33, .aload_n 0, 1, [], .null), (34, .getfield 51, 3, [0, 11, 0], .null), (37, .invokevirtual 127, 3, [205, 3, 0], .null), (40, .aload_n 1, 1, [], .null), (41, .invokevirtual 96, 3, [200, 1, 2], .null), (44, .ireturn, 1, [], .null)]
def F_La_pass (o0 : Nat) (o1 : Nat) (x2 : Int32) (h : Hp) : Res Hp :=
  bI (F_Le_holder o1 h) fun v2 h1 =>
  bif okF o0 0 0 1 then
  bif okA (shR o0 0) 100 v2 then
  bI (F_Bp_isOf (hg h1 (shR o0 0) v2.toNatClampNeg) (3 : Int32) h1) fun v4 h3 =>
  if v4 = (0 : Int32) then
  (bif okF o0 0 11 0 then
  bV (F_Le_add o1 x2 (hg h3 o0 11) h3) fun h5 =>
  bI (F_Le_isThere o1 h5) fun v7 h6 =>
  retZ v7 h6
  else none)
  else
  (bif okF o0 0 1 1 then
  bif okA (shR o0 1) 100 v2 then
  bif okF o1 1 4 0 then
  bif okA (shR o0 1) 100 v2 then
  bH (hs h3 (shR o0 1) v2.toNatClampNeg ((hg h3 (shR o0 1) v2.toNatClampNeg) ||| (hg h3 o1 4))) fun h8 =>
  bif okF o0 0 11 0 then
  bV (F_Le_add o1 x2 (hg h8 o0 11) h8) fun h9 =>
  bI (F_Le_isThere o1 h9) fun v11 h10 =>
  retZ v11 h10
  else none
  else none
  else none
  else none
  else none)
  else none
  else none
def sF_La_pass : List Value → Hp → Res Hp := fun as h => match as with | [.ref o0, .ref o1, .int x2] => F_La_pass o0 o1 x2 h | _ => none
theorem w_La_pass (o0 : Nat) (o1 : Nat) (x2 : Int32) (h : Hp) : sF_La_pass [.ref o0, .ref o1, .int x2] h = F_La_pass o0 o1 x2 h := rfl
def S_La_pass : Sem Hp := [(198, sF_Le_holder), (67, sF_Bp_isOf), (205, sF_Le_add), (200, sF_Le_isThere)]
set_option maxRecDepth 100000 in
theorem e_La_pass_0 (o0 : Nat) (o1 : Nat) (x2 : Int32) (h : Hp) : F_La_pass o0 o1 x2 h = exec1 OI S_La_pass 2 k_La_pass 0 [some (.ref o0), some (.ref o1), some (.int x2), none] [] h (runF OI S_La_pass [] 2 k_La_pass 400) :=
  (x_bI (f := sF_Le_holder) rfl (w_Le_holder _ _) fun v2 h1 => (x_bif (x_bif (x_bI (f := sF_Bp_isOf) rfl (w_Bp_isOf _ _ _) fun v4 h3 => (x_ite (x_bif (x_bV (f := sF_Le_add) rfl (w_Le_add _ _ _ _) fun h5 => (x_bI (f := sF_Le_isThere) rfl (w_Le_isThere _ _) fun v7 h6 => rfl))) (x_bif (x_bif (x_bif (x_bif (x_bH fun h8 => (x_bif (x_bV (f := sF_Le_add) rfl (w_Le_add _ _ _ _) fun h9 => (x_bI (f := sF_Le_isThere) rfl (w_Le_isThere _ _) fun v11 h10 => rfl)))))))))))))
end
end
section
noncomputable section
def k_Bp_give : List Ent := [(0, .iload_n 1, 1, [], .null), (1, .ifCond .lt (14), 3, [15], .null), (4, .aload_n 0, 1, [], .null), (5, .getfield 21, 3, [6, 2, 1], .null), (8, .iload_n 2, 1, [], .null), (9, .invokevirtual 130, 3, [175, 2, 2], .null), (12, .ifCond .eq (5), 3, [17], .null), (15, .iconst (-1), 1, [], .int (-1)), (16, .ireturn, 1, [], .null), (17, .iload_n 1, 1, [], .null), (18, .aload_n 0, 1, [], .null), (19, .getfield 21, 3, [6, 2, 1], .null), (22, .getfield 181, 3, [0, 10, 0], .null), (25, .if_icmp .lt (9), 3, [34], .null), (28, .aload_n 0, 1, [], .null), (29, .iconst 2, 1, [], .int (2)), (30, .invokevirtual 79, 3, [50, 2, 1], .null), (33, .ireturn, 1, [], .null), (34, .aload_n 0, 1, [], .null), (35, .getfield 21, 3, [6, 2, 1], .null), (38, .aload_n 0, 1, [], .null), (39, .getfield 21, 3, [6, 2, 1], .null), (42, .getfield 184, 3, [0, 7, 1], .null), (45, .iload_n 1, 1, [], .null), (46, .aaload, 1, [], .null), (47, .invokevirtual 197, 3, [184, 2, 1], .null), (50, .iload_n 2, 1, [], .null), (51, .invokestatic 201, 3, [65, 2, 2], .null), (54, .ifCond .ne (6), 3, [60], .null), (57, .bipush (-4), 2, [], .int (-4)), (59, .ireturn, 1, [], .null), (60, .aload_n 0, 1, [], .null), (61, .getfield 21, 3, [6, 2, 1], .null), (64, .aload_n 0, 1, [], .null), (65, .getfield 21, 3, [6, 2, 1], .null), (68, .getfield 184, 3, [0, 7, 1], .null), (71, .iload_n 1, 1, [], .null), (72, .aaload, 1, [], .null), (73, .iload_n 2, 1, [], .null), (74, .invokevirtual 204, 3, [186, 3, 2], .null), (77, .ifCond .eq (7), 3, [84], .null), (80, .iconst 1, 1, [], .int (1)), (81, .goto (4), 3, [85], .null), (84, .iconst 0, 1, [], .int (0)), (85, .ireturn, 1, [], .null)]
def F_Bp_give (x1 : Int32) (x2 : Int32) (h : Hp) : Res Hp :=
  if x1 < (0 : Int32) then
  (retI (-1 : Int32) h)
  else
  (bI (F_La_lacks 3 x2 h) fun v2 h1 =>
  if v2 = (0 : Int32) then
  (if x1 < (hg h1 3 10) then
  (bif okR 19 x1 then
  bI (F_La_takers 3 (shR 19 x1.toNatClampNeg) h1) fun v4 h3 =>
  bI (F_Bp_has v4 x2 h3) fun v6 h5 =>
  if v6 = (0 : Int32) then
  (retI (-4 : Int32) h5)
  else
  (bif okR 19 x1 then
  bI (F_La_pass 3 (shR 19 x1.toNatClampNeg) x2 h5) fun v8 h7 =>
  if v8 = (0 : Int32) then
  (retI (0 : Int32) h7)
  else
  (retI (1 : Int32) h7)
  else none)
  else none)
  else
  (bI (F_Bp_found (2 : Int32) h1) fun v10 h9 =>
  retI v10 h9))
  else
  (retI (-1 : Int32) h1))
def sF_Bp_give : List Value → Hp → Res Hp := fun as h => match as with | [.ref f0, .int x1, .int x2] => (match Nat.beq f0 0 with | true => F_Bp_give x1 x2 h | false => none) | _ => none
theorem w_Bp_give (x1 : Int32) (x2 : Int32) (h : Hp) : sF_Bp_give [.ref 0, .int x1, .int x2] h = F_Bp_give x1 x2 h := rfl
def S_Bp_give : Sem Hp := [(175, sF_La_lacks), (184, sF_La_takers), (65, sF_Bp_has), (186, sF_La_pass), (50, sF_Bp_found)]
set_option maxRecDepth 100000 in
theorem e_Bp_give_0 (x1 : Int32) (x2 : Int32) (h : Hp) : F_Bp_give x1 x2 h = exec1 OI S_Bp_give 1 k_Bp_give 0 [some (.ref 0), some (.int x1), some (.int x2)] [] h (runF OI S_Bp_give [] 1 k_Bp_give 400) :=
  (x_ite rfl (x_bI (f := sF_La_lacks) rfl (w_La_lacks _ _ _) fun v2 h1 => (x_ite (x_ite (x_bif (x_bI (f := sF_La_takers) rfl (w_La_takers _ _ _) fun v4 h3 => (x_bI (f := sF_Bp_has) rfl (w_Bp_has _ _ _) fun v6 h5 => (x_ite rfl (x_bif (x_bI (f := sF_La_pass) rfl (w_La_pass _ _ _ _) fun v8 h7 => (x_ite rfl rfl))))))) (x_bI (f := sF_Bp_found) rfl (w_Bp_found _ _) fun v10 h9 => rfl)) rfl)))
def k_Bp_hours : List Ent := [(0, .iload_n 1, 1, [], .null), (1, .ifCond .lt (9), 3, [10], .null), (4, .iload_n 1, 1, [], .null), (5, .bipush (20), 2, [], .int (20)), (7, .if_icmp .le (5), 3, [12], .null), (10, .iconst (-1), 1, [], .int (-1)), (11, .ireturn, 1, [], .null), (12, .aload_n 0, 1, [], .null), (13, .getfield 21, 3, [6, 2, 1], .null), (16, .getfield 188, 3, [0, 11, 0], .null), (19, .iload_n 1, 1, [], .null), (20, .iadd, 1, [], .null), (21, .bipush (99), 2, [], .int (99)), (23, .if_icmp .le (6), 3, [29], .null), (26, .bipush (-2), 2, [], .int (-2)), (28, .ireturn, 1, [], .null), (29, .aload_n 0, 1, [], .null), (30, .getfield 21, 3, [6, 2, 1], .null), (33, .dup, 1, [], .null), (34, .getfield 188, 3, [0, 11, 0], .null), (37, .iload_n 1, 1, [], .null), (38, .iadd, 1, [], .null), (39, .putfield 188, 3, [0, 11, 0], .null), (42, .aload_n 0, 1, [], .null), (43, .getfield 21, 3, [6, 2, 1], .null), (46, .getfield 188, 3, [0, 11, 0], .null), (49, .ireturn, 1, [], .null)]
def F_Bp_hours (x1 : Int32) (h : Hp) : Res Hp :=
  if x1 < (0 : Int32) then
  (retI (-1 : Int32) h)
  else
  (if x1 ≤ (20 : Int32) then
  (if ((hg h 3 11) + x1) ≤ (99 : Int32) then
  (bH (hs h 3 11 ((hg h 3 11) + x1)) fun h1 =>
  retI (hg h1 3 11) h1)
  else
  (retI (-2 : Int32) h))
  else
  (retI (-1 : Int32) h))
def sF_Bp_hours : List Value → Hp → Res Hp := fun as h => match as with | [.ref f0, .int x1] => (match Nat.beq f0 0 with | true => F_Bp_hours x1 h | false => none) | _ => none
theorem w_Bp_hours (x1 : Int32) (h : Hp) : sF_Bp_hours [.ref 0, .int x1] h = F_Bp_hours x1 h := rfl
def S_Bp_hours : Sem Hp := []
set_option maxRecDepth 100000 in
theorem e_Bp_hours_0 (x1 : Int32) (h : Hp) : F_Bp_hours x1 h = exec1 OI S_Bp_hours 1 k_Bp_hours 0 [some (.ref 0), some (.int x1)] [] h (runF OI S_Bp_hours [] 1 k_Bp_hours 400) :=
  (x_ite rfl (x_ite (x_ite (x_bH fun h1 => rfl) rfl) rfl))
def k_Bp_where : List Ent := [(0, .iload_n 1, 1, [], .null), (1, .ifCond .ge (5), 3, [6], .null), (4, .iconst (-1), 1, [], .int (-1)), (5, .ireturn, 1, [], .null), (6, .iload_n 1, 1, [], .null), (7, .aload_n 0, 1, [], .null), (8, .getfield 21, 3, [6, 2, 1], .null), (11, .getfield 181, 3, [0, 10, 0], .null), (14, .if_icmp .lt (9), 3, [23], .null), (17, .aload_n 0, 1, [], .null), (18, .iconst 2, 1, [], .int (2)), (19, .invokevirtual 79, 3, [50, 2, 1], .null), (22, .ireturn, 1, [], .null), (23, .aload_n 0, 1, [], .null), (24, .aload_n 0, 1, [], .null), (25, .getfield 21, 3, [6, 2, 1], .null), (28, .getfield 184, 3, [0, 7, 1], .null), (31, .iload_n 1, 1, [], .null), (32, .aaload, 1, [], .null), (33, .invokevirtual 208, 3, [199, 1, 1], .null), (36, .putfield 69, 3, [6, 11, 0], .null), (39, .aload_n 0, 1, [], .null), (40, .getfield 21, 3, [6, 2, 1], .null), (43, .getfield 184, 3, [0, 7, 1], .null), (46, .iload_n 1, 1, [], .null), (47, .aaload, 1, [], .null), (48, .invokevirtual 212, 3, [198, 1, 1], .null), (51, .ireturn, 1, [], .null)]
def F_Bp_where (x1 : Int32) (h : Hp) : Res Hp :=
  if (0 : Int32) ≤ x1 then
  (if x1 < (hg h 3 10) then
  (bif okR 19 x1 then
  bI (F_Le_cameWhen (shR 19 x1.toNatClampNeg) h) fun v2 h1 =>
  bH (hs h1 0 11 v2) fun h3 =>
  bif okR 19 x1 then
  bI (F_Le_holder (shR 19 x1.toNatClampNeg) h3) fun v5 h4 =>
  retI v5 h4
  else none
  else none)
  else
  (bI (F_Bp_found (2 : Int32) h) fun v7 h6 =>
  retI v7 h6))
  else
  (retI (-1 : Int32) h)
def sF_Bp_where : List Value → Hp → Res Hp := fun as h => match as with | [.ref f0, .int x1] => (match Nat.beq f0 0 with | true => F_Bp_where x1 h | false => none) | _ => none
theorem w_Bp_where (x1 : Int32) (h : Hp) : sF_Bp_where [.ref 0, .int x1] h = F_Bp_where x1 h := rfl
def S_Bp_where : Sem Hp := [(199, sF_Le_cameWhen), (198, sF_Le_holder), (50, sF_Bp_found)]
set_option maxRecDepth 100000 in
theorem e_Bp_where_0 (x1 : Int32) (h : Hp) : F_Bp_where x1 h = exec1 OI S_Bp_where 1 k_Bp_where 0 [some (.ref 0), some (.int x1)] [] h (runF OI S_Bp_where [] 1 k_Bp_where 400) :=
  (x_ite (x_ite (x_bif (x_bI (f := sF_Le_cameWhen) rfl (w_Le_cameWhen _ _) fun v2 h1 => (x_bH fun h3 => (x_bif (x_bI (f := sF_Le_holder) rfl (w_Le_holder _ _) fun v5 h4 => rfl))))) (x_bI (f := sF_Bp_found) rfl (w_Bp_found _ _) fun v7 h6 => rfl)) rfl)
def k_Sh_fill : List Ent := [(0, .aload_n 0, 1, [], .null), (1, .iload_n 2, 1, [], .null), (2, .aload_n 1, 1, [], .null), (3, .arraylength, 1, [], .null), (4, .aload_n 0, 1, [], .null), (5, .getfield 15, 3, [4, 0, 1], .null), (8, .arraylength, 1, [], .null), (9, .invokestatic 23, 3, [252, 2, 1], .null), (12, .invokestatic 23, 3, [252, 2, 1], .null), (15, .putfield 11, 3, [4, 1, 0], .null), (18, .iconst 0, 1, [], .int (0)), (19, .istore_n 3, 1, [], .null), (20, .iload_n 3, 1, [], .null), (21, .aload_n 0, 1, [], .null), (22, .getfield 11, 3, [4, 1, 0], .null), (25, .if_icmp .ge (18), 3, [43], .null), (28, .aload_n 0, 1, [], .null), (29, .getfield 15, 3, [4, 0, 1], .null), (32, .iload_n 3, 1, [], .null), (33, .aload_n 1, 1, [], .null), (34, .iload_n 3, 1, [], .null), (35, .iaload, 1, [], .null), (36, .iastore, 1, [], .null), (37, .iinc 3 (1), 3, [], .int (1)), (40, .goto (-20), 3, [20], .null), (43, .return_, 1, [], .null)]
def Sh_fill_20  (o0 : Nat) (o1 : Nat)  : (Int32 × Hp) → ((Int32 × Hp) → Res Hp) → Res Hp := fun s κ20 => match s with
  | (x3, h) =>
  bif okF o0 4 1 0 then
  if (hg h o0 1) ≤ x3 then
  (retV h)
  else
  (bif okF o0 4 0 1 then
  bif okA o1 100 x3 then
  bif okA (shR o0 0) 100 x3 then
  bH (hs h (shR o0 0) x3.toNatClampNeg (hg h o1 x3.toNatClampNeg)) fun h1 =>
  κ20 ((x3 + (1 : Int32)), h1)
  else none
  else none
  else none)
  else none
def F_Sh_fill (o0 : Nat) (o1 : Nat) (x2 : Int32) (h : Hp) : Res Hp :=
  bif okN o1 then
  bif okF o0 4 0 1 then
  bif okN (shR o0 0) then
  bI (F_Jmath_min (Int32.ofNat (shN o1)) (Int32.ofNat (shN (shR o0 0))) h) fun v2 h1 =>
  bI (F_Jmath_min x2 v2 h1) fun v4 h3 =>
  bif okF o0 4 1 0 then
  bH (hs h3 o0 1 v4) fun h5 =>
  loopC (Sh_fill_20  o0 o1 ) FU ((0 : Int32), h5)
  else none
  else none
  else none
  else none
def sF_Sh_fill : List Value → Hp → Res Hp := fun as h => match as with | [.ref o0, .ref o1, .int x2] => F_Sh_fill o0 o1 x2 h | _ => none
theorem w_Sh_fill (o0 : Nat) (o1 : Nat) (x2 : Int32) (h : Hp) : sF_Sh_fill [.ref o0, .ref o1, .int x2] h = F_Sh_fill o0 o1 x2 h := rfl
def S_Sh_fill : Sem Hp := [(252, sF_Jmath_min)]
set_option maxRecDepth 100000 in
theorem e_Sh_fill_0 (o0 : Nat) (o1 : Nat) (x2 : Int32) (h : Hp) : F_Sh_fill o0 o1 x2 h = exec1 OI S_Sh_fill 0 k_Sh_fill 0 [some (.ref o0), some (.ref o1), some (.int x2), none] [] h (runF OI S_Sh_fill [(20, [0, 1, 3], fun vs st h => match vs, st with | [.ref o0, .ref o1, .int x3], [] => loopC (Sh_fill_20  o0 o1 ) FU (x3, h) | _, _ => none)] 0 k_Sh_fill 400) :=
  (x_bif (x_bif (x_bif (x_bI (f := sF_Jmath_min) rfl (w_Jmath_min _ _ _) fun v2 h1 => (x_bI (f := sF_Jmath_min) rfl (w_Jmath_min _ _ _) fun v4 h3 => (x_bif (x_bH fun h5 => rfl)))))))
set_option maxRecDepth 100000 in
theorem e_Sh_fill_20 (κ20 : (Int32 × Hp) → Res Hp) (o0 : Nat) (o1 : Nat) (x3 : Int32)  (h : Hp) : Sh_fill_20  o0 o1  (x3, h) κ20 = exec1 OI S_Sh_fill 0 k_Sh_fill 20 [some (.ref o0), some (.ref o1), none, some (.int x3)] [] h (runF OI S_Sh_fill [(20, [0, 1, 3], fun vs st h => match vs, st with | [.ref o0, .ref o1, .int x3], [] => κ20 (x3, h) | _, _ => none)] 0 k_Sh_fill 400) :=
  (x_bif (x_ite rfl (x_bif (x_bif (x_bif (x_bH fun h1 => rfl))))))
def k_Bp_hands : List Ent := [(0, .iload_n 1, 1, [], .null), (1, .ifCond .lt (10), 3, [11], .null), (4, .iload_n 2, 1, [], .null), (5, .invokestatic 75, 3, [52, 1, 2], .null), (8, .ifCond .eq (5), 3, [13], .null), (11, .iconst (-1), 1, [], .int (-1)), (12, .ireturn, 1, [], .null), (13, .iload_n 1, 1, [], .null), (14, .aload_n 0, 1, [], .null), (15, .getfield 21, 3, [6, 2, 1], .null), (18, .getfield 181, 3, [0, 10, 0], .null), (21, .if_icmp .lt (9), 3, [30], .null), (24, .aload_n 0, 1, [], .null), (25, .iconst 2, 1, [], .int (2)), (26, .invokevirtual 79, 3, [50, 2, 1], .null), (29, .ireturn, 1, [], .null), (30, .aload_n 0, 1, [], .null), (31, .getfield 11, 3, [6, 0, 1], .null), (34, .iload_n 2, 1, [], .null), (35, .aaload, 1, [], .null), (36, .aload_n 0, 1, [], .null), (37, .getfield 21, 3, [6, 2, 1], .null), (40, .getfield 184, 3, [0, 7, 1], .null), (43, .iload_n 1, 1, [], .null), (44, .aaload, 1, [], .null), (45, .getfield 215, 3, [1, 0, 1], .null), (48, .aload_n 0, 1, [], .null), (49, .getfield 21, 3, [6, 2, 1], .null), (52, .getfield 184, 3, [0, 7, 1], .null), (55, .iload_n 1, 1, [], .null), (56, .aaload, 1, [], .null), (57, .getfield 218, 3, [1, 2, 0], .null), (60, .invokevirtual 221, 3, [229, 3, 0], .null), (63, .aload_n 0, 1, [], .null), (64, .getfield 21, 3, [6, 2, 1], .null), (67, .getfield 184, 3, [0, 7, 1], .null), (70, .iload_n 1, 1, [], .null), (71, .aaload, 1, [], .null), (72, .getfield 218, 3, [1, 2, 0], .null), (75, .ireturn, 1, [], .null)]
def F_Bp_hands (x1 : Int32) (x2 : Int32) (h : Hp) : Res Hp :=
  if x1 < (0 : Int32) then
  (retI (-1 : Int32) h)
  else
  (bI (F_Bp_noRow x2 h) fun v2 h1 =>
  if v2 = (0 : Int32) then
  (if x1 < (hg h1 3 10) then
  (bif okR 1 x2 then
  bif okR 19 x1 then
  bif okF (shR 19 x1.toNatClampNeg) 1 0 1 then
  bif okR 19 x1 then
  bif okF (shR 19 x1.toNatClampNeg) 1 2 0 then
  bV (F_Sh_fill (shR 1 x2.toNatClampNeg) (shR (shR 19 x1.toNatClampNeg) 0) (hg h1 (shR 19 x1.toNatClampNeg) 2) h1) fun h3 =>
  bif okR 19 x1 then
  bif okF (shR 19 x1.toNatClampNeg) 1 2 0 then
  retI (hg h3 (shR 19 x1.toNatClampNeg) 2) h3
  else none
  else none
  else none
  else none
  else none
  else none
  else none)
  else
  (bI (F_Bp_found (2 : Int32) h1) fun v5 h4 =>
  retI v5 h4))
  else
  (retI (-1 : Int32) h1))
def sF_Bp_hands : List Value → Hp → Res Hp := fun as h => match as with | [.ref f0, .int x1, .int x2] => (match Nat.beq f0 0 with | true => F_Bp_hands x1 x2 h | false => none) | _ => none
theorem w_Bp_hands (x1 : Int32) (x2 : Int32) (h : Hp) : sF_Bp_hands [.ref 0, .int x1, .int x2] h = F_Bp_hands x1 x2 h := rfl
def S_Bp_hands : Sem Hp := [(52, sF_Bp_noRow), (229, sF_Sh_fill), (50, sF_Bp_found)]
set_option maxRecDepth 100000 in
theorem e_Bp_hands_0 (x1 : Int32) (x2 : Int32) (h : Hp) : F_Bp_hands x1 x2 h = exec1 OI S_Bp_hands 1 k_Bp_hands 0 [some (.ref 0), some (.int x1), some (.int x2)] [] h (runF OI S_Bp_hands [] 1 k_Bp_hands 400) :=
  (x_ite rfl (x_bI (f := sF_Bp_noRow) rfl (w_Bp_noRow _ _) fun v2 h1 => (x_ite (x_ite (x_bif (x_bif (x_bif (x_bif (x_bif (x_bV (f := sF_Sh_fill) rfl (w_Sh_fill _ _ _ _) fun h3 => (x_bif (x_bif rfl)))))))) (x_bI (f := sF_Bp_found) rfl (w_Bp_found _ _) fun v5 h4 => rfl)) rfl)))
def k_Bp_back : List Ent := [(0, .iload_n 1, 1, [], .null), (1, .ifCond .ge (5), 3, [6], .null), (4, .iconst (-1), 1, [], .int (-1)), (5, .ireturn, 1, [], .null), (6, .iload_n 1, 1, [], .null), (7, .aload_n 0, 1, [], .null), (8, .getfield 21, 3, [6, 2, 1], .null), (11, .getfield 181, 3, [0, 10, 0], .null), (14, .if_icmp .lt (9), 3, [23], .null), (17, .aload_n 0, 1, [], .null), (18, .iconst 2, 1, [], .int (2)), (19, .invokevirtual 79, 3, [50, 2, 1], .null), (22, .ireturn, 1, [], .null), (23, .aload_n 0, 1, [], .null), (24, .getfield 21, 3, [6, 2, 1], .null), (27, .getfield 184, 3, [0, 7, 1], .null), (30, .iload_n 1, 1, [], .null), (31, .aaload, 1, [], .null), (32, .getfield 218, 3, [1, 2, 0], .null), (35, .iconst 2, 1, [], .int (2)), (36, .if_icmp .ge (6), 3, [42], .null), (39, .bipush (-4), 2, [], .int (-4)), (41, .ireturn, 1, [], .null), (42, .aload_n 0, 1, [], .null), (43, .getfield 21, 3, [6, 2, 1], .null), (46, .getfield 184, 3, [0, 7, 1], .null), (49, .iload_n 1, 1, [], .null), (50, .aaload, 1, [], .null), (51, .dup, 1, [], .null), (52, .getfield 218, 3, [1, 2, 0], .null), (55, .iconst 1, 1, [], .int (1)), (56, .isub, 1, [], .null), (57, .putfield 218, 3, [1, 2, 0], .null), (60, .aload_n 0, 1, [], .null), (61, .getfield 21, 3, [6, 2, 1], .null), (64, .getfield 184, 3, [0, 7, 1], .null), (67, .iload_n 1, 1, [], .null), (68, .aaload, 1, [], .null), (69, .invokevirtual 212, 3, [198, 1, 1], .null), (72, .ireturn, 1, [], .null)]
def F_Bp_back (x1 : Int32) (h : Hp) : Res Hp :=
  if (0 : Int32) ≤ x1 then
  (if x1 < (hg h 3 10) then
  (bif okR 19 x1 then
  bif okF (shR 19 x1.toNatClampNeg) 1 2 0 then
  if (2 : Int32) ≤ (hg h (shR 19 x1.toNatClampNeg) 2) then
  (bif okR 19 x1 then
  bif okF (shR 19 x1.toNatClampNeg) 1 2 0 then
  bif okF (shR 19 x1.toNatClampNeg) 1 2 0 then
  bH (hs h (shR 19 x1.toNatClampNeg) 2 ((hg h (shR 19 x1.toNatClampNeg) 2) - (1 : Int32))) fun h1 =>
  bif okR 19 x1 then
  bI (F_Le_holder (shR 19 x1.toNatClampNeg) h1) fun v3 h2 =>
  retI v3 h2
  else none
  else none
  else none
  else none)
  else
  (retI (-4 : Int32) h)
  else none
  else none)
  else
  (bI (F_Bp_found (2 : Int32) h) fun v5 h4 =>
  retI v5 h4))
  else
  (retI (-1 : Int32) h)
def sF_Bp_back : List Value → Hp → Res Hp := fun as h => match as with | [.ref f0, .int x1] => (match Nat.beq f0 0 with | true => F_Bp_back x1 h | false => none) | _ => none
theorem w_Bp_back (x1 : Int32) (h : Hp) : sF_Bp_back [.ref 0, .int x1] h = F_Bp_back x1 h := rfl
def S_Bp_back : Sem Hp := [(198, sF_Le_holder), (50, sF_Bp_found)]
set_option maxRecDepth 100000 in
theorem e_Bp_back_0 (x1 : Int32) (h : Hp) : F_Bp_back x1 h = exec1 OI S_Bp_back 1 k_Bp_back 0 [some (.ref 0), some (.int x1)] [] h (runF OI S_Bp_back [] 1 k_Bp_back 400) :=
  (x_ite (x_ite (x_bif (x_bif (x_ite (x_bif (x_bif (x_bif (x_bH fun h1 => (x_bif (x_bI (f := sF_Le_holder) rfl (w_Le_holder _ _) fun v3 h2 => rfl)))))) rfl))) (x_bI (f := sF_Bp_found) rfl (w_Bp_found _ _) fun v5 h4 => rfl)) rfl)
def k_Bp_noPlace : List Ent := [(0, .iload_n 0, 1, [], .null), (1, .ifCond .lt (8), 3, [9], .null), (4, .iload_n 0, 1, [], .null), (5, .iconst 3, 1, [], .int (3)), (6, .if_icmp .lt (7), 3, [13], .null), (9, .iconst 1, 1, [], .int (1)), (10, .goto (4), 3, [14], .null), (13, .iconst 0, 1, [], .int (0)), (14, .ireturn, 1, [], .null)]
def F_Bp_noPlace (x0 : Int32) (h : Hp) : Res Hp :=
  if x0 < (0 : Int32) then
  (retZ (1 : Int32) h)
  else
  (if x0 < (3 : Int32) then
  (retZ (0 : Int32) h)
  else
  (retZ (1 : Int32) h))
def sF_Bp_noPlace : List Value → Hp → Res Hp := fun as h => match as with | [.int x0] => F_Bp_noPlace x0 h | _ => none
theorem w_Bp_noPlace (x0 : Int32) (h : Hp) : sF_Bp_noPlace [.int x0] h = F_Bp_noPlace x0 h := rfl
def S_Bp_noPlace : Sem Hp := []
set_option maxRecDepth 100000 in
theorem e_Bp_noPlace_0 (x0 : Int32) (h : Hp) : F_Bp_noPlace x0 h = exec1 OI S_Bp_noPlace 2 k_Bp_noPlace 0 [some (.int x0)] [] h (runF OI S_Bp_noPlace [] 2 k_Bp_noPlace 400) :=
  (x_ite rfl (x_ite rfl rfl))
def k_Bp_keep : List Ent := [(0, .iload_n 1, 1, [], .null), (1, .invokestatic 225, 3, [54, 1, 2], .null), (4, .ifCond .eq (5), 3, [9], .null), (7, .iconst (-1), 1, [], .int (-1)), (8, .ireturn, 1, [], .null), (9, .aload_n 0, 1, [], .null), (10, .getfield 21, 3, [6, 2, 1], .null), (13, .getfield 127, 3, [0, 8, 0], .null), (16, .ifCond .ne (6), 3, [22], .null), (19, .bipush (-4), 2, [], .int (-4)), (21, .ireturn, 1, [], .null), (22, .aload_n 0, 1, [], .null), (23, .getfield 28, 3, [6, 4, 1], .null), (26, .iload_n 1, 1, [], .null), (27, .aaload, 1, [], .null), (28, .aload_n 0, 1, [], .null), (29, .getfield 21, 3, [6, 2, 1], .null), (32, .invokevirtual 124, 3, [174, 2, 0], .null), (35, .aload_n 0, 1, [], .null), (36, .getfield 32, 3, [6, 5, 1], .null), (39, .iload_n 1, 1, [], .null), (40, .iconst 1, 1, [], .int (1)), (41, .bastore, 1, [], .null), (42, .aload_n 0, 1, [], .null), (43, .getfield 21, 3, [6, 2, 1], .null), (46, .getfield 188, 3, [0, 11, 0], .null), (49, .ireturn, 1, [], .null)]
def F_Bp_keep (x1 : Int32) (h : Hp) : Res Hp :=
  bI (F_Bp_noPlace x1 h) fun v2 h1 =>
  if v2 = (0 : Int32) then
  (if (hg h1 3 8) = (0 : Int32) then
  (retI (-4 : Int32) h1)
  else
  (bif okR 61 x1 then
  bV (F_La_takeFrom (shR 61 x1.toNatClampNeg) 3 h1) fun h3 =>
  bif okA 62 101 x1 then
  bH (hs h3 62 x1.toNatClampNeg (vp_nar .boolean (1 : Int32))) fun h4 =>
  retI (hg h4 3 11) h4
  else none
  else none))
  else
  (retI (-1 : Int32) h1)
def sF_Bp_keep : List Value → Hp → Res Hp := fun as h => match as with | [.ref f0, .int x1] => (match Nat.beq f0 0 with | true => F_Bp_keep x1 h | false => none) | _ => none
theorem w_Bp_keep (x1 : Int32) (h : Hp) : sF_Bp_keep [.ref 0, .int x1] h = F_Bp_keep x1 h := rfl
def S_Bp_keep : Sem Hp := [(54, sF_Bp_noPlace), (174, sF_La_takeFrom)]
set_option maxRecDepth 100000 in
theorem e_Bp_keep_0 (x1 : Int32) (h : Hp) : F_Bp_keep x1 h = exec1 OI S_Bp_keep 1 k_Bp_keep 0 [some (.ref 0), some (.int x1)] [] h (runF OI S_Bp_keep [] 1 k_Bp_keep 400) :=
  (x_bI (f := sF_Bp_noPlace) rfl (w_Bp_noPlace _ _) fun v2 h1 => (x_ite (x_ite rfl (x_bif (x_bV (f := sF_La_takeFrom) rfl (w_La_takeFrom _ _ _) fun h3 => (x_bif (x_bH fun h4 => rfl))))) rfl))
def k_Bp_on : List Ent := [(0, .iload_n 1, 1, [], .null), (1, .invokestatic 225, 3, [54, 1, 2], .null), (4, .ifCond .eq (5), 3, [9], .null), (7, .iconst (-1), 1, [], .int (-1)), (8, .ireturn, 1, [], .null), (9, .aload_n 0, 1, [], .null), (10, .getfield 32, 3, [6, 5, 1], .null), (13, .iload_n 1, 1, [], .null), (14, .baload, 1, [], .null), (15, .ifCond .ne (9), 3, [24], .null), (18, .aload_n 0, 1, [], .null), (19, .iconst 1, 1, [], .int (1)), (20, .invokevirtual 79, 3, [50, 2, 1], .null), (23, .ireturn, 1, [], .null), (24, .aload_n 0, 1, [], .null), (25, .getfield 21, 3, [6, 2, 1], .null), (28, .aload_n 0, 1, [], .null), (29, .getfield 28, 3, [6, 4, 1], .null), (32, .iload_n 1, 1, [], .null), (33, .aaload, 1, [], .null), (34, .invokevirtual 124, 3, [174, 2, 0], .null), (37, .aload_n 0, 1, [], .null), (38, .getfield 21, 3, [6, 2, 1], .null), (41, .getfield 188, 3, [0, 11, 0], .null), (44, .ireturn, 1, [], .null)]
def F_Bp_on (x1 : Int32) (h : Hp) : Res Hp :=
  bI (F_Bp_noPlace x1 h) fun v2 h1 =>
  if v2 = (0 : Int32) then
  (bif okA 62 101 x1 then
  if (hg h1 62 x1.toNatClampNeg) = (0 : Int32) then
  (bI (F_Bp_found (1 : Int32) h1) fun v5 h4 =>
  retI v5 h4)
  else
  (bif okR 61 x1 then
  bV (F_La_takeFrom 3 (shR 61 x1.toNatClampNeg) h1) fun h3 =>
  retI (hg h3 3 11) h3
  else none)
  else none)
  else
  (retI (-1 : Int32) h1)
def sF_Bp_on : List Value → Hp → Res Hp := fun as h => match as with | [.ref f0, .int x1] => (match Nat.beq f0 0 with | true => F_Bp_on x1 h | false => none) | _ => none
theorem w_Bp_on (x1 : Int32) (h : Hp) : sF_Bp_on [.ref 0, .int x1] h = F_Bp_on x1 h := rfl
def S_Bp_on : Sem Hp := [(54, sF_Bp_noPlace), (174, sF_La_takeFrom), (50, sF_Bp_found)]
set_option maxRecDepth 100000 in
theorem e_Bp_on_0 (x1 : Int32) (h : Hp) : F_Bp_on x1 h = exec1 OI S_Bp_on 1 k_Bp_on 0 [some (.ref 0), some (.int x1)] [] h (runF OI S_Bp_on [] 1 k_Bp_on 400) :=
  (x_bI (f := sF_Bp_noPlace) rfl (w_Bp_noPlace _ _) fun v2 h1 => (x_ite (x_bif (x_ite (x_bI (f := sF_Bp_found) rfl (w_Bp_found _ _) fun v5 h4 => rfl) (x_bif (x_bV (f := sF_La_takeFrom) rfl (w_La_takeFrom _ _ _) fun h3 => rfl)))) rfl))
def k_Wa_carriers : List Ent := [(0, .iconst 0, 1, [], .int (0)), (1, .istore_n 2, 1, [], .null), (2, .iconst 0, 1, [], .int (0)), (3, .istore_n 3, 1, [], .null), (4, .iload_n 3, 1, [], .null), (5, .aload_n 0, 1, [], .null), (6, .getfield 28, 3, [5, 0, 1], .null), (9, .getfield 32, 3, [0, 8, 0], .null), (12, .if_icmp .ge (28), 3, [40], .null), (15, .aload_n 0, 1, [], .null), (16, .getfield 28, 3, [5, 0, 1], .null), (19, .iload_n 3, 1, [], .null), (20, .iload_n 1, 1, [], .null), (21, .invokevirtual 37, 3, [182, 3, 1], .null), (24, .ifCond .ne (10), 3, [34], .null), (27, .iload_n 2, 1, [], .null), (28, .iload_n 3, 1, [], .null), (29, .invokestatic 41, 3, [64, 1, 1], .null), (32, .ior, 1, [], .null), (33, .istore_n 2, 1, [], .null), (34, .iinc 3 (1), 3, [], .int (1)), (37, .goto (-33), 3, [4], .null), (40, .iload_n 2, 1, [], .null), (41, .ireturn, 1, [], .null)]
def Wa_carriers_4  (x1 : Int32)  : (Int32 × Int32 × Hp) → ((Int32 × Int32 × Hp) → Res Hp) → Res Hp := fun s κ4 => match s with
  | (x2, x3, h) =>
  if (hg h 3 8) ≤ x3 then
  (retI x2 h)
  else
  (bI (F_La_bars 3 x3 x1 h) fun v2 h1 =>
  if v2 = (0 : Int32) then
  (bI (F_Bp_bit x3 h1) fun v4 h3 =>
  κ4 ((x2 ||| v4), (x3 + (1 : Int32)), h3))
  else
  (κ4 (x2, (x3 + (1 : Int32)), h1)))
def F_Wa_carriers (x1 : Int32) (h : Hp) : Res Hp :=
  loopC (Wa_carriers_4  x1 ) FU ((0 : Int32), (0 : Int32), h)
def sF_Wa_carriers : List Value → Hp → Res Hp := fun as h => match as with | [.ref f0, .int x1] => (match Nat.beq f0 64 with | true => F_Wa_carriers x1 h | false => none) | _ => none
theorem w_Wa_carriers (x1 : Int32) (h : Hp) : sF_Wa_carriers [.ref 64, .int x1] h = F_Wa_carriers x1 h := rfl
def S_Wa_carriers : Sem Hp := [(182, sF_La_bars), (64, sF_Bp_bit)]
set_option maxRecDepth 100000 in
theorem e_Wa_carriers_0 (x1 : Int32) (h : Hp) : F_Wa_carriers x1 h = exec1 OI S_Wa_carriers 1 k_Wa_carriers 0 [some (.ref 64), some (.int x1), none, none] [] h (runF OI S_Wa_carriers [(4, [0, 1, 2, 3], fun vs st h => match vs, st with | [.ref f0, .int x1, .int x2, .int x3], [] => (match Nat.beq f0 64 with | true => loopC (Wa_carriers_4  x1 ) FU (x2, x3, h) | false => none) | _, _ => none)] 1 k_Wa_carriers 400) :=
  rfl
set_option maxRecDepth 100000 in
theorem e_Wa_carriers_4 (κ4 : (Int32 × Int32 × Hp) → Res Hp) (x1 : Int32) (x2 : Int32) (x3 : Int32)  (h : Hp) : Wa_carriers_4  x1  (x2, x3, h) κ4 = exec1 OI S_Wa_carriers 1 k_Wa_carriers 4 [some (.ref 64), some (.int x1), some (.int x2), some (.int x3)] [] h (runF OI S_Wa_carriers [(4, [0, 1, 2, 3], fun vs st h => match vs, st with | [.ref f0, .int x1, .int x2, .int x3], [] => (match Nat.beq f0 64 with | true => κ4 (x2, x3, h) | false => none) | _, _ => none)] 1 k_Wa_carriers 400) :=
  (x_ite rfl (x_bI (f := sF_La_bars) rfl (w_La_bars _ _ _ _) fun v2 h1 => (x_ite (x_bI (f := sF_Bp_bit) rfl (w_Bp_bit _ _) fun v4 h3 => rfl) rfl)))
def k_La_ofKind : List Ent := [(0, .iconst 0, 1, [], .int (0)), (1, .istore_n 2, 1, [], .null), (2, .iconst 0, 1, [], .int (0)), (3, .istore_n 3, 1, [], .null), (4, .iload_n 3, 1, [], .null), (5, .aload_n 0, 1, [], .null), (6, .getfield 41, 3, [0, 8, 0], .null), (9, .if_icmp .ge (29), 3, [38], .null), (12, .aload_n 0, 1, [], .null), (13, .getfield 9, 3, [0, 0, 1], .null), (16, .iload_n 3, 1, [], .null), (17, .iaload, 1, [], .null), (18, .iload_n 1, 1, [], .null), (19, .invokestatic 82, 3, [67, 2, 2], .null), (22, .ifCond .eq (10), 3, [32], .null), (25, .iload_n 2, 1, [], .null), (26, .iload_n 3, 1, [], .null), (27, .invokestatic 72, 3, [64, 1, 1], .null), (30, .ior, 1, [], .null), (31, .istore_n 2, 1, [], .null), (32, .iinc 3 (1), 3, [], .int (1)), (35, .goto (-31), 3, [4], .null), (38, .iload_n 2, 1, [], .null), (39, .ireturn, 1, [], .null)]
def La_ofKind_4  (o0 : Nat) (x1 : Int32)  : (Int32 × Int32 × Hp) → ((Int32 × Int32 × Hp) → Res Hp) → Res Hp := fun s κ4 => match s with
  | (x2, x3, h) =>
  bif okF o0 0 8 0 then
  if (hg h o0 8) ≤ x3 then
  (retI x2 h)
  else
  (bif okF o0 0 0 1 then
  bif okA (shR o0 0) 100 x3 then
  bI (F_Bp_isOf (hg h (shR o0 0) x3.toNatClampNeg) x1 h) fun v2 h1 =>
  if v2 = (0 : Int32) then
  (κ4 (x2, (x3 + (1 : Int32)), h1))
  else
  (bI (F_Bp_bit x3 h1) fun v4 h3 =>
  κ4 ((x2 ||| v4), (x3 + (1 : Int32)), h3))
  else none
  else none)
  else none
def F_La_ofKind (o0 : Nat) (x1 : Int32) (h : Hp) : Res Hp :=
  loopC (La_ofKind_4  o0 x1 ) FU ((0 : Int32), (0 : Int32), h)
def sF_La_ofKind : List Value → Hp → Res Hp := fun as h => match as with | [.ref o0, .int x1] => F_La_ofKind o0 x1 h | _ => none
theorem w_La_ofKind (o0 : Nat) (x1 : Int32) (h : Hp) : sF_La_ofKind [.ref o0, .int x1] h = F_La_ofKind o0 x1 h := rfl
def S_La_ofKind : Sem Hp := [(67, sF_Bp_isOf), (64, sF_Bp_bit)]
set_option maxRecDepth 100000 in
theorem e_La_ofKind_0 (o0 : Nat) (x1 : Int32) (h : Hp) : F_La_ofKind o0 x1 h = exec1 OI S_La_ofKind 1 k_La_ofKind 0 [some (.ref o0), some (.int x1), none, none] [] h (runF OI S_La_ofKind [(4, [0, 1, 2, 3], fun vs st h => match vs, st with | [.ref o0, .int x1, .int x2, .int x3], [] => loopC (La_ofKind_4  o0 x1 ) FU (x2, x3, h) | _, _ => none)] 1 k_La_ofKind 400) :=
  rfl
set_option maxRecDepth 100000 in
theorem e_La_ofKind_4 (κ4 : (Int32 × Int32 × Hp) → Res Hp) (o0 : Nat) (x1 : Int32) (x2 : Int32) (x3 : Int32)  (h : Hp) : La_ofKind_4  o0 x1  (x2, x3, h) κ4 = exec1 OI S_La_ofKind 1 k_La_ofKind 4 [some (.ref o0), some (.int x1), some (.int x2), some (.int x3)] [] h (runF OI S_La_ofKind [(4, [0, 1, 2, 3], fun vs st h => match vs, st with | [.ref o0, .int x1, .int x2, .int x3], [] => κ4 (x2, x3, h) | _, _ => none)] 1 k_La_ofKind 400) :=
  (x_bif (x_ite rfl (x_bif (x_bif (x_bI (f := sF_Bp_isOf) rfl (w_Bp_isOf _ _ _) fun v2 h1 => (x_ite rfl (x_bI (f := sF_Bp_bit) rfl (w_Bp_bit _ _) fun v4 h3 => rfl)))))))
def k_Wa_soonest : List Ent := [(0, .aload_n 0, 1, [], .null), (1, .iload_n 3, 1, [], .null), (2, .invokevirtual 58, 3, [233, 2, 1], .null), (5, .iload_n 1, 1, [], .null), (6, .invokestatic 41, 3, [64, 1, 1], .null), (9, .iconst (-1), 1, [], .int (-1)), (10, .ixor, 1, [], .null), (11, .iand, 1, [], .null), (12, .istore 5, 2, [], .null), (14, .iload 5, 2, [], .null), (16, .aload_n 0, 1, [], .null), (17, .getfield 28, 3, [5, 0, 1], .null), (20, .iconst 4, 1, [], .int (4)), (21, .invokevirtual 45, 3, [180, 2, 1], .null), (24, .iconst (-1), 1, [], .int (-1)), (25, .ixor, 1, [], .null), (26, .iand, 1, [], .null), (27, .istore 6, 2, [], .null), (29, .iconst 0, 1, [], .int (0)), (30, .istore 7, 2, [], .null), (32, .iconst 0, 1, [], .int (0)), (33, .istore 8, 2, [], .null), (35, .iload 8, 2, [], .null), (37, .bipush (40), 2, [], .int (40)), (39, .if_icmp .ge (118), 3, [157], .null), (42, .iload 4, 2, [], .null), (44, .iload 8, 2, [], .null), (46, .iadd, 1, [], .null), (47, .bipush (99), 2, [], .int (99)), (49, .if_icmp .gt (108), 3, [157], .null), (52, .aload_n 0, 1, [], .null), (53, .getfield 28, 3, [5, 0, 1], .null), (56, .getfield 61, 3, [0, 5, 1], .null), (59, .iload 4, 2, [], .null), (61, .iload 8, 2, [], .null), (63, .iadd, 1, [], .null), (64, .bipush (8), 2, [], .int (8)), (66, .irem, 1, [], .null), (67, .aaload, 1, [], .null), (68, .astore 9, 2, [], .null), (70, .iconst 0, 1, [], .int (0)), (71, .istore 10, 2, [], .null), (73, .iconst 0, 1, [], .int (0)), (74, .istore 11, 2, [], .null), (76, .iload 11, 2, [], .null), (78, .aload_n 0, 1, [], .null), (79, .getfield 28, 3, [5, 0, 1], .null), (82, .getfield 32, 3, [0, 8, 0], .null), (85, .if_icmp .ge (29), 3, [114], .null), (88, .iload 7, 2, [], .null), (90, .iload 11, 2, [], .null), (92, .invokestatic 54, 3, [65, 2, 2], .null), (95, .ifCond .eq (13), 3, [108], .null), (98, .iload 10, 2, [], .null), (100, .aload 9, 2, [], .null), (102, .iload 11, 2, [], .null), (104, .iaload, 1, [], .null), (105, .ior, 1, [], .null), (106, .istore 10, 2, [], .null), (108, .iinc 11 (1), 3, [], .int (1)), (111, .goto (-35), 3, [76], .null), (114, .iload 10, 2, [], .null), (116, .aload 9, 2, [], .null), (118, .iload_n 1, 1, [], .null), (119, .iaload, 1, [], .null), (120, .ior, 1, [], .null), (121, .iload_n 2, 1, [], .null), (122, .invokestatic 54, 3, [65, 2, 2], .null), (125, .ifCond .eq (8), 3, [133], .null), (128, .iload 8, 2, [], .null), (130, .iconst 1, 1, [], .int (1)), (131, .iadd, 1, [], .null), (132, .ireturn, 1, [], .null), (133, .iload 7, 2, [], .null), (135, .aload 9, 2, [], .null), (137, .iload_n 1, 1, [], .null), (138, .iaload, 1, [], .null), (139, .iload 5, 2, [], .null), (141, .iand, 1, [], .null), (142, .iload 10, 2, [], .null), (144, .iload 6, 2, [], .null), (146, .iand, 1, [], .null), (147, .ior, 1, [], .null), (148, .ior, 1, [], .null), (149, .istore 7, 2, [], .null), (151, .iinc 8 (1), 3, [], .int (1)), (154, .goto (-119), 3, [35], .null), (157, .bipush (-9), 2, [], .int (-9)), (159, .ireturn, 1, [], .null)]
def Wa_soonest_76 (κ35 : (Int32 × Int32 × Hp) → Res Hp) (x1 : Int32) (x2 : Int32) (x4 : Int32) (x5 : Int32) (x6 : Int32) (x7 : Int32) (x8 : Int32) (o9 : Nat)  : (Int32 × Int32 × Hp) → ((Int32 × Int32 × Hp) → Res Hp) → Res Hp := fun s κ76 => match s with
  | (x10, x11, h) =>
  if (hg h 3 8) ≤ x11 then
  (bif okA o9 100 x1 then
  bI (F_Bp_has (x10 ||| (hg h o9 x1.toNatClampNeg)) x2 h) fun v2 h1 =>
  if v2 = (0 : Int32) then
  (bif okA o9 100 x1 then
  κ35 ((x7 ||| (((hg h1 o9 x1.toNatClampNeg) &&& x5) ||| (x10 &&& x6))), (x8 + (1 : Int32)), h1)
  else none)
  else
  (retI (x8 + (1 : Int32)) h1)
  else none)
  else
  (bI (F_Bp_has x7 x11 h) fun v4 h3 =>
  if v4 = (0 : Int32) then
  (κ76 (x10, (x11 + (1 : Int32)), h3))
  else
  (bif okA o9 100 x11 then
  κ76 ((x10 ||| (hg h3 o9 x11.toNatClampNeg)), (x11 + (1 : Int32)), h3)
  else none))
def Wa_soonest_35  (x1 : Int32) (x2 : Int32) (x4 : Int32) (x5 : Int32) (x6 : Int32)  : (Int32 × Int32 × Hp) → ((Int32 × Int32 × Hp) → Res Hp) → Res Hp := fun s κ35 => match s with
  | (x7, x8, h) =>
  if (40 : Int32) ≤ x8 then
  (retI (-9 : Int32) h)
  else
  (if (99 : Int32) < (x4 + x8) then
  (retI (-9 : Int32) h)
  else
  (bif okR 9 ((x4 + x8) - (x4 + x8) / (8 : Int32) * (8 : Int32)) then
  loopC (Wa_soonest_76 κ35 x1 x2 x4 x5 x6 x7 x8 (shR 9 ((x4 + x8) - (x4 + x8) / (8 : Int32) * (8 : Int32)).toNatClampNeg) ) FU ((0 : Int32), (0 : Int32), h)
  else none))
def F_Wa_soonest (x1 : Int32) (x2 : Int32) (x3 : Int32) (x4 : Int32) (h : Hp) : Res Hp :=
  bI (F_Wa_carriers x3 h) fun v2 h1 =>
  bI (F_Bp_bit x1 h1) fun v4 h3 =>
  bI (F_La_ofKind 3 (4 : Int32) h3) fun v6 h5 =>
  loopC (Wa_soonest_35  x1 x2 x4 (v2 &&& (v4 ^^^ (-1 : Int32))) ((v2 &&& (v4 ^^^ (-1 : Int32))) &&& (v6 ^^^ (-1 : Int32))) ) FU ((0 : Int32), (0 : Int32), h5)
def sF_Wa_soonest : List Value → Hp → Res Hp := fun as h => match as with | [.ref f0, .int x1, .int x2, .int x3, .int x4] => (match Nat.beq f0 64 with | true => F_Wa_soonest x1 x2 x3 x4 h | false => none) | _ => none
theorem w_Wa_soonest (x1 : Int32) (x2 : Int32) (x3 : Int32) (x4 : Int32) (h : Hp) : sF_Wa_soonest [.ref 64, .int x1, .int x2, .int x3, .int x4] h = F_Wa_soonest x1 x2 x3 x4 h := rfl
def S_Wa_soonest : Sem Hp := [(233, sF_Wa_carriers), (64, sF_Bp_bit), (180, sF_La_ofKind), (65, sF_Bp_has)]
set_option maxRecDepth 100000 in
theorem e_Wa_soonest_0 (x1 : Int32) (x2 : Int32) (x3 : Int32) (x4 : Int32) (h : Hp) : F_Wa_soonest x1 x2 x3 x4 h = exec1 OI S_Wa_soonest 1 k_Wa_soonest 0 [some (.ref 64), some (.int x1), some (.int x2), some (.int x3), some (.int x4), none, none, none, none, none, none, none] [] h (runF OI S_Wa_soonest [(35, [0, 1, 2, 4, 5, 6, 7, 8], fun vs st h => match vs, st with | [.ref f0, .int x1, .int x2, .int x4, .int x5, .int x6, .int x7, .int x8], [] => (match Nat.beq f0 64 with | true => loopC (Wa_soonest_35  x1 x2 x4 x5 x6 ) FU (x7, x8, h) | false => none) | _, _ => none)] 1 k_Wa_soonest 400) :=
  (x_bI (f := sF_Wa_carriers) rfl (w_Wa_carriers _ _) fun v2 h1 => (x_bI (f := sF_Bp_bit) rfl (w_Bp_bit _ _) fun v4 h3 => (x_bI (f := sF_La_ofKind) rfl (w_La_ofKind _ _ _) fun v6 h5 => rfl)))
set_option maxRecDepth 100000 in
theorem e_Wa_soonest_35 (κ35 : (Int32 × Int32 × Hp) → Res Hp) (x1 : Int32) (x2 : Int32) (x4 : Int32) (x5 : Int32) (x6 : Int32) (x7 : Int32) (x8 : Int32)  (h : Hp) : Wa_soonest_35  x1 x2 x4 x5 x6  (x7, x8, h) κ35 = exec1 OI S_Wa_soonest 1 k_Wa_soonest 35 [some (.ref 64), some (.int x1), some (.int x2), none, some (.int x4), some (.int x5), some (.int x6), some (.int x7), some (.int x8), none, none, none] [] h (runF OI S_Wa_soonest [(76, [0, 1, 2, 4, 5, 6, 7, 8, 9, 10, 11], fun vs st h => match vs, st with | [.ref f0, .int x1, .int x2, .int x4, .int x5, .int x6, .int x7, .int x8, .ref o9, .int x10, .int x11], [] => (match Nat.beq f0 64 with | true => loopC (Wa_soonest_76 κ35 x1 x2 x4 x5 x6 x7 x8 o9 ) FU (x10, x11, h) | false => none) | _, _ => none)] 1 k_Wa_soonest 400) :=
  (x_ite rfl (x_ite rfl (x_bif rfl)))
set_option maxRecDepth 100000 in
theorem e_Wa_soonest_76 (κ35 : (Int32 × Int32 × Hp) → Res Hp) (κ76 : (Int32 × Int32 × Hp) → Res Hp) (x1 : Int32) (x2 : Int32) (x4 : Int32) (x5 : Int32) (x6 : Int32) (x7 : Int32) (x8 : Int32) (o9 : Nat) (x10 : Int32) (x11 : Int32)  (h : Hp) : Wa_soonest_76 κ35 x1 x2 x4 x5 x6 x7 x8 o9  (x10, x11, h) κ76 = exec1 OI S_Wa_soonest 1 k_Wa_soonest 76 [some (.ref 64), some (.int x1), some (.int x2), none, some (.int x4), some (.int x5), some (.int x6), some (.int x7), some (.int x8), some (.ref o9), some (.int x10), some (.int x11)] [] h (runF OI S_Wa_soonest [(35, [0, 1, 2, 4, 5, 6, 7, 8], fun vs st h => match vs, st with | [.ref f0, .int x1, .int x2, .int x4, .int x5, .int x6, .int x7, .int x8], [] => (match Nat.beq f0 64 with | true => κ35 (x7, x8, h) | false => none) | _, _ => none), (76, [0, 1, 2, 4, 5, 6, 7, 8, 9, 10, 11], fun vs st h => match vs, st with | [.ref f0, .int x1, .int x2, .int x4, .int x5, .int x6, .int x7, .int x8, .ref o9, .int x10, .int x11], [] => (match Nat.beq f0 64 with | true => κ76 (x10, x11, h) | false => none) | _, _ => none)] 1 k_Wa_soonest 400) :=
  (x_ite (x_bif (x_bI (f := sF_Bp_has) rfl (w_Bp_has _ _ _) fun v2 h1 => (x_ite (x_bif rfl) rfl))) (x_bI (f := sF_Bp_has) rfl (w_Bp_has _ _ _) fun v4 h3 => (x_ite rfl (x_bif rfl))))
def k_Bp_soon : List Ent := [(0, .aload_n 0, 1, [], .null), (1, .iload_n 1, 1, [], .null), (2, .iload_n 2, 1, [], .null), (3, .invokevirtual 155, 3, [58, 3, 2], .null), (6, .ifCond .ne (18), 3, [24], .null), (9, .iload_n 3, 1, [], .null), (10, .invokestatic 168, 3, [56, 1, 2], .null), (13, .ifCond .ne (11), 3, [24], .null), (16, .iload 4, 2, [], .null), (18, .invokestatic 174, 3, [57, 1, 2], .null), (21, .ifCond .eq (5), 3, [26], .null), (24, .iconst (-1), 1, [], .int (-1)), (25, .ireturn, 1, [], .null), (26, .aload_n 0, 1, [], .null), (27, .getfield 48, 3, [6, 7, 1], .null), (30, .iload_n 1, 1, [], .null), (31, .iload_n 2, 1, [], .null), (32, .iload_n 3, 1, [], .null), (33, .iload 4, 2, [], .null), (35, .invokevirtual 228, 3, [236, 5, 1], .null), (38, .ireturn, 1, [], .null)]
def F_Bp_soon (x1 : Int32) (x2 : Int32) (x3 : Int32) (x4 : Int32) (h : Hp) : Res Hp :=
  bI (F_Bp_noPair x1 x2 h) fun v2 h1 =>
  if v2 = (0 : Int32) then
  (bI (F_Bp_noTongues x3 h1) fun v4 h3 =>
  if v4 = (0 : Int32) then
  (bI (F_Bp_noHour x4 h3) fun v6 h5 =>
  if v6 = (0 : Int32) then
  (bI (F_Wa_soonest x1 x2 x3 x4 h5) fun v8 h7 =>
  retI v8 h7)
  else
  (retI (-1 : Int32) h5))
  else
  (retI (-1 : Int32) h3))
  else
  (retI (-1 : Int32) h1)
def sF_Bp_soon : List Value → Hp → Res Hp := fun as h => match as with | [.ref f0, .int x1, .int x2, .int x3, .int x4] => (match Nat.beq f0 0 with | true => F_Bp_soon x1 x2 x3 x4 h | false => none) | _ => none
theorem w_Bp_soon (x1 : Int32) (x2 : Int32) (x3 : Int32) (x4 : Int32) (h : Hp) : sF_Bp_soon [.ref 0, .int x1, .int x2, .int x3, .int x4] h = F_Bp_soon x1 x2 x3 x4 h := rfl
def S_Bp_soon : Sem Hp := [(58, sF_Bp_noPair), (56, sF_Bp_noTongues), (57, sF_Bp_noHour), (236, sF_Wa_soonest)]
set_option maxRecDepth 100000 in
theorem e_Bp_soon_0 (x1 : Int32) (x2 : Int32) (x3 : Int32) (x4 : Int32) (h : Hp) : F_Bp_soon x1 x2 x3 x4 h = exec1 OI S_Bp_soon 1 k_Bp_soon 0 [some (.ref 0), some (.int x1), some (.int x2), some (.int x3), some (.int x4)] [] h (runF OI S_Bp_soon [] 1 k_Bp_soon 400) :=
  (x_bI (f := sF_Bp_noPair) rfl (w_Bp_noPair _ _ _) fun v2 h1 => (x_ite (x_bI (f := sF_Bp_noTongues) rfl (w_Bp_noTongues _ _) fun v4 h3 => (x_ite (x_bI (f := sF_Bp_noHour) rfl (w_Bp_noHour _ _) fun v6 h5 => (x_ite (x_bI (f := sF_Wa_soonest) rfl (w_Wa_soonest _ _ _ _ _) fun v8 h7 => rfl) rfl)) rfl)) rfl))
def k_Wa_priceAsTheyAre : List Ent := [(0, .iconst 0, 1, [], .int (0)), (1, .istore_n 2, 1, [], .null), (2, .iload_n 2, 1, [], .null), (3, .aload_n 0, 1, [], .null), (4, .getfield 28, 3, [5, 0, 1], .null), (7, .getfield 32, 3, [0, 8, 0], .null), (10, .if_icmp .ge (32), 3, [42], .null), (13, .aload_n 0, 1, [], .null), (14, .getfield 9, 3, [5, 1, 1], .null), (17, .iload_n 2, 1, [], .null), (18, .aload_n 0, 1, [], .null), (19, .getfield 28, 3, [5, 0, 1], .null), (22, .iload_n 2, 1, [], .null), (23, .iload_n 1, 1, [], .null), (24, .invokevirtual 74, 3, [183, 3, 2], .null), (27, .ifCond .eq (7), 3, [34], .null), (30, .iconst 0, 1, [], .int (0)), (31, .goto (4), 3, [35], .null), (34, .iconst (-1), 1, [], .int (-1)), (35, .iastore, 1, [], .null), (36, .iinc 2 (1), 3, [], .int (1)), (39, .goto (-37), 3, [2], .null), (42, .return_, 1, [], .null)]
def Wa_priceAsTheyAre_2  (x1 : Int32)  : (Int32 × Hp) → ((Int32 × Hp) → Res Hp) → Res Hp := fun s κ2 => match s with
  | (x2, h) =>
  if (hg h 3 8) ≤ x2 then
  (retV h)
  else
  (bI (F_La_carries 3 x2 x1 h) fun v2 h1 =>
  if v2 = (0 : Int32) then
  (bif okA 65 100 x2 then
  bH (hs h1 65 x2.toNatClampNeg (-1 : Int32)) fun h3 =>
  κ2 ((x2 + (1 : Int32)), h3)
  else none)
  else
  (bif okA 65 100 x2 then
  bH (hs h1 65 x2.toNatClampNeg (0 : Int32)) fun h4 =>
  κ2 ((x2 + (1 : Int32)), h4)
  else none))
def F_Wa_priceAsTheyAre (x1 : Int32) (h : Hp) : Res Hp :=
  loopC (Wa_priceAsTheyAre_2  x1 ) FU ((0 : Int32), h)
def sF_Wa_priceAsTheyAre : List Value → Hp → Res Hp := fun as h => match as with | [.ref f0, .int x1] => (match Nat.beq f0 64 with | true => F_Wa_priceAsTheyAre x1 h | false => none) | _ => none
theorem w_Wa_priceAsTheyAre (x1 : Int32) (h : Hp) : sF_Wa_priceAsTheyAre [.ref 64, .int x1] h = F_Wa_priceAsTheyAre x1 h := rfl
def S_Wa_priceAsTheyAre : Sem Hp := [(183, sF_La_carries)]
set_option maxRecDepth 100000 in
theorem e_Wa_priceAsTheyAre_0 (x1 : Int32) (h : Hp) : F_Wa_priceAsTheyAre x1 h = exec1 OI S_Wa_priceAsTheyAre 0 k_Wa_priceAsTheyAre 0 [some (.ref 64), some (.int x1), none] [] h (runF OI S_Wa_priceAsTheyAre [(2, [0, 1, 2], fun vs st h => match vs, st with | [.ref f0, .int x1, .int x2], [] => (match Nat.beq f0 64 with | true => loopC (Wa_priceAsTheyAre_2  x1 ) FU (x2, h) | false => none) | _, _ => none)] 0 k_Wa_priceAsTheyAre 400) :=
  rfl
set_option maxRecDepth 100000 in
theorem e_Wa_priceAsTheyAre_2 (κ2 : (Int32 × Hp) → Res Hp) (x1 : Int32) (x2 : Int32)  (h : Hp) : Wa_priceAsTheyAre_2  x1  (x2, h) κ2 = exec1 OI S_Wa_priceAsTheyAre 0 k_Wa_priceAsTheyAre 2 [some (.ref 64), some (.int x1), some (.int x2)] [] h (runF OI S_Wa_priceAsTheyAre [(2, [0, 1, 2], fun vs st h => match vs, st with | [.ref f0, .int x1, .int x2], [] => (match Nat.beq f0 64 with | true => κ2 (x2, h) | false => none) | _, _ => none)] 0 k_Wa_priceAsTheyAre 400) :=
  (x_ite rfl (x_bI (f := sF_La_carries) rfl (w_La_carries _ _ _ _) fun v2 h1 => (x_ite (x_bif (x_bH fun h3 => rfl)) (x_bif (x_bH fun h4 => rfl)))))
def k_Wa_leadsOn : List Ent := [(0, .aload_n 0, 1, [], .null), (1, .getfield 9, 3, [5, 1, 1], .null), (4, .iload_n 2, 1, [], .null), (5, .iaload, 1, [], .null), (6, .iconst (-1), 1, [], .int (-1)), (7, .if_icmp .eq (23), 3, [30], .null), (10, .iload_n 1, 1, [], .null), (11, .iload_n 3, 1, [], .null), (12, .if_icmp .eq (14), 3, [26], .null), (15, .aload_n 0, 1, [], .null), (16, .getfield 18, 3, [5, 3, 0], .null), (19, .iload_n 2, 1, [], .null), (20, .invokestatic 54, 3, [65, 2, 2], .null), (23, .ifCond .ne (7), 3, [30], .null), (26, .iconst 1, 1, [], .int (1)), (27, .goto (4), 3, [31], .null), (30, .iconst 0, 1, [], .int (0)), (31, .istore 4, 2, [], .null), (33, .iload_n 2, 1, [], .null), (34, .iload_n 3, 1, [], .null), (35, .if_icmp .eq (28), 3, [63], .null), (38, .iload 4, 2, [], .null), (40, .ifCond .eq (23), 3, [63], .null), (43, .aload_n 0, 1, [], .null), (44, .getfield 28, 3, [5, 0, 1], .null), (47, .getfield 48, 3, [0, 6, 1], .null), (50, .iload_n 1, 1, [], .null), (51, .iaload, 1, [], .null), (52, .iload_n 2, 1, [], .null), (53, .invokestatic 54, 3, [65, 2, 2], .null), (56, .ifCond .eq (7), 3, [63], .null), (59, .iconst 1, 1, [], .int (1)), (60, .goto (4), 3, [64], .null), (63, .iconst 0, 1, [], .int (0)), (64, .ireturn, 1, [], .null)]
def F_Wa_leadsOn (x1 : Int32) (x2 : Int32) (x3 : Int32) (h : Hp) : Res Hp :=
  bif okA 65 100 x2 then
  if (hg h 65 x2.toNatClampNeg) = (-1 : Int32) then
  (if x2 = x3 then
  (retZ (0 : Int32) h)
  else
  (retZ (0 : Int32) h))
  else
  (if x1 = x3 then
  (if x2 = x3 then
  (retZ (0 : Int32) h)
  else
  (bif okA 18 100 x1 then
  bI (F_Bp_has (hg h 18 x1.toNatClampNeg) x2 h) fun v2 h1 =>
  if v2 = (0 : Int32) then
  (retZ (0 : Int32) h1)
  else
  (retZ (1 : Int32) h1)
  else none))
  else
  (bI (F_Bp_has (hg h 64 3) x2 h) fun v4 h3 =>
  if v4 = (0 : Int32) then
  (if x2 = x3 then
  (retZ (0 : Int32) h3)
  else
  (bif okA 18 100 x1 then
  bI (F_Bp_has (hg h3 18 x1.toNatClampNeg) x2 h3) fun v6 h5 =>
  if v6 = (0 : Int32) then
  (retZ (0 : Int32) h5)
  else
  (retZ (1 : Int32) h5)
  else none))
  else
  (if x2 = x3 then
  (retZ (0 : Int32) h3)
  else
  (retZ (0 : Int32) h3))))
  else none
def sF_Wa_leadsOn : List Value → Hp → Res Hp := fun as h => match as with | [.ref f0, .int x1, .int x2, .int x3] => (match Nat.beq f0 64 with | true => F_Wa_leadsOn x1 x2 x3 h | false => none) | _ => none
theorem w_Wa_leadsOn (x1 : Int32) (x2 : Int32) (x3 : Int32) (h : Hp) : sF_Wa_leadsOn [.ref 64, .int x1, .int x2, .int x3] h = F_Wa_leadsOn x1 x2 x3 h := rfl
def S_Wa_leadsOn : Sem Hp := [(65, sF_Bp_has)]
set_option maxRecDepth 100000 in
theorem e_Wa_leadsOn_0 (x1 : Int32) (x2 : Int32) (x3 : Int32) (h : Hp) : F_Wa_leadsOn x1 x2 x3 h = exec1 OI S_Wa_leadsOn 2 k_Wa_leadsOn 0 [some (.ref 64), some (.int x1), some (.int x2), some (.int x3), none] [] h (runF OI S_Wa_leadsOn [] 2 k_Wa_leadsOn 400) :=
  (x_bif (x_ite (x_ite rfl rfl) (x_ite (x_ite rfl (x_bif (x_bI (f := sF_Bp_has) rfl (w_Bp_has _ _ _) fun v2 h1 => (x_ite rfl rfl)))) (x_bI (f := sF_Bp_has) rfl (w_Bp_has _ _ _) fun v4 h3 => (x_ite (x_ite rfl (x_bif (x_bI (f := sF_Bp_has) rfl (w_Bp_has _ _ _) fun v6 h5 => (x_ite rfl rfl)))) (x_ite rfl rfl))))))
def k_Wa_weightBy : List Ent := [(0, .aload_n 0, 1, [], .null), (1, .getfield 9, 3, [5, 1, 1], .null), (4, .iload_n 1, 1, [], .null), (5, .iaload, 1, [], .null), (6, .bipush (16), 2, [], .int (16)), (8, .imul, 1, [], .null), (9, .iconst 1, 1, [], .int (1)), (10, .iadd, 1, [], .null), (11, .aload_n 0, 1, [], .null), (12, .getfield 15, 3, [5, 2, 1], .null), (15, .iload_n 1, 1, [], .null), (16, .iaload, 1, [], .null), (17, .iadd, 1, [], .null), (18, .ireturn, 1, [], .null)]
def F_Wa_weightBy (x1 : Int32) (h : Hp) : Res Hp :=
  bif okA 65 100 x1 then
  bif okA 66 100 x1 then
  retI ((((hg h 65 x1.toNatClampNeg) * (16 : Int32)) + (1 : Int32)) + (hg h 66 x1.toNatClampNeg)) h
  else none
  else none
def sF_Wa_weightBy : List Value → Hp → Res Hp := fun as h => match as with | [.ref f0, .int x1] => (match Nat.beq f0 64 with | true => F_Wa_weightBy x1 h | false => none) | _ => none
theorem w_Wa_weightBy (x1 : Int32) (h : Hp) : sF_Wa_weightBy [.ref 64, .int x1] h = F_Wa_weightBy x1 h := rfl
def S_Wa_weightBy : Sem Hp := []
set_option maxRecDepth 100000 in
theorem e_Wa_weightBy_0 (x1 : Int32) (h : Hp) : F_Wa_weightBy x1 h = exec1 OI S_Wa_weightBy 1 k_Wa_weightBy 0 [some (.ref 64), some (.int x1)] [] h (runF OI S_Wa_weightBy [] 1 k_Wa_weightBy 400) :=
  (x_bif (x_bif rfl))
def k_Wa_weighAhead : List Ent := [(0, .iconst 0, 1, [], .int (0)), (1, .istore_n 3, 1, [], .null), (2, .iload_n 3, 1, [], .null), (3, .aload_n 0, 1, [], .null), (4, .getfield 28, 3, [5, 0, 1], .null), (7, .getfield 32, 3, [0, 8, 0], .null), (10, .if_icmp .ge (37), 3, [47], .null), (13, .aload_n 0, 1, [], .null), (14, .getfield 15, 3, [5, 2, 1], .null), (17, .iload_n 3, 1, [], .null), (18, .aload_n 0, 1, [], .null), (19, .getfield 28, 3, [5, 0, 1], .null), (22, .getfield 48, 3, [0, 6, 1], .null), (25, .iload_n 3, 1, [], .null), (26, .iaload, 1, [], .null), (27, .iload_n 2, 1, [], .null), (28, .invokestatic 54, 3, [65, 2, 2], .null), (31, .ifCond .eq (7), 3, [38], .null), (34, .iconst 0, 1, [], .int (0)), (35, .goto (5), 3, [40], .null), (38, .ldc 81, 2, [], .int (1000000)), (40, .iastore, 1, [], .null), (41, .iinc 3 (1), 3, [], .int (1)), (44, .goto (-42), 3, [2], .null), (47, .iconst 0, 1, [], .int (0)), (48, .istore_n 3, 1, [], .null), (49, .iload_n 3, 1, [], .null), (50, .bipush (7), 2, [], .int (7)), (52, .if_icmp .ge (92), 3, [144], .null), (55, .iconst 0, 1, [], .int (0)), (56, .istore 4, 2, [], .null), (58, .iload 4, 2, [], .null), (60, .aload_n 0, 1, [], .null), (61, .getfield 28, 3, [5, 0, 1], .null), (64, .getfield 32, 3, [0, 8, 0], .null), (67, .if_icmp .ge (71), 3, [138], .null), (70, .iconst 0, 1, [], .int (0)), (71, .istore 5, 2, [], .null), (73, .iload 5, 2, [], .null), (75, .aload_n 0, 1, [], .null), (76, .getfield 28, 3, [5, 0, 1], .null), (79, .getfield 32, 3, [0, 8, 0], .null), (82, .if_icmp .ge (50), 3, [132], .null), (85, .iload 5, 2, [], .null), (87, .iload_n 2, 1, [], .null), (88, .if_icmp .eq (38), 3, [126], .null), (91, .aload_n 0, 1, [], .null), (92, .iload 4, 2, [], .null), (94, .iload 5, 2, [], .null), (96, .iload_n 1, 1, [], .null), (97, .invokevirtual 86, 3, [243, 4, 2], .null), (100, .ifCond .eq (26), 3, [126], .null), (103, .aload_n 0, 1, [], .null), (104, .getfield 15, 3, [5, 2, 1], .null), (107, .iload 4, 2, [], .null), (109, .aload_n 0, 1, [], .null), (110, .getfield 15, 3, [5, 2, 1], .null), (113, .iload 4, 2, [], .null), (115, .iaload, 1, [], .null), (116, .aload_n 0, 1, [], .null), (117, .iload 5, 2, [], .null), (119, .invokevirtual 89, 3, [244, 2, 1], .null), (122, .invokestatic 92, 3, [252, 2, 1], .null), (125, .iastore, 1, [], .null), (126, .iinc 5 (1), 3, [], .int (1)), (129, .goto (-56), 3, [73], .null), (132, .iinc 4 (1), 3, [], .int (1)), (135, .goto (-77), 3, [58], .null), (138, .iinc 3 (1), 3, [], .int (1)), (141, .goto (-92), 3, [49], .null), (144, .return_, 1, [], .null)]
def Wa_weighAhead_73 (κ49 : (Int32 × Hp) → Res Hp) (κ58 : (Int32 × Hp) → Res Hp) (x1 : Int32) (x2 : Int32) (x3 : Int32) (x4 : Int32)  : (Int32 × Hp) → ((Int32 × Hp) → Res Hp) → Res Hp := fun s κ73 => match s with
  | (x5, h) =>
  if (hg h 3 8) ≤ x5 then
  (κ58 ((x4 + (1 : Int32)), h))
  else
  (if x5 = x2 then
  (κ73 ((x5 + (1 : Int32)), h))
  else
  (bI (F_Wa_leadsOn x4 x5 x1 h) fun v2 h1 =>
  if v2 = (0 : Int32) then
  (κ73 ((x5 + (1 : Int32)), h1))
  else
  (bif okA 66 100 x4 then
  bI (F_Wa_weightBy x5 h1) fun v4 h3 =>
  bI (F_Jmath_min (hg h1 66 x4.toNatClampNeg) v4 h3) fun v6 h5 =>
  bif okA 66 100 x4 then
  bH (hs h5 66 x4.toNatClampNeg v6) fun h7 =>
  κ73 ((x5 + (1 : Int32)), h7)
  else none
  else none)))
def Wa_weighAhead_58 (κ49 : (Int32 × Hp) → Res Hp) (x1 : Int32) (x2 : Int32) (x3 : Int32)  : (Int32 × Hp) → ((Int32 × Hp) → Res Hp) → Res Hp := fun s κ58 => match s with
  | (x4, h) =>
  if (hg h 3 8) ≤ x4 then
  (κ49 ((x3 + (1 : Int32)), h))
  else
  (loopC (Wa_weighAhead_73 κ49 κ58 x1 x2 x3 x4 ) FU ((0 : Int32), h))
def Wa_weighAhead_49  (x1 : Int32) (x2 : Int32)  : (Int32 × Hp) → ((Int32 × Hp) → Res Hp) → Res Hp := fun s κ49 => match s with
  | (x3, h) =>
  if (7 : Int32) ≤ x3 then
  (retV h)
  else
  (loopC (Wa_weighAhead_58 κ49 x1 x2 x3 ) FU ((0 : Int32), h))
def Wa_weighAhead_2  (x1 : Int32) (x2 : Int32)  : (Int32 × Hp) → ((Int32 × Hp) → Res Hp) → Res Hp := fun s κ2 => match s with
  | (x3, h) =>
  if (hg h 3 8) ≤ x3 then
  (loopC (Wa_weighAhead_49  x1 x2 ) FU ((0 : Int32), h))
  else
  (bif okA 18 100 x3 then
  bI (F_Bp_has (hg h 18 x3.toNatClampNeg) x2 h) fun v2 h1 =>
  if v2 = (0 : Int32) then
  (bif okA 66 100 x3 then
  bH (hs h1 66 x3.toNatClampNeg (1000000 : Int32)) fun h3 =>
  κ2 ((x3 + (1 : Int32)), h3)
  else none)
  else
  (bif okA 66 100 x3 then
  bH (hs h1 66 x3.toNatClampNeg (0 : Int32)) fun h4 =>
  κ2 ((x3 + (1 : Int32)), h4)
  else none)
  else none)
def F_Wa_weighAhead (x1 : Int32) (x2 : Int32) (h : Hp) : Res Hp :=
  loopC (Wa_weighAhead_2  x1 x2 ) FU ((0 : Int32), h)
def sF_Wa_weighAhead : List Value → Hp → Res Hp := fun as h => match as with | [.ref f0, .int x1, .int x2] => (match Nat.beq f0 64 with | true => F_Wa_weighAhead x1 x2 h | false => none) | _ => none
theorem w_Wa_weighAhead (x1 : Int32) (x2 : Int32) (h : Hp) : sF_Wa_weighAhead [.ref 64, .int x1, .int x2] h = F_Wa_weighAhead x1 x2 h := rfl
def S_Wa_weighAhead : Sem Hp := [(243, sF_Wa_leadsOn), (244, sF_Wa_weightBy), (252, sF_Jmath_min), (65, sF_Bp_has)]
set_option maxRecDepth 100000 in
theorem e_Wa_weighAhead_0 (x1 : Int32) (x2 : Int32) (h : Hp) : F_Wa_weighAhead x1 x2 h = exec1 OI S_Wa_weighAhead 0 k_Wa_weighAhead 0 [some (.ref 64), some (.int x1), some (.int x2), none, none, none] [] h (runF OI S_Wa_weighAhead [(2, [0, 1, 2, 3], fun vs st h => match vs, st with | [.ref f0, .int x1, .int x2, .int x3], [] => (match Nat.beq f0 64 with | true => loopC (Wa_weighAhead_2  x1 x2 ) FU (x3, h) | false => none) | _, _ => none)] 0 k_Wa_weighAhead 400) :=
  rfl
set_option maxRecDepth 100000 in
theorem e_Wa_weighAhead_2 (κ2 : (Int32 × Hp) → Res Hp) (x1 : Int32) (x2 : Int32) (x3 : Int32)  (h : Hp) : Wa_weighAhead_2  x1 x2  (x3, h) κ2 = exec1 OI S_Wa_weighAhead 0 k_Wa_weighAhead 2 [some (.ref 64), some (.int x1), some (.int x2), some (.int x3), none, none] [] h (runF OI S_Wa_weighAhead [(49, [0, 1, 2, 3], fun vs st h => match vs, st with | [.ref f0, .int x1, .int x2, .int x3], [] => (match Nat.beq f0 64 with | true => loopC (Wa_weighAhead_49  x1 x2 ) FU (x3, h) | false => none) | _, _ => none), (2, [0, 1, 2, 3], fun vs st h => match vs, st with | [.ref f0, .int x1, .int x2, .int x3], [] => (match Nat.beq f0 64 with | true => κ2 (x3, h) | false => none) | _, _ => none)] 0 k_Wa_weighAhead 400) :=
  (x_ite rfl (x_bif (x_bI (f := sF_Bp_has) rfl (w_Bp_has _ _ _) fun v2 h1 => (x_ite (x_bif (x_bH fun h3 => rfl)) (x_bif (x_bH fun h4 => rfl))))))
set_option maxRecDepth 100000 in
theorem e_Wa_weighAhead_49 (κ49 : (Int32 × Hp) → Res Hp) (x1 : Int32) (x2 : Int32) (x3 : Int32)  (h : Hp) : Wa_weighAhead_49  x1 x2  (x3, h) κ49 = exec1 OI S_Wa_weighAhead 0 k_Wa_weighAhead 49 [some (.ref 64), some (.int x1), some (.int x2), some (.int x3), none, none] [] h (runF OI S_Wa_weighAhead [(58, [0, 1, 2, 3, 4], fun vs st h => match vs, st with | [.ref f0, .int x1, .int x2, .int x3, .int x4], [] => (match Nat.beq f0 64 with | true => loopC (Wa_weighAhead_58 κ49 x1 x2 x3 ) FU (x4, h) | false => none) | _, _ => none)] 0 k_Wa_weighAhead 400) :=
  (x_ite rfl rfl)
set_option maxRecDepth 100000 in
theorem e_Wa_weighAhead_58 (κ49 : (Int32 × Hp) → Res Hp) (κ58 : (Int32 × Hp) → Res Hp) (x1 : Int32) (x2 : Int32) (x3 : Int32) (x4 : Int32)  (h : Hp) : Wa_weighAhead_58 κ49 x1 x2 x3  (x4, h) κ58 = exec1 OI S_Wa_weighAhead 0 k_Wa_weighAhead 58 [some (.ref 64), some (.int x1), some (.int x2), some (.int x3), some (.int x4), none] [] h (runF OI S_Wa_weighAhead [(49, [0, 1, 2, 3], fun vs st h => match vs, st with | [.ref f0, .int x1, .int x2, .int x3], [] => (match Nat.beq f0 64 with | true => κ49 (x3, h) | false => none) | _, _ => none), (73, [0, 1, 2, 3, 4, 5], fun vs st h => match vs, st with | [.ref f0, .int x1, .int x2, .int x3, .int x4, .int x5], [] => (match Nat.beq f0 64 with | true => loopC (Wa_weighAhead_73 κ49 κ58 x1 x2 x3 x4 ) FU (x5, h) | false => none) | _, _ => none)] 0 k_Wa_weighAhead 400) :=
  (x_ite rfl rfl)
set_option maxRecDepth 100000 in
theorem e_Wa_weighAhead_73 (κ49 : (Int32 × Hp) → Res Hp) (κ58 : (Int32 × Hp) → Res Hp) (κ73 : (Int32 × Hp) → Res Hp) (x1 : Int32) (x2 : Int32) (x3 : Int32) (x4 : Int32) (x5 : Int32)  (h : Hp) : Wa_weighAhead_73 κ49 κ58 x1 x2 x3 x4  (x5, h) κ73 = exec1 OI S_Wa_weighAhead 0 k_Wa_weighAhead 73 [some (.ref 64), some (.int x1), some (.int x2), some (.int x3), some (.int x4), some (.int x5)] [] h (runF OI S_Wa_weighAhead [(58, [0, 1, 2, 3, 4], fun vs st h => match vs, st with | [.ref f0, .int x1, .int x2, .int x3, .int x4], [] => (match Nat.beq f0 64 with | true => κ58 (x4, h) | false => none) | _, _ => none), (73, [0, 1, 2, 3, 4, 5], fun vs st h => match vs, st with | [.ref f0, .int x1, .int x2, .int x3, .int x4, .int x5], [] => (match Nat.beq f0 64 with | true => κ73 (x5, h) | false => none) | _, _ => none)] 0 k_Wa_weighAhead 400) :=
  (x_ite rfl (x_ite rfl (x_bI (f := sF_Wa_leadsOn) rfl (w_Wa_leadsOn _ _ _ _) fun v2 h1 => (x_ite rfl (x_bif (x_bI (f := sF_Wa_weightBy) rfl (w_Wa_weightBy _ _) fun v4 h3 => (x_bI (f := sF_Jmath_min) rfl (w_Jmath_min _ _ _) fun v6 h5 => (x_bif (x_bH fun h7 => rfl)))))))))
def k_Wa_nextOn : List Ent := [(0, .iconst 0, 1, [], .int (0)), (1, .istore 4, 2, [], .null), (3, .iload 4, 2, [], .null), (5, .aload_n 0, 1, [], .null), (6, .getfield 28, 3, [5, 0, 1], .null), (9, .getfield 32, 3, [0, 8, 0], .null), (12, .if_icmp .ge (44), 3, [56], .null), (15, .iload 4, 2, [], .null), (17, .iload_n 3, 1, [], .null), (18, .if_icmp .eq (32), 3, [50], .null), (21, .aload_n 0, 1, [], .null), (22, .iload_n 1, 1, [], .null), (23, .iload 4, 2, [], .null), (25, .iload_n 2, 1, [], .null), (26, .invokevirtual 86, 3, [243, 4, 2], .null), (29, .ifCond .eq (21), 3, [50], .null), (32, .aload_n 0, 1, [], .null), (33, .iload 4, 2, [], .null), (35, .invokevirtual 89, 3, [244, 2, 1], .null), (38, .aload_n 0, 1, [], .null), (39, .getfield 15, 3, [5, 2, 1], .null), (42, .iload_n 1, 1, [], .null), (43, .iaload, 1, [], .null), (44, .if_icmp .ne (6), 3, [50], .null), (47, .iload 4, 2, [], .null), (49, .ireturn, 1, [], .null), (50, .iinc 4 (1), 3, [], .int (1)), (53, .goto (-50), 3, [3], .null), (56, .iload_n 3, 1, [], .null), (57, .ireturn, 1, [], .null)]
def Wa_nextOn_3  (x1 : Int32) (x2 : Int32) (x3 : Int32)  : (Int32 × Hp) → ((Int32 × Hp) → Res Hp) → Res Hp := fun s κ3 => match s with
  | (x4, h) =>
  if (hg h 3 8) ≤ x4 then
  (retI x3 h)
  else
  (if x4 = x3 then
  (κ3 ((x4 + (1 : Int32)), h))
  else
  (bI (F_Wa_leadsOn x1 x4 x2 h) fun v2 h1 =>
  if v2 = (0 : Int32) then
  (κ3 ((x4 + (1 : Int32)), h1))
  else
  (bI (F_Wa_weightBy x4 h1) fun v4 h3 =>
  bif okA 66 100 x1 then
  if v4 = (hg h3 66 x1.toNatClampNeg) then
  (retI x4 h3)
  else
  (κ3 ((x4 + (1 : Int32)), h3))
  else none)))
def F_Wa_nextOn (x1 : Int32) (x2 : Int32) (x3 : Int32) (h : Hp) : Res Hp :=
  loopC (Wa_nextOn_3  x1 x2 x3 ) FU ((0 : Int32), h)
def sF_Wa_nextOn : List Value → Hp → Res Hp := fun as h => match as with | [.ref f0, .int x1, .int x2, .int x3] => (match Nat.beq f0 64 with | true => F_Wa_nextOn x1 x2 x3 h | false => none) | _ => none
theorem w_Wa_nextOn (x1 : Int32) (x2 : Int32) (x3 : Int32) (h : Hp) : sF_Wa_nextOn [.ref 64, .int x1, .int x2, .int x3] h = F_Wa_nextOn x1 x2 x3 h := rfl
def S_Wa_nextOn : Sem Hp := [(243, sF_Wa_leadsOn), (244, sF_Wa_weightBy)]
set_option maxRecDepth 100000 in
theorem e_Wa_nextOn_0 (x1 : Int32) (x2 : Int32) (x3 : Int32) (h : Hp) : F_Wa_nextOn x1 x2 x3 h = exec1 OI S_Wa_nextOn 1 k_Wa_nextOn 0 [some (.ref 64), some (.int x1), some (.int x2), some (.int x3), none] [] h (runF OI S_Wa_nextOn [(3, [0, 1, 2, 3, 4], fun vs st h => match vs, st with | [.ref f0, .int x1, .int x2, .int x3, .int x4], [] => (match Nat.beq f0 64 with | true => loopC (Wa_nextOn_3  x1 x2 x3 ) FU (x4, h) | false => none) | _, _ => none)] 1 k_Wa_nextOn 400) :=
  rfl
set_option maxRecDepth 100000 in
theorem e_Wa_nextOn_3 (κ3 : (Int32 × Hp) → Res Hp) (x1 : Int32) (x2 : Int32) (x3 : Int32) (x4 : Int32)  (h : Hp) : Wa_nextOn_3  x1 x2 x3  (x4, h) κ3 = exec1 OI S_Wa_nextOn 1 k_Wa_nextOn 3 [some (.ref 64), some (.int x1), some (.int x2), some (.int x3), some (.int x4)] [] h (runF OI S_Wa_nextOn [(3, [0, 1, 2, 3, 4], fun vs st h => match vs, st with | [.ref f0, .int x1, .int x2, .int x3, .int x4], [] => (match Nat.beq f0 64 with | true => κ3 (x4, h) | false => none) | _, _ => none)] 1 k_Wa_nextOn 400) :=
  (x_ite rfl (x_ite rfl (x_bI (f := sF_Wa_leadsOn) rfl (w_Wa_leadsOn _ _ _ _) fun v2 h1 => (x_ite rfl (x_bI (f := sF_Wa_weightBy) rfl (w_Wa_weightBy _ _) fun v4 h3 => (x_bif (x_ite rfl rfl)))))))
def k_Wa_find : List Ent := [(0, .aload_n 0, 1, [], .null), (1, .aload_n 0, 1, [], .null), (2, .getfield 28, 3, [5, 0, 1], .null), (5, .iconst 4, 1, [], .int (4)), (6, .invokevirtual 45, 3, [180, 2, 1], .null), (9, .putfield 18, 3, [5, 3, 0], .null), (12, .aload_n 0, 1, [], .null), (13, .iload_n 1, 1, [], .null), (14, .iload_n 2, 1, [], .null), (15, .invokevirtual 77, 3, [242, 3, 0], .null), (18, .aload_n 0, 1, [], .null), (19, .getfield 15, 3, [5, 2, 1], .null), (22, .iload_n 1, 1, [], .null), (23, .iaload, 1, [], .null), (24, .ldc 81, 2, [], .int (1000000)), (26, .if_icmp .lt (5), 3, [31], .null), (29, .iconst 0, 1, [], .int (0)), (30, .ireturn, 1, [], .null), (31, .aload_n 0, 1, [], .null), (32, .getfield 22, 3, [5, 4, 1], .null), (35, .iconst 0, 1, [], .int (0)), (36, .iload_n 1, 1, [], .null), (37, .iastore, 1, [], .null), (38, .aload_n 0, 1, [], .null), (39, .iconst 1, 1, [], .int (1)), (40, .putfield 25, 3, [5, 5, 0], .null), (43, .iconst 1, 1, [], .int (1)), (44, .istore_n 3, 1, [], .null), (45, .iload_n 3, 1, [], .null), (46, .bipush (7), 2, [], .int (7)), (48, .if_icmp .ge (60), 3, [108], .null), (51, .aload_n 0, 1, [], .null), (52, .getfield 22, 3, [5, 4, 1], .null), (55, .aload_n 0, 1, [], .null), (56, .getfield 25, 3, [5, 5, 0], .null), (59, .iconst 1, 1, [], .int (1)), (60, .isub, 1, [], .null), (61, .iaload, 1, [], .null), (62, .iload_n 2, 1, [], .null), (63, .if_icmp .eq (45), 3, [108], .null), (66, .aload_n 0, 1, [], .null), (67, .getfield 22, 3, [5, 4, 1], .null), (70, .aload_n 0, 1, [], .null), (71, .getfield 25, 3, [5, 5, 0], .null), (74, .aload_n 0, 1, [], .null), (75, .aload_n 0, 1, [], .null), (76, .getfield 22, 3, [5, 4, 1], .null), (79, .aload_n 0, 1, [], .null), (80, .getfield 25, 3, [5, 5, 0], .null), (83, .iconst 1, 1, [], .int (1)), (84, .isub, 1, [], .null), (85, .iaload, 1, [], .null), (86, .iload_n 1, 1, [], .null), (87, .iload_n 2, 1, [], .null), (88, .invokevirtual 82, 3, [245, 4, 1], .null), (91, .iastore, 1, [], .null), (92, .aload_n 0, 1, [], .null), (93, .dup, 1, [], .null), (94, .getfield 25, 3, [5, 5, 0], .null), (97, .iconst 1, 1, [], .int (1)), (98, .iadd, 1, [], .null), (99, .putfield 25, 3, [5, 5, 0], .null), (102, .iinc 3 (1), 3, [], .int (1)), (105, .goto (-60), 3, [45], .null), (108, .iconst 1, 1, [], .int (1)), (109, .ireturn, 1, [], .null)]
def Wa_find_45  (x1 : Int32) (x2 : Int32)  : (Int32 × Hp) → ((Int32 × Hp) → Res Hp) → Res Hp := fun s κ45 => match s with
  | (x3, h) =>
  if (7 : Int32) ≤ x3 then
  (retZ (1 : Int32) h)
  else
  (bif okA 67 100 ((hg h 64 5) - (1 : Int32)) then
  if (hg h 67 ((hg h 64 5) - (1 : Int32)).toNatClampNeg) = x2 then
  (retZ (1 : Int32) h)
  else
  (bif okA 67 100 ((hg h 64 5) - (1 : Int32)) then
  bI (F_Wa_nextOn (hg h 67 ((hg h 64 5) - (1 : Int32)).toNatClampNeg) x1 x2 h) fun v2 h1 =>
  bif okA 67 100 (hg h 64 5) then
  bH (hs h1 67 (hg h 64 5).toNatClampNeg v2) fun h3 =>
  bH (hs h3 64 5 ((hg h3 64 5) + (1 : Int32))) fun h4 =>
  κ45 ((x3 + (1 : Int32)), h4)
  else none
  else none)
  else none)
def F_Wa_find (x1 : Int32) (x2 : Int32) (h : Hp) : Res Hp :=
  bI (F_La_ofKind 3 (4 : Int32) h) fun v2 h1 =>
  bH (hs h1 64 3 v2) fun h3 =>
  bV (F_Wa_weighAhead x1 x2 h3) fun h4 =>
  bif okA 66 100 x1 then
  if (hg h4 66 x1.toNatClampNeg) < (1000000 : Int32) then
  (bH (hs h4 67 0 x1) fun h5 =>
  bH (hs h5 64 5 (1 : Int32)) fun h6 =>
  loopC (Wa_find_45  x1 x2 ) FU ((1 : Int32), h6))
  else
  (retZ (0 : Int32) h4)
  else none
def sF_Wa_find : List Value → Hp → Res Hp := fun as h => match as with | [.ref f0, .int x1, .int x2] => (match Nat.beq f0 64 with | true => F_Wa_find x1 x2 h | false => none) | _ => none
theorem w_Wa_find (x1 : Int32) (x2 : Int32) (h : Hp) : sF_Wa_find [.ref 64, .int x1, .int x2] h = F_Wa_find x1 x2 h := rfl
def S_Wa_find : Sem Hp := [(180, sF_La_ofKind), (242, sF_Wa_weighAhead), (245, sF_Wa_nextOn)]
set_option maxRecDepth 100000 in
theorem e_Wa_find_0 (x1 : Int32) (x2 : Int32) (h : Hp) : F_Wa_find x1 x2 h = exec1 OI S_Wa_find 2 k_Wa_find 0 [some (.ref 64), some (.int x1), some (.int x2), none] [] h (runF OI S_Wa_find [(45, [0, 1, 2, 3], fun vs st h => match vs, st with | [.ref f0, .int x1, .int x2, .int x3], [] => (match Nat.beq f0 64 with | true => loopC (Wa_find_45  x1 x2 ) FU (x3, h) | false => none) | _, _ => none)] 2 k_Wa_find 400) :=
  (x_bI (f := sF_La_ofKind) rfl (w_La_ofKind _ _ _) fun v2 h1 => (x_bH fun h3 => (x_bV (f := sF_Wa_weighAhead) rfl (w_Wa_weighAhead _ _ _) fun h4 => (x_bif (x_ite (x_bH fun h5 => (x_bH fun h6 => rfl)) rfl)))))
set_option maxRecDepth 100000 in
theorem e_Wa_find_45 (κ45 : (Int32 × Hp) → Res Hp) (x1 : Int32) (x2 : Int32) (x3 : Int32)  (h : Hp) : Wa_find_45  x1 x2  (x3, h) κ45 = exec1 OI S_Wa_find 2 k_Wa_find 45 [some (.ref 64), some (.int x1), some (.int x2), some (.int x3)] [] h (runF OI S_Wa_find [(45, [0, 1, 2, 3], fun vs st h => match vs, st with | [.ref f0, .int x1, .int x2, .int x3], [] => (match Nat.beq f0 64 with | true => κ45 (x3, h) | false => none) | _, _ => none)] 2 k_Wa_find 400) :=
  (x_ite rfl (x_bif (x_ite rfl (x_bif (x_bI (f := sF_Wa_nextOn) rfl (w_Wa_nextOn _ _ _ _) fun v2 h1 => (x_bif (x_bH fun h3 => (x_bH fun h4 => rfl))))))))
def k_Bp_way : List Ent := [(0, .aload_n 0, 1, [], .null), (1, .iload_n 1, 1, [], .null), (2, .iload_n 2, 1, [], .null), (3, .invokevirtual 155, 3, [58, 3, 2], .null), (6, .ifCond .ne (18), 3, [24], .null), (9, .iload_n 3, 1, [], .null), (10, .invokestatic 168, 3, [56, 1, 2], .null), (13, .ifCond .ne (11), 3, [24], .null), (16, .iload 4, 2, [], .null), (18, .invokestatic 75, 3, [52, 1, 2], .null), (21, .ifCond .eq (5), 3, [26], .null), (24, .iconst (-1), 1, [], .int (-1)), (25, .ireturn, 1, [], .null), (26, .aload_n 0, 1, [], .null), (27, .getfield 48, 3, [6, 7, 1], .null), (30, .iload_n 3, 1, [], .null), (31, .invokevirtual 232, 3, [239, 2, 0], .null), (34, .aload_n 0, 1, [], .null), (35, .getfield 48, 3, [6, 7, 1], .null), (38, .iload_n 1, 1, [], .null), (39, .iload_n 2, 1, [], .null), (40, .invokevirtual 235, 3, [241, 3, 2], .null), (43, .ifCond .ne (6), 3, [49], .null), (46, .bipush (-9), 2, [], .int (-9)), (48, .ireturn, 1, [], .null), (49, .aload_n 0, 1, [], .null), (50, .getfield 11, 3, [6, 0, 1], .null), (53, .iload 4, 2, [], .null), (55, .aaload, 1, [], .null), (56, .aload_n 0, 1, [], .null), (57, .getfield 48, 3, [6, 7, 1], .null), (60, .getfield 238, 3, [5, 4, 1], .null), (63, .aload_n 0, 1, [], .null), (64, .getfield 48, 3, [6, 7, 1], .null), (67, .getfield 239, 3, [5, 5, 0], .null), (70, .invokevirtual 221, 3, [229, 3, 0], .null), (73, .aload_n 0, 1, [], .null), (74, .getfield 48, 3, [6, 7, 1], .null), (77, .getfield 239, 3, [5, 5, 0], .null), (80, .iconst 2, 1, [], .int (2)), (81, .isub, 1, [], .null), (82, .ireturn, 1, [], .null)]
def F_Bp_way (x1 : Int32) (x2 : Int32) (x3 : Int32) (x4 : Int32) (h : Hp) : Res Hp :=
  bI (F_Bp_noPair x1 x2 h) fun v2 h1 =>
  if v2 = (0 : Int32) then
  (bI (F_Bp_noTongues x3 h1) fun v4 h3 =>
  if v4 = (0 : Int32) then
  (bI (F_Bp_noRow x4 h3) fun v6 h5 =>
  if v6 = (0 : Int32) then
  (bV (F_Wa_priceAsTheyAre x3 h5) fun h7 =>
  bI (F_Wa_find x1 x2 h7) fun v9 h8 =>
  if v9 = (0 : Int32) then
  (retI (-9 : Int32) h8)
  else
  (bif okR 1 x4 then
  bV (F_Sh_fill (shR 1 x4.toNatClampNeg) 67 (hg h8 64 5) h8) fun h10 =>
  retI ((hg h10 64 5) - (2 : Int32)) h10
  else none))
  else
  (retI (-1 : Int32) h5))
  else
  (retI (-1 : Int32) h3))
  else
  (retI (-1 : Int32) h1)
def sF_Bp_way : List Value → Hp → Res Hp := fun as h => match as with | [.ref f0, .int x1, .int x2, .int x3, .int x4] => (match Nat.beq f0 0 with | true => F_Bp_way x1 x2 x3 x4 h | false => none) | _ => none
theorem w_Bp_way (x1 : Int32) (x2 : Int32) (x3 : Int32) (x4 : Int32) (h : Hp) : sF_Bp_way [.ref 0, .int x1, .int x2, .int x3, .int x4] h = F_Bp_way x1 x2 x3 x4 h := rfl
def S_Bp_way : Sem Hp := [(58, sF_Bp_noPair), (56, sF_Bp_noTongues), (52, sF_Bp_noRow), (239, sF_Wa_priceAsTheyAre), (241, sF_Wa_find), (229, sF_Sh_fill)]
set_option maxRecDepth 100000 in
theorem e_Bp_way_0 (x1 : Int32) (x2 : Int32) (x3 : Int32) (x4 : Int32) (h : Hp) : F_Bp_way x1 x2 x3 x4 h = exec1 OI S_Bp_way 1 k_Bp_way 0 [some (.ref 0), some (.int x1), some (.int x2), some (.int x3), some (.int x4)] [] h (runF OI S_Bp_way [] 1 k_Bp_way 400) :=
  (x_bI (f := sF_Bp_noPair) rfl (w_Bp_noPair _ _ _) fun v2 h1 => (x_ite (x_bI (f := sF_Bp_noTongues) rfl (w_Bp_noTongues _ _) fun v4 h3 => (x_ite (x_bI (f := sF_Bp_noRow) rfl (w_Bp_noRow _ _) fun v6 h5 => (x_ite (x_bV (f := sF_Wa_priceAsTheyAre) rfl (w_Wa_priceAsTheyAre _ _) fun h7 => (x_bI (f := sF_Wa_find) rfl (w_Wa_find _ _ _) fun v9 h8 => (x_ite rfl (x_bif (x_bV (f := sF_Sh_fill) rfl (w_Sh_fill _ _ _ _) fun h10 => rfl))))) rfl)) rfl)) rfl))
def k_Bp_tongue : List Ent := [(0, .aload_n 0, 1, [], .null), (1, .iload_n 1, 1, [], .null), (2, .iload_n 2, 1, [], .null), (3, .invokevirtual 155, 3, [58, 3, 2], .null), (6, .ifCond .ne (10), 3, [16], .null), (9, .iload_n 3, 1, [], .null), (10, .invokestatic 174, 3, [57, 1, 2], .null), (13, .ifCond .eq (5), 3, [18], .null), (16, .iconst (-1), 1, [], .int (-1)), (17, .ireturn, 1, [], .null), (18, .aload_n 0, 1, [], .null), (19, .getfield 21, 3, [6, 2, 1], .null), (22, .getfield 149, 3, [0, 1, 1], .null), (25, .iload_n 1, 1, [], .null), (26, .iaload, 1, [], .null), (27, .aload_n 0, 1, [], .null), (28, .getfield 21, 3, [6, 2, 1], .null), (31, .getfield 149, 3, [0, 1, 1], .null), (34, .iload_n 2, 1, [], .null), (35, .iaload, 1, [], .null), (36, .iand, 1, [], .null), (37, .istore 4, 2, [], .null), (39, .bipush (-9), 2, [], .int (-9)), (41, .istore 5, 2, [], .null), (43, .bipush (100), 2, [], .int (100)), (45, .istore 6, 2, [], .null), (47, .iconst 0, 1, [], .int (0)), (48, .istore 7, 2, [], .null), (50, .iload 7, 2, [], .null), (52, .iconst 5, 1, [], .int (5)), (53, .if_icmp .ge (63), 3, [116], .null), (56, .iload 4, 2, [], .null), (58, .iload 7, 2, [], .null), (60, .invokestatic 201, 3, [65, 2, 2], .null), (63, .ifCond .eq (21), 3, [84], .null), (66, .aload_n 0, 1, [], .null), (67, .getfield 48, 3, [6, 7, 1], .null), (70, .iload_n 1, 1, [], .null), (71, .iload_n 2, 1, [], .null), (72, .iload 7, 2, [], .null), (74, .invokestatic 152, 3, [64, 1, 1], .null), (77, .iload_n 3, 1, [], .null), (78, .invokevirtual 228, 3, [236, 5, 1], .null), (81, .goto (5), 3, [86], .null), (84, .bipush (-9), 2, [], .int (-9)), (86, .istore 8, 2, [], .null), (88, .iload 8, 2, [], .null), (90, .bipush (-9), 2, [], .int (-9)), (92, .if_icmp .eq (18), 3, [110], .null), (95, .iload 8, 2, [], .null), (97, .iload 6, 2, [], .null), (99, .if_icmp .ge (11), 3, [110], .null), (102, .iload 7, 2, [], .null), (104, .istore 5, 2, [], .null), (106, .iload 8, 2, [], .null), (108, .istore 6, 2, [], .null), (110, .iinc 7 (1), 3, [], .int (1)), (113, .goto (-63), 3, [50], .null), (116, .iload 5, 2, [], .null), (118, .bipush (-9), 2, [], .int (-9)), (120, .if_icmp .eq (9), 3, [129], .null), (123, .aload_n 0, 1, [], .null), (124, .iload 6, 2, [], .null), (126, .putfield 69, 3, [6, 11, 0], .null), (129, .iload 5, 2, [], .null), (131, .ireturn, 1, [], .null)]
def Bp_tongue_50  (x1 : Int32) (x2 : Int32) (x3 : Int32) (x4 : Int32)  : (Int32 × Int32 × Int32 × Hp) → ((Int32 × Int32 × Int32 × Hp) → Res Hp) → Res Hp := fun s κ50 => match s with
  | (x5, x6, x7, h) =>
  if (5 : Int32) ≤ x7 then
  (if x5 = (-9 : Int32) then
  (retI x5 h)
  else
  (bH (hs h 0 11 x6) fun h1 =>
  retI x5 h1))
  else
  (bI (F_Bp_has x4 x7 h) fun v3 h2 =>
  if v3 = (0 : Int32) then
  (κ50 (x5, x6, (x7 + (1 : Int32)), h2))
  else
  (bI (F_Bp_bit x7 h2) fun v5 h4 =>
  bI (F_Wa_soonest x1 x2 v5 x3 h4) fun v7 h6 =>
  if v7 = (-9 : Int32) then
  (κ50 (x5, x6, (x7 + (1 : Int32)), h6))
  else
  (if x6 ≤ v7 then
  (κ50 (x5, x6, (x7 + (1 : Int32)), h6))
  else
  (κ50 (x7, v7, (x7 + (1 : Int32)), h6)))))
def F_Bp_tongue (x1 : Int32) (x2 : Int32) (x3 : Int32) (h : Hp) : Res Hp :=
  bI (F_Bp_noPair x1 x2 h) fun v2 h1 =>
  if v2 = (0 : Int32) then
  (bI (F_Bp_noHour x3 h1) fun v4 h3 =>
  if v4 = (0 : Int32) then
  (bif okA 5 100 x1 then
  bif okA 5 100 x2 then
  loopC (Bp_tongue_50  x1 x2 x3 ((hg h3 5 x1.toNatClampNeg) &&& (hg h3 5 x2.toNatClampNeg)) ) FU ((-9 : Int32), (100 : Int32), (0 : Int32), h3)
  else none
  else none)
  else
  (retI (-1 : Int32) h3))
  else
  (retI (-1 : Int32) h1)
def sF_Bp_tongue : List Value → Hp → Res Hp := fun as h => match as with | [.ref f0, .int x1, .int x2, .int x3] => (match Nat.beq f0 0 with | true => F_Bp_tongue x1 x2 x3 h | false => none) | _ => none
theorem w_Bp_tongue (x1 : Int32) (x2 : Int32) (x3 : Int32) (h : Hp) : sF_Bp_tongue [.ref 0, .int x1, .int x2, .int x3] h = F_Bp_tongue x1 x2 x3 h := rfl
def S_Bp_tongue : Sem Hp := [(58, sF_Bp_noPair), (57, sF_Bp_noHour), (65, sF_Bp_has), (64, sF_Bp_bit), (236, sF_Wa_soonest)]
set_option maxRecDepth 100000 in
theorem e_Bp_tongue_0 (x1 : Int32) (x2 : Int32) (x3 : Int32) (h : Hp) : F_Bp_tongue x1 x2 x3 h = exec1 OI S_Bp_tongue 1 k_Bp_tongue 0 [some (.ref 0), some (.int x1), some (.int x2), some (.int x3), none, none, none, none, none] [] h (runF OI S_Bp_tongue [(50, [0, 1, 2, 3, 4, 5, 6, 7], fun vs st h => match vs, st with | [.ref f0, .int x1, .int x2, .int x3, .int x4, .int x5, .int x6, .int x7], [] => (match Nat.beq f0 0 with | true => loopC (Bp_tongue_50  x1 x2 x3 x4 ) FU (x5, x6, x7, h) | false => none) | _, _ => none)] 1 k_Bp_tongue 400) :=
  (x_bI (f := sF_Bp_noPair) rfl (w_Bp_noPair _ _ _) fun v2 h1 => (x_ite (x_bI (f := sF_Bp_noHour) rfl (w_Bp_noHour _ _) fun v4 h3 => (x_ite (x_bif (x_bif rfl)) rfl)) rfl))
set_option maxRecDepth 100000 in
theorem e_Bp_tongue_50 (κ50 : (Int32 × Int32 × Int32 × Hp) → Res Hp) (x1 : Int32) (x2 : Int32) (x3 : Int32) (x4 : Int32) (x5 : Int32) (x6 : Int32) (x7 : Int32)  (h : Hp) : Bp_tongue_50  x1 x2 x3 x4  (x5, x6, x7, h) κ50 = exec1 OI S_Bp_tongue 1 k_Bp_tongue 50 [some (.ref 0), some (.int x1), some (.int x2), some (.int x3), some (.int x4), some (.int x5), some (.int x6), some (.int x7), none] [] h (runF OI S_Bp_tongue [(50, [0, 1, 2, 3, 4, 5, 6, 7], fun vs st h => match vs, st with | [.ref f0, .int x1, .int x2, .int x3, .int x4, .int x5, .int x6, .int x7], [] => (match Nat.beq f0 0 with | true => κ50 (x5, x6, x7, h) | false => none) | _, _ => none)] 1 k_Bp_tongue 400) :=
  (x_ite (x_ite rfl (x_bH fun h1 => rfl)) (x_bI (f := sF_Bp_has) rfl (w_Bp_has _ _ _) fun v3 h2 => (x_ite rfl (x_bI (f := sF_Bp_bit) rfl (w_Bp_bit _ _) fun v5 h4 => (x_bI (f := sF_Wa_soonest) rfl (w_Wa_soonest _ _ _ _ _) fun v7 h6 => (x_ite rfl (x_ite rfl rfl)))))))
def k_Jmath_max : List Ent := [(0, .iload_n 0, 1, [], .null), (1, .iload_n 1, 1, [], .null), (2, .if_icmp .lt (7), 3, [9], .null), (5, .iload_n 0, 1, [], .null), (6, .goto (4), 3, [10], .null), (9, .iload_n 1, 1, [], .null), (10, .ireturn, 1, [], .null)]
def F_Jmath_max (x0 : Int32) (x1 : Int32) (h : Hp) : Res Hp :=
  if x0 < x1 then
  (retI x1 h)
  else
  (retI x0 h)
def sF_Jmath_max : List Value → Hp → Res Hp := fun as h => match as with | [.int x0, .int x1] => F_Jmath_max x0 x1 h | _ => none
theorem w_Jmath_max (x0 : Int32) (x1 : Int32) (h : Hp) : sF_Jmath_max [.int x0, .int x1] h = F_Jmath_max x0 x1 h := rfl
def S_Jmath_max : Sem Hp := []
set_option maxRecDepth 100000 in
theorem e_Jmath_max_0 (x0 : Int32) (x1 : Int32) (h : Hp) : F_Jmath_max x0 x1 h = exec1 OI S_Jmath_max 1 k_Jmath_max 0 [some (.int x0), some (.int x1)] [] h (runF OI S_Jmath_max [] 1 k_Jmath_max 400) :=
  (x_ite rfl rfl)
def k_Bp_parts : List Ent := [(0, .aload_n 0, 1, [], .null), (1, .iload_n 1, 1, [], .null), (2, .iload_n 2, 1, [], .null), (3, .invokevirtual 155, 3, [58, 3, 2], .null), (6, .ifCond .ne (18), 3, [24], .null), (9, .iload_n 3, 1, [], .null), (10, .invokestatic 168, 3, [56, 1, 2], .null), (13, .ifCond .ne (11), 3, [24], .null), (16, .iload 4, 2, [], .null), (18, .invokestatic 174, 3, [57, 1, 2], .null), (21, .ifCond .eq (5), 3, [26], .null), (24, .iconst (-1), 1, [], .int (-1)), (25, .ireturn, 1, [], .null), (26, .iconst 0, 1, [], .int (0)), (27, .istore 5, 2, [], .null), (29, .iconst 0, 1, [], .int (0)), (30, .istore 6, 2, [], .null), (32, .iload 6, 2, [], .null), (34, .iconst 5, 1, [], .int (5)), (35, .if_icmp .ge (59), 3, [94], .null), (38, .iload_n 3, 1, [], .null), (39, .iload 6, 2, [], .null), (41, .invokestatic 201, 3, [65, 2, 2], .null), (44, .ifCond .eq (22), 3, [66], .null), (47, .aload_n 0, 1, [], .null), (48, .getfield 48, 3, [6, 7, 1], .null), (51, .iload_n 1, 1, [], .null), (52, .iload_n 2, 1, [], .null), (53, .iload 6, 2, [], .null), (55, .invokestatic 152, 3, [64, 1, 1], .null), (58, .iload 4, 2, [], .null), (60, .invokevirtual 228, 3, [236, 5, 1], .null), (63, .goto (4), 3, [67], .null), (66, .iconst 0, 1, [], .int (0)), (67, .istore 7, 2, [], .null), (69, .iload 7, 2, [], .null), (71, .bipush (-9), 2, [], .int (-9)), (73, .if_icmp .ne (6), 3, [79], .null), (76, .bipush (-9), 2, [], .int (-9)), (78, .ireturn, 1, [], .null), (79, .iload 5, 2, [], .null), (81, .iload 7, 2, [], .null), (83, .invokestatic 240, 3, [251, 2, 1], .null), (86, .istore 5, 2, [], .null), (88, .iinc 6 (1), 3, [], .int (1)), (91, .goto (-59), 3, [32], .null), (94, .iload 5, 2, [], .null), (96, .ireturn, 1, [], .null)]
def Bp_parts_32  (x1 : Int32) (x2 : Int32) (x3 : Int32) (x4 : Int32)  : (Int32 × Int32 × Hp) → ((Int32 × Int32 × Hp) → Res Hp) → Res Hp := fun s κ32 => match s with
  | (x5, x6, h) =>
  if (5 : Int32) ≤ x6 then
  (retI x5 h)
  else
  (bI (F_Bp_has x3 x6 h) fun v2 h1 =>
  if v2 = (0 : Int32) then
  (bI (F_Jmath_max x5 (0 : Int32) h1) fun v4 h3 =>
  κ32 (v4, (x6 + (1 : Int32)), h3))
  else
  (bI (F_Bp_bit x6 h1) fun v6 h5 =>
  bI (F_Wa_soonest x1 x2 v6 x4 h5) fun v8 h7 =>
  if v8 = (-9 : Int32) then
  (retI (-9 : Int32) h7)
  else
  (bI (F_Jmath_max x5 v8 h7) fun v10 h9 =>
  κ32 (v10, (x6 + (1 : Int32)), h9))))
def F_Bp_parts (x1 : Int32) (x2 : Int32) (x3 : Int32) (x4 : Int32) (h : Hp) : Res Hp :=
  bI (F_Bp_noPair x1 x2 h) fun v2 h1 =>
  if v2 = (0 : Int32) then
  (bI (F_Bp_noTongues x3 h1) fun v4 h3 =>
  if v4 = (0 : Int32) then
  (bI (F_Bp_noHour x4 h3) fun v6 h5 =>
  if v6 = (0 : Int32) then
  (loopC (Bp_parts_32  x1 x2 x3 x4 ) FU ((0 : Int32), (0 : Int32), h5))
  else
  (retI (-1 : Int32) h5))
  else
  (retI (-1 : Int32) h3))
  else
  (retI (-1 : Int32) h1)
def sF_Bp_parts : List Value → Hp → Res Hp := fun as h => match as with | [.ref f0, .int x1, .int x2, .int x3, .int x4] => (match Nat.beq f0 0 with | true => F_Bp_parts x1 x2 x3 x4 h | false => none) | _ => none
theorem w_Bp_parts (x1 : Int32) (x2 : Int32) (x3 : Int32) (x4 : Int32) (h : Hp) : sF_Bp_parts [.ref 0, .int x1, .int x2, .int x3, .int x4] h = F_Bp_parts x1 x2 x3 x4 h := rfl
def S_Bp_parts : Sem Hp := [(58, sF_Bp_noPair), (56, sF_Bp_noTongues), (57, sF_Bp_noHour), (65, sF_Bp_has), (251, sF_Jmath_max), (64, sF_Bp_bit), (236, sF_Wa_soonest)]
set_option maxRecDepth 100000 in
theorem e_Bp_parts_0 (x1 : Int32) (x2 : Int32) (x3 : Int32) (x4 : Int32) (h : Hp) : F_Bp_parts x1 x2 x3 x4 h = exec1 OI S_Bp_parts 1 k_Bp_parts 0 [some (.ref 0), some (.int x1), some (.int x2), some (.int x3), some (.int x4), none, none, none] [] h (runF OI S_Bp_parts [(32, [0, 1, 2, 3, 4, 5, 6], fun vs st h => match vs, st with | [.ref f0, .int x1, .int x2, .int x3, .int x4, .int x5, .int x6], [] => (match Nat.beq f0 0 with | true => loopC (Bp_parts_32  x1 x2 x3 x4 ) FU (x5, x6, h) | false => none) | _, _ => none)] 1 k_Bp_parts 400) :=
  (x_bI (f := sF_Bp_noPair) rfl (w_Bp_noPair _ _ _) fun v2 h1 => (x_ite (x_bI (f := sF_Bp_noTongues) rfl (w_Bp_noTongues _ _) fun v4 h3 => (x_ite (x_bI (f := sF_Bp_noHour) rfl (w_Bp_noHour _ _) fun v6 h5 => (x_ite rfl rfl)) rfl)) rfl))
set_option maxRecDepth 100000 in
theorem e_Bp_parts_32 (κ32 : (Int32 × Int32 × Hp) → Res Hp) (x1 : Int32) (x2 : Int32) (x3 : Int32) (x4 : Int32) (x5 : Int32) (x6 : Int32)  (h : Hp) : Bp_parts_32  x1 x2 x3 x4  (x5, x6, h) κ32 = exec1 OI S_Bp_parts 1 k_Bp_parts 32 [some (.ref 0), some (.int x1), some (.int x2), some (.int x3), some (.int x4), some (.int x5), some (.int x6), none] [] h (runF OI S_Bp_parts [(32, [0, 1, 2, 3, 4, 5, 6], fun vs st h => match vs, st with | [.ref f0, .int x1, .int x2, .int x3, .int x4, .int x5, .int x6], [] => (match Nat.beq f0 0 with | true => κ32 (x5, x6, h) | false => none) | _, _ => none)] 1 k_Bp_parts 400) :=
  (x_ite rfl (x_bI (f := sF_Bp_has) rfl (w_Bp_has _ _ _) fun v2 h1 => (x_ite (x_bI (f := sF_Jmath_max) rfl (w_Jmath_max _ _ _) fun v4 h3 => rfl) (x_bI (f := sF_Bp_bit) rfl (w_Bp_bit _ _) fun v6 h5 => (x_bI (f := sF_Wa_soonest) rfl (w_Wa_soonest _ _ _ _ _) fun v8 h7 => (x_ite rfl (x_bI (f := sF_Jmath_max) rfl (w_Jmath_max _ _ _) fun v10 h9 => rfl)))))))
def k_Wa_metByAny : List Ent := [(0, .iconst 0, 1, [], .int (0)), (1, .istore_n 2, 1, [], .null), (2, .iconst 0, 1, [], .int (0)), (3, .istore_n 3, 1, [], .null), (4, .iload_n 3, 1, [], .null), (5, .aload_n 0, 1, [], .null), (6, .getfield 28, 3, [5, 0, 1], .null), (9, .getfield 32, 3, [0, 8, 0], .null), (12, .if_icmp .ge (29), 3, [41], .null), (15, .iload_n 1, 1, [], .null), (16, .iload_n 3, 1, [], .null), (17, .invokestatic 54, 3, [65, 2, 2], .null), (20, .ifCond .eq (15), 3, [35], .null), (23, .iload_n 2, 1, [], .null), (24, .aload_n 0, 1, [], .null), (25, .getfield 28, 3, [5, 0, 1], .null), (28, .getfield 48, 3, [0, 6, 1], .null), (31, .iload_n 3, 1, [], .null), (32, .iaload, 1, [], .null), (33, .ior, 1, [], .null), (34, .istore_n 2, 1, [], .null), (35, .iinc 3 (1), 3, [], .int (1)), (38, .goto (-34), 3, [4], .null), (41, .iload_n 2, 1, [], .null), (42, .ireturn, 1, [], .null)]
def Wa_metByAny_4  (x1 : Int32)  : (Int32 × Int32 × Hp) → ((Int32 × Int32 × Hp) → Res Hp) → Res Hp := fun s κ4 => match s with
  | (x2, x3, h) =>
  if (hg h 3 8) ≤ x3 then
  (retI x2 h)
  else
  (bI (F_Bp_has x1 x3 h) fun v2 h1 =>
  if v2 = (0 : Int32) then
  (κ4 (x2, (x3 + (1 : Int32)), h1))
  else
  (bif okA 18 100 x3 then
  κ4 ((x2 ||| (hg h1 18 x3.toNatClampNeg)), (x3 + (1 : Int32)), h1)
  else none))
def F_Wa_metByAny (x1 : Int32) (h : Hp) : Res Hp :=
  loopC (Wa_metByAny_4  x1 ) FU ((0 : Int32), (0 : Int32), h)
def sF_Wa_metByAny : List Value → Hp → Res Hp := fun as h => match as with | [.ref f0, .int x1] => (match Nat.beq f0 64 with | true => F_Wa_metByAny x1 h | false => none) | _ => none
theorem w_Wa_metByAny (x1 : Int32) (h : Hp) : sF_Wa_metByAny [.ref 64, .int x1] h = F_Wa_metByAny x1 h := rfl
def S_Wa_metByAny : Sem Hp := [(65, sF_Bp_has)]
set_option maxRecDepth 100000 in
theorem e_Wa_metByAny_0 (x1 : Int32) (h : Hp) : F_Wa_metByAny x1 h = exec1 OI S_Wa_metByAny 1 k_Wa_metByAny 0 [some (.ref 64), some (.int x1), none, none] [] h (runF OI S_Wa_metByAny [(4, [0, 1, 2, 3], fun vs st h => match vs, st with | [.ref f0, .int x1, .int x2, .int x3], [] => (match Nat.beq f0 64 with | true => loopC (Wa_metByAny_4  x1 ) FU (x2, x3, h) | false => none) | _, _ => none)] 1 k_Wa_metByAny 400) :=
  rfl
set_option maxRecDepth 100000 in
theorem e_Wa_metByAny_4 (κ4 : (Int32 × Int32 × Hp) → Res Hp) (x1 : Int32) (x2 : Int32) (x3 : Int32)  (h : Hp) : Wa_metByAny_4  x1  (x2, x3, h) κ4 = exec1 OI S_Wa_metByAny 1 k_Wa_metByAny 4 [some (.ref 64), some (.int x1), some (.int x2), some (.int x3)] [] h (runF OI S_Wa_metByAny [(4, [0, 1, 2, 3], fun vs st h => match vs, st with | [.ref f0, .int x1, .int x2, .int x3], [] => (match Nat.beq f0 64 with | true => κ4 (x2, x3, h) | false => none) | _, _ => none)] 1 k_Wa_metByAny 400) :=
  (x_ite rfl (x_bI (f := sF_Bp_has) rfl (w_Bp_has _ _ _) fun v2 h1 => (x_ite rfl (x_bif rfl))))
def k_Wa_leadsOver : List Ent := [(0, .iload_n 3, 1, [], .null), (1, .aload_n 0, 1, [], .null), (2, .getfield 28, 3, [5, 0, 1], .null), (5, .iconst 4, 1, [], .int (4)), (6, .invokevirtual 45, 3, [180, 2, 1], .null), (9, .iconst (-1), 1, [], .int (-1)), (10, .ixor, 1, [], .null), (11, .iand, 1, [], .null), (12, .istore 4, 2, [], .null), (14, .aload_n 0, 1, [], .null), (15, .getfield 28, 3, [5, 0, 1], .null), (18, .getfield 48, 3, [0, 6, 1], .null), (21, .iload_n 1, 1, [], .null), (22, .iaload, 1, [], .null), (23, .iload_n 3, 1, [], .null), (24, .iand, 1, [], .null), (25, .istore 5, 2, [], .null), (27, .iconst 0, 1, [], .int (0)), (28, .istore 6, 2, [], .null), (30, .iload 6, 2, [], .null), (32, .bipush (7), 2, [], .int (7)), (34, .if_icmp .ge (23), 3, [57], .null), (37, .iload 5, 2, [], .null), (39, .aload_n 0, 1, [], .null), (40, .iload 5, 2, [], .null), (42, .invokevirtual 51, 3, [235, 2, 1], .null), (45, .iload 4, 2, [], .null), (47, .iand, 1, [], .null), (48, .ior, 1, [], .null), (49, .istore 5, 2, [], .null), (51, .iinc 6 (1), 3, [], .int (1)), (54, .goto (-24), 3, [30], .null), (57, .iload 5, 2, [], .null), (59, .aload_n 0, 1, [], .null), (60, .getfield 28, 3, [5, 0, 1], .null), (63, .getfield 48, 3, [0, 6, 1], .null), (66, .iload_n 2, 1, [], .null), (67, .iaload, 1, [], .null), (68, .iand, 1, [], .null), (69, .ifCond .eq (7), 3, [76], .null), (72, .iconst 1, 1, [], .int (1)), (73, .goto (4), 3, [77], .null), (76, .iconst 0, 1, [], .int (0)), (77, .ireturn, 1, [], .null)]
def Wa_leadsOver_30  (x2 : Int32) (x4 : Int32)  : (Int32 × Int32 × Hp) → ((Int32 × Int32 × Hp) → Res Hp) → Res Hp := fun s κ30 => match s with
  | (x5, x6, h) =>
  if (7 : Int32) ≤ x6 then
  (bif okA 18 100 x2 then
  if (x5 &&& (hg h 18 x2.toNatClampNeg)) = (0 : Int32) then
  (retZ (0 : Int32) h)
  else
  (retZ (1 : Int32) h)
  else none)
  else
  (bI (F_Wa_metByAny x5 h) fun v2 h1 =>
  κ30 ((x5 ||| (v2 &&& x4)), (x6 + (1 : Int32)), h1))
def F_Wa_leadsOver (x1 : Int32) (x2 : Int32) (x3 : Int32) (h : Hp) : Res Hp :=
  bI (F_La_ofKind 3 (4 : Int32) h) fun v2 h1 =>
  bif okA 18 100 x1 then
  loopC (Wa_leadsOver_30  x2 (x3 &&& (v2 ^^^ (-1 : Int32))) ) FU (((hg h1 18 x1.toNatClampNeg) &&& x3), (0 : Int32), h1)
  else none
def sF_Wa_leadsOver : List Value → Hp → Res Hp := fun as h => match as with | [.ref f0, .int x1, .int x2, .int x3] => (match Nat.beq f0 64 with | true => F_Wa_leadsOver x1 x2 x3 h | false => none) | _ => none
theorem w_Wa_leadsOver (x1 : Int32) (x2 : Int32) (x3 : Int32) (h : Hp) : sF_Wa_leadsOver [.ref 64, .int x1, .int x2, .int x3] h = F_Wa_leadsOver x1 x2 x3 h := rfl
def S_Wa_leadsOver : Sem Hp := [(180, sF_La_ofKind), (235, sF_Wa_metByAny)]
set_option maxRecDepth 100000 in
theorem e_Wa_leadsOver_0 (x1 : Int32) (x2 : Int32) (x3 : Int32) (h : Hp) : F_Wa_leadsOver x1 x2 x3 h = exec1 OI S_Wa_leadsOver 2 k_Wa_leadsOver 0 [some (.ref 64), some (.int x1), some (.int x2), some (.int x3), none, none, none] [] h (runF OI S_Wa_leadsOver [(30, [0, 2, 4, 5, 6], fun vs st h => match vs, st with | [.ref f0, .int x2, .int x4, .int x5, .int x6], [] => (match Nat.beq f0 64 with | true => loopC (Wa_leadsOver_30  x2 x4 ) FU (x5, x6, h) | false => none) | _, _ => none)] 2 k_Wa_leadsOver 400) :=
  (x_bI (f := sF_La_ofKind) rfl (w_La_ofKind _ _ _) fun v2 h1 => (x_bif rfl))
set_option maxRecDepth 100000 in
theorem e_Wa_leadsOver_30 (κ30 : (Int32 × Int32 × Hp) → Res Hp) (x2 : Int32) (x4 : Int32) (x5 : Int32) (x6 : Int32)  (h : Hp) : Wa_leadsOver_30  x2 x4  (x5, x6, h) κ30 = exec1 OI S_Wa_leadsOver 2 k_Wa_leadsOver 30 [some (.ref 64), none, some (.int x2), none, some (.int x4), some (.int x5), some (.int x6)] [] h (runF OI S_Wa_leadsOver [(30, [0, 2, 4, 5, 6], fun vs st h => match vs, st with | [.ref f0, .int x2, .int x4, .int x5, .int x6], [] => (match Nat.beq f0 64 with | true => κ30 (x5, x6, h) | false => none) | _, _ => none)] 2 k_Wa_leadsOver 400) :=
  (x_ite (x_bif (x_ite rfl rfl)) (x_bI (f := sF_Wa_metByAny) rfl (w_Wa_metByAny _ _) fun v2 h1 => rfl))
end
end
section
noncomputable section
def k_Wa_mostApart : List Ent := [(0, .aload_n 0, 1, [], .null), (1, .iload_n 3, 1, [], .null), (2, .invokevirtual 58, 3, [233, 2, 1], .null), (5, .iload_n 1, 1, [], .null), (6, .invokestatic 41, 3, [64, 1, 1], .null), (9, .iconst (-1), 1, [], .int (-1)), (10, .ixor, 1, [], .null), (11, .iand, 1, [], .null), (12, .iload_n 2, 1, [], .null), (13, .invokestatic 41, 3, [64, 1, 1], .null), (16, .iconst (-1), 1, [], .int (-1)), (17, .ixor, 1, [], .null), (18, .iand, 1, [], .null), (19, .istore 4, 2, [], .null), (21, .bipush (7), 2, [], .int (7)), (23, .istore 5, 2, [], .null), (25, .iconst 0, 1, [], .int (0)), (26, .istore 6, 2, [], .null), (28, .iload 6, 2, [], .null), (30, .bipush (7), 2, [], .int (7)), (32, .invokestatic 41, 3, [64, 1, 1], .null), (35, .if_icmp .ge (64), 3, [99], .null), (38, .iload 6, 2, [], .null), (40, .iload 4, 2, [], .null), (42, .iconst (-1), 1, [], .int (-1)), (43, .ixor, 1, [], .null), (44, .iand, 1, [], .null), (45, .ifCond .ne (7), 3, [52], .null), (48, .iconst 1, 1, [], .int (1)), (49, .goto (4), 3, [53], .null), (52, .iconst 0, 1, [], .int (0)), (53, .istore 7, 2, [], .null), (55, .iload 7, 2, [], .null), (57, .ifCond .eq (36), 3, [93], .null), (60, .iload 6, 2, [], .null), (62, .invokestatic 65, 3, [250, 1, 1], .null), (65, .iload 5, 2, [], .null), (67, .if_icmp .ge (26), 3, [93], .null), (70, .aload_n 0, 1, [], .null), (71, .iload_n 1, 1, [], .null), (72, .iload_n 2, 1, [], .null), (73, .iload 4, 2, [], .null), (75, .iload 6, 2, [], .null), (77, .iconst (-1), 1, [], .int (-1)), (78, .ixor, 1, [], .null), (79, .iand, 1, [], .null), (80, .invokevirtual 70, 3, [238, 4, 2], .null), (83, .ifCond .ne (10), 3, [93], .null), (86, .iload 6, 2, [], .null), (88, .invokestatic 65, 3, [250, 1, 1], .null), (91, .istore 5, 2, [], .null), (93, .iinc 6 (1), 3, [], .int (1)), (96, .goto (-68), 3, [28], .null), (99, .iload 5, 2, [], .null), (101, .aload_n 0, 1, [], .null), (102, .getfield 28, 3, [5, 0, 1], .null), (105, .getfield 48, 3, [0, 6, 1], .null), (108, .iload_n 1, 1, [], .null), (109, .iaload, 1, [], .null), (110, .iload_n 2, 1, [], .null), (111, .invokestatic 54, 3, [65, 2, 2], .null), (114, .ifCond .eq (7), 3, [121], .null), (117, .iconst 1, 1, [], .int (1)), (118, .goto (4), 3, [122], .null), (121, .iconst 0, 1, [], .int (0)), (122, .iadd, 1, [], .null), (123, .ireturn, 1, [], .null)]
def Wa_mostApart_28  (x1 : Int32) (x2 : Int32) (x4 : Int32)  : (Int32 × Int32 × Hp) → ((Int32 × Int32 × Hp) → Res Hp) → Res Hp := fun s κ28 => match s with
  | (x5, x6, h) =>
  bI (F_Bp_bit (7 : Int32) h) fun v2 h1 =>
  if v2 ≤ x6 then
  (bif okA 18 100 x1 then
  bI (F_Bp_has (hg h1 18 x1.toNatClampNeg) x2 h1) fun v4 h3 =>
  if v4 = (0 : Int32) then
  (retI (x5 + (0 : Int32)) h3)
  else
  (retI (x5 + (1 : Int32)) h3)
  else none)
  else
  (if (x6 &&& (x4 ^^^ (-1 : Int32))) = (0 : Int32) then
  (bI (F_Jint_bitCount x6 h1) fun v6 h5 =>
  if x5 ≤ v6 then
  (κ28 (x5, (x6 + (1 : Int32)), h5))
  else
  (bI (F_Wa_leadsOver x1 x2 (x4 &&& (x6 ^^^ (-1 : Int32))) h5) fun v8 h7 =>
  if v8 = (0 : Int32) then
  (bI (F_Jint_bitCount x6 h7) fun v10 h9 =>
  κ28 (v10, (x6 + (1 : Int32)), h9))
  else
  (κ28 (x5, (x6 + (1 : Int32)), h7))))
  else
  (κ28 (x5, (x6 + (1 : Int32)), h1)))
def F_Wa_mostApart (x1 : Int32) (x2 : Int32) (x3 : Int32) (h : Hp) : Res Hp :=
  bI (F_Wa_carriers x3 h) fun v2 h1 =>
  bI (F_Bp_bit x1 h1) fun v4 h3 =>
  bI (F_Bp_bit x2 h3) fun v6 h5 =>
  loopC (Wa_mostApart_28  x1 x2 ((v2 &&& (v4 ^^^ (-1 : Int32))) &&& (v6 ^^^ (-1 : Int32))) ) FU ((7 : Int32), (0 : Int32), h5)
def sF_Wa_mostApart : List Value → Hp → Res Hp := fun as h => match as with | [.ref f0, .int x1, .int x2, .int x3] => (match Nat.beq f0 64 with | true => F_Wa_mostApart x1 x2 x3 h | false => none) | _ => none
theorem w_Wa_mostApart (x1 : Int32) (x2 : Int32) (x3 : Int32) (h : Hp) : sF_Wa_mostApart [.ref 64, .int x1, .int x2, .int x3] h = F_Wa_mostApart x1 x2 x3 h := rfl
def S_Wa_mostApart : Sem Hp := [(233, sF_Wa_carriers), (64, sF_Bp_bit), (65, sF_Bp_has), (250, sF_Jint_bitCount), (238, sF_Wa_leadsOver)]
set_option maxRecDepth 100000 in
theorem e_Wa_mostApart_0 (x1 : Int32) (x2 : Int32) (x3 : Int32) (h : Hp) : F_Wa_mostApart x1 x2 x3 h = exec1 OI S_Wa_mostApart 1 k_Wa_mostApart 0 [some (.ref 64), some (.int x1), some (.int x2), some (.int x3), none, none, none, none] [] h (runF OI S_Wa_mostApart [(28, [0, 1, 2, 4, 5, 6], fun vs st h => match vs, st with | [.ref f0, .int x1, .int x2, .int x4, .int x5, .int x6], [] => (match Nat.beq f0 64 with | true => loopC (Wa_mostApart_28  x1 x2 x4 ) FU (x5, x6, h) | false => none) | _, _ => none)] 1 k_Wa_mostApart 400) :=
  (x_bI (f := sF_Wa_carriers) rfl (w_Wa_carriers _ _) fun v2 h1 => (x_bI (f := sF_Bp_bit) rfl (w_Bp_bit _ _) fun v4 h3 => (x_bI (f := sF_Bp_bit) rfl (w_Bp_bit _ _) fun v6 h5 => rfl)))
set_option maxRecDepth 100000 in
theorem e_Wa_mostApart_28 (κ28 : (Int32 × Int32 × Hp) → Res Hp) (x1 : Int32) (x2 : Int32) (x4 : Int32) (x5 : Int32) (x6 : Int32)  (h : Hp) : Wa_mostApart_28  x1 x2 x4  (x5, x6, h) κ28 = exec1 OI S_Wa_mostApart 1 k_Wa_mostApart 28 [some (.ref 64), some (.int x1), some (.int x2), none, some (.int x4), some (.int x5), some (.int x6), none] [] h (runF OI S_Wa_mostApart [(28, [0, 1, 2, 4, 5, 6], fun vs st h => match vs, st with | [.ref f0, .int x1, .int x2, .int x4, .int x5, .int x6], [] => (match Nat.beq f0 64 with | true => κ28 (x5, x6, h) | false => none) | _, _ => none)] 1 k_Wa_mostApart 400) :=
  (x_bI (f := sF_Bp_bit) rfl (w_Bp_bit _ _) fun v2 h1 => (x_ite (x_bif (x_bI (f := sF_Bp_has) rfl (w_Bp_has _ _ _) fun v4 h3 => (x_ite rfl rfl))) (x_ite (x_bI (f := sF_Jint_bitCount) rfl (w_Jint_bitCount _ _) fun v6 h5 => (x_ite rfl (x_bI (f := sF_Wa_leadsOver) rfl (w_Wa_leadsOver _ _ _ _) fun v8 h7 => (x_ite (x_bI (f := sF_Jint_bitCount) rfl (w_Jint_bitCount _ _) fun v10 h9 => rfl) rfl)))) rfl)))
def k_Bp_apart : List Ent := [(0, .aload_n 0, 1, [], .null), (1, .iload_n 1, 1, [], .null), (2, .iload_n 2, 1, [], .null), (3, .invokevirtual 155, 3, [58, 3, 2], .null), (6, .ifCond .ne (10), 3, [16], .null), (9, .iload_n 3, 1, [], .null), (10, .invokestatic 168, 3, [56, 1, 2], .null), (13, .ifCond .eq (5), 3, [18], .null), (16, .iconst (-1), 1, [], .int (-1)), (17, .ireturn, 1, [], .null), (18, .aload_n 0, 1, [], .null), (19, .getfield 48, 3, [6, 7, 1], .null), (22, .iload_n 1, 1, [], .null), (23, .iload_n 2, 1, [], .null), (24, .iload_n 3, 1, [], .null), (25, .invokevirtual 245, 3, [237, 4, 1], .null), (28, .ireturn, 1, [], .null)]
def F_Bp_apart (x1 : Int32) (x2 : Int32) (x3 : Int32) (h : Hp) : Res Hp :=
  bI (F_Bp_noPair x1 x2 h) fun v2 h1 =>
  if v2 = (0 : Int32) then
  (bI (F_Bp_noTongues x3 h1) fun v4 h3 =>
  if v4 = (0 : Int32) then
  (bI (F_Wa_mostApart x1 x2 x3 h3) fun v6 h5 =>
  retI v6 h5)
  else
  (retI (-1 : Int32) h3))
  else
  (retI (-1 : Int32) h1)
def sF_Bp_apart : List Value → Hp → Res Hp := fun as h => match as with | [.ref f0, .int x1, .int x2, .int x3] => (match Nat.beq f0 0 with | true => F_Bp_apart x1 x2 x3 h | false => none) | _ => none
theorem w_Bp_apart (x1 : Int32) (x2 : Int32) (x3 : Int32) (h : Hp) : sF_Bp_apart [.ref 0, .int x1, .int x2, .int x3] h = F_Bp_apart x1 x2 x3 h := rfl
def S_Bp_apart : Sem Hp := [(58, sF_Bp_noPair), (56, sF_Bp_noTongues), (237, sF_Wa_mostApart)]
set_option maxRecDepth 100000 in
theorem e_Bp_apart_0 (x1 : Int32) (x2 : Int32) (x3 : Int32) (h : Hp) : F_Bp_apart x1 x2 x3 h = exec1 OI S_Bp_apart 1 k_Bp_apart 0 [some (.ref 0), some (.int x1), some (.int x2), some (.int x3)] [] h (runF OI S_Bp_apart [] 1 k_Bp_apart 400) :=
  (x_bI (f := sF_Bp_noPair) rfl (w_Bp_noPair _ _ _) fun v2 h1 => (x_ite (x_bI (f := sF_Bp_noTongues) rfl (w_Bp_noTongues _ _) fun v4 h3 => (x_ite (x_bI (f := sF_Wa_mostApart) rfl (w_Wa_mostApart _ _ _ _) fun v6 h5 => rfl) rfl)) rfl))
def k_Wa_endsFrom : List Ent := [(0, .iload_n 2, 1, [], .null), (1, .iload_n 1, 1, [], .null), (2, .invokestatic 41, 3, [64, 1, 1], .null), (5, .iconst (-1), 1, [], .int (-1)), (6, .ixor, 1, [], .null), (7, .iand, 1, [], .null), (8, .istore_n 3, 1, [], .null), (9, .iload_n 3, 1, [], .null), (10, .aload_n 0, 1, [], .null), (11, .getfield 28, 3, [5, 0, 1], .null), (14, .iconst 4, 1, [], .int (4)), (15, .invokevirtual 45, 3, [180, 2, 1], .null), (18, .iconst (-1), 1, [], .int (-1)), (19, .ixor, 1, [], .null), (20, .iand, 1, [], .null), (21, .istore 4, 2, [], .null), (23, .aload_n 0, 1, [], .null), (24, .getfield 28, 3, [5, 0, 1], .null), (27, .getfield 48, 3, [0, 6, 1], .null), (30, .iload_n 1, 1, [], .null), (31, .iaload, 1, [], .null), (32, .istore 5, 2, [], .null), (34, .iload 5, 2, [], .null), (36, .iload_n 3, 1, [], .null), (37, .iand, 1, [], .null), (38, .istore 6, 2, [], .null), (40, .iload 6, 2, [], .null), (42, .istore 7, 2, [], .null), (44, .iconst 0, 1, [], .int (0)), (45, .istore 8, 2, [], .null), (47, .iload 8, 2, [], .null), (49, .bipush (7), 2, [], .int (7)), (51, .if_icmp .ge (48), 3, [99], .null), (54, .iload 6, 2, [], .null), (56, .ifCond .eq (43), 3, [99], .null), (59, .aload_n 0, 1, [], .null), (60, .iload 6, 2, [], .null), (62, .invokevirtual 51, 3, [235, 2, 1], .null), (65, .istore 9, 2, [], .null), (67, .iload 5, 2, [], .null), (69, .iload 9, 2, [], .null), (71, .ior, 1, [], .null), (72, .istore 5, 2, [], .null), (74, .iload 9, 2, [], .null), (76, .iload 4, 2, [], .null), (78, .iand, 1, [], .null), (79, .iload 7, 2, [], .null), (81, .iconst (-1), 1, [], .int (-1)), (82, .ixor, 1, [], .null), (83, .iand, 1, [], .null), (84, .istore 6, 2, [], .null), (86, .iload 7, 2, [], .null), (88, .iload 6, 2, [], .null), (90, .ior, 1, [], .null), (91, .istore 7, 2, [], .null), (93, .iinc 8 (1), 3, [], .int (1)), (96, .goto (-49), 3, [47], .null), (99, .iload 5, 2, [], .null), (101, .iload_n 1, 1, [], .null), (102, .invokestatic 41, 3, [64, 1, 1], .null), (105, .iconst (-1), 1, [], .int (-1)), (106, .ixor, 1, [], .null), (107, .iand, 1, [], .null), (108, .ireturn, 1, [], .null)]
def Wa_endsFrom_47  (x1 : Int32) (x4 : Int32)  : (Int32 × Int32 × Int32 × Int32 × Hp) → ((Int32 × Int32 × Int32 × Int32 × Hp) → Res Hp) → Res Hp := fun s κ47 => match s with
  | (x5, x6, x7, x8, h) =>
  if (7 : Int32) ≤ x8 then
  (bI (F_Bp_bit x1 h) fun v2 h1 =>
  retI (x5 &&& (v2 ^^^ (-1 : Int32))) h1)
  else
  (if x6 = (0 : Int32) then
  (bI (F_Bp_bit x1 h) fun v4 h3 =>
  retI (x5 &&& (v4 ^^^ (-1 : Int32))) h3)
  else
  (bI (F_Wa_metByAny x6 h) fun v6 h5 =>
  κ47 ((x5 ||| v6), ((v6 &&& x4) &&& (x7 ^^^ (-1 : Int32))), (x7 ||| ((v6 &&& x4) &&& (x7 ^^^ (-1 : Int32)))), (x8 + (1 : Int32)), h5)))
def F_Wa_endsFrom (x1 : Int32) (x2 : Int32) (h : Hp) : Res Hp :=
  bI (F_Bp_bit x1 h) fun v2 h1 =>
  bI (F_La_ofKind 3 (4 : Int32) h1) fun v4 h3 =>
  bif okA 18 100 x1 then
  loopC (Wa_endsFrom_47  x1 ((x2 &&& (v2 ^^^ (-1 : Int32))) &&& (v4 ^^^ (-1 : Int32))) ) FU ((hg h3 18 x1.toNatClampNeg), ((hg h3 18 x1.toNatClampNeg) &&& (x2 &&& (v2 ^^^ (-1 : Int32)))), ((hg h3 18 x1.toNatClampNeg) &&& (x2 &&& (v2 ^^^ (-1 : Int32)))), (0 : Int32), h3)
  else none
def sF_Wa_endsFrom : List Value → Hp → Res Hp := fun as h => match as with | [.ref f0, .int x1, .int x2] => (match Nat.beq f0 64 with | true => F_Wa_endsFrom x1 x2 h | false => none) | _ => none
theorem w_Wa_endsFrom (x1 : Int32) (x2 : Int32) (h : Hp) : sF_Wa_endsFrom [.ref 64, .int x1, .int x2] h = F_Wa_endsFrom x1 x2 h := rfl
def S_Wa_endsFrom : Sem Hp := [(64, sF_Bp_bit), (180, sF_La_ofKind), (235, sF_Wa_metByAny)]
set_option maxRecDepth 100000 in
theorem e_Wa_endsFrom_0 (x1 : Int32) (x2 : Int32) (h : Hp) : F_Wa_endsFrom x1 x2 h = exec1 OI S_Wa_endsFrom 1 k_Wa_endsFrom 0 [some (.ref 64), some (.int x1), some (.int x2), none, none, none, none, none, none, none] [] h (runF OI S_Wa_endsFrom [(47, [0, 1, 4, 5, 6, 7, 8], fun vs st h => match vs, st with | [.ref f0, .int x1, .int x4, .int x5, .int x6, .int x7, .int x8], [] => (match Nat.beq f0 64 with | true => loopC (Wa_endsFrom_47  x1 x4 ) FU (x5, x6, x7, x8, h) | false => none) | _, _ => none)] 1 k_Wa_endsFrom 400) :=
  (x_bI (f := sF_Bp_bit) rfl (w_Bp_bit _ _) fun v2 h1 => (x_bI (f := sF_La_ofKind) rfl (w_La_ofKind _ _ _) fun v4 h3 => (x_bif rfl)))
set_option maxRecDepth 100000 in
theorem e_Wa_endsFrom_47 (κ47 : (Int32 × Int32 × Int32 × Int32 × Hp) → Res Hp) (x1 : Int32) (x4 : Int32) (x5 : Int32) (x6 : Int32) (x7 : Int32) (x8 : Int32)  (h : Hp) : Wa_endsFrom_47  x1 x4  (x5, x6, x7, x8, h) κ47 = exec1 OI S_Wa_endsFrom 1 k_Wa_endsFrom 47 [some (.ref 64), some (.int x1), none, none, some (.int x4), some (.int x5), some (.int x6), some (.int x7), some (.int x8), none] [] h (runF OI S_Wa_endsFrom [(47, [0, 1, 4, 5, 6, 7, 8], fun vs st h => match vs, st with | [.ref f0, .int x1, .int x4, .int x5, .int x6, .int x7, .int x8], [] => (match Nat.beq f0 64 with | true => κ47 (x5, x6, x7, x8, h) | false => none) | _, _ => none)] 1 k_Wa_endsFrom 400) :=
  (x_ite (x_bI (f := sF_Bp_bit) rfl (w_Bp_bit _ _) fun v2 h1 => rfl) (x_ite (x_bI (f := sF_Bp_bit) rfl (w_Bp_bit _ _) fun v4 h3 => rfl) (x_bI (f := sF_Wa_metByAny) rfl (w_Wa_metByAny _ _) fun v6 h5 => rfl)))
def k_Bp_needs : List Ent := [(0, .aload_n 0, 1, [], .null), (1, .iload_n 1, 1, [], .null), (2, .iload_n 2, 1, [], .null), (3, .invokevirtual 155, 3, [58, 3, 2], .null), (6, .ifCond .ne (10), 3, [16], .null), (9, .iload_n 3, 1, [], .null), (10, .invokestatic 168, 3, [56, 1, 2], .null), (13, .ifCond .eq (5), 3, [18], .null), (16, .iconst (-1), 1, [], .int (-1)), (17, .ireturn, 1, [], .null), (18, .aload_n 0, 1, [], .null), (19, .getfield 48, 3, [6, 7, 1], .null), (22, .iload_n 3, 1, [], .null), (23, .invokevirtual 249, 3, [233, 2, 1], .null), (26, .istore 4, 2, [], .null), (28, .aload_n 0, 1, [], .null), (29, .getfield 48, 3, [6, 7, 1], .null), (32, .iload_n 1, 1, [], .null), (33, .iload 4, 2, [], .null), (35, .invokevirtual 252, 3, [234, 3, 1], .null), (38, .iload_n 2, 1, [], .null), (39, .invokestatic 201, 3, [65, 2, 2], .null), (42, .ifCond .ne (5), 3, [47], .null), (45, .iconst 0, 1, [], .int (0)), (46, .ireturn, 1, [], .null), (47, .iconst 0, 1, [], .int (0)), (48, .istore 5, 2, [], .null), (50, .iconst 0, 1, [], .int (0)), (51, .istore 6, 2, [], .null), (53, .iload 6, 2, [], .null), (55, .aload_n 0, 1, [], .null), (56, .getfield 21, 3, [6, 2, 1], .null), (59, .getfield 127, 3, [0, 8, 0], .null), (62, .if_icmp .ge (56), 3, [118], .null), (65, .iload 6, 2, [], .null), (67, .iload_n 1, 1, [], .null), (68, .if_icmp .eq (44), 3, [112], .null), (71, .iload 6, 2, [], .null), (73, .iload_n 2, 1, [], .null), (74, .if_icmp .eq (38), 3, [112], .null), (77, .aload_n 0, 1, [], .null), (78, .getfield 48, 3, [6, 7, 1], .null), (81, .iload_n 1, 1, [], .null), (82, .iload 4, 2, [], .null), (84, .iload 6, 2, [], .null), (86, .invokestatic 152, 3, [64, 1, 1], .null), (89, .iconst (-1), 1, [], .int (-1)), (90, .ixor, 1, [], .null), (91, .iand, 1, [], .null), (92, .invokevirtual 252, 3, [234, 3, 1], .null), (95, .iload_n 2, 1, [], .null), (96, .invokestatic 201, 3, [65, 2, 2], .null), (99, .ifCond .ne (13), 3, [112], .null), (102, .iload 5, 2, [], .null), (104, .iload 6, 2, [], .null), (106, .invokestatic 152, 3, [64, 1, 1], .null), (109, .ior, 1, [], .null), (110, .istore 5, 2, [], .null), (112, .iinc 6 (1), 3, [], .int (1)), (115, .goto (-62), 3, [53], .null), (118, .iload 5, 2, [], .null), (120, .ireturn, 1, [], .null)]
def Bp_needs_53  (x1 : Int32) (x2 : Int32) (x4 : Int32)  : (Int32 × Int32 × Hp) → ((Int32 × Int32 × Hp) → Res Hp) → Res Hp := fun s κ53 => match s with
  | (x5, x6, h) =>
  if (hg h 3 8) ≤ x6 then
  (retI x5 h)
  else
  (if x6 = x1 then
  (κ53 (x5, (x6 + (1 : Int32)), h))
  else
  (if x6 = x2 then
  (κ53 (x5, (x6 + (1 : Int32)), h))
  else
  (bI (F_Bp_bit x6 h) fun v2 h1 =>
  bI (F_Wa_endsFrom x1 (x4 &&& (v2 ^^^ (-1 : Int32))) h1) fun v4 h3 =>
  bI (F_Bp_has v4 x2 h3) fun v6 h5 =>
  if v6 = (0 : Int32) then
  (bI (F_Bp_bit x6 h5) fun v8 h7 =>
  κ53 ((x5 ||| v8), (x6 + (1 : Int32)), h7))
  else
  (κ53 (x5, (x6 + (1 : Int32)), h5)))))
def F_Bp_needs (x1 : Int32) (x2 : Int32) (x3 : Int32) (h : Hp) : Res Hp :=
  bI (F_Bp_noPair x1 x2 h) fun v2 h1 =>
  if v2 = (0 : Int32) then
  (bI (F_Bp_noTongues x3 h1) fun v4 h3 =>
  if v4 = (0 : Int32) then
  (bI (F_Wa_carriers x3 h3) fun v6 h5 =>
  bI (F_Wa_endsFrom x1 v6 h5) fun v8 h7 =>
  bI (F_Bp_has v8 x2 h7) fun v10 h9 =>
  if v10 = (0 : Int32) then
  (retI (0 : Int32) h9)
  else
  (loopC (Bp_needs_53  x1 x2 v6 ) FU ((0 : Int32), (0 : Int32), h9)))
  else
  (retI (-1 : Int32) h3))
  else
  (retI (-1 : Int32) h1)
def sF_Bp_needs : List Value → Hp → Res Hp := fun as h => match as with | [.ref f0, .int x1, .int x2, .int x3] => (match Nat.beq f0 0 with | true => F_Bp_needs x1 x2 x3 h | false => none) | _ => none
theorem w_Bp_needs (x1 : Int32) (x2 : Int32) (x3 : Int32) (h : Hp) : sF_Bp_needs [.ref 0, .int x1, .int x2, .int x3] h = F_Bp_needs x1 x2 x3 h := rfl
def S_Bp_needs : Sem Hp := [(58, sF_Bp_noPair), (56, sF_Bp_noTongues), (233, sF_Wa_carriers), (234, sF_Wa_endsFrom), (65, sF_Bp_has), (64, sF_Bp_bit)]
set_option maxRecDepth 100000 in
theorem e_Bp_needs_0 (x1 : Int32) (x2 : Int32) (x3 : Int32) (h : Hp) : F_Bp_needs x1 x2 x3 h = exec1 OI S_Bp_needs 1 k_Bp_needs 0 [some (.ref 0), some (.int x1), some (.int x2), some (.int x3), none, none, none] [] h (runF OI S_Bp_needs [(53, [0, 1, 2, 4, 5, 6], fun vs st h => match vs, st with | [.ref f0, .int x1, .int x2, .int x4, .int x5, .int x6], [] => (match Nat.beq f0 0 with | true => loopC (Bp_needs_53  x1 x2 x4 ) FU (x5, x6, h) | false => none) | _, _ => none)] 1 k_Bp_needs 400) :=
  (x_bI (f := sF_Bp_noPair) rfl (w_Bp_noPair _ _ _) fun v2 h1 => (x_ite (x_bI (f := sF_Bp_noTongues) rfl (w_Bp_noTongues _ _) fun v4 h3 => (x_ite (x_bI (f := sF_Wa_carriers) rfl (w_Wa_carriers _ _) fun v6 h5 => (x_bI (f := sF_Wa_endsFrom) rfl (w_Wa_endsFrom _ _ _) fun v8 h7 => (x_bI (f := sF_Bp_has) rfl (w_Bp_has _ _ _) fun v10 h9 => (x_ite rfl rfl)))) rfl)) rfl))
set_option maxRecDepth 100000 in
theorem e_Bp_needs_53 (κ53 : (Int32 × Int32 × Hp) → Res Hp) (x1 : Int32) (x2 : Int32) (x4 : Int32) (x5 : Int32) (x6 : Int32)  (h : Hp) : Bp_needs_53  x1 x2 x4  (x5, x6, h) κ53 = exec1 OI S_Bp_needs 1 k_Bp_needs 53 [some (.ref 0), some (.int x1), some (.int x2), none, some (.int x4), some (.int x5), some (.int x6)] [] h (runF OI S_Bp_needs [(53, [0, 1, 2, 4, 5, 6], fun vs st h => match vs, st with | [.ref f0, .int x1, .int x2, .int x4, .int x5, .int x6], [] => (match Nat.beq f0 0 with | true => κ53 (x5, x6, h) | false => none) | _, _ => none)] 1 k_Bp_needs 400) :=
  (x_ite rfl (x_ite rfl (x_ite rfl (x_bI (f := sF_Bp_bit) rfl (w_Bp_bit _ _) fun v2 h1 => (x_bI (f := sF_Wa_endsFrom) rfl (w_Wa_endsFrom _ _ _) fun v4 h3 => (x_bI (f := sF_Bp_has) rfl (w_Bp_has _ _ _) fun v6 h5 => (x_ite (x_bI (f := sF_Bp_bit) rfl (w_Bp_bit _ _) fun v8 h7 => rfl) rfl)))))))
def k_Wa_priceByForgetting : List Ent := [(0, .iconst 0, 1, [], .int (0)), (1, .istore_n 2, 1, [], .null), (2, .iload_n 2, 1, [], .null), (3, .aload_n 0, 1, [], .null), (4, .getfield 28, 3, [5, 0, 1], .null), (7, .getfield 32, 3, [0, 8, 0], .null), (10, .if_icmp .ge (27), 3, [37], .null), (13, .aload_n 0, 1, [], .null), (14, .getfield 9, 3, [5, 1, 1], .null), (17, .iload_n 2, 1, [], .null), (18, .aload_n 0, 1, [], .null), (19, .getfield 28, 3, [5, 0, 1], .null), (22, .iload_n 2, 1, [], .null), (23, .iload_n 1, 1, [], .null), (24, .invokevirtual 37, 3, [182, 3, 1], .null), (27, .invokestatic 65, 3, [250, 1, 1], .null), (30, .iastore, 1, [], .null), (31, .iinc 2 (1), 3, [], .int (1)), (34, .goto (-32), 3, [2], .null), (37, .return_, 1, [], .null)]
def Wa_priceByForgetting_2  (x1 : Int32)  : (Int32 × Hp) → ((Int32 × Hp) → Res Hp) → Res Hp := fun s κ2 => match s with
  | (x2, h) =>
  if (hg h 3 8) ≤ x2 then
  (retV h)
  else
  (bI (F_La_bars 3 x2 x1 h) fun v2 h1 =>
  bI (F_Jint_bitCount v2 h1) fun v4 h3 =>
  bif okA 65 100 x2 then
  bH (hs h3 65 x2.toNatClampNeg v4) fun h5 =>
  κ2 ((x2 + (1 : Int32)), h5)
  else none)
def F_Wa_priceByForgetting (x1 : Int32) (h : Hp) : Res Hp :=
  loopC (Wa_priceByForgetting_2  x1 ) FU ((0 : Int32), h)
def sF_Wa_priceByForgetting : List Value → Hp → Res Hp := fun as h => match as with | [.ref f0, .int x1] => (match Nat.beq f0 64 with | true => F_Wa_priceByForgetting x1 h | false => none) | _ => none
theorem w_Wa_priceByForgetting (x1 : Int32) (h : Hp) : sF_Wa_priceByForgetting [.ref 64, .int x1] h = F_Wa_priceByForgetting x1 h := rfl
def S_Wa_priceByForgetting : Sem Hp := [(182, sF_La_bars), (250, sF_Jint_bitCount)]
set_option maxRecDepth 100000 in
theorem e_Wa_priceByForgetting_0 (x1 : Int32) (h : Hp) : F_Wa_priceByForgetting x1 h = exec1 OI S_Wa_priceByForgetting 0 k_Wa_priceByForgetting 0 [some (.ref 64), some (.int x1), none] [] h (runF OI S_Wa_priceByForgetting [(2, [0, 1, 2], fun vs st h => match vs, st with | [.ref f0, .int x1, .int x2], [] => (match Nat.beq f0 64 with | true => loopC (Wa_priceByForgetting_2  x1 ) FU (x2, h) | false => none) | _, _ => none)] 0 k_Wa_priceByForgetting 400) :=
  rfl
set_option maxRecDepth 100000 in
theorem e_Wa_priceByForgetting_2 (κ2 : (Int32 × Hp) → Res Hp) (x1 : Int32) (x2 : Int32)  (h : Hp) : Wa_priceByForgetting_2  x1  (x2, h) κ2 = exec1 OI S_Wa_priceByForgetting 0 k_Wa_priceByForgetting 2 [some (.ref 64), some (.int x1), some (.int x2)] [] h (runF OI S_Wa_priceByForgetting [(2, [0, 1, 2], fun vs st h => match vs, st with | [.ref f0, .int x1, .int x2], [] => (match Nat.beq f0 64 with | true => κ2 (x2, h) | false => none) | _, _ => none)] 0 k_Wa_priceByForgetting 400) :=
  (x_ite rfl (x_bI (f := sF_La_bars) rfl (w_La_bars _ _ _ _) fun v2 h1 => (x_bI (f := sF_Jint_bitCount) rfl (w_Jint_bitCount _ _) fun v4 h3 => (x_bif (x_bH fun h5 => rfl)))))
def k_Wa_whoPay : List Ent := [(0, .iconst 0, 1, [], .int (0)), (1, .istore_n 1, 1, [], .null), (2, .iconst 1, 1, [], .int (1)), (3, .istore_n 2, 1, [], .null), (4, .iload_n 2, 1, [], .null), (5, .aload_n 0, 1, [], .null), (6, .getfield 25, 3, [5, 5, 0], .null), (9, .iconst 1, 1, [], .int (1)), (10, .isub, 1, [], .null), (11, .if_icmp .ge (35), 3, [46], .null), (14, .aload_n 0, 1, [], .null), (15, .getfield 9, 3, [5, 1, 1], .null), (18, .aload_n 0, 1, [], .null), (19, .getfield 22, 3, [5, 4, 1], .null), (22, .iload_n 2, 1, [], .null), (23, .iaload, 1, [], .null), (24, .iaload, 1, [], .null), (25, .ifCond .le (15), 3, [40], .null), (28, .iload_n 1, 1, [], .null), (29, .aload_n 0, 1, [], .null), (30, .getfield 22, 3, [5, 4, 1], .null), (33, .iload_n 2, 1, [], .null), (34, .iaload, 1, [], .null), (35, .invokestatic 41, 3, [64, 1, 1], .null), (38, .ior, 1, [], .null), (39, .istore_n 1, 1, [], .null), (40, .iinc 2 (1), 3, [], .int (1)), (43, .goto (-39), 3, [4], .null), (46, .iload_n 1, 1, [], .null), (47, .ireturn, 1, [], .null)]
def Wa_whoPay_4    : (Int32 × Int32 × Hp) → ((Int32 × Int32 × Hp) → Res Hp) → Res Hp := fun s κ4 => match s with
  | (x1, x2, h) =>
  if ((hg h 64 5) - (1 : Int32)) ≤ x2 then
  (retI x1 h)
  else
  (bif okA 67 100 x2 then
  bif okA 65 100 (hg h 67 x2.toNatClampNeg) then
  if (hg h 65 (hg h 67 x2.toNatClampNeg).toNatClampNeg) ≤ (0 : Int32) then
  (κ4 (x1, (x2 + (1 : Int32)), h))
  else
  (bif okA 67 100 x2 then
  bI (F_Bp_bit (hg h 67 x2.toNatClampNeg) h) fun v2 h1 =>
  κ4 ((x1 ||| v2), (x2 + (1 : Int32)), h1)
  else none)
  else none
  else none)
def F_Wa_whoPay  (h : Hp) : Res Hp :=
  loopC (Wa_whoPay_4   ) FU ((0 : Int32), (1 : Int32), h)
def sF_Wa_whoPay : List Value → Hp → Res Hp := fun as h => match as with | [.ref f0] => (match Nat.beq f0 64 with | true => F_Wa_whoPay  h | false => none) | _ => none
theorem w_Wa_whoPay  (h : Hp) : sF_Wa_whoPay [.ref 64] h = F_Wa_whoPay  h := rfl
def S_Wa_whoPay : Sem Hp := [(64, sF_Bp_bit)]
set_option maxRecDepth 100000 in
theorem e_Wa_whoPay_0  (h : Hp) : F_Wa_whoPay  h = exec1 OI S_Wa_whoPay 1 k_Wa_whoPay 0 [some (.ref 64), none, none] [] h (runF OI S_Wa_whoPay [(4, [0, 1, 2], fun vs st h => match vs, st with | [.ref f0, .int x1, .int x2], [] => (match Nat.beq f0 64 with | true => loopC (Wa_whoPay_4   ) FU (x1, x2, h) | false => none) | _, _ => none)] 1 k_Wa_whoPay 400) :=
  rfl
set_option maxRecDepth 100000 in
theorem e_Wa_whoPay_4 (κ4 : (Int32 × Int32 × Hp) → Res Hp) (x1 : Int32) (x2 : Int32)  (h : Hp) : Wa_whoPay_4    (x1, x2, h) κ4 = exec1 OI S_Wa_whoPay 1 k_Wa_whoPay 4 [some (.ref 64), some (.int x1), some (.int x2)] [] h (runF OI S_Wa_whoPay [(4, [0, 1, 2], fun vs st h => match vs, st with | [.ref f0, .int x1, .int x2], [] => (match Nat.beq f0 64 with | true => κ4 (x1, x2, h) | false => none) | _, _ => none)] 1 k_Wa_whoPay 400) :=
  (x_ite rfl (x_bif (x_bif (x_ite rfl (x_bif (x_bI (f := sF_Bp_bit) rfl (w_Bp_bit _ _) fun v2 h1 => rfl))))))
def k_Wa_wholePrice : List Ent := [(0, .iconst 0, 1, [], .int (0)), (1, .istore_n 1, 1, [], .null), (2, .iconst 1, 1, [], .int (1)), (3, .istore_n 2, 1, [], .null), (4, .iload_n 2, 1, [], .null), (5, .aload_n 0, 1, [], .null), (6, .getfield 25, 3, [5, 5, 0], .null), (9, .iconst 1, 1, [], .int (1)), (10, .isub, 1, [], .null), (11, .if_icmp .ge (23), 3, [34], .null), (14, .iload_n 1, 1, [], .null), (15, .aload_n 0, 1, [], .null), (16, .getfield 9, 3, [5, 1, 1], .null), (19, .aload_n 0, 1, [], .null), (20, .getfield 22, 3, [5, 4, 1], .null), (23, .iload_n 2, 1, [], .null), (24, .iaload, 1, [], .null), (25, .iaload, 1, [], .null), (26, .iadd, 1, [], .null), (27, .istore_n 1, 1, [], .null), (28, .iinc 2 (1), 3, [], .int (1)), (31, .goto (-27), 3, [4], .null), (34, .iload_n 1, 1, [], .null), (35, .ireturn, 1, [], .null)]
def Wa_wholePrice_4   (h : Hp) : (Int32 × Int32) → ((Int32 × Int32) → Res Hp) → Res Hp := fun s κ4 => match s with
  | (x1, x2) =>
  if ((hg h 64 5) - (1 : Int32)) ≤ x2 then
  (retI x1 h)
  else
  (bif okA 67 100 x2 then
  bif okA 65 100 (hg h 67 x2.toNatClampNeg) then
  κ4 ((x1 + (hg h 65 (hg h 67 x2.toNatClampNeg).toNatClampNeg)), (x2 + (1 : Int32)))
  else none
  else none)
def F_Wa_wholePrice  (h : Hp) : Res Hp :=
  loopC (Wa_wholePrice_4   h) FU ((0 : Int32), (1 : Int32))
def sF_Wa_wholePrice : List Value → Hp → Res Hp := fun as h => match as with | [.ref f0] => (match Nat.beq f0 64 with | true => F_Wa_wholePrice  h | false => none) | _ => none
theorem w_Wa_wholePrice  (h : Hp) : sF_Wa_wholePrice [.ref 64] h = F_Wa_wholePrice  h := rfl
def S_Wa_wholePrice : Sem Hp := []
set_option maxRecDepth 100000 in
theorem e_Wa_wholePrice_0  (h : Hp) : F_Wa_wholePrice  h = exec1 OI S_Wa_wholePrice 1 k_Wa_wholePrice 0 [some (.ref 64), none, none] [] h (runF OI S_Wa_wholePrice [(4, [0, 1, 2], fun vs st h => match vs, st with | [.ref f0, .int x1, .int x2], [] => (match Nat.beq f0 64 with | true => loopC (Wa_wholePrice_4   h) FU (x1, x2) | false => none) | _, _ => none)] 1 k_Wa_wholePrice 400) :=
  rfl
set_option maxRecDepth 100000 in
theorem e_Wa_wholePrice_4 (κ4 : (Int32 × Int32) → Res Hp) (x1 : Int32) (x2 : Int32)  (h : Hp) : Wa_wholePrice_4   h (x1, x2) κ4 = exec1 OI S_Wa_wholePrice 1 k_Wa_wholePrice 4 [some (.ref 64), some (.int x1), some (.int x2)] [] h (runF OI S_Wa_wholePrice [(4, [0, 1, 2], fun vs st h => match vs, st with | [.ref f0, .int x1, .int x2], [] => (match Nat.beq f0 64 with | true => κ4 (x1, x2) | false => none) | _, _ => none)] 1 k_Wa_wholePrice 400) :=
  (x_ite rfl (x_bif (x_bif rfl)))
def k_Bp_forget : List Ent := [(0, .aload_n 0, 1, [], .null), (1, .iload_n 1, 1, [], .null), (2, .iload_n 2, 1, [], .null), (3, .invokevirtual 155, 3, [58, 3, 2], .null), (6, .ifCond .ne (10), 3, [16], .null), (9, .iload_n 3, 1, [], .null), (10, .invokestatic 168, 3, [56, 1, 2], .null), (13, .ifCond .eq (5), 3, [18], .null), (16, .iconst (-1), 1, [], .int (-1)), (17, .ireturn, 1, [], .null), (18, .aload_n 0, 1, [], .null), (19, .getfield 48, 3, [6, 7, 1], .null), (22, .iload_n 3, 1, [], .null), (23, .invokevirtual 255, 3, [240, 2, 0], .null), (26, .aload_n 0, 1, [], .null), (27, .getfield 48, 3, [6, 7, 1], .null), (30, .iload_n 1, 1, [], .null), (31, .iload_n 2, 1, [], .null), (32, .invokevirtual 235, 3, [241, 3, 2], .null), (35, .ifCond .ne (6), 3, [41], .null), (38, .bipush (-9), 2, [], .int (-9)), (40, .ireturn, 1, [], .null), (41, .aload_n 0, 1, [], .null), (42, .aload_n 0, 1, [], .null), (43, .getfield 48, 3, [6, 7, 1], .null), (46, .invokevirtual 258, 3, [247, 1, 1], .null), (49, .putfield 69, 3, [6, 11, 0], .null), (52, .aload_n 0, 1, [], .null), (53, .getfield 48, 3, [6, 7, 1], .null), (56, .invokevirtual 261, 3, [246, 1, 1], .null), (59, .ireturn, 1, [], .null)]
def F_Bp_forget (x1 : Int32) (x2 : Int32) (x3 : Int32) (h : Hp) : Res Hp :=
  bI (F_Bp_noPair x1 x2 h) fun v2 h1 =>
  if v2 = (0 : Int32) then
  (bI (F_Bp_noTongues x3 h1) fun v4 h3 =>
  if v4 = (0 : Int32) then
  (bV (F_Wa_priceByForgetting x3 h3) fun h5 =>
  bI (F_Wa_find x1 x2 h5) fun v7 h6 =>
  if v7 = (0 : Int32) then
  (retI (-9 : Int32) h6)
  else
  (bI (F_Wa_whoPay  h6) fun v9 h8 =>
  bH (hs h8 0 11 v9) fun h10 =>
  bI (F_Wa_wholePrice  h10) fun v12 h11 =>
  retI v12 h11))
  else
  (retI (-1 : Int32) h3))
  else
  (retI (-1 : Int32) h1)
def sF_Bp_forget : List Value → Hp → Res Hp := fun as h => match as with | [.ref f0, .int x1, .int x2, .int x3] => (match Nat.beq f0 0 with | true => F_Bp_forget x1 x2 x3 h | false => none) | _ => none
theorem w_Bp_forget (x1 : Int32) (x2 : Int32) (x3 : Int32) (h : Hp) : sF_Bp_forget [.ref 0, .int x1, .int x2, .int x3] h = F_Bp_forget x1 x2 x3 h := rfl
def S_Bp_forget : Sem Hp := [(58, sF_Bp_noPair), (56, sF_Bp_noTongues), (240, sF_Wa_priceByForgetting), (241, sF_Wa_find), (247, sF_Wa_whoPay), (246, sF_Wa_wholePrice)]
set_option maxRecDepth 100000 in
theorem e_Bp_forget_0 (x1 : Int32) (x2 : Int32) (x3 : Int32) (h : Hp) : F_Bp_forget x1 x2 x3 h = exec1 OI S_Bp_forget 1 k_Bp_forget 0 [some (.ref 0), some (.int x1), some (.int x2), some (.int x3)] [] h (runF OI S_Bp_forget [] 1 k_Bp_forget 400) :=
  (x_bI (f := sF_Bp_noPair) rfl (w_Bp_noPair _ _ _) fun v2 h1 => (x_ite (x_bI (f := sF_Bp_noTongues) rfl (w_Bp_noTongues _ _) fun v4 h3 => (x_ite (x_bV (f := sF_Wa_priceByForgetting) rfl (w_Wa_priceByForgetting _ _) fun h5 => (x_bI (f := sF_Wa_find) rfl (w_Wa_find _ _ _) fun v7 h6 => (x_ite rfl (x_bI (f := sF_Wa_whoPay) rfl (w_Wa_whoPay  _) fun v9 h8 => (x_bH fun h10 => (x_bI (f := sF_Wa_wholePrice) rfl (w_Wa_wholePrice  _) fun v12 h11 => rfl)))))) rfl)) rfl))
def k_La_knowers : List Ent := [(0, .iconst 0, 1, [], .int (0)), (1, .istore_n 2, 1, [], .null), (2, .iconst 0, 1, [], .int (0)), (3, .istore_n 3, 1, [], .null), (4, .iload_n 3, 1, [], .null), (5, .aload_n 0, 1, [], .null), (6, .getfield 41, 3, [0, 8, 0], .null), (9, .if_icmp .ge (29), 3, [38], .null), (12, .aload_n 0, 1, [], .null), (13, .getfield 15, 3, [0, 1, 1], .null), (16, .iload_n 3, 1, [], .null), (17, .iaload, 1, [], .null), (18, .iload_n 1, 1, [], .null), (19, .invokestatic 86, 3, [65, 2, 2], .null), (22, .ifCond .eq (10), 3, [32], .null), (25, .iload_n 2, 1, [], .null), (26, .iload_n 3, 1, [], .null), (27, .invokestatic 72, 3, [64, 1, 1], .null), (30, .ior, 1, [], .null), (31, .istore_n 2, 1, [], .null), (32, .iinc 3 (1), 3, [], .int (1)), (35, .goto (-31), 3, [4], .null), (38, .iload_n 2, 1, [], .null), (39, .ireturn, 1, [], .null)]
def La_knowers_4  (o0 : Nat) (x1 : Int32)  : (Int32 × Int32 × Hp) → ((Int32 × Int32 × Hp) → Res Hp) → Res Hp := fun s κ4 => match s with
  | (x2, x3, h) =>
  bif okF o0 0 8 0 then
  if (hg h o0 8) ≤ x3 then
  (retI x2 h)
  else
  (bif okF o0 0 1 1 then
  bif okA (shR o0 1) 100 x3 then
  bI (F_Bp_has (hg h (shR o0 1) x3.toNatClampNeg) x1 h) fun v2 h1 =>
  if v2 = (0 : Int32) then
  (κ4 (x2, (x3 + (1 : Int32)), h1))
  else
  (bI (F_Bp_bit x3 h1) fun v4 h3 =>
  κ4 ((x2 ||| v4), (x3 + (1 : Int32)), h3))
  else none
  else none)
  else none
def F_La_knowers (o0 : Nat) (x1 : Int32) (h : Hp) : Res Hp :=
  loopC (La_knowers_4  o0 x1 ) FU ((0 : Int32), (0 : Int32), h)
def sF_La_knowers : List Value → Hp → Res Hp := fun as h => match as with | [.ref o0, .int x1] => F_La_knowers o0 x1 h | _ => none
theorem w_La_knowers (o0 : Nat) (x1 : Int32) (h : Hp) : sF_La_knowers [.ref o0, .int x1] h = F_La_knowers o0 x1 h := rfl
def S_La_knowers : Sem Hp := [(65, sF_Bp_has), (64, sF_Bp_bit)]
set_option maxRecDepth 100000 in
theorem e_La_knowers_0 (o0 : Nat) (x1 : Int32) (h : Hp) : F_La_knowers o0 x1 h = exec1 OI S_La_knowers 1 k_La_knowers 0 [some (.ref o0), some (.int x1), none, none] [] h (runF OI S_La_knowers [(4, [0, 1, 2, 3], fun vs st h => match vs, st with | [.ref o0, .int x1, .int x2, .int x3], [] => loopC (La_knowers_4  o0 x1 ) FU (x2, x3, h) | _, _ => none)] 1 k_La_knowers 400) :=
  rfl
set_option maxRecDepth 100000 in
theorem e_La_knowers_4 (κ4 : (Int32 × Int32 × Hp) → Res Hp) (o0 : Nat) (x1 : Int32) (x2 : Int32) (x3 : Int32)  (h : Hp) : La_knowers_4  o0 x1  (x2, x3, h) κ4 = exec1 OI S_La_knowers 1 k_La_knowers 4 [some (.ref o0), some (.int x1), some (.int x2), some (.int x3)] [] h (runF OI S_La_knowers [(4, [0, 1, 2, 3], fun vs st h => match vs, st with | [.ref o0, .int x1, .int x2, .int x3], [] => κ4 (x2, x3, h) | _, _ => none)] 1 k_La_knowers 400) :=
  (x_bif (x_ite rfl (x_bif (x_bif (x_bI (f := sF_Bp_has) rfl (w_Bp_has _ _ _) fun v2 h1 => (x_ite rfl (x_bI (f := sF_Bp_bit) rfl (w_Bp_bit _ _) fun v4 h3 => rfl)))))))
def k_Pa_writtenBy : List Ent := [(0, .aload_n 0, 1, [], .null), (1, .getfield 22, 3, [2, 0, 1], .null), (4, .getfield 30, 3, [0, 1, 1], .null), (7, .iload_n 1, 1, [], .null), (8, .iaload, 1, [], .null), (9, .iload_n 2, 1, [], .null), (10, .invokestatic 35, 3, [65, 2, 2], .null), (13, .ifCond .eq (21), 3, [34], .null), (16, .aload_n 0, 1, [], .null), (17, .getfield 22, 3, [2, 0, 1], .null), (20, .iload_n 2, 1, [], .null), (21, .invokevirtual 39, 3, [181, 2, 1], .null), (24, .iload_n 1, 1, [], .null), (25, .invokestatic 43, 3, [64, 1, 1], .null), (28, .iconst (-1), 1, [], .int (-1)), (29, .ixor, 1, [], .null), (30, .iand, 1, [], .null), (31, .goto (4), 3, [35], .null), (34, .iconst 0, 1, [], .int (0)), (35, .ireturn, 1, [], .null)]
def F_Pa_writtenBy (x1 : Int32) (x2 : Int32) (h : Hp) : Res Hp :=
  bif okA 5 100 x1 then
  bI (F_Bp_has (hg h 5 x1.toNatClampNeg) x2 h) fun v2 h1 =>
  if v2 = (0 : Int32) then
  (retI (0 : Int32) h1)
  else
  (bI (F_La_knowers 3 x2 h1) fun v4 h3 =>
  bI (F_Bp_bit x1 h3) fun v6 h5 =>
  retI (v4 &&& (v6 ^^^ (-1 : Int32))) h5)
  else none
def sF_Pa_writtenBy : List Value → Hp → Res Hp := fun as h => match as with | [.ref f0, .int x1, .int x2] => (match Nat.beq f0 68 with | true => F_Pa_writtenBy x1 x2 h | false => none) | _ => none
theorem w_Pa_writtenBy (x1 : Int32) (x2 : Int32) (h : Hp) : sF_Pa_writtenBy [.ref 68, .int x1, .int x2] h = F_Pa_writtenBy x1 x2 h := rfl
def S_Pa_writtenBy : Sem Hp := [(65, sF_Bp_has), (181, sF_La_knowers), (64, sF_Bp_bit)]
set_option maxRecDepth 100000 in
theorem e_Pa_writtenBy_0 (x1 : Int32) (x2 : Int32) (h : Hp) : F_Pa_writtenBy x1 x2 h = exec1 OI S_Pa_writtenBy 1 k_Pa_writtenBy 0 [some (.ref 68), some (.int x1), some (.int x2)] [] h (runF OI S_Pa_writtenBy [] 1 k_Pa_writtenBy 400) :=
  (x_bif (x_bI (f := sF_Bp_has) rfl (w_Bp_has _ _ _) fun v2 h1 => (x_ite rfl (x_bI (f := sF_La_knowers) rfl (w_La_knowers _ _ _) fun v4 h3 => (x_bI (f := sF_Bp_bit) rfl (w_Bp_bit _ _) fun v6 h5 => rfl)))))
def k_Pa_reachedBy : List Ent := [(0, .aload_n 0, 1, [], .null), (1, .iload_n 1, 1, [], .null), (2, .iload_n 2, 1, [], .null), (3, .invokevirtual 46, 3, [207, 3, 1], .null), (6, .istore_n 3, 1, [], .null), (7, .iload_n 3, 1, [], .null), (8, .ifCond .ne (5), 3, [13], .null), (11, .iconst 0, 1, [], .int (0)), (12, .ireturn, 1, [], .null), (13, .iload_n 3, 1, [], .null), (14, .aload_n 0, 1, [], .null), (15, .getfield 26, 3, [2, 1, 1], .null), (18, .iload_n 1, 1, [], .null), (19, .aload_n 0, 1, [], .null), (20, .getfield 26, 3, [2, 1, 1], .null), (23, .iload_n 2, 1, [], .null), (24, .invokestatic 43, 3, [64, 1, 1], .null), (27, .invokevirtual 50, 3, [233, 2, 1], .null), (30, .invokevirtual 55, 3, [234, 3, 1], .null), (33, .iand, 1, [], .null), (34, .ireturn, 1, [], .null)]
def F_Pa_reachedBy (x1 : Int32) (x2 : Int32) (h : Hp) : Res Hp :=
  bI (F_Pa_writtenBy x1 x2 h) fun v2 h1 =>
  if v2 = (0 : Int32) then
  (retI (0 : Int32) h1)
  else
  (bI (F_Bp_bit x2 h1) fun v4 h3 =>
  bI (F_Wa_carriers v4 h3) fun v6 h5 =>
  bI (F_Wa_endsFrom x1 v6 h5) fun v8 h7 =>
  retI (v2 &&& v8) h7)
def sF_Pa_reachedBy : List Value → Hp → Res Hp := fun as h => match as with | [.ref f0, .int x1, .int x2] => (match Nat.beq f0 68 with | true => F_Pa_reachedBy x1 x2 h | false => none) | _ => none
theorem w_Pa_reachedBy (x1 : Int32) (x2 : Int32) (h : Hp) : sF_Pa_reachedBy [.ref 68, .int x1, .int x2] h = F_Pa_reachedBy x1 x2 h := rfl
def S_Pa_reachedBy : Sem Hp := [(207, sF_Pa_writtenBy), (64, sF_Bp_bit), (233, sF_Wa_carriers), (234, sF_Wa_endsFrom)]
set_option maxRecDepth 100000 in
theorem e_Pa_reachedBy_0 (x1 : Int32) (x2 : Int32) (h : Hp) : F_Pa_reachedBy x1 x2 h = exec1 OI S_Pa_reachedBy 1 k_Pa_reachedBy 0 [some (.ref 68), some (.int x1), some (.int x2), none] [] h (runF OI S_Pa_reachedBy [] 1 k_Pa_reachedBy 400) :=
  (x_bI (f := sF_Pa_writtenBy) rfl (w_Pa_writtenBy _ _ _) fun v2 h1 => (x_ite rfl (x_bI (f := sF_Bp_bit) rfl (w_Bp_bit _ _) fun v4 h3 => (x_bI (f := sF_Wa_carriers) rfl (w_Wa_carriers _ _) fun v6 h5 => (x_bI (f := sF_Wa_endsFrom) rfl (w_Wa_endsFrom _ _ _) fun v8 h7 => rfl)))))
def k_Bp_reach : List Ent := [(0, .aload_n 0, 1, [], .null), (1, .getfield 21, 3, [6, 2, 1], .null), (4, .iload_n 1, 1, [], .null), (5, .invokevirtual 130, 3, [175, 2, 2], .null), (8, .ifCond .ne (10), 3, [18], .null), (11, .iload_n 2, 1, [], .null), (12, .invokestatic 146, 3, [55, 1, 2], .null), (15, .ifCond .eq (5), 3, [20], .null), (18, .iconst (-1), 1, [], .int (-1)), (19, .ireturn, 1, [], .null), (20, .aload_n 0, 1, [], .null), (21, .getfield 57, 3, [6, 8, 1], .null), (24, .iload_n 1, 1, [], .null), (25, .iload_n 2, 1, [], .null), (26, .invokevirtual 264, 3, [208, 3, 1], .null), (29, .ireturn, 1, [], .null)]
def F_Bp_reach (x1 : Int32) (x2 : Int32) (h : Hp) : Res Hp :=
  bI (F_La_lacks 3 x1 h) fun v2 h1 =>
  if v2 = (0 : Int32) then
  (bI (F_Bp_noTongue x2 h1) fun v4 h3 =>
  if v4 = (0 : Int32) then
  (bI (F_Pa_reachedBy x1 x2 h3) fun v6 h5 =>
  retI v6 h5)
  else
  (retI (-1 : Int32) h3))
  else
  (retI (-1 : Int32) h1)
def sF_Bp_reach : List Value → Hp → Res Hp := fun as h => match as with | [.ref f0, .int x1, .int x2] => (match Nat.beq f0 0 with | true => F_Bp_reach x1 x2 h | false => none) | _ => none
theorem w_Bp_reach (x1 : Int32) (x2 : Int32) (h : Hp) : sF_Bp_reach [.ref 0, .int x1, .int x2] h = F_Bp_reach x1 x2 h := rfl
def S_Bp_reach : Sem Hp := [(175, sF_La_lacks), (55, sF_Bp_noTongue), (208, sF_Pa_reachedBy)]
set_option maxRecDepth 100000 in
theorem e_Bp_reach_0 (x1 : Int32) (x2 : Int32) (h : Hp) : F_Bp_reach x1 x2 h = exec1 OI S_Bp_reach 1 k_Bp_reach 0 [some (.ref 0), some (.int x1), some (.int x2)] [] h (runF OI S_Bp_reach [] 1 k_Bp_reach 400) :=
  (x_bI (f := sF_La_lacks) rfl (w_La_lacks _ _ _) fun v2 h1 => (x_ite (x_bI (f := sF_Bp_noTongue) rfl (w_Bp_noTongue _ _) fun v4 h3 => (x_ite (x_bI (f := sF_Pa_reachedBy) rfl (w_Pa_reachedBy _ _ _) fun v6 h5 => rfl) rfl)) rfl))
def k_Pa_tally : List Ent := [(0, .aload_n 0, 1, [], .null), (1, .iconst 0, 1, [], .int (0)), (2, .putfield 15, 3, [2, 3, 0], .null), (5, .aload_n 0, 1, [], .null), (6, .iconst 0, 1, [], .int (0)), (7, .putfield 19, 3, [2, 4, 0], .null), (10, .iconst 0, 1, [], .int (0)), (11, .istore_n 1, 1, [], .null), (12, .iload_n 1, 1, [], .null), (13, .aload_n 0, 1, [], .null), (14, .getfield 22, 3, [2, 0, 1], .null), (17, .getfield 58, 3, [0, 8, 0], .null), (20, .if_icmp .ge (78), 3, [98], .null), (23, .iconst 0, 1, [], .int (0)), (24, .istore_n 2, 1, [], .null), (25, .iconst 0, 1, [], .int (0)), (26, .istore_n 3, 1, [], .null), (27, .iconst 0, 1, [], .int (0)), (28, .istore 4, 2, [], .null), (30, .iload 4, 2, [], .null), (32, .iconst 5, 1, [], .int (5)), (33, .if_icmp .ge (29), 3, [62], .null), (36, .iload_n 2, 1, [], .null), (37, .aload_n 0, 1, [], .null), (38, .iload_n 1, 1, [], .null), (39, .iload 4, 2, [], .null), (41, .invokevirtual 46, 3, [207, 3, 1], .null), (44, .ior, 1, [], .null), (45, .istore_n 2, 1, [], .null), (46, .iload_n 3, 1, [], .null), (47, .aload_n 0, 1, [], .null), (48, .iload_n 1, 1, [], .null), (49, .iload 4, 2, [], .null), (51, .invokevirtual 61, 3, [208, 3, 1], .null), (54, .ior, 1, [], .null), (55, .istore_n 3, 1, [], .null), (56, .iinc 4 (1), 3, [], .int (1)), (59, .goto (-29), 3, [30], .null), (62, .aload_n 0, 1, [], .null), (63, .dup, 1, [], .null), (64, .getfield 15, 3, [2, 3, 0], .null), (67, .iload_n 2, 1, [], .null), (68, .invokestatic 64, 3, [250, 1, 1], .null), (71, .iadd, 1, [], .null), (72, .putfield 15, 3, [2, 3, 0], .null), (75, .aload_n 0, 1, [], .null), (76, .dup, 1, [], .null), (77, .getfield 19, 3, [2, 4, 0], .null), (80, .iload_n 2, 1, [], .null), (81, .iload_n 3, 1, [], .null), (82, .iconst (-1), 1, [], .int (-1)), (83, .ixor, 1, [], .null), (84, .iand, 1, [], .null), (85, .invokestatic 64, 3, [250, 1, 1], .null), (88, .iadd, 1, [], .null), (89, .putfield 19, 3, [2, 4, 0], .null), (92, .iinc 1 (1), 3, [], .int (1)), (95, .goto (-83), 3, [12], .null), (98, .return_, 1, [], .null)]
def Pa_tally_30 (κ12 : (Int32 × Hp) → Res Hp) (x1 : Int32)  : (Int32 × Int32 × Int32 × Hp) → ((Int32 × Int32 × Int32 × Hp) → Res Hp) → Res Hp := fun s κ30 => match s with
  | (x2, x3, x4, h) =>
  if (5 : Int32) ≤ x4 then
  (bI (F_Jint_bitCount x2 h) fun v2 h1 =>
  bH (hs h1 68 3 ((hg h 68 3) + v2)) fun h3 =>
  bI (F_Jint_bitCount (x2 &&& (x3 ^^^ (-1 : Int32))) h3) fun v5 h4 =>
  bH (hs h4 68 4 ((hg h3 68 4) + v5)) fun h6 =>
  κ12 ((x1 + (1 : Int32)), h6))
  else
  (bI (F_Pa_writtenBy x1 x4 h) fun v8 h7 =>
  bI (F_Pa_reachedBy x1 x4 h7) fun v10 h9 =>
  κ30 ((x2 ||| v8), (x3 ||| v10), (x4 + (1 : Int32)), h9))
def Pa_tally_12    : (Int32 × Hp) → ((Int32 × Hp) → Res Hp) → Res Hp := fun s κ12 => match s with
  | (x1, h) =>
  if (hg h 3 8) ≤ x1 then
  (retV h)
  else
  (loopC (Pa_tally_30 κ12 x1 ) FU ((0 : Int32), (0 : Int32), (0 : Int32), h))
def F_Pa_tally  (h : Hp) : Res Hp :=
  bH (hs h 68 3 (0 : Int32)) fun h1 =>
  bH (hs h1 68 4 (0 : Int32)) fun h2 =>
  loopC (Pa_tally_12   ) FU ((0 : Int32), h2)
def sF_Pa_tally : List Value → Hp → Res Hp := fun as h => match as with | [.ref f0] => (match Nat.beq f0 68 with | true => F_Pa_tally  h | false => none) | _ => none
theorem w_Pa_tally  (h : Hp) : sF_Pa_tally [.ref 68] h = F_Pa_tally  h := rfl
def S_Pa_tally : Sem Hp := [(250, sF_Jint_bitCount), (207, sF_Pa_writtenBy), (208, sF_Pa_reachedBy)]
set_option maxRecDepth 100000 in
theorem e_Pa_tally_0  (h : Hp) : F_Pa_tally  h = exec1 OI S_Pa_tally 0 k_Pa_tally 0 [some (.ref 68), none, none, none, none] [] h (runF OI S_Pa_tally [(12, [0, 1], fun vs st h => match vs, st with | [.ref f0, .int x1], [] => (match Nat.beq f0 68 with | true => loopC (Pa_tally_12   ) FU (x1, h) | false => none) | _, _ => none)] 0 k_Pa_tally 400) :=
  (x_bH fun h1 => (x_bH fun h2 => rfl))
set_option maxRecDepth 100000 in
theorem e_Pa_tally_12 (κ12 : (Int32 × Hp) → Res Hp) (x1 : Int32)  (h : Hp) : Pa_tally_12    (x1, h) κ12 = exec1 OI S_Pa_tally 0 k_Pa_tally 12 [some (.ref 68), some (.int x1), none, none, none] [] h (runF OI S_Pa_tally [(30, [0, 1, 2, 3, 4], fun vs st h => match vs, st with | [.ref f0, .int x1, .int x2, .int x3, .int x4], [] => (match Nat.beq f0 68 with | true => loopC (Pa_tally_30 κ12 x1 ) FU (x2, x3, x4, h) | false => none) | _, _ => none)] 0 k_Pa_tally 400) :=
  (x_ite rfl rfl)
set_option maxRecDepth 100000 in
theorem e_Pa_tally_30 (κ12 : (Int32 × Hp) → Res Hp) (κ30 : (Int32 × Int32 × Int32 × Hp) → Res Hp) (x1 : Int32) (x2 : Int32) (x3 : Int32) (x4 : Int32)  (h : Hp) : Pa_tally_30 κ12 x1  (x2, x3, x4, h) κ30 = exec1 OI S_Pa_tally 0 k_Pa_tally 30 [some (.ref 68), some (.int x1), some (.int x2), some (.int x3), some (.int x4)] [] h (runF OI S_Pa_tally [(12, [0, 1], fun vs st h => match vs, st with | [.ref f0, .int x1], [] => (match Nat.beq f0 68 with | true => κ12 (x1, h) | false => none) | _, _ => none), (30, [0, 1, 2, 3, 4], fun vs st h => match vs, st with | [.ref f0, .int x1, .int x2, .int x3, .int x4], [] => (match Nat.beq f0 68 with | true => κ30 (x2, x3, x4, h) | false => none) | _, _ => none)] 0 k_Pa_tally 400) :=
  (x_ite (x_bI (f := sF_Jint_bitCount) rfl (w_Jint_bitCount _ _) fun v2 h1 => (x_bH fun h3 => (x_bI (f := sF_Jint_bitCount) rfl (w_Jint_bitCount _ _) fun v5 h4 => (x_bH fun h6 => rfl)))) (x_bI (f := sF_Pa_writtenBy) rfl (w_Pa_writtenBy _ _ _) fun v8 h7 => (x_bI (f := sF_Pa_reachedBy) rfl (w_Pa_reachedBy _ _ _) fun v10 h9 => rfl)))
def k_Bp_cutOff : List Ent := [(0, .aload_n 0, 1, [], .null), (1, .getfield 57, 3, [6, 8, 1], .null), (4, .invokevirtual 267, 3, [209, 1, 0], .null), (7, .aload_n 0, 1, [], .null), (8, .aload_n 0, 1, [], .null), (9, .getfield 57, 3, [6, 8, 1], .null), (12, .getfield 270, 3, [2, 3, 0], .null), (15, .putfield 69, 3, [6, 11, 0], .null), (18, .aload_n 0, 1, [], .null), (19, .getfield 57, 3, [6, 8, 1], .null), (22, .getfield 273, 3, [2, 4, 0], .null), (25, .ireturn, 1, [], .null)]
def F_Bp_cutOff  (h : Hp) : Res Hp :=
  bV (F_Pa_tally  h) fun h1 =>
  bH (hs h1 0 11 (hg h1 68 3)) fun h2 =>
  retI (hg h2 68 4) h2
def sF_Bp_cutOff : List Value → Hp → Res Hp := fun as h => match as with | [.ref f0] => (match Nat.beq f0 0 with | true => F_Bp_cutOff  h | false => none) | _ => none
theorem w_Bp_cutOff  (h : Hp) : sF_Bp_cutOff [.ref 0] h = F_Bp_cutOff  h := rfl
def S_Bp_cutOff : Sem Hp := [(209, sF_Pa_tally)]
set_option maxRecDepth 100000 in
theorem e_Bp_cutOff_0  (h : Hp) : F_Bp_cutOff  h = exec1 OI S_Bp_cutOff 1 k_Bp_cutOff 0 [some (.ref 0)] [] h (runF OI S_Bp_cutOff [] 1 k_Bp_cutOff 400) :=
  (x_bV (f := sF_Pa_tally) rfl (w_Pa_tally  _) fun h1 => (x_bH fun h2 => rfl))
def k_Pa_cutIfKnown : List Ent := [(0, .aload_n 0, 1, [], .null), (1, .getfield 22, 3, [2, 0, 1], .null), (4, .getfield 30, 3, [0, 1, 1], .null), (7, .iload_n 1, 1, [], .null), (8, .iaload, 1, [], .null), (9, .istore_n 3, 1, [], .null), (10, .aload_n 0, 1, [], .null), (11, .getfield 22, 3, [2, 0, 1], .null), (14, .getfield 30, 3, [0, 1, 1], .null), (17, .iload_n 1, 1, [], .null), (18, .dup2, 1, [], .null), (19, .iaload, 1, [], .null), (20, .iload_n 2, 1, [], .null), (21, .invokestatic 43, 3, [64, 1, 1], .null), (24, .ior, 1, [], .null), (25, .iastore, 1, [], .null), (26, .aload_n 0, 1, [], .null), (27, .invokevirtual 69, 3, [209, 1, 0], .null), (30, .aload_n 0, 1, [], .null), (31, .getfield 22, 3, [2, 0, 1], .null), (34, .getfield 30, 3, [0, 1, 1], .null), (37, .iload_n 1, 1, [], .null), (38, .iload_n 3, 1, [], .null), (39, .iastore, 1, [], .null), (40, .aload_n 0, 1, [], .null), (41, .getfield 19, 3, [2, 4, 0], .null), (44, .ireturn, 1, [], .null)]
def F_Pa_cutIfKnown (x1 : Int32) (x2 : Int32) (h : Hp) : Res Hp :=
  bif okA 5 100 x1 then
  bif okA 5 100 x1 then
  bI (F_Bp_bit x2 h) fun v2 h1 =>
  bif okA 5 100 x1 then
  bH (hs h1 5 x1.toNatClampNeg ((hg h 5 x1.toNatClampNeg) ||| v2)) fun h3 =>
  bV (F_Pa_tally  h3) fun h4 =>
  bif okA 5 100 x1 then
  bH (hs h4 5 x1.toNatClampNeg (hg h 5 x1.toNatClampNeg)) fun h5 =>
  retI (hg h5 68 4) h5
  else none
  else none
  else none
  else none
def sF_Pa_cutIfKnown : List Value → Hp → Res Hp := fun as h => match as with | [.ref f0, .int x1, .int x2] => (match Nat.beq f0 68 with | true => F_Pa_cutIfKnown x1 x2 h | false => none) | _ => none
theorem w_Pa_cutIfKnown (x1 : Int32) (x2 : Int32) (h : Hp) : sF_Pa_cutIfKnown [.ref 68, .int x1, .int x2] h = F_Pa_cutIfKnown x1 x2 h := rfl
def S_Pa_cutIfKnown : Sem Hp := [(64, sF_Bp_bit), (209, sF_Pa_tally)]
set_option maxRecDepth 100000 in
theorem e_Pa_cutIfKnown_0 (x1 : Int32) (x2 : Int32) (h : Hp) : F_Pa_cutIfKnown x1 x2 h = exec1 OI S_Pa_cutIfKnown 1 k_Pa_cutIfKnown 0 [some (.ref 68), some (.int x1), some (.int x2), none] [] h (runF OI S_Pa_cutIfKnown [] 1 k_Pa_cutIfKnown 400) :=
  (x_bif (x_bif (x_bI (f := sF_Bp_bit) rfl (w_Bp_bit _ _) fun v2 h1 => (x_bif (x_bH fun h3 => (x_bV (f := sF_Pa_tally) rfl (w_Pa_tally  _) fun h4 => (x_bif (x_bH fun h5 => rfl))))))))
def k_Bp_taught : List Ent := [(0, .aload_n 0, 1, [], .null), (1, .getfield 21, 3, [6, 2, 1], .null), (4, .iload_n 1, 1, [], .null), (5, .invokevirtual 130, 3, [175, 2, 2], .null), (8, .ifCond .ne (10), 3, [18], .null), (11, .iload_n 2, 1, [], .null), (12, .invokestatic 146, 3, [55, 1, 2], .null), (15, .ifCond .eq (5), 3, [20], .null), (18, .iconst (-1), 1, [], .int (-1)), (19, .ireturn, 1, [], .null), (20, .aload_n 0, 1, [], .null), (21, .getfield 57, 3, [6, 8, 1], .null), (24, .invokevirtual 267, 3, [209, 1, 0], .null), (27, .aload_n 0, 1, [], .null), (28, .getfield 57, 3, [6, 8, 1], .null), (31, .getfield 273, 3, [2, 4, 0], .null), (34, .istore_n 3, 1, [], .null), (35, .aload_n 0, 1, [], .null), (36, .aload_n 0, 1, [], .null), (37, .getfield 57, 3, [6, 8, 1], .null), (40, .iload_n 1, 1, [], .null), (41, .iload_n 2, 1, [], .null), (42, .invokevirtual 276, 3, [210, 3, 1], .null), (45, .iload_n 3, 1, [], .null), (46, .isub, 1, [], .null), (47, .invokevirtual 93, 3, [51, 2, 1], .null), (50, .ireturn, 1, [], .null)]
def F_Bp_taught (x1 : Int32) (x2 : Int32) (h : Hp) : Res Hp :=
  bI (F_La_lacks 3 x1 h) fun v2 h1 =>
  if v2 = (0 : Int32) then
  (bI (F_Bp_noTongue x2 h1) fun v4 h3 =>
  if v4 = (0 : Int32) then
  (bV (F_Pa_tally  h3) fun h5 =>
  bI (F_Pa_cutIfKnown x1 x2 h5) fun v7 h6 =>
  bI (F_Bp_tell (v7 - (hg h5 68 4)) h6) fun v9 h8 =>
  retI v9 h8)
  else
  (retI (-1 : Int32) h3))
  else
  (retI (-1 : Int32) h1)
def sF_Bp_taught : List Value → Hp → Res Hp := fun as h => match as with | [.ref f0, .int x1, .int x2] => (match Nat.beq f0 0 with | true => F_Bp_taught x1 x2 h | false => none) | _ => none
theorem w_Bp_taught (x1 : Int32) (x2 : Int32) (h : Hp) : sF_Bp_taught [.ref 0, .int x1, .int x2] h = F_Bp_taught x1 x2 h := rfl
def S_Bp_taught : Sem Hp := [(175, sF_La_lacks), (55, sF_Bp_noTongue), (209, sF_Pa_tally), (210, sF_Pa_cutIfKnown), (51, sF_Bp_tell)]
set_option maxRecDepth 100000 in
theorem e_Bp_taught_0 (x1 : Int32) (x2 : Int32) (h : Hp) : F_Bp_taught x1 x2 h = exec1 OI S_Bp_taught 1 k_Bp_taught 0 [some (.ref 0), some (.int x1), some (.int x2), none] [] h (runF OI S_Bp_taught [] 1 k_Bp_taught 400) :=
  (x_bI (f := sF_La_lacks) rfl (w_La_lacks _ _ _) fun v2 h1 => (x_ite (x_bI (f := sF_Bp_noTongue) rfl (w_Bp_noTongue _ _) fun v4 h3 => (x_ite (x_bV (f := sF_Pa_tally) rfl (w_Pa_tally  _) fun h5 => (x_bI (f := sF_Pa_cutIfKnown) rfl (w_Pa_cutIfKnown _ _ _) fun v7 h6 => (x_bI (f := sF_Bp_tell) rfl (w_Bp_tell _ _) fun v9 h8 => rfl))) rfl)) rfl))
def k_Bp_best : List Ent := [(0, .bipush (-9), 2, [], .int (-9)), (2, .istore_n 1, 1, [], .null), (3, .bipush (49), 2, [], .int (49)), (5, .istore_n 2, 1, [], .null), (6, .iconst 0, 1, [], .int (0)), (7, .istore_n 3, 1, [], .null), (8, .iload_n 3, 1, [], .null), (9, .aload_n 0, 1, [], .null), (10, .getfield 21, 3, [6, 2, 1], .null), (13, .getfield 127, 3, [0, 8, 0], .null), (16, .if_icmp .ge (74), 3, [90], .null), (19, .iconst 0, 1, [], .int (0)), (20, .istore 4, 2, [], .null), (22, .iload 4, 2, [], .null), (24, .iconst 5, 1, [], .int (5)), (25, .if_icmp .ge (59), 3, [84], .null), (28, .aload_n 0, 1, [], .null), (29, .getfield 21, 3, [6, 2, 1], .null), (32, .getfield 149, 3, [0, 1, 1], .null), (35, .iload_n 3, 1, [], .null), (36, .iaload, 1, [], .null), (37, .iload 4, 2, [], .null), (39, .invokestatic 201, 3, [65, 2, 2], .null), (42, .ifCond .eq (7), 3, [49], .null), (45, .iload_n 2, 1, [], .null), (46, .goto (13), 3, [59], .null), (49, .aload_n 0, 1, [], .null), (50, .getfield 57, 3, [6, 8, 1], .null), (53, .iload_n 3, 1, [], .null), (54, .iload 4, 2, [], .null), (56, .invokevirtual 276, 3, [210, 3, 1], .null), (59, .istore 5, 2, [], .null), (61, .iload 5, 2, [], .null), (63, .iload_n 2, 1, [], .null), (64, .if_icmp .ge (14), 3, [78], .null), (67, .bipush (10), 2, [], .int (10)), (69, .iload_n 3, 1, [], .null), (70, .imul, 1, [], .null), (71, .iload 4, 2, [], .null), (73, .iadd, 1, [], .null), (74, .istore_n 1, 1, [], .null), (75, .iload 5, 2, [], .null), (77, .istore_n 2, 1, [], .null), (78, .iinc 4 (1), 3, [], .int (1)), (81, .goto (-59), 3, [22], .null), (84, .iinc 3 (1), 3, [], .int (1)), (87, .goto (-79), 3, [8], .null), (90, .iload_n 1, 1, [], .null), (91, .bipush (-9), 2, [], .int (-9)), (93, .if_icmp .eq (8), 3, [101], .null), (96, .aload_n 0, 1, [], .null), (97, .iload_n 2, 1, [], .null), (98, .putfield 69, 3, [6, 11, 0], .null), (101, .iload_n 1, 1, [], .null), (102, .ireturn, 1, [], .null)]
def Bp_best_22 (κ8 : (Int32 × Int32 × Int32 × Hp) → Res Hp) (x3 : Int32)  : (Int32 × Int32 × Int32 × Hp) → ((Int32 × Int32 × Int32 × Hp) → Res Hp) → Res Hp := fun s κ22 => match s with
  | (x1, x2, x4, h) =>
  if (5 : Int32) ≤ x4 then
  (κ8 (x1, x2, (x3 + (1 : Int32)), h))
  else
  (bif okA 5 100 x3 then
  bI (F_Bp_has (hg h 5 x3.toNatClampNeg) x4 h) fun v2 h1 =>
  if v2 = (0 : Int32) then
  (bI (F_Pa_cutIfKnown x3 x4 h1) fun v4 h3 =>
  if x2 ≤ v4 then
  (κ22 (x1, x2, (x4 + (1 : Int32)), h3))
  else
  (κ22 ((((10 : Int32) * x3) + x4), v4, (x4 + (1 : Int32)), h3)))
  else
  (if x2 ≤ x2 then
  (κ22 (x1, x2, (x4 + (1 : Int32)), h1))
  else
  (κ22 ((((10 : Int32) * x3) + x4), x2, (x4 + (1 : Int32)), h1)))
  else none)
def Bp_best_8    : (Int32 × Int32 × Int32 × Hp) → ((Int32 × Int32 × Int32 × Hp) → Res Hp) → Res Hp := fun s κ8 => match s with
  | (x1, x2, x3, h) =>
  if (hg h 3 8) ≤ x3 then
  (if x1 = (-9 : Int32) then
  (retI x1 h)
  else
  (bH (hs h 0 11 x2) fun h1 =>
  retI x1 h1))
  else
  (loopC (Bp_best_22 κ8 x3 ) FU (x1, x2, (0 : Int32), h))
def F_Bp_best  (h : Hp) : Res Hp :=
  loopC (Bp_best_8   ) FU ((-9 : Int32), (49 : Int32), (0 : Int32), h)
def sF_Bp_best : List Value → Hp → Res Hp := fun as h => match as with | [.ref f0] => (match Nat.beq f0 0 with | true => F_Bp_best  h | false => none) | _ => none
theorem w_Bp_best  (h : Hp) : sF_Bp_best [.ref 0] h = F_Bp_best  h := rfl
def S_Bp_best : Sem Hp := [(65, sF_Bp_has), (210, sF_Pa_cutIfKnown)]
set_option maxRecDepth 100000 in
theorem e_Bp_best_0  (h : Hp) : F_Bp_best  h = exec1 OI S_Bp_best 1 k_Bp_best 0 [some (.ref 0), none, none, none, none, none] [] h (runF OI S_Bp_best [(8, [0, 1, 2, 3], fun vs st h => match vs, st with | [.ref f0, .int x1, .int x2, .int x3], [] => (match Nat.beq f0 0 with | true => loopC (Bp_best_8   ) FU (x1, x2, x3, h) | false => none) | _, _ => none)] 1 k_Bp_best 400) :=
  rfl
set_option maxRecDepth 100000 in
theorem e_Bp_best_8 (κ8 : (Int32 × Int32 × Int32 × Hp) → Res Hp) (x1 : Int32) (x2 : Int32) (x3 : Int32)  (h : Hp) : Bp_best_8    (x1, x2, x3, h) κ8 = exec1 OI S_Bp_best 1 k_Bp_best 8 [some (.ref 0), some (.int x1), some (.int x2), some (.int x3), none, none] [] h (runF OI S_Bp_best [(22, [0, 1, 2, 3, 4], fun vs st h => match vs, st with | [.ref f0, .int x1, .int x2, .int x3, .int x4], [] => (match Nat.beq f0 0 with | true => loopC (Bp_best_22 κ8 x3 ) FU (x1, x2, x4, h) | false => none) | _, _ => none)] 1 k_Bp_best 400) :=
  (x_ite (x_ite rfl (x_bH fun h1 => rfl)) rfl)
set_option maxRecDepth 100000 in
theorem e_Bp_best_22 (κ8 : (Int32 × Int32 × Int32 × Hp) → Res Hp) (κ22 : (Int32 × Int32 × Int32 × Hp) → Res Hp) (x1 : Int32) (x2 : Int32) (x3 : Int32) (x4 : Int32)  (h : Hp) : Bp_best_22 κ8 x3  (x1, x2, x4, h) κ22 = exec1 OI S_Bp_best 1 k_Bp_best 22 [some (.ref 0), some (.int x1), some (.int x2), some (.int x3), some (.int x4), none] [] h (runF OI S_Bp_best [(8, [0, 1, 2, 3], fun vs st h => match vs, st with | [.ref f0, .int x1, .int x2, .int x3], [] => (match Nat.beq f0 0 with | true => κ8 (x1, x2, x3, h) | false => none) | _, _ => none), (22, [0, 1, 2, 3, 4], fun vs st h => match vs, st with | [.ref f0, .int x1, .int x2, .int x3, .int x4], [] => (match Nat.beq f0 0 with | true => κ22 (x1, x2, x4, h) | false => none) | _, _ => none)] 1 k_Bp_best 400) :=
  (x_ite rfl (x_bif (x_bI (f := sF_Bp_has) rfl (w_Bp_has _ _ _) fun v2 h1 => (x_ite (x_bI (f := sF_Pa_cutIfKnown) rfl (w_Pa_cutIfKnown _ _ _) fun v4 h3 => (x_ite rfl rfl)) (x_ite rfl rfl)))))
def k_Pa_lostWithout : List Ent := [(0, .iconst 0, 1, [], .int (0)), (1, .istore_n 2, 1, [], .null), (2, .iconst 0, 1, [], .int (0)), (3, .istore_n 3, 1, [], .null), (4, .iload_n 3, 1, [], .null), (5, .iconst 5, 1, [], .int (5)), (6, .if_icmp .ge (94), 3, [100], .null), (9, .aload_n 0, 1, [], .null), (10, .getfield 26, 3, [2, 1, 1], .null), (13, .iload_n 3, 1, [], .null), (14, .invokestatic 43, 3, [64, 1, 1], .null), (17, .invokevirtual 50, 3, [233, 2, 1], .null), (20, .istore 4, 2, [], .null), (22, .iconst 0, 1, [], .int (0)), (23, .istore 5, 2, [], .null), (25, .iload 5, 2, [], .null), (27, .aload_n 0, 1, [], .null), (28, .getfield 22, 3, [2, 0, 1], .null), (31, .getfield 58, 3, [0, 8, 0], .null), (34, .if_icmp .ge (60), 3, [94], .null), (37, .iload 5, 2, [], .null), (39, .iload_n 1, 1, [], .null), (40, .if_icmp .eq (48), 3, [88], .null), (43, .aload_n 0, 1, [], .null), (44, .iload 5, 2, [], .null), (46, .iload_n 3, 1, [], .null), (47, .invokevirtual 61, 3, [208, 3, 1], .null), (50, .aload_n 0, 1, [], .null), (51, .getfield 26, 3, [2, 1, 1], .null), (54, .iload 5, 2, [], .null), (56, .iload 4, 2, [], .null), (58, .iload_n 1, 1, [], .null), (59, .invokestatic 43, 3, [64, 1, 1], .null), (62, .iconst (-1), 1, [], .int (-1)), (63, .ixor, 1, [], .null), (64, .iand, 1, [], .null), (65, .invokevirtual 55, 3, [234, 3, 1], .null), (68, .iconst (-1), 1, [], .int (-1)), (69, .ixor, 1, [], .null), (70, .iand, 1, [], .null), (71, .iload_n 1, 1, [], .null), (72, .invokestatic 43, 3, [64, 1, 1], .null), (75, .iconst (-1), 1, [], .int (-1)), (76, .ixor, 1, [], .null), (77, .iand, 1, [], .null), (78, .istore 6, 2, [], .null), (80, .iload_n 2, 1, [], .null), (81, .iload 6, 2, [], .null), (83, .invokestatic 64, 3, [250, 1, 1], .null), (86, .iadd, 1, [], .null), (87, .istore_n 2, 1, [], .null), (88, .iinc 5 (1), 3, [], .int (1)), (91, .goto (-66), 3, [25], .null), (94, .iinc 3 (1), 3, [], .int (1)), (97, .goto (-93), 3, [4], .null), (100, .iload_n 2, 1, [], .null), (101, .ireturn, 1, [], .null)]
def Pa_lostWithout_25 (κ4 : (Int32 × Int32 × Hp) → Res Hp) (x1 : Int32) (x3 : Int32) (x4 : Int32)  : (Int32 × Int32 × Hp) → ((Int32 × Int32 × Hp) → Res Hp) → Res Hp := fun s κ25 => match s with
  | (x2, x5, h) =>
  if (hg h 3 8) ≤ x5 then
  (κ4 (x2, (x3 + (1 : Int32)), h))
  else
  (if x5 = x1 then
  (κ25 (x2, (x5 + (1 : Int32)), h))
  else
  (bI (F_Pa_reachedBy x5 x3 h) fun v2 h1 =>
  bI (F_Bp_bit x1 h1) fun v4 h3 =>
  bI (F_Wa_endsFrom x5 (x4 &&& (v4 ^^^ (-1 : Int32))) h3) fun v6 h5 =>
  bI (F_Bp_bit x1 h5) fun v8 h7 =>
  bI (F_Jint_bitCount ((v2 &&& (v6 ^^^ (-1 : Int32))) &&& (v8 ^^^ (-1 : Int32))) h7) fun v10 h9 =>
  κ25 ((x2 + v10), (x5 + (1 : Int32)), h9)))
def Pa_lostWithout_4  (x1 : Int32)  : (Int32 × Int32 × Hp) → ((Int32 × Int32 × Hp) → Res Hp) → Res Hp := fun s κ4 => match s with
  | (x2, x3, h) =>
  if (5 : Int32) ≤ x3 then
  (retI x2 h)
  else
  (bI (F_Bp_bit x3 h) fun v2 h1 =>
  bI (F_Wa_carriers v2 h1) fun v4 h3 =>
  loopC (Pa_lostWithout_25 κ4 x1 x3 v4 ) FU (x2, (0 : Int32), h3))
def F_Pa_lostWithout (x1 : Int32) (h : Hp) : Res Hp :=
  loopC (Pa_lostWithout_4  x1 ) FU ((0 : Int32), (0 : Int32), h)
def sF_Pa_lostWithout : List Value → Hp → Res Hp := fun as h => match as with | [.ref f0, .int x1] => (match Nat.beq f0 68 with | true => F_Pa_lostWithout x1 h | false => none) | _ => none
theorem w_Pa_lostWithout (x1 : Int32) (h : Hp) : sF_Pa_lostWithout [.ref 68, .int x1] h = F_Pa_lostWithout x1 h := rfl
def S_Pa_lostWithout : Sem Hp := [(64, sF_Bp_bit), (233, sF_Wa_carriers), (208, sF_Pa_reachedBy), (234, sF_Wa_endsFrom), (250, sF_Jint_bitCount)]
set_option maxRecDepth 100000 in
theorem e_Pa_lostWithout_0 (x1 : Int32) (h : Hp) : F_Pa_lostWithout x1 h = exec1 OI S_Pa_lostWithout 1 k_Pa_lostWithout 0 [some (.ref 68), some (.int x1), none, none, none, none, none] [] h (runF OI S_Pa_lostWithout [(4, [0, 1, 2, 3], fun vs st h => match vs, st with | [.ref f0, .int x1, .int x2, .int x3], [] => (match Nat.beq f0 68 with | true => loopC (Pa_lostWithout_4  x1 ) FU (x2, x3, h) | false => none) | _, _ => none)] 1 k_Pa_lostWithout 400) :=
  rfl
set_option maxRecDepth 100000 in
theorem e_Pa_lostWithout_4 (κ4 : (Int32 × Int32 × Hp) → Res Hp) (x1 : Int32) (x2 : Int32) (x3 : Int32)  (h : Hp) : Pa_lostWithout_4  x1  (x2, x3, h) κ4 = exec1 OI S_Pa_lostWithout 1 k_Pa_lostWithout 4 [some (.ref 68), some (.int x1), some (.int x2), some (.int x3), none, none, none] [] h (runF OI S_Pa_lostWithout [(25, [0, 1, 2, 3, 4, 5], fun vs st h => match vs, st with | [.ref f0, .int x1, .int x2, .int x3, .int x4, .int x5], [] => (match Nat.beq f0 68 with | true => loopC (Pa_lostWithout_25 κ4 x1 x3 x4 ) FU (x2, x5, h) | false => none) | _, _ => none)] 1 k_Pa_lostWithout 400) :=
  (x_ite rfl (x_bI (f := sF_Bp_bit) rfl (w_Bp_bit _ _) fun v2 h1 => (x_bI (f := sF_Wa_carriers) rfl (w_Wa_carriers _ _) fun v4 h3 => rfl)))
set_option maxRecDepth 100000 in
theorem e_Pa_lostWithout_25 (κ4 : (Int32 × Int32 × Hp) → Res Hp) (κ25 : (Int32 × Int32 × Hp) → Res Hp) (x1 : Int32) (x2 : Int32) (x3 : Int32) (x4 : Int32) (x5 : Int32)  (h : Hp) : Pa_lostWithout_25 κ4 x1 x3 x4  (x2, x5, h) κ25 = exec1 OI S_Pa_lostWithout 1 k_Pa_lostWithout 25 [some (.ref 68), some (.int x1), some (.int x2), some (.int x3), some (.int x4), some (.int x5), none] [] h (runF OI S_Pa_lostWithout [(4, [0, 1, 2, 3], fun vs st h => match vs, st with | [.ref f0, .int x1, .int x2, .int x3], [] => (match Nat.beq f0 68 with | true => κ4 (x2, x3, h) | false => none) | _, _ => none), (25, [0, 1, 2, 3, 4, 5], fun vs st h => match vs, st with | [.ref f0, .int x1, .int x2, .int x3, .int x4, .int x5], [] => (match Nat.beq f0 68 with | true => κ25 (x2, x5, h) | false => none) | _, _ => none)] 1 k_Pa_lostWithout 400) :=
  (x_ite rfl (x_ite rfl (x_bI (f := sF_Pa_reachedBy) rfl (w_Pa_reachedBy _ _ _) fun v2 h1 => (x_bI (f := sF_Bp_bit) rfl (w_Bp_bit _ _) fun v4 h3 => (x_bI (f := sF_Wa_endsFrom) rfl (w_Wa_endsFrom _ _ _) fun v6 h5 => (x_bI (f := sF_Bp_bit) rfl (w_Bp_bit _ _) fun v8 h7 => (x_bI (f := sF_Jint_bitCount) rfl (w_Jint_bitCount _ _) fun v10 h9 => rfl)))))))
def k_Bp_worth : List Ent := [(0, .aload_n 0, 1, [], .null), (1, .getfield 21, 3, [6, 2, 1], .null), (4, .iload_n 1, 1, [], .null), (5, .invokevirtual 130, 3, [175, 2, 2], .null), (8, .ifCond .eq (5), 3, [13], .null), (11, .iconst (-1), 1, [], .int (-1)), (12, .ireturn, 1, [], .null), (13, .aload_n 0, 1, [], .null), (14, .getfield 57, 3, [6, 8, 1], .null), (17, .iload_n 1, 1, [], .null), (18, .invokevirtual 279, 3, [211, 2, 1], .null), (21, .ireturn, 1, [], .null)]
def F_Bp_worth (x1 : Int32) (h : Hp) : Res Hp :=
  bI (F_La_lacks 3 x1 h) fun v2 h1 =>
  if v2 = (0 : Int32) then
  (bI (F_Pa_lostWithout x1 h1) fun v4 h3 =>
  retI v4 h3)
  else
  (retI (-1 : Int32) h1)
def sF_Bp_worth : List Value → Hp → Res Hp := fun as h => match as with | [.ref f0, .int x1] => (match Nat.beq f0 0 with | true => F_Bp_worth x1 h | false => none) | _ => none
theorem w_Bp_worth (x1 : Int32) (h : Hp) : sF_Bp_worth [.ref 0, .int x1] h = F_Bp_worth x1 h := rfl
def S_Bp_worth : Sem Hp := [(175, sF_La_lacks), (211, sF_Pa_lostWithout)]
set_option maxRecDepth 100000 in
theorem e_Bp_worth_0 (x1 : Int32) (h : Hp) : F_Bp_worth x1 h = exec1 OI S_Bp_worth 1 k_Bp_worth 0 [some (.ref 0), some (.int x1)] [] h (runF OI S_Bp_worth [] 1 k_Bp_worth 400) :=
  (x_bI (f := sF_La_lacks) rfl (w_La_lacks _ _ _) fun v2 h1 => (x_ite (x_bI (f := sF_Pa_lostWithout) rfl (w_Pa_lostWithout _ _) fun v4 h3 => rfl) rfl))
def k_Pa_tonguesTo : List Ent := [(0, .iconst 0, 1, [], .int (0)), (1, .istore_n 2, 1, [], .null), (2, .iconst 0, 1, [], .int (0)), (3, .istore_n 3, 1, [], .null), (4, .iload_n 3, 1, [], .null), (5, .iconst 5, 1, [], .int (5)), (6, .if_icmp .ge (29), 3, [35], .null), (9, .aload_n 0, 1, [], .null), (10, .getfield 9, 3, [2, 2, 1], .null), (13, .iload_n 3, 1, [], .null), (14, .iaload, 1, [], .null), (15, .iload_n 1, 1, [], .null), (16, .invokestatic 35, 3, [65, 2, 2], .null), (19, .ifCond .eq (10), 3, [29], .null), (22, .iload_n 2, 1, [], .null), (23, .iload_n 3, 1, [], .null), (24, .invokestatic 43, 3, [64, 1, 1], .null), (27, .ior, 1, [], .null), (28, .istore_n 2, 1, [], .null), (29, .iinc 3 (1), 3, [], .int (1)), (32, .goto (-28), 3, [4], .null), (35, .iload_n 2, 1, [], .null), (36, .ireturn, 1, [], .null)]
def Pa_tonguesTo_4  (x1 : Int32)  : (Int32 × Int32 × Hp) → ((Int32 × Int32 × Hp) → Res Hp) → Res Hp := fun s κ4 => match s with
  | (x2, x3, h) =>
  if (5 : Int32) ≤ x3 then
  (retI x2 h)
  else
  (bif okA 69 100 x3 then
  bI (F_Bp_has (hg h 69 x3.toNatClampNeg) x1 h) fun v2 h1 =>
  if v2 = (0 : Int32) then
  (κ4 (x2, (x3 + (1 : Int32)), h1))
  else
  (bI (F_Bp_bit x3 h1) fun v4 h3 =>
  κ4 ((x2 ||| v4), (x3 + (1 : Int32)), h3))
  else none)
def F_Pa_tonguesTo (x1 : Int32) (h : Hp) : Res Hp :=
  loopC (Pa_tonguesTo_4  x1 ) FU ((0 : Int32), (0 : Int32), h)
def sF_Pa_tonguesTo : List Value → Hp → Res Hp := fun as h => match as with | [.ref f0, .int x1] => (match Nat.beq f0 68 with | true => F_Pa_tonguesTo x1 h | false => none) | _ => none
theorem w_Pa_tonguesTo (x1 : Int32) (h : Hp) : sF_Pa_tonguesTo [.ref 68, .int x1] h = F_Pa_tonguesTo x1 h := rfl
def S_Pa_tonguesTo : Sem Hp := [(65, sF_Bp_has), (64, sF_Bp_bit)]
set_option maxRecDepth 100000 in
theorem e_Pa_tonguesTo_0 (x1 : Int32) (h : Hp) : F_Pa_tonguesTo x1 h = exec1 OI S_Pa_tonguesTo 1 k_Pa_tonguesTo 0 [some (.ref 68), some (.int x1), none, none] [] h (runF OI S_Pa_tonguesTo [(4, [0, 1, 2, 3], fun vs st h => match vs, st with | [.ref f0, .int x1, .int x2, .int x3], [] => (match Nat.beq f0 68 with | true => loopC (Pa_tonguesTo_4  x1 ) FU (x2, x3, h) | false => none) | _, _ => none)] 1 k_Pa_tonguesTo 400) :=
  rfl
set_option maxRecDepth 100000 in
theorem e_Pa_tonguesTo_4 (κ4 : (Int32 × Int32 × Hp) → Res Hp) (x1 : Int32) (x2 : Int32) (x3 : Int32)  (h : Hp) : Pa_tonguesTo_4  x1  (x2, x3, h) κ4 = exec1 OI S_Pa_tonguesTo 1 k_Pa_tonguesTo 4 [some (.ref 68), some (.int x1), some (.int x2), some (.int x3)] [] h (runF OI S_Pa_tonguesTo [(4, [0, 1, 2, 3], fun vs st h => match vs, st with | [.ref f0, .int x1, .int x2, .int x3], [] => (match Nat.beq f0 68 with | true => κ4 (x2, x3, h) | false => none) | _, _ => none)] 1 k_Pa_tonguesTo 400) :=
  (x_ite rfl (x_bif (x_bI (f := sF_Bp_has) rfl (w_Bp_has _ _ _) fun v2 h1 => (x_ite rfl (x_bI (f := sF_Bp_bit) rfl (w_Bp_bit _ _) fun v4 h3 => rfl)))))
def k_Pa_choicesOfPairs : List Ent := [(0, .iconst 0, 1, [], .int (0)), (1, .istore_n 1, 1, [], .null), (2, .iconst 0, 1, [], .int (0)), (3, .istore_n 2, 1, [], .null), (4, .iload_n 2, 1, [], .null), (5, .aload_n 0, 1, [], .null), (6, .getfield 22, 3, [2, 0, 1], .null), (9, .getfield 58, 3, [0, 8, 0], .null), (12, .if_icmp .ge (77), 3, [89], .null), (15, .iconst 0, 1, [], .int (0)), (16, .istore_n 3, 1, [], .null), (17, .iload_n 3, 1, [], .null), (18, .iconst 5, 1, [], .int (5)), (19, .if_icmp .ge (21), 3, [40], .null), (22, .aload_n 0, 1, [], .null), (23, .getfield 9, 3, [2, 2, 1], .null), (26, .iload_n 3, 1, [], .null), (27, .aload_n 0, 1, [], .null), (28, .iload_n 2, 1, [], .null), (29, .iload_n 3, 1, [], .null), (30, .invokevirtual 61, 3, [208, 3, 1], .null), (33, .iastore, 1, [], .null), (34, .iinc 3 (1), 3, [], .int (1)), (37, .goto (-20), 3, [17], .null), (40, .iconst 0, 1, [], .int (0)), (41, .istore_n 3, 1, [], .null), (42, .iload_n 3, 1, [], .null), (43, .aload_n 0, 1, [], .null), (44, .getfield 22, 3, [2, 0, 1], .null), (47, .getfield 58, 3, [0, 8, 0], .null), (50, .if_icmp .ge (33), 3, [83], .null), (53, .aload_n 0, 1, [], .null), (54, .iload_n 3, 1, [], .null), (55, .invokevirtual 79, 3, [214, 2, 1], .null), (58, .istore 4, 2, [], .null), (60, .iload_n 1, 1, [], .null), (61, .iload 4, 2, [], .null), (63, .ifCond .ne (7), 3, [70], .null), (66, .iconst 0, 1, [], .int (0)), (67, .goto (8), 3, [75], .null), (70, .iload 4, 2, [], .null), (72, .invokestatic 43, 3, [64, 1, 1], .null), (75, .ior, 1, [], .null), (76, .istore_n 1, 1, [], .null), (77, .iinc 3 (1), 3, [], .int (1)), (80, .goto (-38), 3, [42], .null), (83, .iinc 2 (1), 3, [], .int (1)), (86, .goto (-82), 3, [4], .null), (89, .iload_n 1, 1, [], .null), (90, .ireturn, 1, [], .null)]
def Pa_choicesOfPairs_42 (κ4 : (Int32 × Int32 × Hp) → Res Hp) (x2 : Int32)  : (Int32 × Int32 × Hp) → ((Int32 × Int32 × Hp) → Res Hp) → Res Hp := fun s κ42 => match s with
  | (x1, x3, h) =>
  if (hg h 3 8) ≤ x3 then
  (κ4 (x1, (x2 + (1 : Int32)), h))
  else
  (bI (F_Pa_tonguesTo x3 h) fun v2 h1 =>
  if v2 = (0 : Int32) then
  (κ42 ((x1 ||| (0 : Int32)), (x3 + (1 : Int32)), h1))
  else
  (bI (F_Bp_bit v2 h1) fun v4 h3 =>
  κ42 ((x1 ||| v4), (x3 + (1 : Int32)), h3)))
def Pa_choicesOfPairs_17 (κ4 : (Int32 × Int32 × Hp) → Res Hp) (x1 : Int32) (x2 : Int32)  : (Int32 × Hp) → ((Int32 × Hp) → Res Hp) → Res Hp := fun s κ17 => match s with
  | (x3, h) =>
  if (5 : Int32) ≤ x3 then
  (loopC (Pa_choicesOfPairs_42 κ4 x2 ) FU (x1, (0 : Int32), h))
  else
  (bI (F_Pa_reachedBy x2 x3 h) fun v2 h1 =>
  bif okA 69 100 x3 then
  bH (hs h1 69 x3.toNatClampNeg v2) fun h3 =>
  κ17 ((x3 + (1 : Int32)), h3)
  else none)
def Pa_choicesOfPairs_4    : (Int32 × Int32 × Hp) → ((Int32 × Int32 × Hp) → Res Hp) → Res Hp := fun s κ4 => match s with
  | (x1, x2, h) =>
  if (hg h 3 8) ≤ x2 then
  (retI x1 h)
  else
  (loopC (Pa_choicesOfPairs_17 κ4 x1 x2 ) FU ((0 : Int32), h))
def F_Pa_choicesOfPairs  (h : Hp) : Res Hp :=
  loopC (Pa_choicesOfPairs_4   ) FU ((0 : Int32), (0 : Int32), h)
def sF_Pa_choicesOfPairs : List Value → Hp → Res Hp := fun as h => match as with | [.ref f0] => (match Nat.beq f0 68 with | true => F_Pa_choicesOfPairs  h | false => none) | _ => none
theorem w_Pa_choicesOfPairs  (h : Hp) : sF_Pa_choicesOfPairs [.ref 68] h = F_Pa_choicesOfPairs  h := rfl
def S_Pa_choicesOfPairs : Sem Hp := [(214, sF_Pa_tonguesTo), (64, sF_Bp_bit), (208, sF_Pa_reachedBy)]
set_option maxRecDepth 100000 in
theorem e_Pa_choicesOfPairs_0  (h : Hp) : F_Pa_choicesOfPairs  h = exec1 OI S_Pa_choicesOfPairs 1 k_Pa_choicesOfPairs 0 [some (.ref 68), none, none, none, none] [] h (runF OI S_Pa_choicesOfPairs [(4, [0, 1, 2], fun vs st h => match vs, st with | [.ref f0, .int x1, .int x2], [] => (match Nat.beq f0 68 with | true => loopC (Pa_choicesOfPairs_4   ) FU (x1, x2, h) | false => none) | _, _ => none)] 1 k_Pa_choicesOfPairs 400) :=
  rfl
set_option maxRecDepth 100000 in
theorem e_Pa_choicesOfPairs_4 (κ4 : (Int32 × Int32 × Hp) → Res Hp) (x1 : Int32) (x2 : Int32)  (h : Hp) : Pa_choicesOfPairs_4    (x1, x2, h) κ4 = exec1 OI S_Pa_choicesOfPairs 1 k_Pa_choicesOfPairs 4 [some (.ref 68), some (.int x1), some (.int x2), none, none] [] h (runF OI S_Pa_choicesOfPairs [(17, [0, 1, 2, 3], fun vs st h => match vs, st with | [.ref f0, .int x1, .int x2, .int x3], [] => (match Nat.beq f0 68 with | true => loopC (Pa_choicesOfPairs_17 κ4 x1 x2 ) FU (x3, h) | false => none) | _, _ => none)] 1 k_Pa_choicesOfPairs 400) :=
  (x_ite rfl rfl)
set_option maxRecDepth 100000 in
theorem e_Pa_choicesOfPairs_17 (κ4 : (Int32 × Int32 × Hp) → Res Hp) (κ17 : (Int32 × Hp) → Res Hp) (x1 : Int32) (x2 : Int32) (x3 : Int32)  (h : Hp) : Pa_choicesOfPairs_17 κ4 x1 x2  (x3, h) κ17 = exec1 OI S_Pa_choicesOfPairs 1 k_Pa_choicesOfPairs 17 [some (.ref 68), some (.int x1), some (.int x2), some (.int x3), none] [] h (runF OI S_Pa_choicesOfPairs [(42, [0, 1, 2, 3], fun vs st h => match vs, st with | [.ref f0, .int x1, .int x2, .int x3], [] => (match Nat.beq f0 68 with | true => loopC (Pa_choicesOfPairs_42 κ4 x2 ) FU (x1, x3, h) | false => none) | _, _ => none), (17, [0, 1, 2, 3], fun vs st h => match vs, st with | [.ref f0, .int x1, .int x2, .int x3], [] => (match Nat.beq f0 68 with | true => κ17 (x3, h) | false => none) | _, _ => none)] 1 k_Pa_choicesOfPairs 400) :=
  (x_ite rfl (x_bI (f := sF_Pa_reachedBy) rfl (w_Pa_reachedBy _ _ _) fun v2 h1 => (x_bif (x_bH fun h3 => rfl))))
set_option maxRecDepth 100000 in
theorem e_Pa_choicesOfPairs_42 (κ4 : (Int32 × Int32 × Hp) → Res Hp) (κ42 : (Int32 × Int32 × Hp) → Res Hp) (x1 : Int32) (x2 : Int32) (x3 : Int32)  (h : Hp) : Pa_choicesOfPairs_42 κ4 x2  (x1, x3, h) κ42 = exec1 OI S_Pa_choicesOfPairs 1 k_Pa_choicesOfPairs 42 [some (.ref 68), some (.int x1), some (.int x2), some (.int x3), none] [] h (runF OI S_Pa_choicesOfPairs [(4, [0, 1, 2], fun vs st h => match vs, st with | [.ref f0, .int x1, .int x2], [] => (match Nat.beq f0 68 with | true => κ4 (x1, x2, h) | false => none) | _, _ => none), (42, [0, 1, 2, 3], fun vs st h => match vs, st with | [.ref f0, .int x1, .int x2, .int x3], [] => (match Nat.beq f0 68 with | true => κ42 (x1, x3, h) | false => none) | _, _ => none)] 1 k_Pa_choicesOfPairs 400) :=
  (x_ite rfl (x_bI (f := sF_Pa_tonguesTo) rfl (w_Pa_tonguesTo _ _) fun v2 h1 => (x_ite rfl (x_bI (f := sF_Bp_bit) rfl (w_Bp_bit _ _) fun v4 h3 => rfl))))
def k_Pa_meetsEach : List Ent := [(0, .iconst 1, 1, [], .int (1)), (1, .istore_n 2, 1, [], .null), (2, .iload_n 2, 1, [], .null), (3, .bipush (31), 2, [], .int (31)), (5, .if_icmp .gt (26), 3, [31], .null), (8, .iload_n 1, 1, [], .null), (9, .iload_n 2, 1, [], .null), (10, .ishr, 1, [], .null), (11, .iconst 1, 1, [], .int (1)), (12, .iand, 1, [], .null), (13, .iconst 1, 1, [], .int (1)), (14, .if_icmp .ne (11), 3, [25], .null), (17, .iload_n 2, 1, [], .null), (18, .iload_n 0, 1, [], .null), (19, .iand, 1, [], .null), (20, .ifCond .ne (5), 3, [25], .null), (23, .iconst 0, 1, [], .int (0)), (24, .ireturn, 1, [], .null), (25, .iinc 2 (1), 3, [], .int (1)), (28, .goto (-26), 3, [2], .null), (31, .iconst 1, 1, [], .int (1)), (32, .ireturn, 1, [], .null)]
def Pa_meetsEach_2  (x0 : Int32) (x1 : Int32) (h : Hp) : (Int32) → ((Int32) → Res Hp) → Res Hp := fun s κ2 => match s with
  | x2 =>
  if (31 : Int32) < x2 then
  (retZ (1 : Int32) h)
  else
  (if ((x1 >>> (x2 &&& 31)) &&& (1 : Int32)) = (1 : Int32) then
  (if (x2 &&& x0) = (0 : Int32) then
  (retZ (0 : Int32) h)
  else
  (κ2 (x2 + (1 : Int32))))
  else
  (κ2 (x2 + (1 : Int32))))
def F_Pa_meetsEach (x0 : Int32) (x1 : Int32) (h : Hp) : Res Hp :=
  loopC (Pa_meetsEach_2  x0 x1 h) FU (1 : Int32)
def sF_Pa_meetsEach : List Value → Hp → Res Hp := fun as h => match as with | [.int x0, .int x1] => F_Pa_meetsEach x0 x1 h | _ => none
theorem w_Pa_meetsEach (x0 : Int32) (x1 : Int32) (h : Hp) : sF_Pa_meetsEach [.int x0, .int x1] h = F_Pa_meetsEach x0 x1 h := rfl
def S_Pa_meetsEach : Sem Hp := []
set_option maxRecDepth 100000 in
theorem e_Pa_meetsEach_0 (x0 : Int32) (x1 : Int32) (h : Hp) : F_Pa_meetsEach x0 x1 h = exec1 OI S_Pa_meetsEach 2 k_Pa_meetsEach 0 [some (.int x0), some (.int x1), none] [] h (runF OI S_Pa_meetsEach [(2, [0, 1, 2], fun vs st h => match vs, st with | [.int x0, .int x1, .int x2], [] => loopC (Pa_meetsEach_2  x0 x1 h) FU x2 | _, _ => none)] 2 k_Pa_meetsEach 400) :=
  rfl
set_option maxRecDepth 100000 in
theorem e_Pa_meetsEach_2 (κ2 : (Int32) → Res Hp) (x0 : Int32) (x1 : Int32) (x2 : Int32)  (h : Hp) : Pa_meetsEach_2  x0 x1 h x2 κ2 = exec1 OI S_Pa_meetsEach 2 k_Pa_meetsEach 2 [some (.int x0), some (.int x1), some (.int x2)] [] h (runF OI S_Pa_meetsEach [(2, [0, 1, 2], fun vs st h => match vs, st with | [.int x0, .int x1, .int x2], [] => κ2 x2 | _, _ => none)] 2 k_Pa_meetsEach 400) :=
  (x_ite rfl (x_ite (x_ite rfl rfl) rfl))
def k_Pa_leastTongues : List Ent := [(0, .aload_n 0, 1, [], .null), (1, .invokevirtual 72, 3, [213, 1, 1], .null), (4, .istore_n 1, 1, [], .null), (5, .bipush (31), 2, [], .int (31)), (7, .istore_n 2, 1, [], .null), (8, .iconst 0, 1, [], .int (0)), (9, .istore_n 3, 1, [], .null), (10, .iload_n 3, 1, [], .null), (11, .bipush (31), 2, [], .int (31)), (13, .if_icmp .ge (30), 3, [43], .null), (16, .iload_n 3, 1, [], .null), (17, .invokestatic 64, 3, [250, 1, 1], .null), (20, .iload_n 2, 1, [], .null), (21, .invokestatic 64, 3, [250, 1, 1], .null), (24, .if_icmp .ge (13), 3, [37], .null), (27, .iload_n 3, 1, [], .null), (28, .iload_n 1, 1, [], .null), (29, .invokestatic 76, 3, [215, 2, 2], .null), (32, .ifCond .eq (5), 3, [37], .null), (35, .iload_n 3, 1, [], .null), (36, .istore_n 2, 1, [], .null), (37, .iinc 3 (1), 3, [], .int (1)), (40, .goto (-30), 3, [10], .null), (43, .iload_n 2, 1, [], .null), (44, .ireturn, 1, [], .null)]
def Pa_leastTongues_10  (x1 : Int32)  : (Int32 × Int32 × Hp) → ((Int32 × Int32 × Hp) → Res Hp) → Res Hp := fun s κ10 => match s with
  | (x2, x3, h) =>
  if (31 : Int32) ≤ x3 then
  (retI x2 h)
  else
  (bI (F_Jint_bitCount x3 h) fun v2 h1 =>
  bI (F_Jint_bitCount x2 h1) fun v4 h3 =>
  if v4 ≤ v2 then
  (κ10 (x2, (x3 + (1 : Int32)), h3))
  else
  (bI (F_Pa_meetsEach x3 x1 h3) fun v6 h5 =>
  if v6 = (0 : Int32) then
  (κ10 (x2, (x3 + (1 : Int32)), h5))
  else
  (κ10 (x3, (x3 + (1 : Int32)), h5))))
def F_Pa_leastTongues  (h : Hp) : Res Hp :=
  bI (F_Pa_choicesOfPairs  h) fun v2 h1 =>
  loopC (Pa_leastTongues_10  v2 ) FU ((31 : Int32), (0 : Int32), h1)
def sF_Pa_leastTongues : List Value → Hp → Res Hp := fun as h => match as with | [.ref f0] => (match Nat.beq f0 68 with | true => F_Pa_leastTongues  h | false => none) | _ => none
theorem w_Pa_leastTongues  (h : Hp) : sF_Pa_leastTongues [.ref 68] h = F_Pa_leastTongues  h := rfl
def S_Pa_leastTongues : Sem Hp := [(213, sF_Pa_choicesOfPairs), (250, sF_Jint_bitCount), (215, sF_Pa_meetsEach)]
set_option maxRecDepth 100000 in
theorem e_Pa_leastTongues_0  (h : Hp) : F_Pa_leastTongues  h = exec1 OI S_Pa_leastTongues 1 k_Pa_leastTongues 0 [some (.ref 68), none, none, none] [] h (runF OI S_Pa_leastTongues [(10, [1, 2, 3], fun vs st h => match vs, st with | [.int x1, .int x2, .int x3], [] => loopC (Pa_leastTongues_10  x1 ) FU (x2, x3, h) | _, _ => none)] 1 k_Pa_leastTongues 400) :=
  (x_bI (f := sF_Pa_choicesOfPairs) rfl (w_Pa_choicesOfPairs  _) fun v2 h1 => rfl)
set_option maxRecDepth 100000 in
theorem e_Pa_leastTongues_10 (κ10 : (Int32 × Int32 × Hp) → Res Hp) (x1 : Int32) (x2 : Int32) (x3 : Int32)  (h : Hp) : Pa_leastTongues_10  x1  (x2, x3, h) κ10 = exec1 OI S_Pa_leastTongues 1 k_Pa_leastTongues 10 [none, some (.int x1), some (.int x2), some (.int x3)] [] h (runF OI S_Pa_leastTongues [(10, [1, 2, 3], fun vs st h => match vs, st with | [.int x1, .int x2, .int x3], [] => κ10 (x2, x3, h) | _, _ => none)] 1 k_Pa_leastTongues 400) :=
  (x_ite rfl (x_bI (f := sF_Jint_bitCount) rfl (w_Jint_bitCount _ _) fun v2 h1 => (x_bI (f := sF_Jint_bitCount) rfl (w_Jint_bitCount _ _) fun v4 h3 => (x_ite rfl (x_bI (f := sF_Pa_meetsEach) rfl (w_Pa_meetsEach _ _ _) fun v6 h5 => (x_ite rfl rfl))))))
def k_Bp_fewest : List Ent := [(0, .aload_n 0, 1, [], .null), (1, .aload_n 0, 1, [], .null), (2, .getfield 57, 3, [6, 8, 1], .null), (5, .invokevirtual 282, 3, [212, 1, 1], .null), (8, .putfield 69, 3, [6, 11, 0], .null), (11, .aload_n 0, 1, [], .null), (12, .getfield 69, 3, [6, 11, 0], .null), (15, .invokestatic 285, 3, [250, 1, 1], .null), (18, .ireturn, 1, [], .null)]
def F_Bp_fewest  (h : Hp) : Res Hp :=
  bI (F_Pa_leastTongues  h) fun v2 h1 =>
  bH (hs h1 0 11 v2) fun h3 =>
  bI (F_Jint_bitCount (hg h3 0 11) h3) fun v5 h4 =>
  retI v5 h4
def sF_Bp_fewest : List Value → Hp → Res Hp := fun as h => match as with | [.ref f0] => (match Nat.beq f0 0 with | true => F_Bp_fewest  h | false => none) | _ => none
theorem w_Bp_fewest  (h : Hp) : sF_Bp_fewest [.ref 0] h = F_Bp_fewest  h := rfl
def S_Bp_fewest : Sem Hp := [(212, sF_Pa_leastTongues), (250, sF_Jint_bitCount)]
set_option maxRecDepth 100000 in
theorem e_Bp_fewest_0  (h : Hp) : F_Bp_fewest  h = exec1 OI S_Bp_fewest 1 k_Bp_fewest 0 [some (.ref 0)] [] h (runF OI S_Bp_fewest [] 1 k_Bp_fewest 400) :=
  (x_bI (f := sF_Pa_leastTongues) rfl (w_Pa_leastTongues  _) fun v2 h1 => (x_bH fun h3 => (x_bI (f := sF_Jint_bitCount) rfl (w_Jint_bitCount _ _) fun v5 h4 => rfl)))
def k_Bp_refusedPairs : List Ent := [(0, .iload_n 1, 1, [], .null), (1, .invokestatic 75, 3, [52, 1, 2], .null), (4, .ifCond .eq (5), 3, [9], .null), (7, .iconst (-1), 1, [], .int (-1)), (8, .ireturn, 1, [], .null), (9, .aload_n 0, 1, [], .null), (10, .getfield 11, 3, [6, 0, 1], .null), (13, .iload_n 1, 1, [], .null), (14, .aaload, 1, [], .null), (15, .astore_n 2, 1, [], .null), (16, .aload_n 2, 1, [], .null), (17, .invokevirtual 96, 3, [225, 1, 2], .null), (20, .ifCond .ne (9), 3, [29], .null), (23, .aload_n 0, 1, [], .null), (24, .iconst 1, 1, [], .int (1)), (25, .invokevirtual 79, 3, [50, 2, 1], .null), (28, .ireturn, 1, [], .null), (29, .aload_n 2, 1, [], .null), (30, .getfield 100, 3, [4, 1, 0], .null), (33, .iconst 2, 1, [], .int (2)), (34, .irem, 1, [], .null), (35, .ifCond .eq (9), 3, [44], .null), (38, .aload_n 0, 1, [], .null), (39, .iconst 5, 1, [], .int (5)), (40, .invokevirtual 79, 3, [50, 2, 1], .null), (43, .ireturn, 1, [], .null), (44, .iconst 0, 1, [], .int (0)), (45, .istore_n 3, 1, [], .null), (46, .iload_n 3, 1, [], .null), (47, .iconst 1, 1, [], .int (1)), (48, .iadd, 1, [], .null), (49, .aload_n 2, 1, [], .null), (50, .getfield 100, 3, [4, 1, 0], .null), (53, .if_icmp .ge (90), 3, [143], .null), (56, .aload_n 2, 1, [], .null), (57, .getfield 90, 3, [4, 0, 1], .null), (60, .iload_n 3, 1, [], .null), (61, .iaload, 1, [], .null), (62, .ifCond .lt (26), 3, [88], .null), (65, .aload_n 2, 1, [], .null), (66, .getfield 90, 3, [4, 0, 1], .null), (69, .iload_n 3, 1, [], .null), (70, .iaload, 1, [], .null), (71, .aload_n 0, 1, [], .null), (72, .getfield 21, 3, [6, 2, 1], .null), (75, .getfield 127, 3, [0, 8, 0], .null), (78, .invokestatic 152, 3, [64, 1, 1], .null), (81, .if_icmp .ge (7), 3, [88], .null), (84, .iconst 1, 1, [], .int (1)), (85, .goto (4), 3, [89], .null), (88, .iconst 0, 1, [], .int (0)), (89, .istore 4, 2, [], .null), (91, .aload_n 2, 1, [], .null), (92, .getfield 90, 3, [4, 0, 1], .null), (95, .iload_n 3, 1, [], .null), (96, .iconst 1, 1, [], .int (1)), (97, .iadd, 1, [], .null), (98, .iaload, 1, [], .null), (99, .ifCond .eq (15), 3, [114], .null), (102, .aload_n 2, 1, [], .null), (103, .getfield 90, 3, [4, 0, 1], .null), (106, .iload_n 3, 1, [], .null), (107, .iconst 1, 1, [], .int (1)), (108, .iadd, 1, [], .null), (109, .iaload, 1, [], .null), (110, .iconst 1, 1, [], .int (1)), (111, .if_icmp .ne (7), 3, [118], .null), (114, .iconst 1, 1, [], .int (1)), (115, .goto (4), 3, [119], .null), (118, .iconst 0, 1, [], .int (0)), (119, .istore 5, 2, [], .null), (121, .iload 4, 2, [], .null), (123, .ifCond .eq (8), 3, [131], .null), (126, .iload 5, 2, [], .null), (128, .ifCond .ne (9), 3, [137], .null), (131, .aload_n 0, 1, [], .null), (132, .iconst 3, 1, [], .int (3)), (133, .invokevirtual 79, 3, [50, 2, 1], .null), (136, .ireturn, 1, [], .null), (137, .iinc 3 (2), 3, [], .int (2)), (140, .goto (-94), 3, [46], .null), (143, .iconst 0, 1, [], .int (0)), (144, .ireturn, 1, [], .null)]
def Bp_refusedPairs_46  (o2 : Nat)  : (Int32 × Hp) → ((Int32 × Hp) → Res Hp) → Res Hp := fun s κ46 => match s with
  | (x3, h) =>
  bif okF o2 4 1 0 then
  if (hg h o2 1) ≤ (x3 + (1 : Int32)) then
  (retI (0 : Int32) h)
  else
  (bif okF o2 4 0 1 then
  bif okA (shR o2 0) 100 x3 then
  if (hg h (shR o2 0) x3.toNatClampNeg) < (0 : Int32) then
  (bif okF o2 4 0 1 then
  bif okA (shR o2 0) 100 (x3 + (1 : Int32)) then
  if (hg h (shR o2 0) (x3 + (1 : Int32)).toNatClampNeg) = (0 : Int32) then
  (bI (F_Bp_found (3 : Int32) h) fun v2 h1 =>
  retI v2 h1)
  else
  (bif okF o2 4 0 1 then
  bif okA (shR o2 0) 100 (x3 + (1 : Int32)) then
  if (hg h (shR o2 0) (x3 + (1 : Int32)).toNatClampNeg) = (1 : Int32) then
  (bI (F_Bp_found (3 : Int32) h) fun v6 h5 =>
  retI v6 h5)
  else
  (bI (F_Bp_found (3 : Int32) h) fun v4 h3 =>
  retI v4 h3)
  else none
  else none)
  else none
  else none)
  else
  (bif okF o2 4 0 1 then
  bif okA (shR o2 0) 100 x3 then
  bI (F_Bp_bit (hg h 3 8) h) fun v8 h7 =>
  if v8 ≤ (hg h (shR o2 0) x3.toNatClampNeg) then
  (bif okF o2 4 0 1 then
  bif okA (shR o2 0) 100 (x3 + (1 : Int32)) then
  if (hg h7 (shR o2 0) (x3 + (1 : Int32)).toNatClampNeg) = (0 : Int32) then
  (bI (F_Bp_found (3 : Int32) h7) fun v10 h9 =>
  retI v10 h9)
  else
  (bif okF o2 4 0 1 then
  bif okA (shR o2 0) 100 (x3 + (1 : Int32)) then
  if (hg h7 (shR o2 0) (x3 + (1 : Int32)).toNatClampNeg) = (1 : Int32) then
  (bI (F_Bp_found (3 : Int32) h7) fun v14 h13 =>
  retI v14 h13)
  else
  (bI (F_Bp_found (3 : Int32) h7) fun v12 h11 =>
  retI v12 h11)
  else none
  else none)
  else none
  else none)
  else
  (bif okF o2 4 0 1 then
  bif okA (shR o2 0) 100 (x3 + (1 : Int32)) then
  if (hg h7 (shR o2 0) (x3 + (1 : Int32)).toNatClampNeg) = (0 : Int32) then
  (κ46 ((x3 + (2 : Int32)), h7))
  else
  (bif okF o2 4 0 1 then
  bif okA (shR o2 0) 100 (x3 + (1 : Int32)) then
  if (hg h7 (shR o2 0) (x3 + (1 : Int32)).toNatClampNeg) = (1 : Int32) then
  (κ46 ((x3 + (2 : Int32)), h7))
  else
  (bI (F_Bp_found (3 : Int32) h7) fun v16 h15 =>
  retI v16 h15)
  else none
  else none)
  else none
  else none)
  else none
  else none)
  else none
  else none)
  else none
def F_Bp_refusedPairs (x1 : Int32) (h : Hp) : Res Hp :=
  bI (F_Bp_noRow x1 h) fun v2 h1 =>
  if v2 = (0 : Int32) then
  (bif okR 1 x1 then
  bI (F_Sh_isThere (shR 1 x1.toNatClampNeg) h1) fun v4 h3 =>
  if v4 = (0 : Int32) then
  (bI (F_Bp_found (1 : Int32) h3) fun v8 h7 =>
  retI v8 h7)
  else
  (bif okF (shR 1 x1.toNatClampNeg) 4 1 0 then
  if ((hg h3 (shR 1 x1.toNatClampNeg) 1) - (hg h3 (shR 1 x1.toNatClampNeg) 1) / (2 : Int32) * (2 : Int32)) = (0 : Int32) then
  (loopC (Bp_refusedPairs_46  (shR 1 x1.toNatClampNeg) ) FU ((0 : Int32), h3))
  else
  (bI (F_Bp_found (5 : Int32) h3) fun v6 h5 =>
  retI v6 h5)
  else none)
  else none)
  else
  (retI (-1 : Int32) h1)
def sF_Bp_refusedPairs : List Value → Hp → Res Hp := fun as h => match as with | [.ref f0, .int x1] => (match Nat.beq f0 0 with | true => F_Bp_refusedPairs x1 h | false => none) | _ => none
theorem w_Bp_refusedPairs (x1 : Int32) (h : Hp) : sF_Bp_refusedPairs [.ref 0, .int x1] h = F_Bp_refusedPairs x1 h := rfl
def S_Bp_refusedPairs : Sem Hp := [(52, sF_Bp_noRow), (225, sF_Sh_isThere), (50, sF_Bp_found), (64, sF_Bp_bit)]
set_option maxRecDepth 100000 in
theorem e_Bp_refusedPairs_0 (x1 : Int32) (h : Hp) : F_Bp_refusedPairs x1 h = exec1 OI S_Bp_refusedPairs 1 k_Bp_refusedPairs 0 [some (.ref 0), some (.int x1), none, none, none, none] [] h (runF OI S_Bp_refusedPairs [(46, [0, 2, 3], fun vs st h => match vs, st with | [.ref f0, .ref o2, .int x3], [] => (match Nat.beq f0 0 with | true => loopC (Bp_refusedPairs_46  o2 ) FU (x3, h) | false => none) | _, _ => none)] 1 k_Bp_refusedPairs 400) :=
  (x_bI (f := sF_Bp_noRow) rfl (w_Bp_noRow _ _) fun v2 h1 => (x_ite (x_bif (x_bI (f := sF_Sh_isThere) rfl (w_Sh_isThere _ _) fun v4 h3 => (x_ite (x_bI (f := sF_Bp_found) rfl (w_Bp_found _ _) fun v8 h7 => rfl) (x_bif (x_ite rfl (x_bI (f := sF_Bp_found) rfl (w_Bp_found _ _) fun v6 h5 => rfl)))))) rfl))
set_option maxRecDepth 100000 in
theorem e_Bp_refusedPairs_46 (κ46 : (Int32 × Hp) → Res Hp) (o2 : Nat) (x3 : Int32)  (h : Hp) : Bp_refusedPairs_46  o2  (x3, h) κ46 = exec1 OI S_Bp_refusedPairs 1 k_Bp_refusedPairs 46 [some (.ref 0), none, some (.ref o2), some (.int x3), none, none] [] h (runF OI S_Bp_refusedPairs [(46, [0, 2, 3], fun vs st h => match vs, st with | [.ref f0, .ref o2, .int x3], [] => (match Nat.beq f0 0 with | true => κ46 (x3, h) | false => none) | _, _ => none)] 1 k_Bp_refusedPairs 400) :=
  (x_bif (x_ite rfl (x_bif (x_bif (x_ite (x_bif (x_bif (x_ite (x_bI (f := sF_Bp_found) rfl (w_Bp_found _ _) fun v2 h1 => rfl) (x_bif (x_bif (x_ite (x_bI (f := sF_Bp_found) rfl (w_Bp_found _ _) fun v6 h5 => rfl) (x_bI (f := sF_Bp_found) rfl (w_Bp_found _ _) fun v4 h3 => rfl))))))) (x_bif (x_bif (x_bI (f := sF_Bp_bit) rfl (w_Bp_bit _ _) fun v8 h7 => (x_ite (x_bif (x_bif (x_ite (x_bI (f := sF_Bp_found) rfl (w_Bp_found _ _) fun v10 h9 => rfl) (x_bif (x_bif (x_ite (x_bI (f := sF_Bp_found) rfl (w_Bp_found _ _) fun v14 h13 => rfl) (x_bI (f := sF_Bp_found) rfl (w_Bp_found _ _) fun v12 h11 => rfl))))))) (x_bif (x_bif (x_ite rfl (x_bif (x_bif (x_ite rfl (x_bI (f := sF_Bp_found) rfl (w_Bp_found _ _) fun v16 h15 => rfl))))))))))))))))
def k_Bp_readsSo : List Ent := [(0, .iconst 0, 1, [], .int (0)), (1, .istore_n 2, 1, [], .null), (2, .iload_n 2, 1, [], .null), (3, .iconst 1, 1, [], .int (1)), (4, .iadd, 1, [], .null), (5, .aload_n 0, 1, [], .null), (6, .getfield 100, 3, [4, 1, 0], .null), (9, .if_icmp .ge (49), 3, [58], .null), (12, .aload_n 0, 1, [], .null), (13, .getfield 90, 3, [4, 0, 1], .null), (16, .iload_n 2, 1, [], .null), (17, .iaload, 1, [], .null), (18, .iload_n 1, 1, [], .null), (19, .iand, 1, [], .null), (20, .ifCond .eq (7), 3, [27], .null), (23, .iconst 1, 1, [], .int (1)), (24, .goto (4), 3, [28], .null), (27, .iconst 0, 1, [], .int (0)), (28, .istore_n 3, 1, [], .null), (29, .iload_n 3, 1, [], .null), (30, .aload_n 0, 1, [], .null), (31, .getfield 90, 3, [4, 0, 1], .null), (34, .iload_n 2, 1, [], .null), (35, .iconst 1, 1, [], .int (1)), (36, .iadd, 1, [], .null), (37, .iaload, 1, [], .null), (38, .iconst 1, 1, [], .int (1)), (39, .if_icmp .ne (7), 3, [46], .null), (42, .iconst 1, 1, [], .int (1)), (43, .goto (4), 3, [47], .null), (46, .iconst 0, 1, [], .int (0)), (47, .if_icmp .eq (5), 3, [52], .null), (50, .iconst 0, 1, [], .int (0)), (51, .ireturn, 1, [], .null), (52, .iinc 2 (2), 3, [], .int (2)), (55, .goto (-53), 3, [2], .null), (58, .iconst 1, 1, [], .int (1)), (59, .ireturn, 1, [], .null)]
def Bp_readsSo_2  (o0 : Nat) (x1 : Int32) (h : Hp) : (Int32) → ((Int32) → Res Hp) → Res Hp := fun s κ2 => match s with
  | x2 =>
  bif okF o0 4 1 0 then
  if (hg h o0 1) ≤ (x2 + (1 : Int32)) then
  (retZ (1 : Int32) h)
  else
  (bif okF o0 4 0 1 then
  bif okA (shR o0 0) 100 x2 then
  if ((hg h (shR o0 0) x2.toNatClampNeg) &&& x1) = (0 : Int32) then
  (bif okF o0 4 0 1 then
  bif okA (shR o0 0) 100 (x2 + (1 : Int32)) then
  if (hg h (shR o0 0) (x2 + (1 : Int32)).toNatClampNeg) = (1 : Int32) then
  (retZ (0 : Int32) h)
  else
  (κ2 (x2 + (2 : Int32)))
  else none
  else none)
  else
  (bif okF o0 4 0 1 then
  bif okA (shR o0 0) 100 (x2 + (1 : Int32)) then
  if (hg h (shR o0 0) (x2 + (1 : Int32)).toNatClampNeg) = (1 : Int32) then
  (κ2 (x2 + (2 : Int32)))
  else
  (retZ (0 : Int32) h)
  else none
  else none)
  else none
  else none)
  else none
def F_Bp_readsSo (o0 : Nat) (x1 : Int32) (h : Hp) : Res Hp :=
  loopC (Bp_readsSo_2  o0 x1 h) FU (0 : Int32)
def sF_Bp_readsSo : List Value → Hp → Res Hp := fun as h => match as with | [.ref o0, .int x1] => F_Bp_readsSo o0 x1 h | _ => none
theorem w_Bp_readsSo (o0 : Nat) (x1 : Int32) (h : Hp) : sF_Bp_readsSo [.ref o0, .int x1] h = F_Bp_readsSo o0 x1 h := rfl
def S_Bp_readsSo : Sem Hp := []
set_option maxRecDepth 100000 in
theorem e_Bp_readsSo_0 (o0 : Nat) (x1 : Int32) (h : Hp) : F_Bp_readsSo o0 x1 h = exec1 OI S_Bp_readsSo 2 k_Bp_readsSo 0 [some (.ref o0), some (.int x1), none, none] [] h (runF OI S_Bp_readsSo [(2, [0, 1, 2], fun vs st h => match vs, st with | [.ref o0, .int x1, .int x2], [] => loopC (Bp_readsSo_2  o0 x1 h) FU x2 | _, _ => none)] 2 k_Bp_readsSo 400) :=
  rfl
set_option maxRecDepth 100000 in
theorem e_Bp_readsSo_2 (κ2 : (Int32) → Res Hp) (o0 : Nat) (x1 : Int32) (x2 : Int32)  (h : Hp) : Bp_readsSo_2  o0 x1 h x2 κ2 = exec1 OI S_Bp_readsSo 2 k_Bp_readsSo 2 [some (.ref o0), some (.int x1), some (.int x2), none] [] h (runF OI S_Bp_readsSo [(2, [0, 1, 2], fun vs st h => match vs, st with | [.ref o0, .int x1, .int x2], [] => κ2 x2 | _, _ => none)] 2 k_Bp_readsSo 400) :=
  (x_bif (x_ite rfl (x_bif (x_bif (x_ite (x_bif (x_bif (x_ite rfl rfl))) (x_bif (x_bif (x_ite rfl rfl))))))))
end
end
section
noncomputable section
def k_Bp_reader : List Ent := [(0, .aload_n 0, 1, [], .null), (1, .iload_n 1, 1, [], .null), (2, .invokevirtual 290, 3, [61, 2, 1], .null), (5, .istore_n 2, 1, [], .null), (6, .iload_n 2, 1, [], .null), (7, .ifCond .eq (5), 3, [12], .null), (10, .iload_n 2, 1, [], .null), (11, .ireturn, 1, [], .null), (12, .iconst 0, 1, [], .int (0)), (13, .istore_n 3, 1, [], .null), (14, .iconst 0, 1, [], .int (0)), (15, .istore 4, 2, [], .null), (17, .iload 4, 2, [], .null), (19, .aload_n 0, 1, [], .null), (20, .getfield 21, 3, [6, 2, 1], .null), (23, .getfield 127, 3, [0, 8, 0], .null), (26, .if_icmp .ge (34), 3, [60], .null), (29, .aload_n 0, 1, [], .null), (30, .getfield 11, 3, [6, 0, 1], .null), (33, .iload_n 1, 1, [], .null), (34, .aaload, 1, [], .null), (35, .iload 4, 2, [], .null), (37, .invokestatic 152, 3, [64, 1, 1], .null), (40, .invokestatic 293, 3, [62, 2, 2], .null), (43, .ifCond .eq (11), 3, [54], .null), (46, .iload_n 3, 1, [], .null), (47, .iload 4, 2, [], .null), (49, .invokestatic 152, 3, [64, 1, 1], .null), (52, .ior, 1, [], .null), (53, .istore_n 3, 1, [], .null), (54, .iinc 4 (1), 3, [], .int (1)), (57, .goto (-40), 3, [17], .null), (60, .iload_n 3, 1, [], .null), (61, .ireturn, 1, [], .null)]
def Bp_reader_17  (x1 : Int32)  : (Int32 × Int32 × Hp) → ((Int32 × Int32 × Hp) → Res Hp) → Res Hp := fun s κ17 => match s with
  | (x3, x4, h) =>
  if (hg h 3 8) ≤ x4 then
  (retI x3 h)
  else
  (bif okR 1 x1 then
  bI (F_Bp_bit x4 h) fun v2 h1 =>
  bI (F_Bp_readsSo (shR 1 x1.toNatClampNeg) v2 h1) fun v4 h3 =>
  if v4 = (0 : Int32) then
  (κ17 (x3, (x4 + (1 : Int32)), h3))
  else
  (bI (F_Bp_bit x4 h3) fun v6 h5 =>
  κ17 ((x3 ||| v6), (x4 + (1 : Int32)), h5))
  else none)
def F_Bp_reader (x1 : Int32) (h : Hp) : Res Hp :=
  bI (F_Bp_refusedPairs x1 h) fun v2 h1 =>
  if v2 = (0 : Int32) then
  (loopC (Bp_reader_17  x1 ) FU ((0 : Int32), (0 : Int32), h1))
  else
  (retI v2 h1)
def sF_Bp_reader : List Value → Hp → Res Hp := fun as h => match as with | [.ref f0, .int x1] => (match Nat.beq f0 0 with | true => F_Bp_reader x1 h | false => none) | _ => none
theorem w_Bp_reader (x1 : Int32) (h : Hp) : sF_Bp_reader [.ref 0, .int x1] h = F_Bp_reader x1 h := rfl
def S_Bp_reader : Sem Hp := [(61, sF_Bp_refusedPairs), (64, sF_Bp_bit), (62, sF_Bp_readsSo)]
set_option maxRecDepth 100000 in
theorem e_Bp_reader_0 (x1 : Int32) (h : Hp) : F_Bp_reader x1 h = exec1 OI S_Bp_reader 1 k_Bp_reader 0 [some (.ref 0), some (.int x1), none, none, none] [] h (runF OI S_Bp_reader [(17, [0, 1, 3, 4], fun vs st h => match vs, st with | [.ref f0, .int x1, .int x3, .int x4], [] => (match Nat.beq f0 0 with | true => loopC (Bp_reader_17  x1 ) FU (x3, x4, h) | false => none) | _, _ => none)] 1 k_Bp_reader 400) :=
  (x_bI (f := sF_Bp_refusedPairs) rfl (w_Bp_refusedPairs _ _) fun v2 h1 => (x_ite rfl rfl))
set_option maxRecDepth 100000 in
theorem e_Bp_reader_17 (κ17 : (Int32 × Int32 × Hp) → Res Hp) (x1 : Int32) (x3 : Int32) (x4 : Int32)  (h : Hp) : Bp_reader_17  x1  (x3, x4, h) κ17 = exec1 OI S_Bp_reader 1 k_Bp_reader 17 [some (.ref 0), some (.int x1), none, some (.int x3), some (.int x4)] [] h (runF OI S_Bp_reader [(17, [0, 1, 3, 4], fun vs st h => match vs, st with | [.ref f0, .int x1, .int x3, .int x4], [] => (match Nat.beq f0 0 with | true => κ17 (x3, x4, h) | false => none) | _, _ => none)] 1 k_Bp_reader 400) :=
  (x_ite rfl (x_bif (x_bI (f := sF_Bp_bit) rfl (w_Bp_bit _ _) fun v2 h1 => (x_bI (f := sF_Bp_readsSo) rfl (w_Bp_readsSo _ _ _) fun v4 h3 => (x_ite rfl (x_bI (f := sF_Bp_bit) rfl (w_Bp_bit _ _) fun v6 h5 => rfl))))))
def k_Bp_readers : List Ent := [(0, .aload_n 0, 1, [], .null), (1, .iload_n 1, 1, [], .null), (2, .invokevirtual 290, 3, [61, 2, 1], .null), (5, .istore_n 2, 1, [], .null), (6, .iload_n 2, 1, [], .null), (7, .ifCond .eq (5), 3, [12], .null), (10, .iload_n 2, 1, [], .null), (11, .ireturn, 1, [], .null), (12, .iconst 0, 1, [], .int (0)), (13, .istore_n 3, 1, [], .null), (14, .iconst 0, 1, [], .int (0)), (15, .istore 4, 2, [], .null), (17, .iload 4, 2, [], .null), (19, .aload_n 0, 1, [], .null), (20, .getfield 21, 3, [6, 2, 1], .null), (23, .getfield 127, 3, [0, 8, 0], .null), (26, .if_icmp .ge (59), 3, [85], .null), (29, .iload 4, 2, [], .null), (31, .iconst 1, 1, [], .int (1)), (32, .iadd, 1, [], .null), (33, .istore 5, 2, [], .null), (35, .iload 5, 2, [], .null), (37, .aload_n 0, 1, [], .null), (38, .getfield 21, 3, [6, 2, 1], .null), (41, .getfield 127, 3, [0, 8, 0], .null), (44, .if_icmp .ge (35), 3, [79], .null), (47, .aload_n 0, 1, [], .null), (48, .getfield 11, 3, [6, 0, 1], .null), (51, .iload_n 1, 1, [], .null), (52, .aaload, 1, [], .null), (53, .iload 4, 2, [], .null), (55, .invokestatic 152, 3, [64, 1, 1], .null), (58, .iload 5, 2, [], .null), (60, .invokestatic 152, 3, [64, 1, 1], .null), (63, .ior, 1, [], .null), (64, .invokestatic 293, 3, [62, 2, 2], .null), (67, .ifCond .eq (6), 3, [73], .null), (70, .iinc 3 (1), 3, [], .int (1)), (73, .iinc 5 (1), 3, [], .int (1)), (76, .goto (-41), 3, [35], .null), (79, .iinc 4 (1), 3, [], .int (1)), (82, .goto (-65), 3, [17], .null), (85, .iload_n 3, 1, [], .null), (86, .ireturn, 1, [], .null)]
def Bp_readers_35 (κ17 : (Int32 × Int32 × Hp) → Res Hp) (x1 : Int32) (x4 : Int32)  : (Int32 × Int32 × Hp) → ((Int32 × Int32 × Hp) → Res Hp) → Res Hp := fun s κ35 => match s with
  | (x3, x5, h) =>
  if (hg h 3 8) ≤ x5 then
  (κ17 (x3, (x4 + (1 : Int32)), h))
  else
  (bif okR 1 x1 then
  bI (F_Bp_bit x4 h) fun v2 h1 =>
  bI (F_Bp_bit x5 h1) fun v4 h3 =>
  bI (F_Bp_readsSo (shR 1 x1.toNatClampNeg) (v2 ||| v4) h3) fun v6 h5 =>
  if v6 = (0 : Int32) then
  (κ35 (x3, (x5 + (1 : Int32)), h5))
  else
  (κ35 ((x3 + (1 : Int32)), (x5 + (1 : Int32)), h5))
  else none)
def Bp_readers_17  (x1 : Int32)  : (Int32 × Int32 × Hp) → ((Int32 × Int32 × Hp) → Res Hp) → Res Hp := fun s κ17 => match s with
  | (x3, x4, h) =>
  if (hg h 3 8) ≤ x4 then
  (retI x3 h)
  else
  (loopC (Bp_readers_35 κ17 x1 x4 ) FU (x3, (x4 + (1 : Int32)), h))
def F_Bp_readers (x1 : Int32) (h : Hp) : Res Hp :=
  bI (F_Bp_refusedPairs x1 h) fun v2 h1 =>
  if v2 = (0 : Int32) then
  (loopC (Bp_readers_17  x1 ) FU ((0 : Int32), (0 : Int32), h1))
  else
  (retI v2 h1)
def sF_Bp_readers : List Value → Hp → Res Hp := fun as h => match as with | [.ref f0, .int x1] => (match Nat.beq f0 0 with | true => F_Bp_readers x1 h | false => none) | _ => none
theorem w_Bp_readers (x1 : Int32) (h : Hp) : sF_Bp_readers [.ref 0, .int x1] h = F_Bp_readers x1 h := rfl
def S_Bp_readers : Sem Hp := [(61, sF_Bp_refusedPairs), (64, sF_Bp_bit), (62, sF_Bp_readsSo)]
set_option maxRecDepth 100000 in
theorem e_Bp_readers_0 (x1 : Int32) (h : Hp) : F_Bp_readers x1 h = exec1 OI S_Bp_readers 1 k_Bp_readers 0 [some (.ref 0), some (.int x1), none, none, none, none] [] h (runF OI S_Bp_readers [(17, [0, 1, 3, 4], fun vs st h => match vs, st with | [.ref f0, .int x1, .int x3, .int x4], [] => (match Nat.beq f0 0 with | true => loopC (Bp_readers_17  x1 ) FU (x3, x4, h) | false => none) | _, _ => none)] 1 k_Bp_readers 400) :=
  (x_bI (f := sF_Bp_refusedPairs) rfl (w_Bp_refusedPairs _ _) fun v2 h1 => (x_ite rfl rfl))
set_option maxRecDepth 100000 in
theorem e_Bp_readers_17 (κ17 : (Int32 × Int32 × Hp) → Res Hp) (x1 : Int32) (x3 : Int32) (x4 : Int32)  (h : Hp) : Bp_readers_17  x1  (x3, x4, h) κ17 = exec1 OI S_Bp_readers 1 k_Bp_readers 17 [some (.ref 0), some (.int x1), none, some (.int x3), some (.int x4), none] [] h (runF OI S_Bp_readers [(35, [0, 1, 3, 4, 5], fun vs st h => match vs, st with | [.ref f0, .int x1, .int x3, .int x4, .int x5], [] => (match Nat.beq f0 0 with | true => loopC (Bp_readers_35 κ17 x1 x4 ) FU (x3, x5, h) | false => none) | _, _ => none)] 1 k_Bp_readers 400) :=
  (x_ite rfl rfl)
set_option maxRecDepth 100000 in
theorem e_Bp_readers_35 (κ17 : (Int32 × Int32 × Hp) → Res Hp) (κ35 : (Int32 × Int32 × Hp) → Res Hp) (x1 : Int32) (x3 : Int32) (x4 : Int32) (x5 : Int32)  (h : Hp) : Bp_readers_35 κ17 x1 x4  (x3, x5, h) κ35 = exec1 OI S_Bp_readers 1 k_Bp_readers 35 [some (.ref 0), some (.int x1), none, some (.int x3), some (.int x4), some (.int x5)] [] h (runF OI S_Bp_readers [(17, [0, 1, 3, 4], fun vs st h => match vs, st with | [.ref f0, .int x1, .int x3, .int x4], [] => (match Nat.beq f0 0 with | true => κ17 (x3, x4, h) | false => none) | _, _ => none), (35, [0, 1, 3, 4, 5], fun vs st h => match vs, st with | [.ref f0, .int x1, .int x3, .int x4, .int x5], [] => (match Nat.beq f0 0 with | true => κ35 (x3, x5, h) | false => none) | _, _ => none)] 1 k_Bp_readers 400) :=
  (x_ite rfl (x_bif (x_bI (f := sF_Bp_bit) rfl (w_Bp_bit _ _) fun v2 h1 => (x_bI (f := sF_Bp_bit) rfl (w_Bp_bit _ _) fun v4 h3 => (x_bI (f := sF_Bp_readsSo) rfl (w_Bp_readsSo _ _ _) fun v6 h5 => (x_ite rfl rfl))))))
def k_Bp_knows : List Ent := [(0, .iload_n 1, 1, [], .null), (1, .invokestatic 75, 3, [52, 1, 2], .null), (4, .ifCond .eq (5), 3, [9], .null), (7, .iconst (-1), 1, [], .int (-1)), (8, .ireturn, 1, [], .null), (9, .aload_n 0, 1, [], .null), (10, .getfield 11, 3, [6, 0, 1], .null), (13, .iload_n 1, 1, [], .null), (14, .aaload, 1, [], .null), (15, .astore_n 2, 1, [], .null), (16, .aload_n 2, 1, [], .null), (17, .invokevirtual 96, 3, [225, 1, 2], .null), (20, .ifCond .ne (9), 3, [29], .null), (23, .aload_n 0, 1, [], .null), (24, .iconst 1, 1, [], .int (1)), (25, .invokevirtual 79, 3, [50, 2, 1], .null), (28, .ireturn, 1, [], .null), (29, .iconst 0, 1, [], .int (0)), (30, .istore_n 3, 1, [], .null), (31, .iconst 0, 1, [], .int (0)), (32, .istore 4, 2, [], .null), (34, .iload 4, 2, [], .null), (36, .aload_n 2, 1, [], .null), (37, .getfield 100, 3, [4, 1, 0], .null), (40, .if_icmp .ge (38), 3, [78], .null), (43, .aload_n 2, 1, [], .null), (44, .getfield 90, 3, [4, 0, 1], .null), (47, .iload 4, 2, [], .null), (49, .iaload, 1, [], .null), (50, .invokestatic 168, 3, [56, 1, 2], .null), (53, .ifCond .eq (9), 3, [62], .null), (56, .aload_n 0, 1, [], .null), (57, .iconst 3, 1, [], .int (3)), (58, .invokevirtual 79, 3, [50, 2, 1], .null), (61, .ireturn, 1, [], .null), (62, .iload_n 3, 1, [], .null), (63, .aload_n 2, 1, [], .null), (64, .getfield 90, 3, [4, 0, 1], .null), (67, .iload 4, 2, [], .null), (69, .iaload, 1, [], .null), (70, .ior, 1, [], .null), (71, .istore_n 3, 1, [], .null), (72, .iinc 4 (1), 3, [], .int (1)), (75, .goto (-41), 3, [34], .null), (78, .aload_n 0, 1, [], .null), (79, .bipush (31), 2, [], .int (31)), (81, .iload_n 3, 1, [], .null), (82, .iconst (-1), 1, [], .int (-1)), (83, .ixor, 1, [], .null), (84, .iand, 1, [], .null), (85, .putfield 69, 3, [6, 11, 0], .null), (88, .iconst 1, 1, [], .int (1)), (89, .aload_n 0, 1, [], .null), (90, .getfield 69, 3, [6, 11, 0], .null), (93, .invokestatic 285, 3, [250, 1, 1], .null), (96, .ishl, 1, [], .null), (97, .ireturn, 1, [], .null)]
def Bp_knows_34  (o2 : Nat)  : (Int32 × Int32 × Hp) → ((Int32 × Int32 × Hp) → Res Hp) → Res Hp := fun s κ34 => match s with
  | (x3, x4, h) =>
  bif okF o2 4 1 0 then
  if (hg h o2 1) ≤ x4 then
  (bH (hs h 0 11 ((31 : Int32) &&& (x3 ^^^ (-1 : Int32)))) fun h1 =>
  bI (F_Jint_bitCount (hg h1 0 11) h1) fun v3 h2 =>
  retI ((1 : Int32) <<< (v3 &&& 31)) h2)
  else
  (bif okF o2 4 0 1 then
  bif okA (shR o2 0) 100 x4 then
  bI (F_Bp_noTongues (hg h (shR o2 0) x4.toNatClampNeg) h) fun v5 h4 =>
  if v5 = (0 : Int32) then
  (bif okF o2 4 0 1 then
  bif okA (shR o2 0) 100 x4 then
  κ34 ((x3 ||| (hg h4 (shR o2 0) x4.toNatClampNeg)), (x4 + (1 : Int32)), h4)
  else none
  else none)
  else
  (bI (F_Bp_found (3 : Int32) h4) fun v7 h6 =>
  retI v7 h6)
  else none
  else none)
  else none
def F_Bp_knows (x1 : Int32) (h : Hp) : Res Hp :=
  bI (F_Bp_noRow x1 h) fun v2 h1 =>
  if v2 = (0 : Int32) then
  (bif okR 1 x1 then
  bI (F_Sh_isThere (shR 1 x1.toNatClampNeg) h1) fun v4 h3 =>
  if v4 = (0 : Int32) then
  (bI (F_Bp_found (1 : Int32) h3) fun v6 h5 =>
  retI v6 h5)
  else
  (loopC (Bp_knows_34  (shR 1 x1.toNatClampNeg) ) FU ((0 : Int32), (0 : Int32), h3))
  else none)
  else
  (retI (-1 : Int32) h1)
def sF_Bp_knows : List Value → Hp → Res Hp := fun as h => match as with | [.ref f0, .int x1] => (match Nat.beq f0 0 with | true => F_Bp_knows x1 h | false => none) | _ => none
theorem w_Bp_knows (x1 : Int32) (h : Hp) : sF_Bp_knows [.ref 0, .int x1] h = F_Bp_knows x1 h := rfl
def S_Bp_knows : Sem Hp := [(52, sF_Bp_noRow), (225, sF_Sh_isThere), (250, sF_Jint_bitCount), (56, sF_Bp_noTongues), (50, sF_Bp_found)]
set_option maxRecDepth 100000 in
theorem e_Bp_knows_0 (x1 : Int32) (h : Hp) : F_Bp_knows x1 h = exec1 OI S_Bp_knows 1 k_Bp_knows 0 [some (.ref 0), some (.int x1), none, none, none] [] h (runF OI S_Bp_knows [(34, [0, 2, 3, 4], fun vs st h => match vs, st with | [.ref f0, .ref o2, .int x3, .int x4], [] => (match Nat.beq f0 0 with | true => loopC (Bp_knows_34  o2 ) FU (x3, x4, h) | false => none) | _, _ => none)] 1 k_Bp_knows 400) :=
  (x_bI (f := sF_Bp_noRow) rfl (w_Bp_noRow _ _) fun v2 h1 => (x_ite (x_bif (x_bI (f := sF_Sh_isThere) rfl (w_Sh_isThere _ _) fun v4 h3 => (x_ite (x_bI (f := sF_Bp_found) rfl (w_Bp_found _ _) fun v6 h5 => rfl) rfl))) rfl))
set_option maxRecDepth 100000 in
theorem e_Bp_knows_34 (κ34 : (Int32 × Int32 × Hp) → Res Hp) (o2 : Nat) (x3 : Int32) (x4 : Int32)  (h : Hp) : Bp_knows_34  o2  (x3, x4, h) κ34 = exec1 OI S_Bp_knows 1 k_Bp_knows 34 [some (.ref 0), none, some (.ref o2), some (.int x3), some (.int x4)] [] h (runF OI S_Bp_knows [(34, [0, 2, 3, 4], fun vs st h => match vs, st with | [.ref f0, .ref o2, .int x3, .int x4], [] => (match Nat.beq f0 0 with | true => κ34 (x3, x4, h) | false => none) | _, _ => none)] 1 k_Bp_knows 400) :=
  (x_bif (x_ite (x_bH fun h1 => (x_bI (f := sF_Jint_bitCount) rfl (w_Jint_bitCount _ _) fun v3 h2 => rfl)) (x_bif (x_bif (x_bI (f := sF_Bp_noTongues) rfl (w_Bp_noTongues _ _) fun v5 h4 => (x_ite (x_bif (x_bif rfl)) (x_bI (f := sF_Bp_found) rfl (w_Bp_found _ _) fun v7 h6 => rfl)))))))
def k_Bp_memberAt : List Ent := [(0, .iconst 0, 1, [], .int (0)), (1, .istore_n 2, 1, [], .null), (2, .iconst 0, 1, [], .int (0)), (3, .istore_n 3, 1, [], .null), (4, .iload_n 3, 1, [], .null), (5, .bipush (7), 2, [], .int (7)), (7, .if_icmp .ge (27), 3, [34], .null), (10, .iload_n 0, 1, [], .null), (11, .iload_n 3, 1, [], .null), (12, .invokestatic 201, 3, [65, 2, 2], .null), (15, .ifCond .eq (13), 3, [28], .null), (18, .iload_n 2, 1, [], .null), (19, .iload_n 1, 1, [], .null), (20, .if_icmp .ne (5), 3, [25], .null), (23, .iload_n 3, 1, [], .null), (24, .ireturn, 1, [], .null), (25, .iinc 2 (1), 3, [], .int (1)), (28, .iinc 3 (1), 3, [], .int (1)), (31, .goto (-27), 3, [4], .null), (34, .bipush (-9), 2, [], .int (-9)), (36, .ireturn, 1, [], .null)]
def Bp_memberAt_4  (x0 : Int32) (x1 : Int32)  : (Int32 × Int32 × Hp) → ((Int32 × Int32 × Hp) → Res Hp) → Res Hp := fun s κ4 => match s with
  | (x2, x3, h) =>
  if (7 : Int32) ≤ x3 then
  (retI (-9 : Int32) h)
  else
  (bI (F_Bp_has x0 x3 h) fun v2 h1 =>
  if v2 = (0 : Int32) then
  (κ4 (x2, (x3 + (1 : Int32)), h1))
  else
  (if x2 = x1 then
  (retI x3 h1)
  else
  (κ4 ((x2 + (1 : Int32)), (x3 + (1 : Int32)), h1))))
def F_Bp_memberAt (x0 : Int32) (x1 : Int32) (h : Hp) : Res Hp :=
  loopC (Bp_memberAt_4  x0 x1 ) FU ((0 : Int32), (0 : Int32), h)
def sF_Bp_memberAt : List Value → Hp → Res Hp := fun as h => match as with | [.int x0, .int x1] => F_Bp_memberAt x0 x1 h | _ => none
theorem w_Bp_memberAt (x0 : Int32) (x1 : Int32) (h : Hp) : sF_Bp_memberAt [.int x0, .int x1] h = F_Bp_memberAt x0 x1 h := rfl
def S_Bp_memberAt : Sem Hp := [(65, sF_Bp_has)]
set_option maxRecDepth 100000 in
theorem e_Bp_memberAt_0 (x0 : Int32) (x1 : Int32) (h : Hp) : F_Bp_memberAt x0 x1 h = exec1 OI S_Bp_memberAt 1 k_Bp_memberAt 0 [some (.int x0), some (.int x1), none, none] [] h (runF OI S_Bp_memberAt [(4, [0, 1, 2, 3], fun vs st h => match vs, st with | [.int x0, .int x1, .int x2, .int x3], [] => loopC (Bp_memberAt_4  x0 x1 ) FU (x2, x3, h) | _, _ => none)] 1 k_Bp_memberAt 400) :=
  rfl
set_option maxRecDepth 100000 in
theorem e_Bp_memberAt_4 (κ4 : (Int32 × Int32 × Hp) → Res Hp) (x0 : Int32) (x1 : Int32) (x2 : Int32) (x3 : Int32)  (h : Hp) : Bp_memberAt_4  x0 x1  (x2, x3, h) κ4 = exec1 OI S_Bp_memberAt 1 k_Bp_memberAt 4 [some (.int x0), some (.int x1), some (.int x2), some (.int x3)] [] h (runF OI S_Bp_memberAt [(4, [0, 1, 2, 3], fun vs st h => match vs, st with | [.int x0, .int x1, .int x2, .int x3], [] => κ4 (x2, x3, h) | _, _ => none)] 1 k_Bp_memberAt 400) :=
  (x_ite rfl (x_bI (f := sF_Bp_has) rfl (w_Bp_has _ _ _) fun v2 h1 => (x_ite rfl (x_ite rfl rfl))))
def k_La_goBy : List Ent := [(0, .iload_n 2, 1, [], .null), (1, .i2l, 1, [], .null), (2, .lstore_n 3, 1, [], .null), (3, .iconst 0, 1, [], .int (0)), (4, .istore 5, 2, [], .null), (6, .iconst 0, 1, [], .int (0)), (7, .istore 6, 2, [], .null), (9, .iload 6, 2, [], .null), (11, .iload_n 1, 1, [], .null), (12, .if_icmp .ge (107), 3, [119], .null), (15, .iconst 0, 1, [], .int (0)), (16, .istore 7, 2, [], .null), (18, .iload 7, 2, [], .null), (20, .aload_n 0, 1, [], .null), (21, .getfield 48, 3, [0, 10, 0], .null), (24, .if_icmp .ge (79), 3, [103], .null), (27, .aload_n 0, 1, [], .null), (28, .aload_n 0, 1, [], .null), (29, .getfield 37, 3, [0, 7, 1], .null), (32, .iload 7, 2, [], .null), (34, .aaload, 1, [], .null), (35, .invokevirtual 131, 3, [184, 2, 1], .null), (38, .istore 8, 2, [], .null), (40, .iload 8, 2, [], .null), (42, .invokestatic 135, 3, [250, 1, 1], .null), (45, .istore 9, 2, [], .null), (47, .iload 9, 2, [], .null), (49, .ifCond .le (48), 3, [97], .null), (52, .lload_n 3, 1, [], .null), (53, .ldc2_w 140, 3, [], .long 48271), (56, .lmul, 1, [], .null), (57, .ldc2_w 142, 3, [], .long 2147483647), (60, .lrem, 1, [], .null), (61, .lstore_n 3, 1, [], .null), (62, .iload 5, 2, [], .null), (64, .aload_n 0, 1, [], .null), (65, .aload_n 0, 1, [], .null), (66, .getfield 37, 3, [0, 7, 1], .null), (69, .iload 7, 2, [], .null), (71, .aaload, 1, [], .null), (72, .iload 8, 2, [], .null), (74, .lload_n 3, 1, [], .null), (75, .iload 9, 2, [], .null), (77, .i2l, 1, [], .null), (78, .lrem, 1, [], .null), (79, .l2i, 1, [], .null), (80, .invokestatic 144, 3, [66, 2, 1], .null), (83, .invokevirtual 147, 3, [186, 3, 2], .null), (86, .ifCond .eq (7), 3, [93], .null), (89, .iconst 1, 1, [], .int (1)), (90, .goto (4), 3, [94], .null), (93, .iconst 0, 1, [], .int (0)), (94, .iadd, 1, [], .null), (95, .istore 5, 2, [], .null), (97, .iinc 7 (1), 3, [], .int (1)), (100, .goto (-82), 3, [18], .null), (103, .aload_n 0, 1, [], .null), (104, .dup, 1, [], .null), (105, .getfield 51, 3, [0, 11, 0], .null), (108, .iconst 1, 1, [], .int (1)), (109, .iadd, 1, [], .null), (110, .putfield 51, 3, [0, 11, 0], .null), (113, .iinc 6 (1), 3, [], .int (1)), (116, .goto (-107), 3, [9], .null), (119, .iload 5, 2, [], .null), (121, .ireturn, 1, [], .null)]
def La_goBy_18 (κ9 : (Int64 × Int32 × Int32 × Hp) → Res Hp) (o0 : Nat) (x1 : Int32) (x6 : Int32)  : (Int64 × Int32 × Int32 × Hp) → ((Int64 × Int32 × Int32 × Hp) → Res Hp) → Res Hp := fun s κ18 => match s with
  | (y3, x5, x7, h) =>
  bif okF o0 0 10 0 then
  if (hg h o0 10) ≤ x7 then
  (bif okF o0 0 11 0 then
  bif okF o0 0 11 0 then
  bH (hs h o0 11 ((hg h o0 11) + (1 : Int32))) fun h1 =>
  κ9 (y3, x5, (x6 + (1 : Int32)), h1)
  else none
  else none)
  else
  (bif okF o0 0 7 1 then
  bif okR (shR o0 7) x7 then
  bI (F_La_takers o0 (shR (shR o0 7) x7.toNatClampNeg) h) fun v3 h2 =>
  bI (F_Jint_bitCount v3 h2) fun v5 h4 =>
  if v5 ≤ (0 : Int32) then
  (κ18 (y3, x5, (x7 + (1 : Int32)), h4))
  else
  (bif okF o0 0 7 1 then
  bif okR (shR o0 7) x7 then
  if v5.toInt64 = 0 then none else
  bI (F_Bp_memberAt v3 ((((y3 * (48271 : Int64)) - (y3 * (48271 : Int64)) / (2147483647 : Int64) * (2147483647 : Int64)) - ((y3 * (48271 : Int64)) - (y3 * (48271 : Int64)) / (2147483647 : Int64) * (2147483647 : Int64)) / v5.toInt64 * v5.toInt64)).toInt32 h4) fun v7 h6 =>
  bI (F_La_pass o0 (shR (shR o0 7) x7.toNatClampNeg) v7 h6) fun v9 h8 =>
  if v9 = (0 : Int32) then
  (κ18 (((y3 * (48271 : Int64)) - (y3 * (48271 : Int64)) / (2147483647 : Int64) * (2147483647 : Int64)), (x5 + (0 : Int32)), (x7 + (1 : Int32)), h8))
  else
  (κ18 (((y3 * (48271 : Int64)) - (y3 * (48271 : Int64)) / (2147483647 : Int64) * (2147483647 : Int64)), (x5 + (1 : Int32)), (x7 + (1 : Int32)), h8))
  else none
  else none)
  else none
  else none)
  else none
def La_goBy_9  (o0 : Nat) (x1 : Int32)  : (Int64 × Int32 × Int32 × Hp) → ((Int64 × Int32 × Int32 × Hp) → Res Hp) → Res Hp := fun s κ9 => match s with
  | (y3, x5, x6, h) =>
  if x1 ≤ x6 then
  (retI x5 h)
  else
  (loopC (La_goBy_18 κ9 o0 x1 x6 ) FU (y3, x5, (0 : Int32), h))
def F_La_goBy (o0 : Nat) (x1 : Int32) (x2 : Int32) (h : Hp) : Res Hp :=
  loopC (La_goBy_9  o0 x1 ) FU (x2.toInt64, (0 : Int32), (0 : Int32), h)
def sF_La_goBy : List Value → Hp → Res Hp := fun as h => match as with | [.ref o0, .int x1, .int x2] => F_La_goBy o0 x1 x2 h | _ => none
theorem w_La_goBy (o0 : Nat) (x1 : Int32) (x2 : Int32) (h : Hp) : sF_La_goBy [.ref o0, .int x1, .int x2] h = F_La_goBy o0 x1 x2 h := rfl
def S_La_goBy : Sem Hp := [(184, sF_La_takers), (250, sF_Jint_bitCount), (66, sF_Bp_memberAt), (186, sF_La_pass)]
set_option maxRecDepth 100000 in
theorem e_La_goBy_0 (o0 : Nat) (x1 : Int32) (x2 : Int32) (h : Hp) : F_La_goBy o0 x1 x2 h = exec1 OI S_La_goBy 1 k_La_goBy 0 [some (.ref o0), some (.int x1), some (.int x2), none, none, none, none, none, none, none] [] h (runF OI S_La_goBy [(9, [0, 1, 3, 5, 6], fun vs st h => match vs, st with | [.ref o0, .int x1, .long y3, .int x5, .int x6], [] => loopC (La_goBy_9  o0 x1 ) FU (y3, x5, x6, h) | _, _ => none)] 1 k_La_goBy 400) :=
  rfl
set_option maxRecDepth 100000 in
theorem e_La_goBy_9 (κ9 : (Int64 × Int32 × Int32 × Hp) → Res Hp) (o0 : Nat) (x1 : Int32) (y3 : Int64) (x5 : Int32) (x6 : Int32)  (h : Hp) : La_goBy_9  o0 x1  (y3, x5, x6, h) κ9 = exec1 OI S_La_goBy 1 k_La_goBy 9 [some (.ref o0), some (.int x1), none, some (.long y3), none, some (.int x5), some (.int x6), none, none, none] [] h (runF OI S_La_goBy [(18, [0, 1, 3, 5, 6, 7], fun vs st h => match vs, st with | [.ref o0, .int x1, .long y3, .int x5, .int x6, .int x7], [] => loopC (La_goBy_18 κ9 o0 x1 x6 ) FU (y3, x5, x7, h) | _, _ => none)] 1 k_La_goBy 400) :=
  (x_ite rfl rfl)
set_option maxRecDepth 100000 in
theorem e_La_goBy_18 (κ9 : (Int64 × Int32 × Int32 × Hp) → Res Hp) (κ18 : (Int64 × Int32 × Int32 × Hp) → Res Hp) (o0 : Nat) (x1 : Int32) (y3 : Int64) (x5 : Int32) (x6 : Int32) (x7 : Int32)  (h : Hp) : La_goBy_18 κ9 o0 x1 x6  (y3, x5, x7, h) κ18 = exec1 OI S_La_goBy 1 k_La_goBy 18 [some (.ref o0), some (.int x1), none, some (.long y3), none, some (.int x5), some (.int x6), some (.int x7), none, none] [] h (runF OI S_La_goBy [(9, [0, 1, 3, 5, 6], fun vs st h => match vs, st with | [.ref o0, .int x1, .long y3, .int x5, .int x6], [] => κ9 (y3, x5, x6, h) | _, _ => none), (18, [0, 1, 3, 5, 6, 7], fun vs st h => match vs, st with | [.ref o0, .int x1, .long y3, .int x5, .int x6, .int x7], [] => κ18 (y3, x5, x7, h) | _, _ => none)] 1 k_La_goBy 400) :=
  (x_bif (x_ite (x_bif (x_bif (x_bH fun h1 => rfl))) (x_bif (x_bif (x_bI (f := sF_La_takers) rfl (w_La_takers _ _ _) fun v3 h2 => (x_bI (f := sF_Jint_bitCount) rfl (w_Jint_bitCount _ _) fun v5 h4 => (x_ite rfl (x_bif (x_bif (x_if0 (x_bI (f := sF_Bp_memberAt) rfl (w_Bp_memberAt _ _ _) fun v7 h6 => (x_bI (f := sF_La_pass) rfl (w_La_pass _ _ _ _) fun v9 h8 => (x_ite rfl rfl)))))))))))))
def k_Bp_days : List Ent := [(0, .iload_n 1, 1, [], .null), (1, .iconst 1, 1, [], .int (1)), (2, .if_icmp .lt (21), 3, [23], .null), (5, .iload_n 1, 1, [], .null), (6, .bipush (60), 2, [], .int (60)), (8, .if_icmp .gt (15), 3, [23], .null), (11, .iload_n 2, 1, [], .null), (12, .iconst 1, 1, [], .int (1)), (13, .if_icmp .lt (10), 3, [23], .null), (16, .iload_n 2, 1, [], .null), (17, .ldc_w 297, 3, [], .int (2147483647)), (20, .if_icmp .lt (5), 3, [25], .null), (23, .iconst (-1), 1, [], .int (-1)), (24, .ireturn, 1, [], .null), (25, .aload_n 0, 1, [], .null), (26, .getfield 21, 3, [6, 2, 1], .null), (29, .getfield 127, 3, [0, 8, 0], .null), (32, .ifCond .ne (6), 3, [38], .null), (35, .bipush (-4), 2, [], .int (-4)), (37, .ireturn, 1, [], .null), (38, .aload_n 0, 1, [], .null), (39, .getfield 21, 3, [6, 2, 1], .null), (42, .getfield 188, 3, [0, 11, 0], .null), (45, .iload_n 1, 1, [], .null), (46, .iadd, 1, [], .null), (47, .bipush (99), 2, [], .int (99)), (49, .if_icmp .le (6), 3, [55], .null), (52, .bipush (-2), 2, [], .int (-2)), (54, .ireturn, 1, [], .null), (55, .aload_n 0, 1, [], .null), (56, .getfield 21, 3, [6, 2, 1], .null), (59, .iload_n 1, 1, [], .null), (60, .iload_n 2, 1, [], .null), (61, .invokevirtual 298, 3, [187, 3, 1], .null), (64, .ireturn, 1, [], .null)]
def F_Bp_days (x1 : Int32) (x2 : Int32) (h : Hp) : Res Hp :=
  if x1 < (1 : Int32) then
  (retI (-1 : Int32) h)
  else
  (if (60 : Int32) < x1 then
  (retI (-1 : Int32) h)
  else
  (if x2 < (1 : Int32) then
  (retI (-1 : Int32) h)
  else
  (if x2 < (2147483647 : Int32) then
  (if (hg h 3 8) = (0 : Int32) then
  (retI (-4 : Int32) h)
  else
  (if ((hg h 3 11) + x1) ≤ (99 : Int32) then
  (bI (F_La_goBy 3 x1 x2 h) fun v2 h1 =>
  retI v2 h1)
  else
  (retI (-2 : Int32) h)))
  else
  (retI (-1 : Int32) h))))
def sF_Bp_days : List Value → Hp → Res Hp := fun as h => match as with | [.ref f0, .int x1, .int x2] => (match Nat.beq f0 0 with | true => F_Bp_days x1 x2 h | false => none) | _ => none
theorem w_Bp_days (x1 : Int32) (x2 : Int32) (h : Hp) : sF_Bp_days [.ref 0, .int x1, .int x2] h = F_Bp_days x1 x2 h := rfl
def S_Bp_days : Sem Hp := [(187, sF_La_goBy)]
set_option maxRecDepth 100000 in
theorem e_Bp_days_0 (x1 : Int32) (x2 : Int32) (h : Hp) : F_Bp_days x1 x2 h = exec1 OI S_Bp_days 1 k_Bp_days 0 [some (.ref 0), some (.int x1), some (.int x2)] [] h (runF OI S_Bp_days [] 1 k_Bp_days 400) :=
  (x_ite rfl (x_ite rfl (x_ite rfl (x_ite (x_ite rfl (x_ite (x_bI (f := sF_La_goBy) rfl (w_La_goBy _ _ _ _) fun v2 h1 => rfl) rfl)) rfl))))
def k_Bp_asked : List Ent := [(0, .aload_n 0, 1, [], .null), (1, .getfield 69, 3, [6, 11, 0], .null), (4, .ireturn, 1, [], .null)]
def F_Bp_asked  (h : Hp) : Res Hp :=
  retI (hg h 0 11) h
def sF_Bp_asked : List Value → Hp → Res Hp := fun as h => match as with | [.ref f0] => (match Nat.beq f0 0 with | true => F_Bp_asked  h | false => none) | _ => none
theorem w_Bp_asked  (h : Hp) : sF_Bp_asked [.ref 0] h = F_Bp_asked  h := rfl
def S_Bp_asked : Sem Hp := []
set_option maxRecDepth 100000 in
theorem e_Bp_asked_0  (h : Hp) : F_Bp_asked  h = exec1 OI S_Bp_asked 1 k_Bp_asked 0 [some (.ref 0)] [] h (runF OI S_Bp_asked [] 1 k_Bp_asked 400) :=
  rfl
def k_Bp_commonDivisor : List Ent := [(0, .iload_n 0, 1, [], .null), (1, .istore_n 2, 1, [], .null), (2, .iload_n 1, 1, [], .null), (3, .istore_n 3, 1, [], .null), (4, .iconst 0, 1, [], .int (0)), (5, .istore 4, 2, [], .null), (7, .iload 4, 2, [], .null), (9, .bipush (64), 2, [], .int (64)), (11, .if_icmp .ge (23), 3, [34], .null), (14, .iload_n 3, 1, [], .null), (15, .ifCond .eq (19), 3, [34], .null), (18, .iload_n 2, 1, [], .null), (19, .iload_n 3, 1, [], .null), (20, .irem, 1, [], .null), (21, .istore 5, 2, [], .null), (23, .iload_n 3, 1, [], .null), (24, .istore_n 2, 1, [], .null), (25, .iload 5, 2, [], .null), (27, .istore_n 3, 1, [], .null), (28, .iinc 4 (1), 3, [], .int (1)), (31, .goto (-24), 3, [7], .null), (34, .iconst 1, 1, [], .int (1)), (35, .iload_n 2, 1, [], .null), (36, .invokestatic 240, 3, [251, 2, 1], .null), (39, .ireturn, 1, [], .null)]
def Bp_commonDivisor_7   (h : Hp) : (Int32 × Int32 × Int32) → ((Int32 × Int32 × Int32) → Res Hp) → Res Hp := fun s κ7 => match s with
  | (x2, x3, x4) =>
  if (64 : Int32) ≤ x4 then
  (bI (F_Jmath_max (1 : Int32) x2 h) fun v2 h1 =>
  retI v2 h1)
  else
  (if x3 = (0 : Int32) then
  (bI (F_Jmath_max (1 : Int32) x2 h) fun v4 h3 =>
  retI v4 h3)
  else
  (if x3 = 0 then none else
  κ7 (x3, (x2 - x2 / x3 * x3), (x4 + (1 : Int32)))))
def F_Bp_commonDivisor (x0 : Int32) (x1 : Int32) (h : Hp) : Res Hp :=
  loopC (Bp_commonDivisor_7   h) FU (x0, x1, (0 : Int32))
def sF_Bp_commonDivisor : List Value → Hp → Res Hp := fun as h => match as with | [.int x0, .int x1] => F_Bp_commonDivisor x0 x1 h | _ => none
theorem w_Bp_commonDivisor (x0 : Int32) (x1 : Int32) (h : Hp) : sF_Bp_commonDivisor [.int x0, .int x1] h = F_Bp_commonDivisor x0 x1 h := rfl
def S_Bp_commonDivisor : Sem Hp := [(251, sF_Jmath_max)]
set_option maxRecDepth 100000 in
theorem e_Bp_commonDivisor_0 (x0 : Int32) (x1 : Int32) (h : Hp) : F_Bp_commonDivisor x0 x1 h = exec1 OI S_Bp_commonDivisor 1 k_Bp_commonDivisor 0 [some (.int x0), some (.int x1), none, none, none, none] [] h (runF OI S_Bp_commonDivisor [(7, [2, 3, 4], fun vs st h => match vs, st with | [.int x2, .int x3, .int x4], [] => loopC (Bp_commonDivisor_7   h) FU (x2, x3, x4) | _, _ => none)] 1 k_Bp_commonDivisor 400) :=
  rfl
set_option maxRecDepth 100000 in
theorem e_Bp_commonDivisor_7 (κ7 : (Int32 × Int32 × Int32) → Res Hp) (x2 : Int32) (x3 : Int32) (x4 : Int32)  (h : Hp) : Bp_commonDivisor_7   h (x2, x3, x4) κ7 = exec1 OI S_Bp_commonDivisor 1 k_Bp_commonDivisor 7 [none, none, some (.int x2), some (.int x3), some (.int x4), none] [] h (runF OI S_Bp_commonDivisor [(7, [2, 3, 4], fun vs st h => match vs, st with | [.int x2, .int x3, .int x4], [] => κ7 (x2, x3, x4) | _, _ => none)] 1 k_Bp_commonDivisor 400) :=
  (x_ite (x_bI (f := sF_Jmath_max) rfl (w_Jmath_max _ _ _) fun v2 h1 => rfl) (x_ite (x_bI (f := sF_Jmath_max) rfl (w_Jmath_max _ _ _) fun v4 h3 => rfl) (x_if0 rfl)))
def k_Bp_upper : List Ent := [(0, .aload_n 0, 1, [], .null), (1, .getfield 57, 3, [6, 8, 1], .null), (4, .invokevirtual 267, 3, [209, 1, 0], .null), (7, .aload_n 0, 1, [], .null), (8, .getfield 57, 3, [6, 8, 1], .null), (11, .getfield 270, 3, [2, 3, 0], .null), (14, .ifCond .ne (5), 3, [19], .null), (17, .lconst 0, 1, [], .long 0), (18, .lreturn, 1, [], .null), (19, .aload_n 0, 1, [], .null), (20, .getfield 57, 3, [6, 8, 1], .null), (23, .getfield 270, 3, [2, 3, 0], .null), (26, .aload_n 0, 1, [], .null), (27, .getfield 57, 3, [6, 8, 1], .null), (30, .getfield 273, 3, [2, 4, 0], .null), (33, .isub, 1, [], .null), (34, .aload_n 0, 1, [], .null), (35, .getfield 57, 3, [6, 8, 1], .null), (38, .getfield 270, 3, [2, 3, 0], .null), (41, .aload_n 0, 1, [], .null), (42, .getfield 57, 3, [6, 8, 1], .null), (45, .getfield 270, 3, [2, 3, 0], .null), (48, .aload_n 0, 1, [], .null), (49, .getfield 57, 3, [6, 8, 1], .null), (52, .getfield 273, 3, [2, 4, 0], .null), (55, .isub, 1, [], .null), (56, .invokestatic 301, 3, [63, 2, 1], .null), (59, .idiv, 1, [], .null), (60, .i2l, 1, [], .null), (61, .lreturn, 1, [], .null)]
def F_Bp_upper  (h : Hp) : Res Hp :=
  bV (F_Pa_tally  h) fun h1 =>
  if (hg h1 68 3) = (0 : Int32) then
  (retL (0 : Int64) h1)
  else
  (bI (F_Bp_commonDivisor (hg h1 68 3) ((hg h1 68 3) - (hg h1 68 4)) h1) fun v3 h2 =>
  if v3 = 0 then none else
  retL (((hg h1 68 3) - (hg h1 68 4)) / v3).toInt64 h2)
def sF_Bp_upper : List Value → Hp → Res Hp := fun as h => match as with | [.ref f0] => (match Nat.beq f0 0 with | true => F_Bp_upper  h | false => none) | _ => none
theorem w_Bp_upper  (h : Hp) : sF_Bp_upper [.ref 0] h = F_Bp_upper  h := rfl
def S_Bp_upper : Sem Hp := [(209, sF_Pa_tally), (63, sF_Bp_commonDivisor)]
set_option maxRecDepth 100000 in
theorem e_Bp_upper_0  (h : Hp) : F_Bp_upper  h = exec1 OI S_Bp_upper 3 k_Bp_upper 0 [some (.ref 0)] [] h (runF OI S_Bp_upper [] 3 k_Bp_upper 400) :=
  (x_bV (f := sF_Pa_tally) rfl (w_Pa_tally  _) fun h1 => (x_ite rfl (x_bI (f := sF_Bp_commonDivisor) rfl (w_Bp_commonDivisor _ _ _) fun v3 h2 => (x_if0 rfl))))
def k_Bp_lower : List Ent := [(0, .aload_n 0, 1, [], .null), (1, .getfield 57, 3, [6, 8, 1], .null), (4, .invokevirtual 267, 3, [209, 1, 0], .null), (7, .aload_n 0, 1, [], .null), (8, .getfield 57, 3, [6, 8, 1], .null), (11, .getfield 270, 3, [2, 3, 0], .null), (14, .ifCond .ne (5), 3, [19], .null), (17, .lconst 1, 1, [], .long 1), (18, .lreturn, 1, [], .null), (19, .aload_n 0, 1, [], .null), (20, .getfield 57, 3, [6, 8, 1], .null), (23, .getfield 270, 3, [2, 3, 0], .null), (26, .aload_n 0, 1, [], .null), (27, .getfield 57, 3, [6, 8, 1], .null), (30, .getfield 270, 3, [2, 3, 0], .null), (33, .aload_n 0, 1, [], .null), (34, .getfield 57, 3, [6, 8, 1], .null), (37, .getfield 270, 3, [2, 3, 0], .null), (40, .aload_n 0, 1, [], .null), (41, .getfield 57, 3, [6, 8, 1], .null), (44, .getfield 273, 3, [2, 4, 0], .null), (47, .isub, 1, [], .null), (48, .invokestatic 301, 3, [63, 2, 1], .null), (51, .idiv, 1, [], .null), (52, .i2l, 1, [], .null), (53, .lreturn, 1, [], .null)]
def F_Bp_lower  (h : Hp) : Res Hp :=
  bV (F_Pa_tally  h) fun h1 =>
  if (hg h1 68 3) = (0 : Int32) then
  (retL (1 : Int64) h1)
  else
  (bI (F_Bp_commonDivisor (hg h1 68 3) ((hg h1 68 3) - (hg h1 68 4)) h1) fun v3 h2 =>
  if v3 = 0 then none else
  retL ((hg h1 68 3) / v3).toInt64 h2)
def sF_Bp_lower : List Value → Hp → Res Hp := fun as h => match as with | [.ref f0] => (match Nat.beq f0 0 with | true => F_Bp_lower  h | false => none) | _ => none
theorem w_Bp_lower  (h : Hp) : sF_Bp_lower [.ref 0] h = F_Bp_lower  h := rfl
def S_Bp_lower : Sem Hp := [(209, sF_Pa_tally), (63, sF_Bp_commonDivisor)]
set_option maxRecDepth 100000 in
theorem e_Bp_lower_0  (h : Hp) : F_Bp_lower  h = exec1 OI S_Bp_lower 3 k_Bp_lower 0 [some (.ref 0)] [] h (runF OI S_Bp_lower [] 3 k_Bp_lower 400) :=
  (x_bV (f := sF_Pa_tally) rfl (w_Pa_tally  _) fun h1 => (x_ite rfl (x_bI (f := sF_Bp_commonDivisor) rfl (w_Bp_commonDivisor _ _ _) fun v3 h2 => (x_if0 rfl))))
def k_La_lettersThere : List Ent := [(0, .iconst 0, 1, [], .int (0)), (1, .istore_n 1, 1, [], .null), (2, .iconst 0, 1, [], .int (0)), (3, .istore_n 2, 1, [], .null), (4, .iload_n 2, 1, [], .null), (5, .aload_n 0, 1, [], .null), (6, .getfield 48, 3, [0, 10, 0], .null), (9, .if_icmp .ge (24), 3, [33], .null), (12, .aload_n 0, 1, [], .null), (13, .getfield 37, 3, [0, 7, 1], .null), (16, .iload_n 2, 1, [], .null), (17, .aaload, 1, [], .null), (18, .invokevirtual 96, 3, [200, 1, 2], .null), (21, .ifCond .eq (6), 3, [27], .null), (24, .iinc 1 (1), 3, [], .int (1)), (27, .iinc 2 (1), 3, [], .int (1)), (30, .goto (-26), 3, [4], .null), (33, .iload_n 1, 1, [], .null), (34, .ireturn, 1, [], .null)]
def La_lettersThere_4  (o0 : Nat)  : (Int32 × Int32 × Hp) → ((Int32 × Int32 × Hp) → Res Hp) → Res Hp := fun s κ4 => match s with
  | (x1, x2, h) =>
  bif okF o0 0 10 0 then
  if (hg h o0 10) ≤ x2 then
  (retI x1 h)
  else
  (bif okF o0 0 7 1 then
  bif okR (shR o0 7) x2 then
  bI (F_Le_isThere (shR (shR o0 7) x2.toNatClampNeg) h) fun v2 h1 =>
  if v2 = (0 : Int32) then
  (κ4 (x1, (x2 + (1 : Int32)), h1))
  else
  (κ4 ((x1 + (1 : Int32)), (x2 + (1 : Int32)), h1))
  else none
  else none)
  else none
def F_La_lettersThere (o0 : Nat) (h : Hp) : Res Hp :=
  loopC (La_lettersThere_4  o0 ) FU ((0 : Int32), (0 : Int32), h)
def sF_La_lettersThere : List Value → Hp → Res Hp := fun as h => match as with | [.ref o0] => F_La_lettersThere o0 h | _ => none
theorem w_La_lettersThere (o0 : Nat) (h : Hp) : sF_La_lettersThere [.ref o0] h = F_La_lettersThere o0 h := rfl
def S_La_lettersThere : Sem Hp := [(200, sF_Le_isThere)]
set_option maxRecDepth 100000 in
theorem e_La_lettersThere_0 (o0 : Nat) (h : Hp) : F_La_lettersThere o0 h = exec1 OI S_La_lettersThere 1 k_La_lettersThere 0 [some (.ref o0), none, none] [] h (runF OI S_La_lettersThere [(4, [0, 1, 2], fun vs st h => match vs, st with | [.ref o0, .int x1, .int x2], [] => loopC (La_lettersThere_4  o0 ) FU (x1, x2, h) | _, _ => none)] 1 k_La_lettersThere 400) :=
  rfl
set_option maxRecDepth 100000 in
theorem e_La_lettersThere_4 (κ4 : (Int32 × Int32 × Hp) → Res Hp) (o0 : Nat) (x1 : Int32) (x2 : Int32)  (h : Hp) : La_lettersThere_4  o0  (x1, x2, h) κ4 = exec1 OI S_La_lettersThere 1 k_La_lettersThere 4 [some (.ref o0), some (.int x1), some (.int x2)] [] h (runF OI S_La_lettersThere [(4, [0, 1, 2], fun vs st h => match vs, st with | [.ref o0, .int x1, .int x2], [] => κ4 (x1, x2, h) | _, _ => none)] 1 k_La_lettersThere 400) :=
  (x_bif (x_ite rfl (x_bif (x_bif (x_bI (f := sF_Le_isThere) rfl (w_Le_isThere _ _) fun v2 h1 => (x_ite rfl rfl))))))
def k_Bp_sheetsThere : List Ent := [(0, .iconst 0, 1, [], .int (0)), (1, .istore_n 2, 1, [], .null), (2, .iconst 0, 1, [], .int (0)), (3, .istore_n 3, 1, [], .null), (4, .iload_n 3, 1, [], .null), (5, .aload_n 1, 1, [], .null), (6, .arraylength, 1, [], .null), (7, .if_icmp .ge (21), 3, [28], .null), (10, .aload_n 1, 1, [], .null), (11, .iload_n 3, 1, [], .null), (12, .aaload, 1, [], .null), (13, .invokevirtual 96, 3, [225, 1, 2], .null), (16, .ifCond .eq (6), 3, [22], .null), (19, .iinc 2 (1), 3, [], .int (1)), (22, .iinc 3 (1), 3, [], .int (1)), (25, .goto (-21), 3, [4], .null), (28, .iload_n 2, 1, [], .null), (29, .ireturn, 1, [], .null)]
def Bp_sheetsThere_4  (o1 : Nat)  : (Int32 × Int32 × Hp) → ((Int32 × Int32 × Hp) → Res Hp) → Res Hp := fun s κ4 => match s with
  | (x2, x3, h) =>
  bif okN o1 then
  if (Int32.ofNat (shN o1)) ≤ x3 then
  (retI x2 h)
  else
  (bif okR o1 x3 then
  bI (F_Sh_isThere (shR o1 x3.toNatClampNeg) h) fun v2 h1 =>
  if v2 = (0 : Int32) then
  (κ4 (x2, (x3 + (1 : Int32)), h1))
  else
  (κ4 ((x2 + (1 : Int32)), (x3 + (1 : Int32)), h1))
  else none)
  else none
def F_Bp_sheetsThere (o1 : Nat) (h : Hp) : Res Hp :=
  loopC (Bp_sheetsThere_4  o1 ) FU ((0 : Int32), (0 : Int32), h)
def sF_Bp_sheetsThere : List Value → Hp → Res Hp := fun as h => match as with | [.ref f0, .ref o1] => (match Nat.beq f0 0 with | true => F_Bp_sheetsThere o1 h | false => none) | _ => none
theorem w_Bp_sheetsThere (o1 : Nat) (h : Hp) : sF_Bp_sheetsThere [.ref 0, .ref o1] h = F_Bp_sheetsThere o1 h := rfl
def S_Bp_sheetsThere : Sem Hp := [(225, sF_Sh_isThere)]
set_option maxRecDepth 100000 in
theorem e_Bp_sheetsThere_0 (o1 : Nat) (h : Hp) : F_Bp_sheetsThere o1 h = exec1 OI S_Bp_sheetsThere 1 k_Bp_sheetsThere 0 [some (.ref 0), some (.ref o1), none, none] [] h (runF OI S_Bp_sheetsThere [(4, [1, 2, 3], fun vs st h => match vs, st with | [.ref o1, .int x2, .int x3], [] => loopC (Bp_sheetsThere_4  o1 ) FU (x2, x3, h) | _, _ => none)] 1 k_Bp_sheetsThere 400) :=
  rfl
set_option maxRecDepth 100000 in
theorem e_Bp_sheetsThere_4 (κ4 : (Int32 × Int32 × Hp) → Res Hp) (o1 : Nat) (x2 : Int32) (x3 : Int32)  (h : Hp) : Bp_sheetsThere_4  o1  (x2, x3, h) κ4 = exec1 OI S_Bp_sheetsThere 1 k_Bp_sheetsThere 4 [none, some (.ref o1), some (.int x2), some (.int x3)] [] h (runF OI S_Bp_sheetsThere [(4, [1, 2, 3], fun vs st h => match vs, st with | [.ref o1, .int x2, .int x3], [] => κ4 (x2, x3, h) | _, _ => none)] 1 k_Bp_sheetsThere 400) :=
  (x_bif (x_ite rfl (x_bif (x_bI (f := sF_Sh_isThere) rfl (w_Sh_isThere _ _) fun v2 h1 => (x_ite rfl rfl)))))
def k_Bp_landsKept : List Ent := [(0, .iconst 0, 1, [], .int (0)), (1, .istore_n 1, 1, [], .null), (2, .iconst 0, 1, [], .int (0)), (3, .istore_n 2, 1, [], .null), (4, .iload_n 2, 1, [], .null), (5, .iconst 3, 1, [], .int (3)), (6, .if_icmp .ge (21), 3, [27], .null), (9, .aload_n 0, 1, [], .null), (10, .getfield 32, 3, [6, 5, 1], .null), (13, .iload_n 2, 1, [], .null), (14, .baload, 1, [], .null), (15, .ifCond .eq (6), 3, [21], .null), (18, .iinc 1 (1), 3, [], .int (1)), (21, .iinc 2 (1), 3, [], .int (1)), (24, .goto (-20), 3, [4], .null), (27, .iload_n 1, 1, [], .null), (28, .ireturn, 1, [], .null)]
def Bp_landsKept_4   (h : Hp) : (Int32 × Int32) → ((Int32 × Int32) → Res Hp) → Res Hp := fun s κ4 => match s with
  | (x1, x2) =>
  if (3 : Int32) ≤ x2 then
  (retI x1 h)
  else
  (bif okA 62 101 x2 then
  if (hg h 62 x2.toNatClampNeg) = (0 : Int32) then
  (κ4 (x1, (x2 + (1 : Int32))))
  else
  (κ4 ((x1 + (1 : Int32)), (x2 + (1 : Int32))))
  else none)
def F_Bp_landsKept  (h : Hp) : Res Hp :=
  loopC (Bp_landsKept_4   h) FU ((0 : Int32), (0 : Int32))
def sF_Bp_landsKept : List Value → Hp → Res Hp := fun as h => match as with | [.ref f0] => (match Nat.beq f0 0 with | true => F_Bp_landsKept  h | false => none) | _ => none
theorem w_Bp_landsKept  (h : Hp) : sF_Bp_landsKept [.ref 0] h = F_Bp_landsKept  h := rfl
def S_Bp_landsKept : Sem Hp := []
set_option maxRecDepth 100000 in
theorem e_Bp_landsKept_0  (h : Hp) : F_Bp_landsKept  h = exec1 OI S_Bp_landsKept 1 k_Bp_landsKept 0 [some (.ref 0), none, none] [] h (runF OI S_Bp_landsKept [(4, [0, 1, 2], fun vs st h => match vs, st with | [.ref f0, .int x1, .int x2], [] => (match Nat.beq f0 0 with | true => loopC (Bp_landsKept_4   h) FU (x1, x2) | false => none) | _, _ => none)] 1 k_Bp_landsKept 400) :=
  rfl
set_option maxRecDepth 100000 in
theorem e_Bp_landsKept_4 (κ4 : (Int32 × Int32) → Res Hp) (x1 : Int32) (x2 : Int32)  (h : Hp) : Bp_landsKept_4   h (x1, x2) κ4 = exec1 OI S_Bp_landsKept 1 k_Bp_landsKept 4 [some (.ref 0), some (.int x1), some (.int x2)] [] h (runF OI S_Bp_landsKept [(4, [0, 1, 2], fun vs st h => match vs, st with | [.ref f0, .int x1, .int x2], [] => (match Nat.beq f0 0 with | true => κ4 (x1, x2) | false => none) | _, _ => none)] 1 k_Bp_landsKept 400) :=
  (x_ite rfl (x_bif (x_ite rfl rfl)))
def k_Bp_count : List Ent := [(0, .iload_n 1, 1, [], .null), (1, .tableswitch (126) 0 8 #[51, 59, 67, 75, 83, 91, 103, 112, 121], 51, [127, 0, 52, 1, 60, 2, 68, 3, 76, 4, 84, 5, 92, 6, 104, 7, 113, 8, 122], .null), (52, .aload_n 0, 1, [], .null), (53, .getfield 21, 3, [6, 2, 1], .null), (56, .getfield 127, 3, [0, 8, 0], .null), (59, .ireturn, 1, [], .null), (60, .aload_n 0, 1, [], .null), (61, .getfield 21, 3, [6, 2, 1], .null), (64, .getfield 158, 3, [0, 9, 0], .null), (67, .ireturn, 1, [], .null), (68, .aload_n 0, 1, [], .null), (69, .getfield 21, 3, [6, 2, 1], .null), (72, .getfield 188, 3, [0, 11, 0], .null), (75, .ireturn, 1, [], .null), (76, .aload_n 0, 1, [], .null), (77, .getfield 21, 3, [6, 2, 1], .null), (80, .getfield 181, 3, [0, 10, 0], .null), (83, .ireturn, 1, [], .null), (84, .aload_n 0, 1, [], .null), (85, .getfield 21, 3, [6, 2, 1], .null), (88, .invokevirtual 304, 3, [191, 1, 1], .null), (91, .ireturn, 1, [], .null), (92, .aload_n 0, 1, [], .null), (93, .getfield 21, 3, [6, 2, 1], .null), (96, .iconst 1, 1, [], .int (1)), (97, .invokevirtual 307, 3, [180, 2, 1], .null), (100, .invokestatic 285, 3, [250, 1, 1], .null), (103, .ireturn, 1, [], .null), (104, .aload_n 0, 1, [], .null), (105, .aload_n 0, 1, [], .null), (106, .getfield 11, 3, [6, 0, 1], .null), (109, .invokevirtual 310, 3, [59, 2, 1], .null), (112, .ireturn, 1, [], .null), (113, .aload_n 0, 1, [], .null), (114, .aload_n 0, 1, [], .null), (115, .getfield 15, 3, [6, 1, 1], .null), (118, .invokevirtual 310, 3, [59, 2, 1], .null), (121, .ireturn, 1, [], .null), (122, .aload_n 0, 1, [], .null), (123, .invokevirtual 314, 3, [60, 1, 1], .null), (126, .ireturn, 1, [], .null), (127, .iconst (-1), 1, [], .int (-1)), (128, .ireturn, 1, [], .null)]
def F_Bp_count (x1 : Int32) (h : Hp) : Res Hp :=
  if x1 = (0 : Int32) then
  (retI (hg h 3 8) h)
  else if x1 = (1 : Int32) then
  (retI (hg h 3 9) h)
  else if x1 = (2 : Int32) then
  (retI (hg h 3 11) h)
  else if x1 = (3 : Int32) then
  (retI (hg h 3 10) h)
  else if x1 = (4 : Int32) then
  (bI (F_La_lettersThere 3 h) fun v2 h1 =>
  retI v2 h1)
  else if x1 = (5 : Int32) then
  (bI (F_La_ofKind 3 (1 : Int32) h) fun v4 h3 =>
  bI (F_Jint_bitCount v4 h3) fun v6 h5 =>
  retI v6 h5)
  else if x1 = (6 : Int32) then
  (bI (F_Bp_sheetsThere 1 h) fun v8 h7 =>
  retI v8 h7)
  else if x1 = (7 : Int32) then
  (bI (F_Bp_sheetsThere 2 h) fun v10 h9 =>
  retI v10 h9)
  else if x1 = (8 : Int32) then
  (bI (F_Bp_landsKept  h) fun v12 h11 =>
  retI v12 h11)
  else 
  (retI (-1 : Int32) h)
def sF_Bp_count : List Value → Hp → Res Hp := fun as h => match as with | [.ref f0, .int x1] => (match Nat.beq f0 0 with | true => F_Bp_count x1 h | false => none) | _ => none
theorem w_Bp_count (x1 : Int32) (h : Hp) : sF_Bp_count [.ref 0, .int x1] h = F_Bp_count x1 h := rfl
def S_Bp_count : Sem Hp := [(191, sF_La_lettersThere), (180, sF_La_ofKind), (250, sF_Jint_bitCount), (59, sF_Bp_sheetsThere), (60, sF_Bp_landsKept)]
set_option maxRecDepth 100000 in
theorem e_Bp_count_0 (x1 : Int32) (h : Hp) : F_Bp_count x1 h = exec1 OI S_Bp_count 1 k_Bp_count 0 [some (.ref 0), some (.int x1)] [] h (runF OI S_Bp_count [] 1 k_Bp_count 400) :=
  (x_ite rfl (x_ite rfl (x_ite rfl (x_ite rfl (x_ite (x_bI (f := sF_La_lettersThere) rfl (w_La_lettersThere _ _) fun v2 h1 => rfl) (x_ite (x_bI (f := sF_La_ofKind) rfl (w_La_ofKind _ _ _) fun v4 h3 => (x_bI (f := sF_Jint_bitCount) rfl (w_Jint_bitCount _ _) fun v6 h5 => rfl)) (x_ite (x_bI (f := sF_Bp_sheetsThere) rfl (w_Bp_sheetsThere _ _) fun v8 h7 => rfl) (x_ite (x_bI (f := sF_Bp_sheetsThere) rfl (w_Bp_sheetsThere _ _) fun v10 h9 => rfl) (x_ite (x_bI (f := sF_Bp_landsKept) rfl (w_Bp_landsKept  _) fun v12 h11 => rfl) rfl)))))))))
def k_Bp_finding : List Ent := [(0, .aload_n 0, 1, [], .null), (1, .getfield 65, 3, [6, 10, 0], .null), (4, .ireturn, 1, [], .null)]
def F_Bp_finding  (h : Hp) : Res Hp :=
  retI (hg h 0 10) h
def sF_Bp_finding : List Value → Hp → Res Hp := fun as h => match as with | [.ref f0] => (match Nat.beq f0 0 with | true => F_Bp_finding  h | false => none) | _ => none
theorem w_Bp_finding  (h : Hp) : sF_Bp_finding [.ref 0] h = F_Bp_finding  h := rfl
def S_Bp_finding : Sem Hp := []
set_option maxRecDepth 100000 in
theorem e_Bp_finding_0  (h : Hp) : F_Bp_finding  h = exec1 OI S_Bp_finding 1 k_Bp_finding 0 [some (.ref 0)] [] h (runF OI S_Bp_finding [] 1 k_Bp_finding 400) :=
  rfl
def k_Bp_findings : List Ent := [(0, .iload_n 1, 1, [], .null), (1, .iconst 1, 1, [], .int (1)), (2, .if_icmp .lt (8), 3, [10], .null), (5, .iload_n 1, 1, [], .null), (6, .iconst 5, 1, [], .int (5)), (7, .if_icmp .le (5), 3, [12], .null), (10, .iconst (-1), 1, [], .int (-1)), (11, .ireturn, 1, [], .null), (12, .aload_n 0, 1, [], .null), (13, .getfield 61, 3, [6, 9, 1], .null), (16, .iload_n 1, 1, [], .null), (17, .iaload, 1, [], .null), (18, .ireturn, 1, [], .null)]
def F_Bp_findings (x1 : Int32) (h : Hp) : Res Hp :=
  if x1 < (1 : Int32) then
  (retI (-1 : Int32) h)
  else
  (if x1 ≤ (5 : Int32) then
  (bif okA 70 100 x1 then
  retI (hg h 70 x1.toNatClampNeg) h
  else none)
  else
  (retI (-1 : Int32) h))
def sF_Bp_findings : List Value → Hp → Res Hp := fun as h => match as with | [.ref f0, .int x1] => (match Nat.beq f0 0 with | true => F_Bp_findings x1 h | false => none) | _ => none
theorem w_Bp_findings (x1 : Int32) (h : Hp) : sF_Bp_findings [.ref 0, .int x1] h = F_Bp_findings x1 h := rfl
def S_Bp_findings : Sem Hp := []
set_option maxRecDepth 100000 in
theorem e_Bp_findings_0 (x1 : Int32) (h : Hp) : F_Bp_findings x1 h = exec1 OI S_Bp_findings 1 k_Bp_findings 0 [some (.ref 0), some (.int x1)] [] h (runF OI S_Bp_findings [] 1 k_Bp_findings 400) :=
  (x_ite rfl (x_ite (x_bif rfl) rfl))
def k_La_digestFrom : List Ent := [(0, .lload_n 1, 1, [], .null), (1, .lstore_n 3, 1, [], .null), (2, .iconst 0, 1, [], .int (0)), (3, .istore 5, 2, [], .null), (5, .iload 5, 2, [], .null), (7, .aload_n 0, 1, [], .null), (8, .getfield 41, 3, [0, 8, 0], .null), (11, .if_icmp .ge (40), 3, [51], .null), (14, .iconst 0, 1, [], .int (0)), (15, .istore 6, 2, [], .null), (17, .iload 6, 2, [], .null), (19, .iconst 3, 1, [], .int (3)), (20, .if_icmp .gt (25), 3, [45], .null), (23, .ldc2_w 163, 3, [], .long 31), (26, .lload_n 3, 1, [], .null), (27, .lmul, 1, [], .null), (28, .aload_n 0, 1, [], .null), (29, .iload 5, 2, [], .null), (31, .iload 6, 2, [], .null), (33, .invokevirtual 165, 3, [188, 3, 1], .null), (36, .i2l, 1, [], .null), (37, .ladd, 1, [], .null), (38, .lstore_n 3, 1, [], .null), (39, .iinc 6 (1), 3, [], .int (1)), (42, .goto (-25), 3, [17], .null), (45, .iinc 5 (1), 3, [], .int (1)), (48, .goto (-43), 3, [5], .null), (51, .iconst 0, 1, [], .int (0)), (52, .istore 5, 2, [], .null), (54, .iload 5, 2, [], .null), (56, .aload_n 0, 1, [], .null), (57, .getfield 45, 3, [0, 9, 0], .null), (60, .if_icmp .ge (54), 3, [114], .null), (63, .ldc2_w 163, 3, [], .long 31), (66, .lload_n 3, 1, [], .null), (67, .lmul, 1, [], .null), (68, .aload_n 0, 1, [], .null), (69, .getfield 18, 3, [0, 2, 1], .null), (72, .iload 5, 2, [], .null), (74, .iaload, 1, [], .null), (75, .i2l, 1, [], .null), (76, .ladd, 1, [], .null), (77, .lstore_n 3, 1, [], .null), (78, .ldc2_w 163, 3, [], .long 31), (81, .lload_n 3, 1, [], .null), (82, .lmul, 1, [], .null), (83, .aload_n 0, 1, [], .null), (84, .getfield 21, 3, [0, 3, 1], .null), (87, .iload 5, 2, [], .null), (89, .iaload, 1, [], .null), (90, .i2l, 1, [], .null), (91, .ladd, 1, [], .null), (92, .lstore_n 3, 1, [], .null), (93, .ldc2_w 163, 3, [], .long 31), (96, .lload_n 3, 1, [], .null), (97, .lmul, 1, [], .null), (98, .aload_n 0, 1, [], .null), (99, .getfield 24, 3, [0, 4, 1], .null), (102, .iload 5, 2, [], .null), (104, .iaload, 1, [], .null), (105, .i2l, 1, [], .null), (106, .ladd, 1, [], .null), (107, .lstore_n 3, 1, [], .null), (108, .iinc 5 (1), 3, [], .int (1)), (111, .goto (-57), 3, [54], .null), (114, .iconst 0, 1, [], .int (0)), (115, .istore 5, 2, [], .null), (117, .iload 5, 2, [], .null), (119, .aload_n 0, 1, [], .null), (120, .getfield 48, 3, [0, 10, 0], .null), (123, .if_icmp .ge (90), 3, [213], .null), (126, .ldc2_w 163, 3, [], .long 31), (129, .lload_n 3, 1, [], .null), (130, .lmul, 1, [], .null), (131, .aload_n 0, 1, [], .null), (132, .getfield 37, 3, [0, 7, 1], .null), (135, .iload 5, 2, [], .null), (137, .aaload, 1, [], .null), (138, .getfield 111, 3, [1, 3, 0], .null), (141, .i2l, 1, [], .null), (142, .ladd, 1, [], .null), (143, .lstore_n 3, 1, [], .null), (144, .ldc2_w 163, 3, [], .long 31), (147, .lload_n 3, 1, [], .null), (148, .lmul, 1, [], .null), (149, .aload_n 0, 1, [], .null), (150, .getfield 37, 3, [0, 7, 1], .null), (153, .iload 5, 2, [], .null), (155, .aaload, 1, [], .null), (156, .getfield 118, 3, [1, 4, 0], .null), (159, .i2l, 1, [], .null), (160, .ladd, 1, [], .null), (161, .lstore_n 3, 1, [], .null), (162, .iconst 0, 1, [], .int (0)), (163, .istore 6, 2, [], .null), (165, .iload 6, 2, [], .null), (167, .aload_n 0, 1, [], .null), (168, .getfield 37, 3, [0, 7, 1], .null), (171, .iload 5, 2, [], .null), (173, .aaload, 1, [], .null), (174, .getfield 168, 3, [1, 2, 0], .null), (177, .if_icmp .ge (30), 3, [207], .null), (180, .ldc2_w 163, 3, [], .long 31), (183, .lload_n 3, 1, [], .null), (184, .lmul, 1, [], .null), (185, .aload_n 0, 1, [], .null), (186, .getfield 37, 3, [0, 7, 1], .null), (189, .iload 5, 2, [], .null), (191, .aaload, 1, [], .null), (192, .getfield 171, 3, [1, 0, 1], .null), (195, .iload 6, 2, [], .null), (197, .iaload, 1, [], .null), (198, .i2l, 1, [], .null), (199, .ladd, 1, [], .null), (200, .lstore_n 3, 1, [], .null), (201, .iinc 6 (1), 3, [], .int (1)), (204, .goto (-39), 3, [165], .null), (207, .iinc 5 (1), 3, [], .int (1)), (210, .goto (-93), 3, [117], .null), (213, .lload_n 3, 1, [], .null), (214, .lreturn, 1, [], .null)]
def La_digestFrom_165 (κ117 : (Int64 × Int32) → Res Hp) (o0 : Nat) (x5 : Int32) (h : Hp) : (Int64 × Int32) → ((Int64 × Int32) → Res Hp) → Res Hp := fun s κ165 => match s with
  | (y3, x6) =>
  bif okF o0 0 7 1 then
  bif okR (shR o0 7) x5 then
  bif okF (shR (shR o0 7) x5.toNatClampNeg) 1 2 0 then
  if (hg h (shR (shR o0 7) x5.toNatClampNeg) 2) ≤ x6 then
  (κ117 (y3, (x5 + (1 : Int32))))
  else
  (bif okF o0 0 7 1 then
  bif okR (shR o0 7) x5 then
  bif okF (shR (shR o0 7) x5.toNatClampNeg) 1 0 1 then
  bif okA (shR (shR (shR o0 7) x5.toNatClampNeg) 0) 100 x6 then
  κ165 ((((31 : Int64) * y3) + (hg h (shR (shR (shR o0 7) x5.toNatClampNeg) 0) x6.toNatClampNeg).toInt64), (x6 + (1 : Int32)))
  else none
  else none
  else none
  else none)
  else none
  else none
  else none
def La_digestFrom_117  (o0 : Nat) (h : Hp) : (Int64 × Int32) → ((Int64 × Int32) → Res Hp) → Res Hp := fun s κ117 => match s with
  | (y3, x5) =>
  bif okF o0 0 10 0 then
  if (hg h o0 10) ≤ x5 then
  (retL y3 h)
  else
  (bif okF o0 0 7 1 then
  bif okR (shR o0 7) x5 then
  bif okF (shR (shR o0 7) x5.toNatClampNeg) 1 3 0 then
  bif okF o0 0 7 1 then
  bif okR (shR o0 7) x5 then
  bif okF (shR (shR o0 7) x5.toNatClampNeg) 1 4 0 then
  loopC (La_digestFrom_165 κ117 o0 x5 h) FU ((((31 : Int64) * (((31 : Int64) * y3) + (hg h (shR (shR o0 7) x5.toNatClampNeg) 3).toInt64)) + (hg h (shR (shR o0 7) x5.toNatClampNeg) 4).toInt64), (0 : Int32))
  else none
  else none
  else none
  else none
  else none
  else none)
  else none
def La_digestFrom_54  (o0 : Nat) (h : Hp) : (Int64 × Int32) → ((Int64 × Int32) → Res Hp) → Res Hp := fun s κ54 => match s with
  | (y3, x5) =>
  bif okF o0 0 9 0 then
  if (hg h o0 9) ≤ x5 then
  (loopC (La_digestFrom_117  o0 h) FU (y3, (0 : Int32)))
  else
  (bif okF o0 0 2 1 then
  bif okA (shR o0 2) 100 x5 then
  bif okF o0 0 3 1 then
  bif okA (shR o0 3) 100 x5 then
  bif okF o0 0 4 1 then
  bif okA (shR o0 4) 100 x5 then
  κ54 ((((31 : Int64) * (((31 : Int64) * (((31 : Int64) * y3) + (hg h (shR o0 2) x5.toNatClampNeg).toInt64)) + (hg h (shR o0 3) x5.toNatClampNeg).toInt64)) + (hg h (shR o0 4) x5.toNatClampNeg).toInt64), (x5 + (1 : Int32)))
  else none
  else none
  else none
  else none
  else none
  else none)
  else none
def La_digestFrom_17 (κ5 : (Int64 × Int32 × Hp) → Res Hp) (o0 : Nat) (x5 : Int32)  : (Int64 × Int32 × Hp) → ((Int64 × Int32 × Hp) → Res Hp) → Res Hp := fun s κ17 => match s with
  | (y3, x6, h) =>
  if (3 : Int32) < x6 then
  (κ5 (y3, (x5 + (1 : Int32)), h))
  else
  (bI (F_La_factOf o0 x5 x6 h) fun v2 h1 =>
  κ17 ((((31 : Int64) * y3) + v2.toInt64), (x6 + (1 : Int32)), h1))
def La_digestFrom_5  (o0 : Nat)  : (Int64 × Int32 × Hp) → ((Int64 × Int32 × Hp) → Res Hp) → Res Hp := fun s κ5 => match s with
  | (y3, x5, h) =>
  bif okF o0 0 8 0 then
  if (hg h o0 8) ≤ x5 then
  (loopC (La_digestFrom_54  o0 h) FU (y3, (0 : Int32)))
  else
  (loopC (La_digestFrom_17 κ5 o0 x5 ) FU (y3, (0 : Int32), h))
  else none
def F_La_digestFrom (o0 : Nat) (y1 : Int64) (h : Hp) : Res Hp :=
  loopC (La_digestFrom_5  o0 ) FU (y1, (0 : Int32), h)
def sF_La_digestFrom : List Value → Hp → Res Hp := fun as h => match as with | [.ref o0, .long y1] => F_La_digestFrom o0 y1 h | _ => none
theorem w_La_digestFrom (o0 : Nat) (y1 : Int64) (h : Hp) : sF_La_digestFrom [.ref o0, .long y1] h = F_La_digestFrom o0 y1 h := rfl
def S_La_digestFrom : Sem Hp := [(188, sF_La_factOf)]
set_option maxRecDepth 100000 in
theorem e_La_digestFrom_0 (o0 : Nat) (y1 : Int64) (h : Hp) : F_La_digestFrom o0 y1 h = exec1 OI S_La_digestFrom 3 k_La_digestFrom 0 [some (.ref o0), some (.long y1), none, none, none, none, none] [] h (runF OI S_La_digestFrom [(5, [0, 3, 5], fun vs st h => match vs, st with | [.ref o0, .long y3, .int x5], [] => loopC (La_digestFrom_5  o0 ) FU (y3, x5, h) | _, _ => none)] 3 k_La_digestFrom 400) :=
  rfl
set_option maxRecDepth 100000 in
theorem e_La_digestFrom_5 (κ5 : (Int64 × Int32 × Hp) → Res Hp) (o0 : Nat) (y3 : Int64) (x5 : Int32)  (h : Hp) : La_digestFrom_5  o0  (y3, x5, h) κ5 = exec1 OI S_La_digestFrom 3 k_La_digestFrom 5 [some (.ref o0), none, none, some (.long y3), none, some (.int x5), none] [] h (runF OI S_La_digestFrom [(54, [0, 3, 5], fun vs st h => match vs, st with | [.ref o0, .long y3, .int x5], [] => loopC (La_digestFrom_54  o0 h) FU (y3, x5) | _, _ => none), (17, [0, 3, 5, 6], fun vs st h => match vs, st with | [.ref o0, .long y3, .int x5, .int x6], [] => loopC (La_digestFrom_17 κ5 o0 x5 ) FU (y3, x6, h) | _, _ => none)] 3 k_La_digestFrom 400) :=
  (x_bif (x_ite rfl rfl))
set_option maxRecDepth 100000 in
theorem e_La_digestFrom_54 (κ54 : (Int64 × Int32) → Res Hp) (o0 : Nat) (y3 : Int64) (x5 : Int32)  (h : Hp) : La_digestFrom_54  o0 h (y3, x5) κ54 = exec1 OI S_La_digestFrom 3 k_La_digestFrom 54 [some (.ref o0), none, none, some (.long y3), none, some (.int x5), none] [] h (runF OI S_La_digestFrom [(117, [0, 3, 5], fun vs st h => match vs, st with | [.ref o0, .long y3, .int x5], [] => loopC (La_digestFrom_117  o0 h) FU (y3, x5) | _, _ => none), (54, [0, 3, 5], fun vs st h => match vs, st with | [.ref o0, .long y3, .int x5], [] => κ54 (y3, x5) | _, _ => none)] 3 k_La_digestFrom 400) :=
  (x_bif (x_ite rfl (x_bif (x_bif (x_bif (x_bif (x_bif (x_bif rfl))))))))
set_option maxRecDepth 100000 in
theorem e_La_digestFrom_117 (κ117 : (Int64 × Int32) → Res Hp) (o0 : Nat) (y3 : Int64) (x5 : Int32)  (h : Hp) : La_digestFrom_117  o0 h (y3, x5) κ117 = exec1 OI S_La_digestFrom 3 k_La_digestFrom 117 [some (.ref o0), none, none, some (.long y3), none, some (.int x5), none] [] h (runF OI S_La_digestFrom [(165, [0, 3, 5, 6], fun vs st h => match vs, st with | [.ref o0, .long y3, .int x5, .int x6], [] => loopC (La_digestFrom_165 κ117 o0 x5 h) FU (y3, x6) | _, _ => none)] 3 k_La_digestFrom 400) :=
  (x_bif (x_ite rfl (x_bif (x_bif (x_bif (x_bif (x_bif (x_bif rfl))))))))
set_option maxRecDepth 100000 in
theorem e_La_digestFrom_165 (κ117 : (Int64 × Int32) → Res Hp) (κ165 : (Int64 × Int32) → Res Hp) (o0 : Nat) (y3 : Int64) (x5 : Int32) (x6 : Int32)  (h : Hp) : La_digestFrom_165 κ117 o0 x5 h (y3, x6) κ165 = exec1 OI S_La_digestFrom 3 k_La_digestFrom 165 [some (.ref o0), none, none, some (.long y3), none, some (.int x5), some (.int x6)] [] h (runF OI S_La_digestFrom [(117, [0, 3, 5], fun vs st h => match vs, st with | [.ref o0, .long y3, .int x5], [] => κ117 (y3, x5) | _, _ => none), (165, [0, 3, 5, 6], fun vs st h => match vs, st with | [.ref o0, .long y3, .int x5, .int x6], [] => κ165 (y3, x6) | _, _ => none)] 3 k_La_digestFrom 400) :=
  (x_bif (x_bif (x_bif (x_ite rfl (x_bif (x_bif (x_bif (x_bif rfl))))))))
set_option maxRecDepth 100000 in
theorem e_La_digestFrom_17 (κ5 : (Int64 × Int32 × Hp) → Res Hp) (κ17 : (Int64 × Int32 × Hp) → Res Hp) (o0 : Nat) (y3 : Int64) (x5 : Int32) (x6 : Int32)  (h : Hp) : La_digestFrom_17 κ5 o0 x5  (y3, x6, h) κ17 = exec1 OI S_La_digestFrom 3 k_La_digestFrom 17 [some (.ref o0), none, none, some (.long y3), none, some (.int x5), some (.int x6)] [] h (runF OI S_La_digestFrom [(5, [0, 3, 5], fun vs st h => match vs, st with | [.ref o0, .long y3, .int x5], [] => κ5 (y3, x5, h) | _, _ => none), (17, [0, 3, 5, 6], fun vs st h => match vs, st with | [.ref o0, .long y3, .int x5, .int x6], [] => κ17 (y3, x6, h) | _, _ => none)] 3 k_La_digestFrom 400) :=
  (x_ite rfl (x_bI (f := sF_La_factOf) rfl (w_La_factOf _ _ _ _) fun v2 h1 => rfl))
def k_Sh_digestFrom : List Ent := [(0, .ldc2_w 29, 3, [], .long 31), (3, .lload_n 1, 1, [], .null), (4, .lmul, 1, [], .null), (5, .aload_n 0, 1, [], .null), (6, .getfield 11, 3, [4, 1, 0], .null), (9, .i2l, 1, [], .null), (10, .ladd, 1, [], .null), (11, .lstore_n 3, 1, [], .null), (12, .iconst 0, 1, [], .int (0)), (13, .istore 5, 2, [], .null), (15, .iload 5, 2, [], .null), (17, .aload_n 0, 1, [], .null), (18, .getfield 11, 3, [4, 1, 0], .null), (21, .if_icmp .ge (24), 3, [45], .null), (24, .ldc2_w 29, 3, [], .long 31), (27, .lload_n 3, 1, [], .null), (28, .lmul, 1, [], .null), (29, .aload_n 0, 1, [], .null), (30, .getfield 15, 3, [4, 0, 1], .null), (33, .iload 5, 2, [], .null), (35, .iaload, 1, [], .null), (36, .i2l, 1, [], .null), (37, .ladd, 1, [], .null), (38, .lstore_n 3, 1, [], .null), (39, .iinc 5 (1), 3, [], .int (1)), (42, .goto (-27), 3, [15], .null), (45, .lload_n 3, 1, [], .null), (46, .lreturn, 1, [], .null)]
def Sh_digestFrom_15  (o0 : Nat) (h : Hp) : (Int64 × Int32) → ((Int64 × Int32) → Res Hp) → Res Hp := fun s κ15 => match s with
  | (y3, x5) =>
  bif okF o0 4 1 0 then
  if (hg h o0 1) ≤ x5 then
  (retL y3 h)
  else
  (bif okF o0 4 0 1 then
  bif okA (shR o0 0) 100 x5 then
  κ15 ((((31 : Int64) * y3) + (hg h (shR o0 0) x5.toNatClampNeg).toInt64), (x5 + (1 : Int32)))
  else none
  else none)
  else none
def F_Sh_digestFrom (o0 : Nat) (y1 : Int64) (h : Hp) : Res Hp :=
  bif okF o0 4 1 0 then
  loopC (Sh_digestFrom_15  o0 h) FU ((((31 : Int64) * y1) + (hg h o0 1).toInt64), (0 : Int32))
  else none
def sF_Sh_digestFrom : List Value → Hp → Res Hp := fun as h => match as with | [.ref o0, .long y1] => F_Sh_digestFrom o0 y1 h | _ => none
theorem w_Sh_digestFrom (o0 : Nat) (y1 : Int64) (h : Hp) : sF_Sh_digestFrom [.ref o0, .long y1] h = F_Sh_digestFrom o0 y1 h := rfl
def S_Sh_digestFrom : Sem Hp := []
set_option maxRecDepth 100000 in
theorem e_Sh_digestFrom_0 (o0 : Nat) (y1 : Int64) (h : Hp) : F_Sh_digestFrom o0 y1 h = exec1 OI S_Sh_digestFrom 3 k_Sh_digestFrom 0 [some (.ref o0), some (.long y1), none, none, none, none] [] h (runF OI S_Sh_digestFrom [(15, [0, 3, 5], fun vs st h => match vs, st with | [.ref o0, .long y3, .int x5], [] => loopC (Sh_digestFrom_15  o0 h) FU (y3, x5) | _, _ => none)] 3 k_Sh_digestFrom 400) :=
  (x_bif rfl)
set_option maxRecDepth 100000 in
theorem e_Sh_digestFrom_15 (κ15 : (Int64 × Int32) → Res Hp) (o0 : Nat) (y3 : Int64) (x5 : Int32)  (h : Hp) : Sh_digestFrom_15  o0 h (y3, x5) κ15 = exec1 OI S_Sh_digestFrom 3 k_Sh_digestFrom 15 [some (.ref o0), none, none, some (.long y3), none, some (.int x5)] [] h (runF OI S_Sh_digestFrom [(15, [0, 3, 5], fun vs st h => match vs, st with | [.ref o0, .long y3, .int x5], [] => κ15 (y3, x5) | _, _ => none)] 3 k_Sh_digestFrom 400) :=
  (x_bif (x_ite rfl (x_bif (x_bif rfl))))
def k_Bp_digest : List Ent := [(0, .ldc2_w 317, 3, [], .long 17), (3, .lstore_n 1, 1, [], .null), (4, .iconst 0, 1, [], .int (0)), (5, .istore_n 3, 1, [], .null), (6, .iload_n 3, 1, [], .null), (7, .bipush (8), 2, [], .int (8)), (9, .if_icmp .gt (22), 3, [31], .null), (12, .ldc2_w 319, 3, [], .long 31), (15, .lload_n 1, 1, [], .null), (16, .lmul, 1, [], .null), (17, .aload_n 0, 1, [], .null), (18, .iload_n 3, 1, [], .null), (19, .invokevirtual 321, 3, [46, 2, 1], .null), (22, .i2l, 1, [], .null), (23, .ladd, 1, [], .null), (24, .lstore_n 1, 1, [], .null), (25, .iinc 3 (1), 3, [], .int (1)), (28, .goto (-22), 3, [6], .null), (31, .aload_n 0, 1, [], .null), (32, .getfield 21, 3, [6, 2, 1], .null), (35, .lload_n 1, 1, [], .null), (36, .invokevirtual 324, 3, [194, 2, 3], .null), (39, .lstore_n 1, 1, [], .null), (40, .iconst 0, 1, [], .int (0)), (41, .istore_n 3, 1, [], .null), (42, .iload_n 3, 1, [], .null), (43, .iconst 3, 1, [], .int (3)), (44, .if_icmp .ge (39), 3, [83], .null), (47, .ldc2_w 319, 3, [], .long 31), (50, .lload_n 1, 1, [], .null), (51, .lmul, 1, [], .null), (52, .aload_n 0, 1, [], .null), (53, .getfield 32, 3, [6, 5, 1], .null), (56, .iload_n 3, 1, [], .null), (57, .baload, 1, [], .null), (58, .ifCond .eq (15), 3, [73], .null), (61, .aload_n 0, 1, [], .null), (62, .getfield 28, 3, [6, 4, 1], .null), (65, .iload_n 3, 1, [], .null), (66, .aaload, 1, [], .null), (67, .getfield 188, 3, [0, 11, 0], .null), (70, .goto (4), 3, [74], .null), (73, .iconst (-1), 1, [], .int (-1)), (74, .i2l, 1, [], .null), (75, .ladd, 1, [], .null), (76, .lstore_n 1, 1, [], .null), (77, .iinc 3 (1), 3, [], .int (1)), (80, .goto (-38), 3, [42], .null), (83, .iconst 0, 1, [], .int (0)), (84, .istore_n 3, 1, [], .null), (85, .iload_n 3, 1, [], .null), (86, .bipush (6), 2, [], .int (6)), (88, .if_icmp .ge (20), 3, [108], .null), (91, .aload_n 0, 1, [], .null), (92, .getfield 11, 3, [6, 0, 1], .null), (95, .iload_n 3, 1, [], .null), (96, .aaload, 1, [], .null), (97, .lload_n 1, 1, [], .null), (98, .invokevirtual 328, 3, [231, 2, 3], .null), (101, .lstore_n 1, 1, [], .null), (102, .iinc 3 (1), 3, [], .int (1)), (105, .goto (-20), 3, [85], .null), (108, .iconst 0, 1, [], .int (0)), (109, .istore_n 3, 1, [], .null), (110, .iload_n 3, 1, [], .null), (111, .iconst 4, 1, [], .int (4)), (112, .if_icmp .ge (20), 3, [132], .null), (115, .aload_n 0, 1, [], .null), (116, .getfield 15, 3, [6, 1, 1], .null), (119, .iload_n 3, 1, [], .null), (120, .aaload, 1, [], .null), (121, .lload_n 1, 1, [], .null), (122, .invokevirtual 328, 3, [231, 2, 3], .null), (125, .lstore_n 1, 1, [], .null), (126, .iinc 3 (1), 3, [], .int (1)), (129, .goto (-19), 3, [110], .null), (132, .lload_n 1, 1, [], .null), (133, .lreturn, 1, [], .null)]
def Bp_digest_110    : (Int64 × Int32 × Hp) → ((Int64 × Int32 × Hp) → Res Hp) → Res Hp := fun s κ110 => match s with
  | (y1, x3, h) =>
  if (4 : Int32) ≤ x3 then
  (retL y1 h)
  else
  (bif okR 2 x3 then
  bL (F_Sh_digestFrom (shR 2 x3.toNatClampNeg) y1 h) fun w2 h1 =>
  κ110 (w2, (x3 + (1 : Int32)), h1)
  else none)
def Bp_digest_85    : (Int64 × Int32 × Hp) → ((Int64 × Int32 × Hp) → Res Hp) → Res Hp := fun s κ85 => match s with
  | (y1, x3, h) =>
  if (6 : Int32) ≤ x3 then
  (loopC (Bp_digest_110   ) FU (y1, (0 : Int32), h))
  else
  (bif okR 1 x3 then
  bL (F_Sh_digestFrom (shR 1 x3.toNatClampNeg) y1 h) fun w2 h1 =>
  κ85 (w2, (x3 + (1 : Int32)), h1)
  else none)
def Bp_digest_42   (h : Hp) : (Int64 × Int32) → ((Int64 × Int32) → Res Hp) → Res Hp := fun s κ42 => match s with
  | (y1, x3) =>
  if (3 : Int32) ≤ x3 then
  (loopC (Bp_digest_85   ) FU (y1, (0 : Int32), h))
  else
  (bif okA 62 101 x3 then
  if (hg h 62 x3.toNatClampNeg) = (0 : Int32) then
  (κ42 ((((31 : Int64) * y1) + (-1 : Int32).toInt64), (x3 + (1 : Int32))))
  else
  (bif okR 61 x3 then
  bif okF (shR 61 x3.toNatClampNeg) 0 11 0 then
  κ42 ((((31 : Int64) * y1) + (hg h (shR 61 x3.toNatClampNeg) 11).toInt64), (x3 + (1 : Int32)))
  else none
  else none)
  else none)
def Bp_digest_6    : (Int64 × Int32 × Hp) → ((Int64 × Int32 × Hp) → Res Hp) → Res Hp := fun s κ6 => match s with
  | (y1, x3, h) =>
  if (8 : Int32) < x3 then
  (bL (F_La_digestFrom 3 y1 h) fun w2 h1 =>
  loopC (Bp_digest_42   h1) FU (w2, (0 : Int32)))
  else
  (bI (F_Bp_count x3 h) fun v4 h3 =>
  κ6 ((((31 : Int64) * y1) + v4.toInt64), (x3 + (1 : Int32)), h3))
def F_Bp_digest  (h : Hp) : Res Hp :=
  loopC (Bp_digest_6   ) FU ((17 : Int64), (0 : Int32), h)
def sF_Bp_digest : List Value → Hp → Res Hp := fun as h => match as with | [.ref f0] => (match Nat.beq f0 0 with | true => F_Bp_digest  h | false => none) | _ => none
theorem w_Bp_digest  (h : Hp) : sF_Bp_digest [.ref 0] h = F_Bp_digest  h := rfl
def S_Bp_digest : Sem Hp := [(194, sF_La_digestFrom), (231, sF_Sh_digestFrom), (46, sF_Bp_count)]
set_option maxRecDepth 100000 in
theorem e_Bp_digest_0  (h : Hp) : F_Bp_digest  h = exec1 OI S_Bp_digest 3 k_Bp_digest 0 [some (.ref 0), none, none, none] [] h (runF OI S_Bp_digest [(6, [0, 1, 3], fun vs st h => match vs, st with | [.ref f0, .long y1, .int x3], [] => (match Nat.beq f0 0 with | true => loopC (Bp_digest_6   ) FU (y1, x3, h) | false => none) | _, _ => none)] 3 k_Bp_digest 400) :=
  rfl
set_option maxRecDepth 100000 in
theorem e_Bp_digest_6 (κ6 : (Int64 × Int32 × Hp) → Res Hp) (y1 : Int64) (x3 : Int32)  (h : Hp) : Bp_digest_6    (y1, x3, h) κ6 = exec1 OI S_Bp_digest 3 k_Bp_digest 6 [some (.ref 0), some (.long y1), none, some (.int x3)] [] h (runF OI S_Bp_digest [(42, [0, 1, 3], fun vs st h => match vs, st with | [.ref f0, .long y1, .int x3], [] => (match Nat.beq f0 0 with | true => loopC (Bp_digest_42   h) FU (y1, x3) | false => none) | _, _ => none), (6, [0, 1, 3], fun vs st h => match vs, st with | [.ref f0, .long y1, .int x3], [] => (match Nat.beq f0 0 with | true => κ6 (y1, x3, h) | false => none) | _, _ => none)] 3 k_Bp_digest 400) :=
  (x_ite (x_bL (f := sF_La_digestFrom) rfl (w_La_digestFrom _ _ _) fun w2 h1 => rfl) (x_bI (f := sF_Bp_count) rfl (w_Bp_count _ _) fun v4 h3 => rfl))
set_option maxRecDepth 100000 in
theorem e_Bp_digest_42 (κ42 : (Int64 × Int32) → Res Hp) (y1 : Int64) (x3 : Int32)  (h : Hp) : Bp_digest_42   h (y1, x3) κ42 = exec1 OI S_Bp_digest 3 k_Bp_digest 42 [some (.ref 0), some (.long y1), none, some (.int x3)] [] h (runF OI S_Bp_digest [(85, [0, 1, 3], fun vs st h => match vs, st with | [.ref f0, .long y1, .int x3], [] => (match Nat.beq f0 0 with | true => loopC (Bp_digest_85   ) FU (y1, x3, h) | false => none) | _, _ => none), (42, [0, 1, 3], fun vs st h => match vs, st with | [.ref f0, .long y1, .int x3], [] => (match Nat.beq f0 0 with | true => κ42 (y1, x3) | false => none) | _, _ => none)] 3 k_Bp_digest 400) :=
  (x_ite rfl (x_bif (x_ite rfl (x_bif (x_bif rfl)))))
set_option maxRecDepth 100000 in
theorem e_Bp_digest_85 (κ85 : (Int64 × Int32 × Hp) → Res Hp) (y1 : Int64) (x3 : Int32)  (h : Hp) : Bp_digest_85    (y1, x3, h) κ85 = exec1 OI S_Bp_digest 3 k_Bp_digest 85 [some (.ref 0), some (.long y1), none, some (.int x3)] [] h (runF OI S_Bp_digest [(110, [0, 1, 3], fun vs st h => match vs, st with | [.ref f0, .long y1, .int x3], [] => (match Nat.beq f0 0 with | true => loopC (Bp_digest_110   ) FU (y1, x3, h) | false => none) | _, _ => none), (85, [0, 1, 3], fun vs st h => match vs, st with | [.ref f0, .long y1, .int x3], [] => (match Nat.beq f0 0 with | true => κ85 (y1, x3, h) | false => none) | _, _ => none)] 3 k_Bp_digest 400) :=
  (x_ite rfl (x_bif (x_bL (f := sF_Sh_digestFrom) rfl (w_Sh_digestFrom _ _ _) fun w2 h1 => rfl)))
set_option maxRecDepth 100000 in
theorem e_Bp_digest_110 (κ110 : (Int64 × Int32 × Hp) → Res Hp) (y1 : Int64) (x3 : Int32)  (h : Hp) : Bp_digest_110    (y1, x3, h) κ110 = exec1 OI S_Bp_digest 3 k_Bp_digest 110 [some (.ref 0), some (.long y1), none, some (.int x3)] [] h (runF OI S_Bp_digest [(110, [0, 1, 3], fun vs st h => match vs, st with | [.ref f0, .long y1, .int x3], [] => (match Nat.beq f0 0 with | true => κ110 (y1, x3, h) | false => none) | _, _ => none)] 3 k_Bp_digest 400) :=
  (x_ite rfl (x_bif (x_bL (f := sF_Sh_digestFrom) rfl (w_Sh_digestFrom _ _ _) fun w2 h1 => rfl)))
def k_Mo_in : List Ent := [(0, .iload_n 0, 1, [], .null), (1, .iload_n 1, 1, [], .null), (2, .if_icmp .lt (12), 3, [14], .null), (5, .iload_n 0, 1, [], .null), (6, .iload_n 2, 1, [], .null), (7, .if_icmp .gt (7), 3, [14], .null), (10, .iconst 1, 1, [], .int (1)), (11, .goto (4), 3, [15], .null), (14, .iconst 0, 1, [], .int (0)), (15, .ireturn, 1, [], .null)]
def F_Mo_in (x0 : Int32) (x1 : Int32) (x2 : Int32) (h : Hp) : Res Hp :=
  if x0 < x1 then
  (retZ (0 : Int32) h)
  else
  (if x2 < x0 then
  (retZ (0 : Int32) h)
  else
  (retZ (1 : Int32) h))
def sF_Mo_in : List Value → Hp → Res Hp := fun as h => match as with | [.int x0, .int x1, .int x2] => F_Mo_in x0 x1 x2 h | _ => none
theorem w_Mo_in (x0 : Int32) (x1 : Int32) (x2 : Int32) (h : Hp) : sF_Mo_in [.int x0, .int x1, .int x2] h = F_Mo_in x0 x1 x2 h := rfl
def S_Mo_in : Sem Hp := []
set_option maxRecDepth 100000 in
theorem e_Mo_in_0 (x0 : Int32) (x1 : Int32) (x2 : Int32) (h : Hp) : F_Mo_in x0 x1 x2 h = exec1 OI S_Mo_in 2 k_Mo_in 0 [some (.int x0), some (.int x1), some (.int x2)] [] h (runF OI S_Mo_in [] 2 k_Mo_in 400) :=
  (x_ite rfl (x_ite rfl rfl))
def k_Mo_meetWith : List Ent := [(0, .aload_n 0, 1, [], .null), (1, .iload_n 1, 1, [], .null), (2, .putfield 65, 3, [7, 0, 0], .null), (5, .aload_n 0, 1, [], .null), (6, .getfield 7, 3, [7, 1, 1], .null), (9, .iload_n 1, 1, [], .null), (10, .dup2, 1, [], .null), (11, .iaload, 1, [], .null), (12, .iconst 1, 1, [], .int (1)), (13, .iadd, 1, [], .null), (14, .iastore, 1, [], .null), (15, .bipush (-3), 2, [], .int (-3)), (17, .ireturn, 1, [], .null)]
def F_Mo_meetWith (x1 : Int32) (h : Hp) : Res Hp :=
  bH (hs h 178 0 x1) fun h1 =>
  bif okA 179 100 x1 then
  bif okA 179 100 x1 then
  bH (hs h1 179 x1.toNatClampNeg ((hg h1 179 x1.toNatClampNeg) + (1 : Int32))) fun h2 =>
  retI (-3 : Int32) h2
  else none
  else none
def sF_Mo_meetWith : List Value → Hp → Res Hp := fun as h => match as with | [.ref f0, .int x1] => (match Nat.beq f0 178 with | true => F_Mo_meetWith x1 h | false => none) | _ => none
theorem w_Mo_meetWith (x1 : Int32) (h : Hp) : sF_Mo_meetWith [.ref 178, .int x1] h = F_Mo_meetWith x1 h := rfl
def S_Mo_meetWith : Sem Hp := []
set_option maxRecDepth 100000 in
theorem e_Mo_meetWith_0 (x1 : Int32) (h : Hp) : F_Mo_meetWith x1 h = exec1 OI S_Mo_meetWith 1 k_Mo_meetWith 0 [some (.ref 178), some (.int x1)] [] h (runF OI S_Mo_meetWith [] 1 k_Mo_meetWith 400) :=
  (x_bH fun h1 => (x_bif (x_bif (x_bH fun h2 => rfl))))
def k_Mo_ask : List Ent := [(0, .aload_n 0, 1, [], .null), (1, .iload_n 1, 1, [], .null), (2, .putfield 69, 3, [7, 2, 0], .null), (5, .iload_n 2, 1, [], .null), (6, .ireturn, 1, [], .null)]
def F_Mo_ask (x1 : Int32) (x2 : Int32) (h : Hp) : Res Hp :=
  bH (hs h 178 2 x1) fun h1 =>
  retI x2 h1
def sF_Mo_ask : List Value → Hp → Res Hp := fun as h => match as with | [.ref f0, .int x1, .int x2] => (match Nat.beq f0 178 with | true => F_Mo_ask x1 x2 h | false => none) | _ => none
theorem w_Mo_ask (x1 : Int32) (x2 : Int32) (h : Hp) : sF_Mo_ask [.ref 178, .int x1, .int x2] h = F_Mo_ask x1 x2 h := rfl
def S_Mo_ask : Sem Hp := []
set_option maxRecDepth 100000 in
theorem e_Mo_ask_0 (x1 : Int32) (x2 : Int32) (h : Hp) : F_Mo_ask x1 x2 h = exec1 OI S_Mo_ask 1 k_Mo_ask 0 [some (.ref 178), some (.int x1), some (.int x2)] [] h (runF OI S_Mo_ask [] 1 k_Mo_ask 400) :=
  (x_bH fun h1 => rfl)
def k_Mo_has : List Ent := [(0, .iload_n 0, 1, [], .null), (1, .iload_n 1, 1, [], .null), (2, .ishr, 1, [], .null), (3, .iconst 1, 1, [], .int (1)), (4, .iand, 1, [], .null), (5, .iconst 1, 1, [], .int (1)), (6, .if_icmp .ne (7), 3, [13], .null), (9, .iconst 1, 1, [], .int (1)), (10, .goto (4), 3, [14], .null), (13, .iconst 0, 1, [], .int (0)), (14, .ireturn, 1, [], .null)]
def F_Mo_has (x0 : Int32) (x1 : Int32) (h : Hp) : Res Hp :=
  if ((x0 >>> (x1 &&& 31)) &&& (1 : Int32)) = (1 : Int32) then
  (retZ (1 : Int32) h)
  else
  (retZ (0 : Int32) h)
def sF_Mo_has : List Value → Hp → Res Hp := fun as h => match as with | [.int x0, .int x1] => F_Mo_has x0 x1 h | _ => none
theorem w_Mo_has (x0 : Int32) (x1 : Int32) (h : Hp) : sF_Mo_has [.int x0, .int x1] h = F_Mo_has x0 x1 h := rfl
def S_Mo_has : Sem Hp := []
set_option maxRecDepth 100000 in
theorem e_Mo_has_0 (x0 : Int32) (x1 : Int32) (h : Hp) : F_Mo_has x0 x1 h = exec1 OI S_Mo_has 2 k_Mo_has 0 [some (.int x0), some (.int x1)] [] h (runF OI S_Mo_has [] 2 k_Mo_has 400) :=
  (x_ite rfl rfl)
def k_Mo_sizeOf : List Ent := [(0, .iconst 0, 1, [], .int (0)), (1, .istore_n 1, 1, [], .null), (2, .iconst 0, 1, [], .int (0)), (3, .istore_n 2, 1, [], .null), (4, .iload_n 2, 1, [], .null), (5, .bipush (10), 2, [], .int (10)), (7, .if_icmp .ge (17), 3, [24], .null), (10, .iload_n 1, 1, [], .null), (11, .iload_n 0, 1, [], .null), (12, .iload_n 2, 1, [], .null), (13, .ishr, 1, [], .null), (14, .iconst 1, 1, [], .int (1)), (15, .iand, 1, [], .null), (16, .iadd, 1, [], .null), (17, .istore_n 1, 1, [], .null), (18, .iinc 2 (1), 3, [], .int (1)), (21, .goto (-17), 3, [4], .null), (24, .iload_n 1, 1, [], .null), (25, .ireturn, 1, [], .null)]
def Mo_sizeOf_4  (x0 : Int32) (h : Hp) : (Int32 × Int32) → ((Int32 × Int32) → Res Hp) → Res Hp := fun s κ4 => match s with
  | (x1, x2) =>
  if (10 : Int32) ≤ x2 then
  (retI x1 h)
  else
  (κ4 ((x1 + ((x0 >>> (x2 &&& 31)) &&& (1 : Int32))), (x2 + (1 : Int32))))
def F_Mo_sizeOf (x0 : Int32) (h : Hp) : Res Hp :=
  loopC (Mo_sizeOf_4  x0 h) FU ((0 : Int32), (0 : Int32))
def sF_Mo_sizeOf : List Value → Hp → Res Hp := fun as h => match as with | [.int x0] => F_Mo_sizeOf x0 h | _ => none
theorem w_Mo_sizeOf (x0 : Int32) (h : Hp) : sF_Mo_sizeOf [.int x0] h = F_Mo_sizeOf x0 h := rfl
def S_Mo_sizeOf : Sem Hp := []
set_option maxRecDepth 100000 in
theorem e_Mo_sizeOf_0 (x0 : Int32) (h : Hp) : F_Mo_sizeOf x0 h = exec1 OI S_Mo_sizeOf 1 k_Mo_sizeOf 0 [some (.int x0), none, none] [] h (runF OI S_Mo_sizeOf [(4, [0, 1, 2], fun vs st h => match vs, st with | [.int x0, .int x1, .int x2], [] => loopC (Mo_sizeOf_4  x0 h) FU (x1, x2) | _, _ => none)] 1 k_Mo_sizeOf 400) :=
  rfl
set_option maxRecDepth 100000 in
theorem e_Mo_sizeOf_4 (κ4 : (Int32 × Int32) → Res Hp) (x0 : Int32) (x1 : Int32) (x2 : Int32)  (h : Hp) : Mo_sizeOf_4  x0 h (x1, x2) κ4 = exec1 OI S_Mo_sizeOf 1 k_Mo_sizeOf 4 [some (.int x0), some (.int x1), some (.int x2)] [] h (runF OI S_Mo_sizeOf [(4, [0, 1, 2], fun vs st h => match vs, st with | [.int x0, .int x1, .int x2], [] => κ4 (x1, x2) | _, _ => none)] 1 k_Mo_sizeOf 400) :=
  (x_ite rfl rfl)
def k_Mo_isRow : List Ent := [(0, .iload_n 0, 1, [], .null), (1, .iconst 0, 1, [], .int (0)), (2, .iconst 5, 1, [], .int (5)), (3, .invokestatic 72, 3, [71, 3, 2], .null), (6, .ireturn, 1, [], .null)]
def F_Mo_isRow (x0 : Int32) (h : Hp) : Res Hp :=
  bI (F_Mo_in x0 (0 : Int32) (5 : Int32) h) fun v2 h1 =>
  retZ v2 h1
def sF_Mo_isRow : List Value → Hp → Res Hp := fun as h => match as with | [.int x0] => F_Mo_isRow x0 h | _ => none
theorem w_Mo_isRow (x0 : Int32) (h : Hp) : sF_Mo_isRow [.int x0] h = F_Mo_isRow x0 h := rfl
def S_Mo_isRow : Sem Hp := [(71, sF_Mo_in)]
set_option maxRecDepth 100000 in
theorem e_Mo_isRow_0 (x0 : Int32) (h : Hp) : F_Mo_isRow x0 h = exec1 OI S_Mo_isRow 2 k_Mo_isRow 0 [some (.int x0)] [] h (runF OI S_Mo_isRow [] 2 k_Mo_isRow 400) :=
  (x_bI (f := sF_Mo_in) rfl (w_Mo_in _ _ _ _) fun v2 h1 => rfl)
def k_Mo_isText : List Ent := [(0, .iload_n 0, 1, [], .null), (1, .iconst 0, 1, [], .int (0)), (2, .iconst 3, 1, [], .int (3)), (3, .invokestatic 72, 3, [71, 3, 2], .null), (6, .ireturn, 1, [], .null)]
def F_Mo_isText (x0 : Int32) (h : Hp) : Res Hp :=
  bI (F_Mo_in x0 (0 : Int32) (3 : Int32) h) fun v2 h1 =>
  retZ v2 h1
def sF_Mo_isText : List Value → Hp → Res Hp := fun as h => match as with | [.int x0] => F_Mo_isText x0 h | _ => none
theorem w_Mo_isText (x0 : Int32) (h : Hp) : sF_Mo_isText [.int x0] h = F_Mo_isText x0 h := rfl
def S_Mo_isText : Sem Hp := [(71, sF_Mo_in)]
set_option maxRecDepth 100000 in
theorem e_Mo_isText_0 (x0 : Int32) (h : Hp) : F_Mo_isText x0 h = exec1 OI S_Mo_isText 2 k_Mo_isText 0 [some (.int x0)] [] h (runF OI S_Mo_isText [] 2 k_Mo_isText 400) :=
  (x_bI (f := sF_Mo_in) rfl (w_Mo_in _ _ _ _) fun v2 h1 => rfl)
def k_Mo_askedRow : List Ent := [(0, .iload_n 1, 1, [], .null), (1, .invokestatic 76, 3, [76, 1, 2], .null), (4, .ifCond .ne (7), 3, [11], .null), (7, .iconst (-1), 1, [], .int (-1)), (8, .goto (21), 3, [29], .null), (11, .aload_n 0, 1, [], .null), (12, .getfield 13, 3, [7, 3, 1], .null), (15, .iload_n 1, 1, [], .null), (16, .iaload, 1, [], .null), (17, .ifCond .ge (11), 3, [28], .null), (20, .aload_n 0, 1, [], .null), (21, .iconst 1, 1, [], .int (1)), (22, .invokevirtual 80, 3, [72, 2, 1], .null), (25, .goto (4), 3, [29], .null), (28, .iconst 0, 1, [], .int (0)), (29, .ireturn, 1, [], .null)]
def F_Mo_askedRow (x1 : Int32) (h : Hp) : Res Hp :=
  bI (F_Mo_isRow x1 h) fun v2 h1 =>
  if v2 = (0 : Int32) then
  (retI (-1 : Int32) h1)
  else
  (bif okA 180 100 x1 then
  if (0 : Int32) ≤ (hg h1 180 x1.toNatClampNeg) then
  (retI (0 : Int32) h1)
  else
  (bI (F_Mo_meetWith (1 : Int32) h1) fun v4 h3 =>
  retI v4 h3)
  else none)
def sF_Mo_askedRow : List Value → Hp → Res Hp := fun as h => match as with | [.ref f0, .int x1] => (match Nat.beq f0 178 with | true => F_Mo_askedRow x1 h | false => none) | _ => none
theorem w_Mo_askedRow (x1 : Int32) (h : Hp) : sF_Mo_askedRow [.ref 178, .int x1] h = F_Mo_askedRow x1 h := rfl
def S_Mo_askedRow : Sem Hp := [(76, sF_Mo_isRow), (72, sF_Mo_meetWith)]
set_option maxRecDepth 100000 in
theorem e_Mo_askedRow_0 (x1 : Int32) (h : Hp) : F_Mo_askedRow x1 h = exec1 OI S_Mo_askedRow 1 k_Mo_askedRow 0 [some (.ref 178), some (.int x1)] [] h (runF OI S_Mo_askedRow [] 1 k_Mo_askedRow 400) :=
  (x_bI (f := sF_Mo_isRow) rfl (w_Mo_isRow _ _) fun v2 h1 => (x_ite rfl (x_bif (x_ite rfl (x_bI (f := sF_Mo_meetWith) rfl (w_Mo_meetWith _ _) fun v4 h3 => rfl)))))
def k_Mo_askedText : List Ent := [(0, .iload_n 1, 1, [], .null), (1, .invokestatic 84, 3, [77, 1, 2], .null), (4, .ifCond .ne (7), 3, [11], .null), (7, .iconst (-1), 1, [], .int (-1)), (8, .goto (21), 3, [29], .null), (11, .aload_n 0, 1, [], .null), (12, .getfield 22, 3, [7, 6, 1], .null), (15, .iload_n 1, 1, [], .null), (16, .iaload, 1, [], .null), (17, .ifCond .ge (11), 3, [28], .null), (20, .aload_n 0, 1, [], .null), (21, .iconst 1, 1, [], .int (1)), (22, .invokevirtual 80, 3, [72, 2, 1], .null), (25, .goto (4), 3, [29], .null), (28, .iconst 0, 1, [], .int (0)), (29, .ireturn, 1, [], .null)]
def F_Mo_askedText (x1 : Int32) (h : Hp) : Res Hp :=
  bI (F_Mo_isText x1 h) fun v2 h1 =>
  if v2 = (0 : Int32) then
  (retI (-1 : Int32) h1)
  else
  (bif okA 183 100 x1 then
  if (0 : Int32) ≤ (hg h1 183 x1.toNatClampNeg) then
  (retI (0 : Int32) h1)
  else
  (bI (F_Mo_meetWith (1 : Int32) h1) fun v4 h3 =>
  retI v4 h3)
  else none)
def sF_Mo_askedText : List Value → Hp → Res Hp := fun as h => match as with | [.ref f0, .int x1] => (match Nat.beq f0 178 with | true => F_Mo_askedText x1 h | false => none) | _ => none
theorem w_Mo_askedText (x1 : Int32) (h : Hp) : sF_Mo_askedText [.ref 178, .int x1] h = F_Mo_askedText x1 h := rfl
def S_Mo_askedText : Sem Hp := [(77, sF_Mo_isText), (72, sF_Mo_meetWith)]
set_option maxRecDepth 100000 in
theorem e_Mo_askedText_0 (x1 : Int32) (h : Hp) : F_Mo_askedText x1 h = exec1 OI S_Mo_askedText 1 k_Mo_askedText 0 [some (.ref 178), some (.int x1)] [] h (runF OI S_Mo_askedText [] 1 k_Mo_askedText 400) :=
  (x_bI (f := sF_Mo_isText) rfl (w_Mo_isText _ _) fun v2 h1 => (x_ite rfl (x_bif (x_ite rfl (x_bI (f := sF_Mo_meetWith) rfl (w_Mo_meetWith _ _) fun v4 h3 => rfl)))))
def k_Mo_rowAt : List Ent := [(0, .aload_n 0, 1, [], .null), (1, .getfield 16, 3, [7, 4, 1], .null), (4, .bipush (40), 2, [], .int (40)), (6, .iload_n 1, 1, [], .null), (7, .imul, 1, [], .null), (8, .iload_n 2, 1, [], .null), (9, .iadd, 1, [], .null), (10, .iaload, 1, [], .null), (11, .ireturn, 1, [], .null)]
def F_Mo_rowAt (x1 : Int32) (x2 : Int32) (h : Hp) : Res Hp :=
  bif okA 181 100 (((40 : Int32) * x1) + x2) then
  retI (hg h 181 (((40 : Int32) * x1) + x2).toNatClampNeg) h
  else none
def sF_Mo_rowAt : List Value → Hp → Res Hp := fun as h => match as with | [.ref f0, .int x1, .int x2] => (match Nat.beq f0 178 with | true => F_Mo_rowAt x1 x2 h | false => none) | _ => none
theorem w_Mo_rowAt (x1 : Int32) (x2 : Int32) (h : Hp) : sF_Mo_rowAt [.ref 178, .int x1, .int x2] h = F_Mo_rowAt x1 x2 h := rfl
def S_Mo_rowAt : Sem Hp := []
set_option maxRecDepth 100000 in
theorem e_Mo_rowAt_0 (x1 : Int32) (x2 : Int32) (h : Hp) : F_Mo_rowAt x1 x2 h = exec1 OI S_Mo_rowAt 1 k_Mo_rowAt 0 [some (.ref 178), some (.int x1), some (.int x2)] [] h (runF OI S_Mo_rowAt [] 1 k_Mo_rowAt 400) :=
  (x_bif rfl)
def k_Mo_setRow : List Ent := [(0, .aload_n 0, 1, [], .null), (1, .getfield 16, 3, [7, 4, 1], .null), (4, .bipush (40), 2, [], .int (40)), (6, .iload_n 1, 1, [], .null), (7, .imul, 1, [], .null), (8, .iload_n 2, 1, [], .null), (9, .iadd, 1, [], .null), (10, .iload_n 3, 1, [], .null), (11, .iastore, 1, [], .null), (12, .return_, 1, [], .null)]
def F_Mo_setRow (x1 : Int32) (x2 : Int32) (x3 : Int32) (h : Hp) : Res Hp :=
  bif okA 181 100 (((40 : Int32) * x1) + x2) then
  bH (hs h 181 (((40 : Int32) * x1) + x2).toNatClampNeg x3) fun h1 =>
  retV h1
  else none
def sF_Mo_setRow : List Value → Hp → Res Hp := fun as h => match as with | [.ref f0, .int x1, .int x2, .int x3] => (match Nat.beq f0 178 with | true => F_Mo_setRow x1 x2 x3 h | false => none) | _ => none
theorem w_Mo_setRow (x1 : Int32) (x2 : Int32) (x3 : Int32) (h : Hp) : sF_Mo_setRow [.ref 178, .int x1, .int x2, .int x3] h = F_Mo_setRow x1 x2 x3 h := rfl
def S_Mo_setRow : Sem Hp := []
set_option maxRecDepth 100000 in
theorem e_Mo_setRow_0 (x1 : Int32) (x2 : Int32) (x3 : Int32) (h : Hp) : F_Mo_setRow x1 x2 x3 h = exec1 OI S_Mo_setRow 0 k_Mo_setRow 0 [some (.ref 178), some (.int x1), some (.int x2), some (.int x3)] [] h (runF OI S_Mo_setRow [] 0 k_Mo_setRow 400) :=
  (x_bif (x_bH fun h1 => rfl))
def k_Mo_row : List Ent := [(0, .iload_n 1, 1, [], .null), (1, .invokestatic 76, 3, [76, 1, 2], .null), (4, .ifCond .eq (9), 3, [13], .null), (7, .iload_n 2, 1, [], .null), (8, .bipush (40), 2, [], .int (40)), (10, .if_icmp .le (5), 3, [15], .null), (13, .iconst (-1), 1, [], .int (-1)), (14, .ireturn, 1, [], .null), (15, .iload_n 2, 1, [], .null), (16, .ifCond .ge (9), 3, [25], .null), (19, .aload_n 0, 1, [], .null), (20, .iconst 5, 1, [], .int (5)), (21, .invokevirtual 80, 3, [72, 2, 1], .null), (24, .ireturn, 1, [], .null), (25, .aload_n 0, 1, [], .null), (26, .getfield 13, 3, [7, 3, 1], .null), (29, .iload_n 1, 1, [], .null), (30, .iload_n 2, 1, [], .null), (31, .iastore, 1, [], .null), (32, .iconst 0, 1, [], .int (0)), (33, .istore_n 3, 1, [], .null), (34, .iload_n 3, 1, [], .null), (35, .bipush (40), 2, [], .int (40)), (37, .if_icmp .ge (16), 3, [53], .null), (40, .aload_n 0, 1, [], .null), (41, .iload_n 1, 1, [], .null), (42, .iload_n 3, 1, [], .null), (43, .iconst 0, 1, [], .int (0)), (44, .invokevirtual 87, 3, [81, 4, 0], .null), (47, .iinc 3 (1), 3, [], .int (1)), (50, .goto (-16), 3, [34], .null), (53, .iload_n 2, 1, [], .null), (54, .ireturn, 1, [], .null)]
def Mo_row_34  (x1 : Int32) (x2 : Int32)  : (Int32 × Hp) → ((Int32 × Hp) → Res Hp) → Res Hp := fun s κ34 => match s with
  | (x3, h) =>
  if (40 : Int32) ≤ x3 then
  (retI x2 h)
  else
  (bV (F_Mo_setRow x1 x3 (0 : Int32) h) fun h1 =>
  κ34 ((x3 + (1 : Int32)), h1))
def F_Mo_row (x1 : Int32) (x2 : Int32) (h : Hp) : Res Hp :=
  bI (F_Mo_isRow x1 h) fun v2 h1 =>
  if v2 = (0 : Int32) then
  (retI (-1 : Int32) h1)
  else
  (if x2 ≤ (40 : Int32) then
  (if (0 : Int32) ≤ x2 then
  (bif okA 180 100 x1 then
  bH (hs h1 180 x1.toNatClampNeg x2) fun h3 =>
  loopC (Mo_row_34  x1 x2 ) FU ((0 : Int32), h3)
  else none)
  else
  (bI (F_Mo_meetWith (5 : Int32) h1) fun v5 h4 =>
  retI v5 h4))
  else
  (retI (-1 : Int32) h1))
def sF_Mo_row : List Value → Hp → Res Hp := fun as h => match as with | [.ref f0, .int x1, .int x2] => (match Nat.beq f0 178 with | true => F_Mo_row x1 x2 h | false => none) | _ => none
theorem w_Mo_row (x1 : Int32) (x2 : Int32) (h : Hp) : sF_Mo_row [.ref 178, .int x1, .int x2] h = F_Mo_row x1 x2 h := rfl
def S_Mo_row : Sem Hp := [(76, sF_Mo_isRow), (81, sF_Mo_setRow), (72, sF_Mo_meetWith)]
set_option maxRecDepth 100000 in
theorem e_Mo_row_0 (x1 : Int32) (x2 : Int32) (h : Hp) : F_Mo_row x1 x2 h = exec1 OI S_Mo_row 1 k_Mo_row 0 [some (.ref 178), some (.int x1), some (.int x2), none] [] h (runF OI S_Mo_row [(34, [0, 1, 2, 3], fun vs st h => match vs, st with | [.ref f0, .int x1, .int x2, .int x3], [] => (match Nat.beq f0 178 with | true => loopC (Mo_row_34  x1 x2 ) FU (x3, h) | false => none) | _, _ => none)] 1 k_Mo_row 400) :=
  (x_bI (f := sF_Mo_isRow) rfl (w_Mo_isRow _ _) fun v2 h1 => (x_ite rfl (x_ite (x_ite (x_bif (x_bH fun h3 => rfl)) (x_bI (f := sF_Mo_meetWith) rfl (w_Mo_meetWith _ _) fun v5 h4 => rfl)) rfl)))
set_option maxRecDepth 100000 in
theorem e_Mo_row_34 (κ34 : (Int32 × Hp) → Res Hp) (x1 : Int32) (x2 : Int32) (x3 : Int32)  (h : Hp) : Mo_row_34  x1 x2  (x3, h) κ34 = exec1 OI S_Mo_row 1 k_Mo_row 34 [some (.ref 178), some (.int x1), some (.int x2), some (.int x3)] [] h (runF OI S_Mo_row [(34, [0, 1, 2, 3], fun vs st h => match vs, st with | [.ref f0, .int x1, .int x2, .int x3], [] => (match Nat.beq f0 178 with | true => κ34 (x3, h) | false => none) | _, _ => none)] 1 k_Mo_row 400) :=
  (x_ite rfl (x_bV (f := sF_Mo_setRow) rfl (w_Mo_setRow _ _ _ _) fun h1 => rfl))
def k_Mo_at : List Ent := [(0, .aload_n 0, 1, [], .null), (1, .iload_n 1, 1, [], .null), (2, .invokevirtual 91, 3, [78, 2, 1], .null), (5, .istore_n 3, 1, [], .null), (6, .iload_n 3, 1, [], .null), (7, .ifCond .ge (5), 3, [12], .null), (10, .iload_n 3, 1, [], .null), (11, .ireturn, 1, [], .null), (12, .iload_n 2, 1, [], .null), (13, .iconst 0, 1, [], .int (0)), (14, .aload_n 0, 1, [], .null), (15, .getfield 13, 3, [7, 3, 1], .null), (18, .iload_n 1, 1, [], .null), (19, .iaload, 1, [], .null), (20, .iconst 1, 1, [], .int (1)), (21, .isub, 1, [], .null), (22, .invokestatic 72, 3, [71, 3, 2], .null), (25, .ifCond .eq (17), 3, [42], .null), (28, .aload_n 0, 1, [], .null), (29, .aload_n 0, 1, [], .null), (30, .iload_n 1, 1, [], .null), (31, .iload_n 2, 1, [], .null), (32, .invokevirtual 94, 3, [80, 3, 1], .null), (35, .iconst 1, 1, [], .int (1)), (36, .invokevirtual 98, 3, [73, 3, 1], .null), (39, .goto (8), 3, [47], .null), (42, .aload_n 0, 1, [], .null), (43, .iconst 2, 1, [], .int (2)), (44, .invokevirtual 80, 3, [72, 2, 1], .null), (47, .ireturn, 1, [], .null)]
def F_Mo_at (x1 : Int32) (x2 : Int32) (h : Hp) : Res Hp :=
  bI (F_Mo_askedRow x1 h) fun v2 h1 =>
  if (0 : Int32) ≤ v2 then
  (bif okA 180 100 x1 then
  bI (F_Mo_in x2 (0 : Int32) ((hg h1 180 x1.toNatClampNeg) - (1 : Int32)) h1) fun v4 h3 =>
  if v4 = (0 : Int32) then
  (bI (F_Mo_meetWith (2 : Int32) h3) fun v6 h5 =>
  retI v6 h5)
  else
  (bI (F_Mo_rowAt x1 x2 h3) fun v8 h7 =>
  bI (F_Mo_ask v8 (1 : Int32) h7) fun v10 h9 =>
  retI v10 h9)
  else none)
  else
  (retI v2 h1)
def sF_Mo_at : List Value → Hp → Res Hp := fun as h => match as with | [.ref f0, .int x1, .int x2] => (match Nat.beq f0 178 with | true => F_Mo_at x1 x2 h | false => none) | _ => none
theorem w_Mo_at (x1 : Int32) (x2 : Int32) (h : Hp) : sF_Mo_at [.ref 178, .int x1, .int x2] h = F_Mo_at x1 x2 h := rfl
def S_Mo_at : Sem Hp := [(78, sF_Mo_askedRow), (71, sF_Mo_in), (72, sF_Mo_meetWith), (80, sF_Mo_rowAt), (73, sF_Mo_ask)]
set_option maxRecDepth 100000 in
theorem e_Mo_at_0 (x1 : Int32) (x2 : Int32) (h : Hp) : F_Mo_at x1 x2 h = exec1 OI S_Mo_at 1 k_Mo_at 0 [some (.ref 178), some (.int x1), some (.int x2), none] [] h (runF OI S_Mo_at [] 1 k_Mo_at 400) :=
  (x_bI (f := sF_Mo_askedRow) rfl (w_Mo_askedRow _ _) fun v2 h1 => (x_ite (x_bif (x_bI (f := sF_Mo_in) rfl (w_Mo_in _ _ _ _) fun v4 h3 => (x_ite (x_bI (f := sF_Mo_meetWith) rfl (w_Mo_meetWith _ _) fun v6 h5 => rfl) (x_bI (f := sF_Mo_rowAt) rfl (w_Mo_rowAt _ _ _) fun v8 h7 => (x_bI (f := sF_Mo_ask) rfl (w_Mo_ask _ _ _) fun v10 h9 => rfl))))) rfl))
def k_Mo_lay : List Ent := [(0, .aload_n 0, 1, [], .null), (1, .iload_n 1, 1, [], .null), (2, .iload_n 2, 1, [], .null), (3, .invokevirtual 101, 3, [83, 3, 1], .null), (6, .istore 4, 2, [], .null), (8, .iload 4, 2, [], .null), (10, .ifCond .ge (6), 3, [16], .null), (13, .iload 4, 2, [], .null), (15, .ireturn, 1, [], .null), (16, .aload_n 0, 1, [], .null), (17, .iload_n 1, 1, [], .null), (18, .iload_n 2, 1, [], .null), (19, .iload_n 3, 1, [], .null), (20, .invokevirtual 87, 3, [81, 4, 0], .null), (23, .iconst 1, 1, [], .int (1)), (24, .ireturn, 1, [], .null)]
def F_Mo_lay (x1 : Int32) (x2 : Int32) (x3 : Int32) (h : Hp) : Res Hp :=
  bI (F_Mo_at x1 x2 h) fun v2 h1 =>
  if (0 : Int32) ≤ v2 then
  (bV (F_Mo_setRow x1 x2 x3 h1) fun h3 =>
  retI (1 : Int32) h3)
  else
  (retI v2 h1)
def sF_Mo_lay : List Value → Hp → Res Hp := fun as h => match as with | [.ref f0, .int x1, .int x2, .int x3] => (match Nat.beq f0 178 with | true => F_Mo_lay x1 x2 x3 h | false => none) | _ => none
theorem w_Mo_lay (x1 : Int32) (x2 : Int32) (x3 : Int32) (h : Hp) : sF_Mo_lay [.ref 178, .int x1, .int x2, .int x3] h = F_Mo_lay x1 x2 x3 h := rfl
def S_Mo_lay : Sem Hp := [(83, sF_Mo_at), (81, sF_Mo_setRow)]
set_option maxRecDepth 100000 in
theorem e_Mo_lay_0 (x1 : Int32) (x2 : Int32) (x3 : Int32) (h : Hp) : F_Mo_lay x1 x2 x3 h = exec1 OI S_Mo_lay 1 k_Mo_lay 0 [some (.ref 178), some (.int x1), some (.int x2), some (.int x3), none] [] h (runF OI S_Mo_lay [] 1 k_Mo_lay 400) :=
  (x_bI (f := sF_Mo_at) rfl (w_Mo_at _ _ _) fun v2 h1 => (x_ite (x_bV (f := sF_Mo_setRow) rfl (w_Mo_setRow _ _ _ _) fun h3 => rfl) rfl))
def k_Mo_tear : List Ent := [(0, .aload_n 0, 1, [], .null), (1, .iload_n 1, 1, [], .null), (2, .invokevirtual 91, 3, [78, 2, 1], .null), (5, .istore_n 2, 1, [], .null), (6, .iload_n 2, 1, [], .null), (7, .ifCond .ge (5), 3, [12], .null), (10, .iload_n 2, 1, [], .null), (11, .ireturn, 1, [], .null), (12, .aload_n 0, 1, [], .null), (13, .getfield 13, 3, [7, 3, 1], .null), (16, .iload_n 1, 1, [], .null), (17, .bipush (-9), 2, [], .int (-9)), (19, .iastore, 1, [], .null), (20, .iconst 1, 1, [], .int (1)), (21, .ireturn, 1, [], .null)]
def F_Mo_tear (x1 : Int32) (h : Hp) : Res Hp :=
  bI (F_Mo_askedRow x1 h) fun v2 h1 =>
  if (0 : Int32) ≤ v2 then
  (bif okA 180 100 x1 then
  bH (hs h1 180 x1.toNatClampNeg (-9 : Int32)) fun h3 =>
  retI (1 : Int32) h3
  else none)
  else
  (retI v2 h1)
def sF_Mo_tear : List Value → Hp → Res Hp := fun as h => match as with | [.ref f0, .int x1] => (match Nat.beq f0 178 with | true => F_Mo_tear x1 h | false => none) | _ => none
theorem w_Mo_tear (x1 : Int32) (h : Hp) : sF_Mo_tear [.ref 178, .int x1] h = F_Mo_tear x1 h := rfl
def S_Mo_tear : Sem Hp := [(78, sF_Mo_askedRow)]
set_option maxRecDepth 100000 in
theorem e_Mo_tear_0 (x1 : Int32) (h : Hp) : F_Mo_tear x1 h = exec1 OI S_Mo_tear 1 k_Mo_tear 0 [some (.ref 178), some (.int x1), none] [] h (runF OI S_Mo_tear [] 1 k_Mo_tear 400) :=
  (x_bI (f := sF_Mo_askedRow) rfl (w_Mo_askedRow _ _) fun v2 h1 => (x_ite (x_bif (x_bH fun h3 => rfl)) rfl))
end
end
section
noncomputable section
def k_Mo_copy : List Ent := [(0, .iload_n 1, 1, [], .null), (1, .invokestatic 76, 3, [76, 1, 2], .null), (4, .ifCond .eq (10), 3, [14], .null), (7, .iload_n 3, 1, [], .null), (8, .invokestatic 76, 3, [76, 1, 2], .null), (11, .ifCond .ne (5), 3, [16], .null), (14, .iconst (-1), 1, [], .int (-1)), (15, .ireturn, 1, [], .null), (16, .iload 5, 2, [], .null), (18, .ifCond .ge (9), 3, [27], .null), (21, .aload_n 0, 1, [], .null), (22, .iconst 5, 1, [], .int (5)), (23, .invokevirtual 80, 3, [72, 2, 1], .null), (26, .ireturn, 1, [], .null), (27, .aload_n 0, 1, [], .null), (28, .getfield 13, 3, [7, 3, 1], .null), (31, .iload_n 1, 1, [], .null), (32, .iaload, 1, [], .null), (33, .ifCond .lt (12), 3, [45], .null), (36, .aload_n 0, 1, [], .null), (37, .getfield 13, 3, [7, 3, 1], .null), (40, .iload_n 3, 1, [], .null), (41, .iaload, 1, [], .null), (42, .ifCond .ge (9), 3, [51], .null), (45, .aload_n 0, 1, [], .null), (46, .iconst 1, 1, [], .int (1)), (47, .invokevirtual 80, 3, [72, 2, 1], .null), (50, .ireturn, 1, [], .null), (51, .iload_n 2, 1, [], .null), (52, .ifCond .lt (43), 3, [95], .null), (55, .iload 4, 2, [], .null), (57, .ifCond .lt (38), 3, [95], .null), (60, .iload_n 2, 1, [], .null), (61, .i2l, 1, [], .null), (62, .iload 5, 2, [], .null), (64, .i2l, 1, [], .null), (65, .ladd, 1, [], .null), (66, .aload_n 0, 1, [], .null), (67, .getfield 13, 3, [7, 3, 1], .null), (70, .iload_n 1, 1, [], .null), (71, .iaload, 1, [], .null), (72, .i2l, 1, [], .null), (73, .lcmp, 1, [], .null), (74, .ifCond .gt (21), 3, [95], .null), (77, .iload 4, 2, [], .null), (79, .i2l, 1, [], .null), (80, .iload 5, 2, [], .null), (82, .i2l, 1, [], .null), (83, .ladd, 1, [], .null), (84, .aload_n 0, 1, [], .null), (85, .getfield 13, 3, [7, 3, 1], .null), (88, .iload_n 3, 1, [], .null), (89, .iaload, 1, [], .null), (90, .i2l, 1, [], .null), (91, .lcmp, 1, [], .null), (92, .ifCond .le (9), 3, [101], .null), (95, .aload_n 0, 1, [], .null), (96, .iconst 2, 1, [], .int (2)), (97, .invokevirtual 80, 3, [72, 2, 1], .null), (100, .ireturn, 1, [], .null), (101, .iconst 0, 1, [], .int (0)), (102, .istore 6, 2, [], .null), (104, .iload 6, 2, [], .null), (106, .iload 5, 2, [], .null), (108, .if_icmp .ge (25), 3, [133], .null), (111, .aload_n 0, 1, [], .null), (112, .getfield 19, 3, [7, 5, 1], .null), (115, .iload 6, 2, [], .null), (117, .aload_n 0, 1, [], .null), (118, .iload_n 1, 1, [], .null), (119, .iload_n 2, 1, [], .null), (120, .iload 6, 2, [], .null), (122, .iadd, 1, [], .null), (123, .invokevirtual 94, 3, [80, 3, 1], .null), (126, .iastore, 1, [], .null), (127, .iinc 6 (1), 3, [], .int (1)), (130, .goto (-26), 3, [104], .null), (133, .iconst 0, 1, [], .int (0)), (134, .istore 6, 2, [], .null), (136, .iload 6, 2, [], .null), (138, .iload 5, 2, [], .null), (140, .if_icmp .ge (26), 3, [166], .null), (143, .aload_n 0, 1, [], .null), (144, .iload_n 3, 1, [], .null), (145, .iload 4, 2, [], .null), (147, .iload 6, 2, [], .null), (149, .iadd, 1, [], .null), (150, .aload_n 0, 1, [], .null), (151, .getfield 19, 3, [7, 5, 1], .null), (154, .iload 6, 2, [], .null), (156, .iaload, 1, [], .null), (157, .invokevirtual 87, 3, [81, 4, 0], .null), (160, .iinc 6 (1), 3, [], .int (1)), (163, .goto (-27), 3, [136], .null), (166, .iconst 1, 1, [], .int (1)), (167, .ireturn, 1, [], .null)]
def Mo_copy_136  (x3 : Int32) (x4 : Int32) (x5 : Int32)  : (Int32 × Hp) → ((Int32 × Hp) → Res Hp) → Res Hp := fun s κ136 => match s with
  | (x6, h) =>
  if x5 ≤ x6 then
  (retI (1 : Int32) h)
  else
  (bif okA 182 100 x6 then
  bV (F_Mo_setRow x3 (x4 + x6) (hg h 182 x6.toNatClampNeg) h) fun h1 =>
  κ136 ((x6 + (1 : Int32)), h1)
  else none)
def Mo_copy_104  (x1 : Int32) (x2 : Int32) (x3 : Int32) (x4 : Int32) (x5 : Int32)  : (Int32 × Hp) → ((Int32 × Hp) → Res Hp) → Res Hp := fun s κ104 => match s with
  | (x6, h) =>
  if x5 ≤ x6 then
  (loopC (Mo_copy_136  x3 x4 x5 ) FU ((0 : Int32), h))
  else
  (bI (F_Mo_rowAt x1 (x2 + x6) h) fun v2 h1 =>
  bif okA 182 100 x6 then
  bH (hs h1 182 x6.toNatClampNeg v2) fun h3 =>
  κ104 ((x6 + (1 : Int32)), h3)
  else none)
def F_Mo_copy (x1 : Int32) (x2 : Int32) (x3 : Int32) (x4 : Int32) (x5 : Int32) (h : Hp) : Res Hp :=
  bI (F_Mo_isRow x1 h) fun v2 h1 =>
  if v2 = (0 : Int32) then
  (retI (-1 : Int32) h1)
  else
  (bI (F_Mo_isRow x3 h1) fun v4 h3 =>
  if v4 = (0 : Int32) then
  (retI (-1 : Int32) h3)
  else
  (if (0 : Int32) ≤ x5 then
  (bif okA 180 100 x1 then
  if (hg h3 180 x1.toNatClampNeg) < (0 : Int32) then
  (bI (F_Mo_meetWith (1 : Int32) h3) fun v6 h5 =>
  retI v6 h5)
  else
  (bif okA 180 100 x3 then
  if (0 : Int32) ≤ (hg h3 180 x3.toNatClampNeg) then
  (if x2 < (0 : Int32) then
  (bI (F_Mo_meetWith (2 : Int32) h3) fun v8 h7 =>
  retI v8 h7)
  else
  (if x4 < (0 : Int32) then
  (bI (F_Mo_meetWith (2 : Int32) h3) fun v10 h9 =>
  retI v10 h9)
  else
  (bif okA 180 100 x1 then
  if (0 : Int32) < (lg_cmp (x2.toInt64 + x5.toInt64) (hg h3 180 x1.toNatClampNeg).toInt64) then
  (bI (F_Mo_meetWith (2 : Int32) h3) fun v12 h11 =>
  retI v12 h11)
  else
  (bif okA 180 100 x3 then
  if (lg_cmp (x4.toInt64 + x5.toInt64) (hg h3 180 x3.toNatClampNeg).toInt64) ≤ (0 : Int32) then
  (loopC (Mo_copy_104  x1 x2 x3 x4 x5 ) FU ((0 : Int32), h3))
  else
  (bI (F_Mo_meetWith (2 : Int32) h3) fun v14 h13 =>
  retI v14 h13)
  else none)
  else none)))
  else
  (bI (F_Mo_meetWith (1 : Int32) h3) fun v16 h15 =>
  retI v16 h15)
  else none)
  else none)
  else
  (bI (F_Mo_meetWith (5 : Int32) h3) fun v18 h17 =>
  retI v18 h17)))
def sF_Mo_copy : List Value → Hp → Res Hp := fun as h => match as with | [.ref f0, .int x1, .int x2, .int x3, .int x4, .int x5] => (match Nat.beq f0 178 with | true => F_Mo_copy x1 x2 x3 x4 x5 h | false => none) | _ => none
theorem w_Mo_copy (x1 : Int32) (x2 : Int32) (x3 : Int32) (x4 : Int32) (x5 : Int32) (h : Hp) : sF_Mo_copy [.ref 178, .int x1, .int x2, .int x3, .int x4, .int x5] h = F_Mo_copy x1 x2 x3 x4 x5 h := rfl
def S_Mo_copy : Sem Hp := [(76, sF_Mo_isRow), (72, sF_Mo_meetWith), (81, sF_Mo_setRow), (80, sF_Mo_rowAt)]
set_option maxRecDepth 100000 in
theorem e_Mo_copy_0 (x1 : Int32) (x2 : Int32) (x3 : Int32) (x4 : Int32) (x5 : Int32) (h : Hp) : F_Mo_copy x1 x2 x3 x4 x5 h = exec1 OI S_Mo_copy 1 k_Mo_copy 0 [some (.ref 178), some (.int x1), some (.int x2), some (.int x3), some (.int x4), some (.int x5), none] [] h (runF OI S_Mo_copy [(104, [0, 1, 2, 3, 4, 5, 6], fun vs st h => match vs, st with | [.ref f0, .int x1, .int x2, .int x3, .int x4, .int x5, .int x6], [] => (match Nat.beq f0 178 with | true => loopC (Mo_copy_104  x1 x2 x3 x4 x5 ) FU (x6, h) | false => none) | _, _ => none)] 1 k_Mo_copy 400) :=
  (x_bI (f := sF_Mo_isRow) rfl (w_Mo_isRow _ _) fun v2 h1 => (x_ite rfl (x_bI (f := sF_Mo_isRow) rfl (w_Mo_isRow _ _) fun v4 h3 => (x_ite rfl (x_ite (x_bif (x_ite (x_bI (f := sF_Mo_meetWith) rfl (w_Mo_meetWith _ _) fun v6 h5 => rfl) (x_bif (x_ite (x_ite (x_bI (f := sF_Mo_meetWith) rfl (w_Mo_meetWith _ _) fun v8 h7 => rfl) (x_ite (x_bI (f := sF_Mo_meetWith) rfl (w_Mo_meetWith _ _) fun v10 h9 => rfl) (x_bif (x_ite (x_bI (f := sF_Mo_meetWith) rfl (w_Mo_meetWith _ _) fun v12 h11 => rfl) (x_bif (x_ite rfl (x_bI (f := sF_Mo_meetWith) rfl (w_Mo_meetWith _ _) fun v14 h13 => rfl))))))) (x_bI (f := sF_Mo_meetWith) rfl (w_Mo_meetWith _ _) fun v16 h15 => rfl))))) (x_bI (f := sF_Mo_meetWith) rfl (w_Mo_meetWith _ _) fun v18 h17 => rfl))))))
set_option maxRecDepth 100000 in
theorem e_Mo_copy_104 (κ104 : (Int32 × Hp) → Res Hp) (x1 : Int32) (x2 : Int32) (x3 : Int32) (x4 : Int32) (x5 : Int32) (x6 : Int32)  (h : Hp) : Mo_copy_104  x1 x2 x3 x4 x5  (x6, h) κ104 = exec1 OI S_Mo_copy 1 k_Mo_copy 104 [some (.ref 178), some (.int x1), some (.int x2), some (.int x3), some (.int x4), some (.int x5), some (.int x6)] [] h (runF OI S_Mo_copy [(136, [0, 3, 4, 5, 6], fun vs st h => match vs, st with | [.ref f0, .int x3, .int x4, .int x5, .int x6], [] => (match Nat.beq f0 178 with | true => loopC (Mo_copy_136  x3 x4 x5 ) FU (x6, h) | false => none) | _, _ => none), (104, [0, 1, 2, 3, 4, 5, 6], fun vs st h => match vs, st with | [.ref f0, .int x1, .int x2, .int x3, .int x4, .int x5, .int x6], [] => (match Nat.beq f0 178 with | true => κ104 (x6, h) | false => none) | _, _ => none)] 1 k_Mo_copy 400) :=
  (x_ite rfl (x_bI (f := sF_Mo_rowAt) rfl (w_Mo_rowAt _ _ _) fun v2 h1 => (x_bif (x_bH fun h3 => rfl))))
set_option maxRecDepth 100000 in
theorem e_Mo_copy_136 (κ136 : (Int32 × Hp) → Res Hp) (x3 : Int32) (x4 : Int32) (x5 : Int32) (x6 : Int32)  (h : Hp) : Mo_copy_136  x3 x4 x5  (x6, h) κ136 = exec1 OI S_Mo_copy 1 k_Mo_copy 136 [some (.ref 178), none, none, some (.int x3), some (.int x4), some (.int x5), some (.int x6)] [] h (runF OI S_Mo_copy [(136, [0, 3, 4, 5, 6], fun vs st h => match vs, st with | [.ref f0, .int x3, .int x4, .int x5, .int x6], [] => (match Nat.beq f0 178 with | true => κ136 (x6, h) | false => none) | _, _ => none)] 1 k_Mo_copy 400) :=
  (x_ite rfl (x_bif (x_bV (f := sF_Mo_setRow) rfl (w_Mo_setRow _ _ _ _) fun h1 => rfl)))
def k_Mo_mean : List Ent := [(0, .aload_n 0, 1, [], .null), (1, .iload_n 1, 1, [], .null), (2, .invokevirtual 91, 3, [78, 2, 1], .null), (5, .istore_n 2, 1, [], .null), (6, .iload_n 2, 1, [], .null), (7, .ifCond .ge (5), 3, [12], .null), (10, .iload_n 2, 1, [], .null), (11, .ireturn, 1, [], .null), (12, .lconst 0, 1, [], .long 0), (13, .lstore_n 3, 1, [], .null), (14, .iconst 0, 1, [], .int (0)), (15, .istore 5, 2, [], .null), (17, .iload 5, 2, [], .null), (19, .aload_n 0, 1, [], .null), (20, .getfield 13, 3, [7, 3, 1], .null), (23, .iload_n 1, 1, [], .null), (24, .iaload, 1, [], .null), (25, .if_icmp .ge (20), 3, [45], .null), (28, .lload_n 3, 1, [], .null), (29, .aload_n 0, 1, [], .null), (30, .iload_n 1, 1, [], .null), (31, .iload 5, 2, [], .null), (33, .invokevirtual 94, 3, [80, 3, 1], .null), (36, .i2l, 1, [], .null), (37, .ladd, 1, [], .null), (38, .lstore_n 3, 1, [], .null), (39, .iinc 5 (1), 3, [], .int (1)), (42, .goto (-25), 3, [17], .null), (45, .aload_n 0, 1, [], .null), (46, .getfield 13, 3, [7, 3, 1], .null), (49, .iload_n 1, 1, [], .null), (50, .iaload, 1, [], .null), (51, .ifCond .ne (11), 3, [62], .null), (54, .aload_n 0, 1, [], .null), (55, .iconst 4, 1, [], .int (4)), (56, .invokevirtual 80, 3, [72, 2, 1], .null), (59, .goto (18), 3, [77], .null), (62, .aload_n 0, 1, [], .null), (63, .lload_n 3, 1, [], .null), (64, .aload_n 0, 1, [], .null), (65, .getfield 13, 3, [7, 3, 1], .null), (68, .iload_n 1, 1, [], .null), (69, .iaload, 1, [], .null), (70, .i2l, 1, [], .null), (71, .ldiv, 1, [], .null), (72, .l2i, 1, [], .null), (73, .iconst 1, 1, [], .int (1)), (74, .invokevirtual 98, 3, [73, 3, 1], .null), (77, .ireturn, 1, [], .null)]
def Mo_mean_17  (x1 : Int32)  : (Int64 × Int32 × Hp) → ((Int64 × Int32 × Hp) → Res Hp) → Res Hp := fun s κ17 => match s with
  | (y3, x5, h) =>
  bif okA 180 100 x1 then
  if (hg h 180 x1.toNatClampNeg) ≤ x5 then
  (bif okA 180 100 x1 then
  if (hg h 180 x1.toNatClampNeg) = (0 : Int32) then
  (bI (F_Mo_meetWith (4 : Int32) h) fun v4 h3 =>
  retI v4 h3)
  else
  (bif okA 180 100 x1 then
  if (hg h 180 x1.toNatClampNeg).toInt64 = 0 then none else
  bI (F_Mo_ask ((y3 / (hg h 180 x1.toNatClampNeg).toInt64)).toInt32 (1 : Int32) h) fun v2 h1 =>
  retI v2 h1
  else none)
  else none)
  else
  (bI (F_Mo_rowAt x1 x5 h) fun v6 h5 =>
  κ17 ((y3 + v6.toInt64), (x5 + (1 : Int32)), h5))
  else none
def F_Mo_mean (x1 : Int32) (h : Hp) : Res Hp :=
  bI (F_Mo_askedRow x1 h) fun v2 h1 =>
  if (0 : Int32) ≤ v2 then
  (loopC (Mo_mean_17  x1 ) FU ((0 : Int64), (0 : Int32), h1))
  else
  (retI v2 h1)
def sF_Mo_mean : List Value → Hp → Res Hp := fun as h => match as with | [.ref f0, .int x1] => (match Nat.beq f0 178 with | true => F_Mo_mean x1 h | false => none) | _ => none
theorem w_Mo_mean (x1 : Int32) (h : Hp) : sF_Mo_mean [.ref 178, .int x1] h = F_Mo_mean x1 h := rfl
def S_Mo_mean : Sem Hp := [(78, sF_Mo_askedRow), (73, sF_Mo_ask), (72, sF_Mo_meetWith), (80, sF_Mo_rowAt)]
set_option maxRecDepth 100000 in
theorem e_Mo_mean_0 (x1 : Int32) (h : Hp) : F_Mo_mean x1 h = exec1 OI S_Mo_mean 1 k_Mo_mean 0 [some (.ref 178), some (.int x1), none, none, none, none] [] h (runF OI S_Mo_mean [(17, [0, 1, 3, 5], fun vs st h => match vs, st with | [.ref f0, .int x1, .long y3, .int x5], [] => (match Nat.beq f0 178 with | true => loopC (Mo_mean_17  x1 ) FU (y3, x5, h) | false => none) | _, _ => none)] 1 k_Mo_mean 400) :=
  (x_bI (f := sF_Mo_askedRow) rfl (w_Mo_askedRow _ _) fun v2 h1 => (x_ite rfl rfl))
set_option maxRecDepth 100000 in
theorem e_Mo_mean_17 (κ17 : (Int64 × Int32 × Hp) → Res Hp) (x1 : Int32) (y3 : Int64) (x5 : Int32)  (h : Hp) : Mo_mean_17  x1  (y3, x5, h) κ17 = exec1 OI S_Mo_mean 1 k_Mo_mean 17 [some (.ref 178), some (.int x1), none, some (.long y3), none, some (.int x5)] [] h (runF OI S_Mo_mean [(17, [0, 1, 3, 5], fun vs st h => match vs, st with | [.ref f0, .int x1, .long y3, .int x5], [] => (match Nat.beq f0 178 with | true => κ17 (y3, x5, h) | false => none) | _, _ => none)] 1 k_Mo_mean 400) :=
  (x_bif (x_ite (x_bif (x_ite (x_bI (f := sF_Mo_meetWith) rfl (w_Mo_meetWith _ _) fun v4 h3 => rfl) (x_bif (x_if0 (x_bI (f := sF_Mo_ask) rfl (w_Mo_ask _ _ _) fun v2 h1 => rfl))))) (x_bI (f := sF_Mo_rowAt) rfl (w_Mo_rowAt _ _ _) fun v6 h5 => rfl)))
def k_Mo_text : List Ent := [(0, .iload_n 1, 1, [], .null), (1, .invokestatic 84, 3, [77, 1, 2], .null), (4, .ifCond .eq (9), 3, [13], .null), (7, .iload_n 2, 1, [], .null), (8, .bipush (80), 2, [], .int (80)), (10, .if_icmp .le (5), 3, [15], .null), (13, .iconst (-1), 1, [], .int (-1)), (14, .ireturn, 1, [], .null), (15, .iload_n 2, 1, [], .null), (16, .ifCond .ge (9), 3, [25], .null), (19, .aload_n 0, 1, [], .null), (20, .iconst 5, 1, [], .int (5)), (21, .invokevirtual 80, 3, [72, 2, 1], .null), (24, .ireturn, 1, [], .null), (25, .aload_n 0, 1, [], .null), (26, .getfield 22, 3, [7, 6, 1], .null), (29, .iload_n 1, 1, [], .null), (30, .iload_n 2, 1, [], .null), (31, .iastore, 1, [], .null), (32, .iconst 0, 1, [], .int (0)), (33, .istore_n 3, 1, [], .null), (34, .iload_n 3, 1, [], .null), (35, .bipush (80), 2, [], .int (80)), (37, .if_icmp .ge (22), 3, [59], .null), (40, .aload_n 0, 1, [], .null), (41, .getfield 25, 3, [7, 7, 1], .null), (44, .bipush (80), 2, [], .int (80)), (46, .iload_n 1, 1, [], .null), (47, .imul, 1, [], .null), (48, .iload_n 3, 1, [], .null), (49, .iadd, 1, [], .null), (50, .bipush (32), 2, [], .int (32)), (52, .iastore, 1, [], .null), (53, .iinc 3 (1), 3, [], .int (1)), (56, .goto (-22), 3, [34], .null), (59, .iload_n 2, 1, [], .null), (60, .ireturn, 1, [], .null)]
def Mo_text_34  (x1 : Int32) (x2 : Int32)  : (Int32 × Hp) → ((Int32 × Hp) → Res Hp) → Res Hp := fun s κ34 => match s with
  | (x3, h) =>
  if (80 : Int32) ≤ x3 then
  (retI x2 h)
  else
  (bif okA 184 100 (((80 : Int32) * x1) + x3) then
  bH (hs h 184 (((80 : Int32) * x1) + x3).toNatClampNeg (32 : Int32)) fun h1 =>
  κ34 ((x3 + (1 : Int32)), h1)
  else none)
def F_Mo_text (x1 : Int32) (x2 : Int32) (h : Hp) : Res Hp :=
  bI (F_Mo_isText x1 h) fun v2 h1 =>
  if v2 = (0 : Int32) then
  (retI (-1 : Int32) h1)
  else
  (if x2 ≤ (80 : Int32) then
  (if (0 : Int32) ≤ x2 then
  (bif okA 183 100 x1 then
  bH (hs h1 183 x1.toNatClampNeg x2) fun h3 =>
  loopC (Mo_text_34  x1 x2 ) FU ((0 : Int32), h3)
  else none)
  else
  (bI (F_Mo_meetWith (5 : Int32) h1) fun v5 h4 =>
  retI v5 h4))
  else
  (retI (-1 : Int32) h1))
def sF_Mo_text : List Value → Hp → Res Hp := fun as h => match as with | [.ref f0, .int x1, .int x2] => (match Nat.beq f0 178 with | true => F_Mo_text x1 x2 h | false => none) | _ => none
theorem w_Mo_text (x1 : Int32) (x2 : Int32) (h : Hp) : sF_Mo_text [.ref 178, .int x1, .int x2] h = F_Mo_text x1 x2 h := rfl
def S_Mo_text : Sem Hp := [(77, sF_Mo_isText), (72, sF_Mo_meetWith)]
set_option maxRecDepth 100000 in
theorem e_Mo_text_0 (x1 : Int32) (x2 : Int32) (h : Hp) : F_Mo_text x1 x2 h = exec1 OI S_Mo_text 1 k_Mo_text 0 [some (.ref 178), some (.int x1), some (.int x2), none] [] h (runF OI S_Mo_text [(34, [0, 1, 2, 3], fun vs st h => match vs, st with | [.ref f0, .int x1, .int x2, .int x3], [] => (match Nat.beq f0 178 with | true => loopC (Mo_text_34  x1 x2 ) FU (x3, h) | false => none) | _, _ => none)] 1 k_Mo_text 400) :=
  (x_bI (f := sF_Mo_isText) rfl (w_Mo_isText _ _) fun v2 h1 => (x_ite rfl (x_ite (x_ite (x_bif (x_bH fun h3 => rfl)) (x_bI (f := sF_Mo_meetWith) rfl (w_Mo_meetWith _ _) fun v5 h4 => rfl)) rfl)))
set_option maxRecDepth 100000 in
theorem e_Mo_text_34 (κ34 : (Int32 × Hp) → Res Hp) (x1 : Int32) (x2 : Int32) (x3 : Int32)  (h : Hp) : Mo_text_34  x1 x2  (x3, h) κ34 = exec1 OI S_Mo_text 1 k_Mo_text 34 [some (.ref 178), some (.int x1), some (.int x2), some (.int x3)] [] h (runF OI S_Mo_text [(34, [0, 1, 2, 3], fun vs st h => match vs, st with | [.ref f0, .int x1, .int x2, .int x3], [] => (match Nat.beq f0 178 with | true => κ34 (x3, h) | false => none) | _, _ => none)] 1 k_Mo_text 400) :=
  (x_ite rfl (x_bif (x_bH fun h1 => rfl)))
def k_Mo_put : List Ent := [(0, .aload_n 0, 1, [], .null), (1, .iload_n 1, 1, [], .null), (2, .invokevirtual 104, 3, [79, 2, 1], .null), (5, .istore 4, 2, [], .null), (7, .iload 4, 2, [], .null), (9, .ifCond .ge (6), 3, [15], .null), (12, .iload 4, 2, [], .null), (14, .ireturn, 1, [], .null), (15, .iload_n 2, 1, [], .null), (16, .iconst 0, 1, [], .int (0)), (17, .aload_n 0, 1, [], .null), (18, .getfield 22, 3, [7, 6, 1], .null), (21, .iload_n 1, 1, [], .null), (22, .iaload, 1, [], .null), (23, .iconst 1, 1, [], .int (1)), (24, .isub, 1, [], .null), (25, .invokestatic 72, 3, [71, 3, 2], .null), (28, .ifCond .ne (9), 3, [37], .null), (31, .aload_n 0, 1, [], .null), (32, .iconst 2, 1, [], .int (2)), (33, .invokevirtual 80, 3, [72, 2, 1], .null), (36, .ireturn, 1, [], .null), (37, .aload_n 0, 1, [], .null), (38, .getfield 25, 3, [7, 7, 1], .null), (41, .bipush (80), 2, [], .int (80)), (43, .iload_n 1, 1, [], .null), (44, .imul, 1, [], .null), (45, .iload_n 2, 1, [], .null), (46, .iadd, 1, [], .null), (47, .iaload, 1, [], .null), (48, .istore 5, 2, [], .null), (50, .aload_n 0, 1, [], .null), (51, .getfield 25, 3, [7, 7, 1], .null), (54, .bipush (80), 2, [], .int (80)), (56, .iload_n 1, 1, [], .null), (57, .imul, 1, [], .null), (58, .iload_n 2, 1, [], .null), (59, .iadd, 1, [], .null), (60, .iload_n 3, 1, [], .null), (61, .i2b, 1, [], .null), (62, .iastore, 1, [], .null), (63, .iload 5, 2, [], .null), (65, .sipush (1000), 3, [], .int (1000)), (68, .iadd, 1, [], .null), (69, .ireturn, 1, [], .null)]
def F_Mo_put (x1 : Int32) (x2 : Int32) (x3 : Int32) (h : Hp) : Res Hp :=
  bI (F_Mo_askedText x1 h) fun v2 h1 =>
  if (0 : Int32) ≤ v2 then
  (bif okA 183 100 x1 then
  bI (F_Mo_in x2 (0 : Int32) ((hg h1 183 x1.toNatClampNeg) - (1 : Int32)) h1) fun v4 h3 =>
  if v4 = (0 : Int32) then
  (bI (F_Mo_meetWith (2 : Int32) h3) fun v7 h6 =>
  retI v7 h6)
  else
  (bif okA 184 100 (((80 : Int32) * x1) + x2) then
  bif okA 184 100 (((80 : Int32) * x1) + x2) then
  bH (hs h3 184 (((80 : Int32) * x1) + x2).toNatClampNeg x3.toInt8.toInt32) fun h5 =>
  retI ((hg h3 184 (((80 : Int32) * x1) + x2).toNatClampNeg) + (1000 : Int32)) h5
  else none
  else none)
  else none)
  else
  (retI v2 h1)
def sF_Mo_put : List Value → Hp → Res Hp := fun as h => match as with | [.ref f0, .int x1, .int x2, .int x3] => (match Nat.beq f0 178 with | true => F_Mo_put x1 x2 x3 h | false => none) | _ => none
theorem w_Mo_put (x1 : Int32) (x2 : Int32) (x3 : Int32) (h : Hp) : sF_Mo_put [.ref 178, .int x1, .int x2, .int x3] h = F_Mo_put x1 x2 x3 h := rfl
def S_Mo_put : Sem Hp := [(79, sF_Mo_askedText), (71, sF_Mo_in), (72, sF_Mo_meetWith)]
set_option maxRecDepth 100000 in
theorem e_Mo_put_0 (x1 : Int32) (x2 : Int32) (x3 : Int32) (h : Hp) : F_Mo_put x1 x2 x3 h = exec1 OI S_Mo_put 1 k_Mo_put 0 [some (.ref 178), some (.int x1), some (.int x2), some (.int x3), none, none] [] h (runF OI S_Mo_put [] 1 k_Mo_put 400) :=
  (x_bI (f := sF_Mo_askedText) rfl (w_Mo_askedText _ _) fun v2 h1 => (x_ite (x_bif (x_bI (f := sF_Mo_in) rfl (w_Mo_in _ _ _ _) fun v4 h3 => (x_ite (x_bI (f := sF_Mo_meetWith) rfl (w_Mo_meetWith _ _) fun v7 h6 => rfl) (x_bif (x_bif (x_bH fun h5 => rfl)))))) rfl))
def k_Mo_here : List Ent := [(0, .aload_n 0, 1, [], .null), (1, .getfield 107, 3, [7, 16, 0], .null), (4, .aload_n 0, 1, [], .null), (5, .getfield 22, 3, [7, 6, 1], .null), (8, .iload_n 1, 1, [], .null), (9, .iaload, 1, [], .null), (10, .if_icmp .ge (20), 3, [30], .null), (13, .aload_n 0, 1, [], .null), (14, .getfield 25, 3, [7, 7, 1], .null), (17, .bipush (80), 2, [], .int (80)), (19, .iload_n 1, 1, [], .null), (20, .imul, 1, [], .null), (21, .aload_n 0, 1, [], .null), (22, .getfield 107, 3, [7, 16, 0], .null), (25, .iadd, 1, [], .null), (26, .iaload, 1, [], .null), (27, .goto (5), 3, [32], .null), (30, .bipush (-9), 2, [], .int (-9)), (32, .ireturn, 1, [], .null)]
def F_Mo_here (x1 : Int32) (h : Hp) : Res Hp :=
  bif okA 183 100 x1 then
  if (hg h 183 x1.toNatClampNeg) ≤ (hg h 178 16) then
  (retI (-9 : Int32) h)
  else
  (bif okA 184 100 (((80 : Int32) * x1) + (hg h 178 16)) then
  retI (hg h 184 (((80 : Int32) * x1) + (hg h 178 16)).toNatClampNeg) h
  else none)
  else none
def sF_Mo_here : List Value → Hp → Res Hp := fun as h => match as with | [.ref f0, .int x1] => (match Nat.beq f0 178 with | true => F_Mo_here x1 h | false => none) | _ => none
theorem w_Mo_here (x1 : Int32) (h : Hp) : sF_Mo_here [.ref 178, .int x1] h = F_Mo_here x1 h := rfl
def S_Mo_here : Sem Hp := []
set_option maxRecDepth 100000 in
theorem e_Mo_here_0 (x1 : Int32) (h : Hp) : F_Mo_here x1 h = exec1 OI S_Mo_here 1 k_Mo_here 0 [some (.ref 178), some (.int x1)] [] h (runF OI S_Mo_here [] 1 k_Mo_here 400) :=
  (x_bif (x_ite rfl (x_bif rfl)))
def k_Mo_kindOf : List Ent := [(0, .iload_n 0, 1, [], .null), (1, .bipush (104), 2, [], .int (104)), (3, .if_icmp .ne (7), 3, [10], .null), (6, .iconst 0, 1, [], .int (0)), (7, .goto (55), 3, [62], .null), (10, .iload_n 0, 1, [], .null), (11, .bipush (99), 2, [], .int (99)), (13, .if_icmp .ne (7), 3, [20], .null), (16, .iconst 1, 1, [], .int (1)), (17, .goto (45), 3, [62], .null), (20, .iload_n 0, 1, [], .null), (21, .bipush (115), 2, [], .int (115)), (23, .if_icmp .ne (7), 3, [30], .null), (26, .iconst 2, 1, [], .int (2)), (27, .goto (35), 3, [62], .null), (30, .iload_n 0, 1, [], .null), (31, .bipush (108), 2, [], .int (108)), (33, .if_icmp .ne (7), 3, [40], .null), (36, .iconst 3, 1, [], .int (3)), (37, .goto (25), 3, [62], .null), (40, .iload_n 0, 1, [], .null), (41, .bipush (117), 2, [], .int (117)), (43, .if_icmp .ne (7), 3, [50], .null), (46, .iconst 4, 1, [], .int (4)), (47, .goto (15), 3, [62], .null), (50, .iload_n 0, 1, [], .null), (51, .bipush (121), 2, [], .int (121)), (53, .if_icmp .ne (7), 3, [60], .null), (56, .iconst 5, 1, [], .int (5)), (57, .goto (5), 3, [62], .null), (60, .bipush (-9), 2, [], .int (-9)), (62, .ireturn, 1, [], .null)]
def F_Mo_kindOf (x0 : Int32) (h : Hp) : Res Hp :=
  if x0 = (104 : Int32) then
  (retI (0 : Int32) h)
  else
  (if x0 = (99 : Int32) then
  (retI (1 : Int32) h)
  else
  (if x0 = (115 : Int32) then
  (retI (2 : Int32) h)
  else
  (if x0 = (108 : Int32) then
  (retI (3 : Int32) h)
  else
  (if x0 = (117 : Int32) then
  (retI (4 : Int32) h)
  else
  (if x0 = (121 : Int32) then
  (retI (5 : Int32) h)
  else
  (retI (-9 : Int32) h))))))
def sF_Mo_kindOf : List Value → Hp → Res Hp := fun as h => match as with | [.int x0] => F_Mo_kindOf x0 h | _ => none
theorem w_Mo_kindOf (x0 : Int32) (h : Hp) : sF_Mo_kindOf [.int x0] h = F_Mo_kindOf x0 h := rfl
def S_Mo_kindOf : Sem Hp := []
set_option maxRecDepth 100000 in
theorem e_Mo_kindOf_0 (x0 : Int32) (h : Hp) : F_Mo_kindOf x0 h = exec1 OI S_Mo_kindOf 1 k_Mo_kindOf 0 [some (.int x0)] [] h (runF OI S_Mo_kindOf [] 1 k_Mo_kindOf 400) :=
  (x_ite rfl (x_ite rfl (x_ite rfl (x_ite rfl (x_ite rfl (x_ite rfl rfl))))))
def k_Mo_readsHand : List Ent := [(0, .aload_n 0, 1, [], .null), (1, .iload_n 1, 1, [], .null), (2, .invokevirtual 110, 3, [90, 2, 1], .null), (5, .invokestatic 113, 3, [91, 1, 1], .null), (8, .istore_n 2, 1, [], .null), (9, .iload_n 2, 1, [], .null), (10, .bipush (-9), 2, [], .int (-9)), (12, .if_icmp .eq (19), 3, [31], .null), (15, .aload_n 0, 1, [], .null), (16, .getfield 116, 3, [7, 18, 0], .null), (19, .ifCond .gt (12), 3, [31], .null), (22, .aload_n 0, 1, [], .null), (23, .getfield 119, 3, [7, 17, 0], .null), (26, .bipush (7), 2, [], .int (7)), (28, .if_icmp .ne (5), 3, [33], .null), (31, .iconst 0, 1, [], .int (0)), (32, .ireturn, 1, [], .null), (33, .aload_n 0, 1, [], .null), (34, .dup, 1, [], .null), (35, .getfield 107, 3, [7, 16, 0], .null), (38, .iconst 1, 1, [], .int (1)), (39, .iadd, 1, [], .null), (40, .putfield 107, 3, [7, 16, 0], .null), (43, .iconst 0, 1, [], .int (0)), (44, .istore_n 3, 1, [], .null), (45, .aload_n 0, 1, [], .null), (46, .iload_n 1, 1, [], .null), (47, .invokevirtual 110, 3, [90, 2, 1], .null), (50, .bipush (48), 2, [], .int (48)), (52, .bipush (57), 2, [], .int (57)), (54, .invokestatic 72, 3, [71, 3, 2], .null), (57, .ifCond .eq (48), 3, [105], .null), (60, .aload_n 0, 1, [], .null), (61, .iload_n 1, 1, [], .null), (62, .invokevirtual 110, 3, [90, 2, 1], .null), (65, .bipush (48), 2, [], .int (48)), (67, .isub, 1, [], .null), (68, .istore 4, 2, [], .null), (70, .iload 4, 2, [], .null), (72, .iconst 5, 1, [], .int (5)), (73, .if_icmp .ge (10), 3, [83], .null), (76, .iload_n 3, 1, [], .null), (77, .iload 4, 2, [], .null), (79, .ishr, 1, [], .null), (80, .ifCond .eq (5), 3, [85], .null), (83, .iconst 0, 1, [], .int (0)), (84, .ireturn, 1, [], .null), (85, .iload_n 3, 1, [], .null), (86, .iconst 1, 1, [], .int (1)), (87, .iload 4, 2, [], .null), (89, .ishl, 1, [], .null), (90, .ior, 1, [], .null), (91, .istore_n 3, 1, [], .null), (92, .aload_n 0, 1, [], .null), (93, .dup, 1, [], .null), (94, .getfield 107, 3, [7, 16, 0], .null), (97, .iconst 1, 1, [], .int (1)), (98, .iadd, 1, [], .null), (99, .putfield 107, 3, [7, 16, 0], .null), (102, .goto (-57), 3, [45], .null), (105, .aload_n 0, 1, [], .null), (106, .getfield 40, 3, [7, 19, 1], .null), (109, .aload_n 0, 1, [], .null), (110, .getfield 119, 3, [7, 17, 0], .null), (113, .iload_n 2, 1, [], .null), (114, .iastore, 1, [], .null), (115, .aload_n 0, 1, [], .null), (116, .getfield 43, 3, [7, 20, 1], .null), (119, .aload_n 0, 1, [], .null), (120, .getfield 119, 3, [7, 17, 0], .null), (123, .iload_n 3, 1, [], .null), (124, .iastore, 1, [], .null), (125, .aload_n 0, 1, [], .null), (126, .dup, 1, [], .null), (127, .getfield 119, 3, [7, 17, 0], .null), (130, .iconst 1, 1, [], .int (1)), (131, .iadd, 1, [], .null), (132, .putfield 119, 3, [7, 17, 0], .null), (135, .iconst 1, 1, [], .int (1)), (136, .ireturn, 1, [], .null)]
def Mo_readsHand_45  (x1 : Int32) (x2 : Int32)  : (Int32 × Hp) → ((Int32 × Hp) → Res Hp) → Res Hp := fun s κ45 => match s with
  | (x3, h) =>
  bI (F_Mo_here x1 h) fun v2 h1 =>
  bI (F_Mo_in v2 (48 : Int32) (57 : Int32) h1) fun v4 h3 =>
  if v4 = (0 : Int32) then
  (bif okA 189 100 (hg h3 178 17) then
  bH (hs h3 189 (hg h3 178 17).toNatClampNeg x2) fun h5 =>
  bif okA 190 100 (hg h5 178 17) then
  bH (hs h5 190 (hg h5 178 17).toNatClampNeg x3) fun h6 =>
  bH (hs h6 178 17 ((hg h6 178 17) + (1 : Int32))) fun h7 =>
  retZ (1 : Int32) h7
  else none
  else none)
  else
  (bI (F_Mo_here x1 h3) fun v9 h8 =>
  if (5 : Int32) ≤ (v9 - (48 : Int32)) then
  (retZ (0 : Int32) h8)
  else
  (if (x3 >>> ((v9 - (48 : Int32)) &&& 31)) = (0 : Int32) then
  (bH (hs h8 178 16 ((hg h8 178 16) + (1 : Int32))) fun h10 =>
  κ45 ((x3 ||| ((1 : Int32) <<< ((v9 - (48 : Int32)) &&& 31))), h10))
  else
  (retZ (0 : Int32) h8)))
def F_Mo_readsHand (x1 : Int32) (h : Hp) : Res Hp :=
  bI (F_Mo_here x1 h) fun v2 h1 =>
  bI (F_Mo_kindOf v2 h1) fun v4 h3 =>
  if v4 = (-9 : Int32) then
  (retZ (0 : Int32) h3)
  else
  (if (0 : Int32) < (hg h3 178 18) then
  (retZ (0 : Int32) h3)
  else
  (if (hg h3 178 17) = (7 : Int32) then
  (retZ (0 : Int32) h3)
  else
  (bH (hs h3 178 16 ((hg h3 178 16) + (1 : Int32))) fun h5 =>
  loopC (Mo_readsHand_45  x1 v4 ) FU ((0 : Int32), h5))))
def sF_Mo_readsHand : List Value → Hp → Res Hp := fun as h => match as with | [.ref f0, .int x1] => (match Nat.beq f0 178 with | true => F_Mo_readsHand x1 h | false => none) | _ => none
theorem w_Mo_readsHand (x1 : Int32) (h : Hp) : sF_Mo_readsHand [.ref 178, .int x1] h = F_Mo_readsHand x1 h := rfl
def S_Mo_readsHand : Sem Hp := [(90, sF_Mo_here), (91, sF_Mo_kindOf), (71, sF_Mo_in)]
set_option maxRecDepth 100000 in
theorem e_Mo_readsHand_0 (x1 : Int32) (h : Hp) : F_Mo_readsHand x1 h = exec1 OI S_Mo_readsHand 2 k_Mo_readsHand 0 [some (.ref 178), some (.int x1), none, none, none] [] h (runF OI S_Mo_readsHand [(45, [0, 1, 2, 3], fun vs st h => match vs, st with | [.ref f0, .int x1, .int x2, .int x3], [] => (match Nat.beq f0 178 with | true => loopC (Mo_readsHand_45  x1 x2 ) FU (x3, h) | false => none) | _, _ => none)] 2 k_Mo_readsHand 400) :=
  (x_bI (f := sF_Mo_here) rfl (w_Mo_here _ _) fun v2 h1 => (x_bI (f := sF_Mo_kindOf) rfl (w_Mo_kindOf _ _) fun v4 h3 => (x_ite rfl (x_ite rfl (x_ite rfl (x_bH fun h5 => rfl))))))
set_option maxRecDepth 100000 in
theorem e_Mo_readsHand_45 (κ45 : (Int32 × Hp) → Res Hp) (x1 : Int32) (x2 : Int32) (x3 : Int32)  (h : Hp) : Mo_readsHand_45  x1 x2  (x3, h) κ45 = exec1 OI S_Mo_readsHand 2 k_Mo_readsHand 45 [some (.ref 178), some (.int x1), some (.int x2), some (.int x3), none] [] h (runF OI S_Mo_readsHand [(45, [0, 1, 2, 3], fun vs st h => match vs, st with | [.ref f0, .int x1, .int x2, .int x3], [] => (match Nat.beq f0 178 with | true => κ45 (x3, h) | false => none) | _, _ => none)] 2 k_Mo_readsHand 400) :=
  (x_bI (f := sF_Mo_here) rfl (w_Mo_here _ _) fun v2 h1 => (x_bI (f := sF_Mo_in) rfl (w_Mo_in _ _ _ _) fun v4 h3 => (x_ite (x_bif (x_bH fun h5 => (x_bif (x_bH fun h6 => (x_bH fun h7 => rfl))))) (x_bI (f := sF_Mo_here) rfl (w_Mo_here _ _) fun v9 h8 => (x_ite rfl (x_ite (x_bH fun h10 => rfl) rfl))))))
def k_Mo_readsMeeting : List Ent := [(0, .aload_n 0, 1, [], .null), (1, .getfield 116, 3, [7, 18, 0], .null), (4, .bipush (16), 2, [], .int (16)), (6, .if_icmp .ne (5), 3, [11], .null), (9, .iconst 0, 1, [], .int (0)), (10, .ireturn, 1, [], .null), (11, .aload_n 0, 1, [], .null), (12, .dup, 1, [], .null), (13, .getfield 107, 3, [7, 16, 0], .null), (16, .iconst 1, 1, [], .int (1)), (17, .iadd, 1, [], .null), (18, .putfield 107, 3, [7, 16, 0], .null), (21, .iconst 3, 1, [], .int (3)), (22, .aload_n 0, 1, [], .null), (23, .getfield 116, 3, [7, 18, 0], .null), (26, .imul, 1, [], .null), (27, .istore_n 2, 1, [], .null), (28, .iconst 0, 1, [], .int (0)), (29, .istore_n 3, 1, [], .null), (30, .iload_n 3, 1, [], .null), (31, .iconst 3, 1, [], .int (3)), (32, .if_icmp .ge (82), 3, [114], .null), (35, .aload_n 0, 1, [], .null), (36, .iload_n 1, 1, [], .null), (37, .invokevirtual 110, 3, [90, 2, 1], .null), (40, .bipush (48), 2, [], .int (48)), (42, .isub, 1, [], .null), (43, .istore 4, 2, [], .null), (45, .iload 4, 2, [], .null), (47, .iconst 0, 1, [], .int (0)), (48, .iload_n 3, 1, [], .null), (49, .iconst 2, 1, [], .int (2)), (50, .if_icmp .ne (8), 3, [58], .null), (53, .bipush (7), 2, [], .int (7)), (55, .goto (9), 3, [64], .null), (58, .aload_n 0, 1, [], .null), (59, .getfield 119, 3, [7, 17, 0], .null), (62, .iconst 1, 1, [], .int (1)), (63, .isub, 1, [], .null), (64, .invokestatic 72, 3, [71, 3, 2], .null), (67, .ifCond .eq (19), 3, [86], .null), (70, .iload_n 3, 1, [], .null), (71, .iconst 1, 1, [], .int (1)), (72, .if_icmp .ne (16), 3, [88], .null), (75, .iload 4, 2, [], .null), (77, .aload_n 0, 1, [], .null), (78, .getfield 46, 3, [7, 21, 1], .null), (81, .iload_n 2, 1, [], .null), (82, .iaload, 1, [], .null), (83, .if_icmp .ne (5), 3, [88], .null), (86, .iconst 0, 1, [], .int (0)), (87, .ireturn, 1, [], .null), (88, .aload_n 0, 1, [], .null), (89, .getfield 46, 3, [7, 21, 1], .null), (92, .iload_n 2, 1, [], .null), (93, .iload_n 3, 1, [], .null), (94, .iadd, 1, [], .null), (95, .iload 4, 2, [], .null), (97, .iastore, 1, [], .null), (98, .aload_n 0, 1, [], .null), (99, .dup, 1, [], .null), (100, .getfield 107, 3, [7, 16, 0], .null), (103, .iconst 1, 1, [], .int (1)), (104, .iadd, 1, [], .null), (105, .putfield 107, 3, [7, 16, 0], .null), (108, .iinc 3 (1), 3, [], .int (1)), (111, .goto (-81), 3, [30], .null), (114, .aload_n 0, 1, [], .null), (115, .dup, 1, [], .null), (116, .getfield 116, 3, [7, 18, 0], .null), (119, .iconst 1, 1, [], .int (1)), (120, .iadd, 1, [], .null), (121, .putfield 116, 3, [7, 18, 0], .null), (124, .iconst 1, 1, [], .int (1)), (125, .ireturn, 1, [], .null)]
def Mo_readsMeeting_30  (x1 : Int32) (x2 : Int32)  : (Int32 × Hp) → ((Int32 × Hp) → Res Hp) → Res Hp := fun s κ30 => match s with
  | (x3, h) =>
  if (3 : Int32) ≤ x3 then
  (bH (hs h 178 18 ((hg h 178 18) + (1 : Int32))) fun h1 =>
  retZ (1 : Int32) h1)
  else
  (bI (F_Mo_here x1 h) fun v3 h2 =>
  if x3 = (2 : Int32) then
  (bI (F_Mo_in (v3 - (48 : Int32)) (0 : Int32) (7 : Int32) h2) fun v11 h10 =>
  if v11 = (0 : Int32) then
  (retZ (0 : Int32) h10)
  else
  (if x3 = (1 : Int32) then
  (bif okA 191 100 x2 then
  if (v3 - (48 : Int32)) = (hg h10 191 x2.toNatClampNeg) then
  (retZ (0 : Int32) h10)
  else
  (bif okA 191 100 (x2 + x3) then
  bH (hs h10 191 (x2 + x3).toNatClampNeg (v3 - (48 : Int32))) fun h14 =>
  bH (hs h14 178 16 ((hg h14 178 16) + (1 : Int32))) fun h15 =>
  κ30 ((x3 + (1 : Int32)), h15)
  else none)
  else none)
  else
  (bif okA 191 100 (x2 + x3) then
  bH (hs h10 191 (x2 + x3).toNatClampNeg (v3 - (48 : Int32))) fun h12 =>
  bH (hs h12 178 16 ((hg h12 178 16) + (1 : Int32))) fun h13 =>
  κ30 ((x3 + (1 : Int32)), h13)
  else none)))
  else
  (bI (F_Mo_in (v3 - (48 : Int32)) (0 : Int32) ((hg h2 178 17) - (1 : Int32)) h2) fun v5 h4 =>
  if v5 = (0 : Int32) then
  (retZ (0 : Int32) h4)
  else
  (if x3 = (1 : Int32) then
  (bif okA 191 100 x2 then
  if (v3 - (48 : Int32)) = (hg h4 191 x2.toNatClampNeg) then
  (retZ (0 : Int32) h4)
  else
  (bif okA 191 100 (x2 + x3) then
  bH (hs h4 191 (x2 + x3).toNatClampNeg (v3 - (48 : Int32))) fun h8 =>
  bH (hs h8 178 16 ((hg h8 178 16) + (1 : Int32))) fun h9 =>
  κ30 ((x3 + (1 : Int32)), h9)
  else none)
  else none)
  else
  (bif okA 191 100 (x2 + x3) then
  bH (hs h4 191 (x2 + x3).toNatClampNeg (v3 - (48 : Int32))) fun h6 =>
  bH (hs h6 178 16 ((hg h6 178 16) + (1 : Int32))) fun h7 =>
  κ30 ((x3 + (1 : Int32)), h7)
  else none))))
def F_Mo_readsMeeting (x1 : Int32) (h : Hp) : Res Hp :=
  if (hg h 178 18) = (16 : Int32) then
  (retZ (0 : Int32) h)
  else
  (bH (hs h 178 16 ((hg h 178 16) + (1 : Int32))) fun h1 =>
  loopC (Mo_readsMeeting_30  x1 ((3 : Int32) * (hg h1 178 18)) ) FU ((0 : Int32), h1))
def sF_Mo_readsMeeting : List Value → Hp → Res Hp := fun as h => match as with | [.ref f0, .int x1] => (match Nat.beq f0 178 with | true => F_Mo_readsMeeting x1 h | false => none) | _ => none
theorem w_Mo_readsMeeting (x1 : Int32) (h : Hp) : sF_Mo_readsMeeting [.ref 178, .int x1] h = F_Mo_readsMeeting x1 h := rfl
def S_Mo_readsMeeting : Sem Hp := [(90, sF_Mo_here), (71, sF_Mo_in)]
set_option maxRecDepth 100000 in
theorem e_Mo_readsMeeting_0 (x1 : Int32) (h : Hp) : F_Mo_readsMeeting x1 h = exec1 OI S_Mo_readsMeeting 2 k_Mo_readsMeeting 0 [some (.ref 178), some (.int x1), none, none, none] [] h (runF OI S_Mo_readsMeeting [(30, [0, 1, 2, 3], fun vs st h => match vs, st with | [.ref f0, .int x1, .int x2, .int x3], [] => (match Nat.beq f0 178 with | true => loopC (Mo_readsMeeting_30  x1 x2 ) FU (x3, h) | false => none) | _, _ => none)] 2 k_Mo_readsMeeting 400) :=
  (x_ite rfl (x_bH fun h1 => rfl))
set_option maxRecDepth 100000 in
theorem e_Mo_readsMeeting_30 (κ30 : (Int32 × Hp) → Res Hp) (x1 : Int32) (x2 : Int32) (x3 : Int32)  (h : Hp) : Mo_readsMeeting_30  x1 x2  (x3, h) κ30 = exec1 OI S_Mo_readsMeeting 2 k_Mo_readsMeeting 30 [some (.ref 178), some (.int x1), some (.int x2), some (.int x3), none] [] h (runF OI S_Mo_readsMeeting [(30, [0, 1, 2, 3], fun vs st h => match vs, st with | [.ref f0, .int x1, .int x2, .int x3], [] => (match Nat.beq f0 178 with | true => κ30 (x3, h) | false => none) | _, _ => none)] 2 k_Mo_readsMeeting 400) :=
  (x_ite (x_bH fun h1 => rfl) (x_bI (f := sF_Mo_here) rfl (w_Mo_here _ _) fun v3 h2 => (x_ite (x_bI (f := sF_Mo_in) rfl (w_Mo_in _ _ _ _) fun v11 h10 => (x_ite rfl (x_ite (x_bif (x_ite rfl (x_bif (x_bH fun h14 => (x_bH fun h15 => rfl))))) (x_bif (x_bH fun h12 => (x_bH fun h13 => rfl)))))) (x_bI (f := sF_Mo_in) rfl (w_Mo_in _ _ _ _) fun v5 h4 => (x_ite rfl (x_ite (x_bif (x_ite rfl (x_bif (x_bH fun h8 => (x_bH fun h9 => rfl))))) (x_bif (x_bH fun h6 => (x_bH fun h7 => rfl)))))))))
def k_Mo_goesOn : List Ent := [(0, .aload_n 0, 1, [], .null), (1, .iconst 0, 1, [], .int (0)), (2, .putfield 107, 3, [7, 16, 0], .null), (5, .aload_n 0, 1, [], .null), (6, .iconst 0, 1, [], .int (0)), (7, .putfield 119, 3, [7, 17, 0], .null), (10, .aload_n 0, 1, [], .null), (11, .iconst 0, 1, [], .int (0)), (12, .putfield 116, 3, [7, 18, 0], .null), (15, .aload_n 0, 1, [], .null), (16, .getfield 107, 3, [7, 16, 0], .null), (19, .aload_n 0, 1, [], .null), (20, .getfield 22, 3, [7, 6, 1], .null), (23, .iload_n 1, 1, [], .null), (24, .iaload, 1, [], .null), (25, .if_icmp .ge (60), 3, [85], .null), (28, .aload_n 0, 1, [], .null), (29, .iload_n 1, 1, [], .null), (30, .invokevirtual 110, 3, [90, 2, 1], .null), (33, .bipush (32), 2, [], .int (32)), (35, .if_icmp .ne (16), 3, [51], .null), (38, .aload_n 0, 1, [], .null), (39, .dup, 1, [], .null), (40, .getfield 107, 3, [7, 16, 0], .null), (43, .iconst 1, 1, [], .int (1)), (44, .iadd, 1, [], .null), (45, .putfield 107, 3, [7, 16, 0], .null), (48, .goto (-33), 3, [15], .null), (51, .aload_n 0, 1, [], .null), (52, .iload_n 1, 1, [], .null), (53, .invokevirtual 110, 3, [90, 2, 1], .null), (56, .bipush (109), 2, [], .int (109)), (58, .if_icmp .ne (14), 3, [72], .null), (61, .aload_n 0, 1, [], .null), (62, .iload_n 1, 1, [], .null), (63, .invokevirtual 122, 3, [93, 2, 2], .null), (66, .ifCond .ne (-51), 3, [15], .null), (69, .goto (11), 3, [80], .null), (72, .aload_n 0, 1, [], .null), (73, .iload_n 1, 1, [], .null), (74, .invokevirtual 125, 3, [92, 2, 2], .null), (77, .ifCond .ne (-62), 3, [15], .null), (80, .aload_n 0, 1, [], .null), (81, .getfield 107, 3, [7, 16, 0], .null), (84, .ireturn, 1, [], .null), (85, .bipush (-9), 2, [], .int (-9)), (87, .ireturn, 1, [], .null)]
def Mo_goesOn_15  (x1 : Int32)  : (Hp) → ((Hp) → Res Hp) → Res Hp := fun s κ15 => match s with
  | h =>
  bif okA 183 100 x1 then
  if (hg h 183 x1.toNatClampNeg) ≤ (hg h 178 16) then
  (retI (-9 : Int32) h)
  else
  (bI (F_Mo_here x1 h) fun v2 h1 =>
  if v2 = (32 : Int32) then
  (bH (hs h1 178 16 ((hg h1 178 16) + (1 : Int32))) fun h9 =>
  κ15 h9)
  else
  (bI (F_Mo_here x1 h1) fun v4 h3 =>
  if v4 = (109 : Int32) then
  (bI (F_Mo_readsMeeting x1 h3) fun v8 h7 =>
  if v8 = (0 : Int32) then
  (retI (hg h7 178 16) h7)
  else
  (κ15 h7))
  else
  (bI (F_Mo_readsHand x1 h3) fun v6 h5 =>
  if v6 = (0 : Int32) then
  (retI (hg h5 178 16) h5)
  else
  (κ15 h5))))
  else none
def F_Mo_goesOn (x1 : Int32) (h : Hp) : Res Hp :=
  bH (hs h 178 16 (0 : Int32)) fun h1 =>
  bH (hs h1 178 17 (0 : Int32)) fun h2 =>
  bH (hs h2 178 18 (0 : Int32)) fun h3 =>
  loopC (Mo_goesOn_15  x1 ) FU h3
def sF_Mo_goesOn : List Value → Hp → Res Hp := fun as h => match as with | [.ref f0, .int x1] => (match Nat.beq f0 178 with | true => F_Mo_goesOn x1 h | false => none) | _ => none
theorem w_Mo_goesOn (x1 : Int32) (h : Hp) : sF_Mo_goesOn [.ref 178, .int x1] h = F_Mo_goesOn x1 h := rfl
def S_Mo_goesOn : Sem Hp := [(90, sF_Mo_here), (92, sF_Mo_readsHand), (93, sF_Mo_readsMeeting)]
set_option maxRecDepth 100000 in
theorem e_Mo_goesOn_0 (x1 : Int32) (h : Hp) : F_Mo_goesOn x1 h = exec1 OI S_Mo_goesOn 1 k_Mo_goesOn 0 [some (.ref 178), some (.int x1)] [] h (runF OI S_Mo_goesOn [(15, [0, 1], fun vs st h => match vs, st with | [.ref f0, .int x1], [] => (match Nat.beq f0 178 with | true => loopC (Mo_goesOn_15  x1 ) FU h | false => none) | _, _ => none)] 1 k_Mo_goesOn 400) :=
  (x_bH fun h1 => (x_bH fun h2 => (x_bH fun h3 => rfl)))
set_option maxRecDepth 100000 in
theorem e_Mo_goesOn_15 (κ15 : (Hp) → Res Hp) (x1 : Int32)  (h : Hp) : Mo_goesOn_15  x1  h κ15 = exec1 OI S_Mo_goesOn 1 k_Mo_goesOn 15 [some (.ref 178), some (.int x1)] [] h (runF OI S_Mo_goesOn [(15, [0, 1], fun vs st h => match vs, st with | [.ref f0, .int x1], [] => (match Nat.beq f0 178 with | true => κ15 h | false => none) | _, _ => none)] 1 k_Mo_goesOn 400) :=
  (x_bif (x_ite rfl (x_bI (f := sF_Mo_here) rfl (w_Mo_here _ _) fun v2 h1 => (x_ite (x_bH fun h9 => rfl) (x_bI (f := sF_Mo_here) rfl (w_Mo_here _ _) fun v4 h3 => (x_ite (x_bI (f := sF_Mo_readsMeeting) rfl (w_Mo_readsMeeting _ _) fun v8 h7 => (x_ite rfl rfl)) (x_bI (f := sF_Mo_readsHand) rfl (w_Mo_readsHand _ _) fun v6 h5 => (x_ite rfl rfl))))))))
def k_Mo_fault : List Ent := [(0, .aload_n 0, 1, [], .null), (1, .iload_n 1, 1, [], .null), (2, .invokevirtual 104, 3, [79, 2, 1], .null), (5, .istore_n 2, 1, [], .null), (6, .iload_n 2, 1, [], .null), (7, .ifCond .ge (7), 3, [14], .null), (10, .iload_n 2, 1, [], .null), (11, .goto (8), 3, [19], .null), (14, .aload_n 0, 1, [], .null), (15, .iload_n 1, 1, [], .null), (16, .invokevirtual 128, 3, [94, 2, 1], .null), (19, .ireturn, 1, [], .null)]
def F_Mo_fault (x1 : Int32) (h : Hp) : Res Hp :=
  bI (F_Mo_askedText x1 h) fun v2 h1 =>
  if (0 : Int32) ≤ v2 then
  (bI (F_Mo_goesOn x1 h1) fun v4 h3 =>
  retI v4 h3)
  else
  (retI v2 h1)
def sF_Mo_fault : List Value → Hp → Res Hp := fun as h => match as with | [.ref f0, .int x1] => (match Nat.beq f0 178 with | true => F_Mo_fault x1 h | false => none) | _ => none
theorem w_Mo_fault (x1 : Int32) (h : Hp) : sF_Mo_fault [.ref 178, .int x1] h = F_Mo_fault x1 h := rfl
def S_Mo_fault : Sem Hp := [(79, sF_Mo_askedText), (94, sF_Mo_goesOn)]
set_option maxRecDepth 100000 in
theorem e_Mo_fault_0 (x1 : Int32) (h : Hp) : F_Mo_fault x1 h = exec1 OI S_Mo_fault 1 k_Mo_fault 0 [some (.ref 178), some (.int x1), none] [] h (runF OI S_Mo_fault [] 1 k_Mo_fault 400) :=
  (x_bI (f := sF_Mo_askedText) rfl (w_Mo_askedText _ _) fun v2 h1 => (x_ite (x_bI (f := sF_Mo_goesOn) rfl (w_Mo_goesOn _ _) fun v4 h3 => rfl) rfl))
def k_Mo_land : List Ent := [(0, .aload_n 0, 1, [], .null), (1, .iload_n 1, 1, [], .null), (2, .invokevirtual 104, 3, [79, 2, 1], .null), (5, .istore_n 2, 1, [], .null), (6, .iload_n 2, 1, [], .null), (7, .ifCond .ge (5), 3, [12], .null), (10, .iload_n 2, 1, [], .null), (11, .ireturn, 1, [], .null), (12, .aload_n 0, 1, [], .null), (13, .iload_n 1, 1, [], .null), (14, .invokevirtual 128, 3, [94, 2, 1], .null), (17, .bipush (-9), 2, [], .int (-9)), (19, .if_icmp .eq (6), 3, [25], .null), (22, .bipush (-4), 2, [], .int (-4)), (24, .ireturn, 1, [], .null), (25, .aload_n 0, 1, [], .null), (26, .aload_n 0, 1, [], .null), (27, .getfield 119, 3, [7, 17, 0], .null), (30, .putfield 131, 3, [7, 8, 0], .null), (33, .aload_n 0, 1, [], .null), (34, .aload_n 0, 1, [], .null), (35, .getfield 116, 3, [7, 18, 0], .null), (38, .putfield 134, 3, [7, 11, 0], .null), (41, .iconst 0, 1, [], .int (0)), (42, .istore_n 3, 1, [], .null), (43, .iload_n 3, 1, [], .null), (44, .bipush (7), 2, [], .int (7)), (46, .if_icmp .ge (33), 3, [79], .null), (49, .aload_n 0, 1, [], .null), (50, .getfield 28, 3, [7, 9, 1], .null), (53, .iload_n 3, 1, [], .null), (54, .aload_n 0, 1, [], .null), (55, .getfield 40, 3, [7, 19, 1], .null), (58, .iload_n 3, 1, [], .null), (59, .iaload, 1, [], .null), (60, .iastore, 1, [], .null), (61, .aload_n 0, 1, [], .null), (62, .getfield 31, 3, [7, 10, 1], .null), (65, .iload_n 3, 1, [], .null), (66, .aload_n 0, 1, [], .null), (67, .getfield 43, 3, [7, 20, 1], .null), (70, .iload_n 3, 1, [], .null), (71, .iaload, 1, [], .null), (72, .iastore, 1, [], .null), (73, .iinc 3 (1), 3, [], .int (1)), (76, .goto (-33), 3, [43], .null), (79, .iconst 0, 1, [], .int (0)), (80, .istore_n 3, 1, [], .null), (81, .iload_n 3, 1, [], .null), (82, .bipush (48), 2, [], .int (48)), (84, .if_icmp .ge (21), 3, [105], .null), (87, .aload_n 0, 1, [], .null), (88, .getfield 34, 3, [7, 12, 1], .null), (91, .iload_n 3, 1, [], .null), (92, .aload_n 0, 1, [], .null), (93, .getfield 46, 3, [7, 21, 1], .null), (96, .iload_n 3, 1, [], .null), (97, .iaload, 1, [], .null), (98, .iastore, 1, [], .null), (99, .iinc 3 (1), 3, [], .int (1)), (102, .goto (-21), 3, [81], .null), (105, .aload_n 0, 1, [], .null), (106, .iconst 0, 1, [], .int (0)), (107, .putfield 137, 3, [7, 13, 0], .null), (110, .aload_n 0, 1, [], .null), (111, .iconst 0, 1, [], .int (0)), (112, .putfield 140, 3, [7, 14, 0], .null), (115, .iconst 0, 1, [], .int (0)), (116, .istore_n 3, 1, [], .null), (117, .iload_n 3, 1, [], .null), (118, .iconst 3, 1, [], .int (3)), (119, .if_icmp .ge (21), 3, [140], .null), (122, .aload_n 0, 1, [], .null), (123, .getfield 49, 3, [7, 22, 1], .null), (126, .sipush (140), 3, [], .int (140)), (129, .iload_n 3, 1, [], .null), (130, .imul, 1, [], .null), (131, .bipush (-9), 2, [], .int (-9)), (133, .iastore, 1, [], .null), (134, .iinc 3 (1), 3, [], .int (1)), (137, .goto (-20), 3, [117], .null), (140, .aload_n 0, 1, [], .null), (141, .getfield 131, 3, [7, 8, 0], .null), (144, .ireturn, 1, [], .null)]
def Mo_land_117    : (Int32 × Hp) → ((Int32 × Hp) → Res Hp) → Res Hp := fun s κ117 => match s with
  | (x3, h) =>
  if (3 : Int32) ≤ x3 then
  (retI (hg h 178 8) h)
  else
  (bif okA 192 100 ((140 : Int32) * x3) then
  bH (hs h 192 ((140 : Int32) * x3).toNatClampNeg (-9 : Int32)) fun h1 =>
  κ117 ((x3 + (1 : Int32)), h1)
  else none)
def Mo_land_81    : (Int32 × Hp) → ((Int32 × Hp) → Res Hp) → Res Hp := fun s κ81 => match s with
  | (x3, h) =>
  if (48 : Int32) ≤ x3 then
  (bH (hs h 178 13 (0 : Int32)) fun h1 =>
  bH (hs h1 178 14 (0 : Int32)) fun h2 =>
  loopC (Mo_land_117   ) FU ((0 : Int32), h2))
  else
  (bif okA 191 100 x3 then
  bif okA 187 100 x3 then
  bH (hs h 187 x3.toNatClampNeg (hg h 191 x3.toNatClampNeg)) fun h3 =>
  κ81 ((x3 + (1 : Int32)), h3)
  else none
  else none)
def Mo_land_43    : (Int32 × Hp) → ((Int32 × Hp) → Res Hp) → Res Hp := fun s κ43 => match s with
  | (x3, h) =>
  if (7 : Int32) ≤ x3 then
  (loopC (Mo_land_81   ) FU ((0 : Int32), h))
  else
  (bif okA 189 100 x3 then
  bif okA 185 100 x3 then
  bH (hs h 185 x3.toNatClampNeg (hg h 189 x3.toNatClampNeg)) fun h1 =>
  bif okA 190 100 x3 then
  bif okA 186 100 x3 then
  bH (hs h1 186 x3.toNatClampNeg (hg h1 190 x3.toNatClampNeg)) fun h2 =>
  κ43 ((x3 + (1 : Int32)), h2)
  else none
  else none
  else none
  else none)
def F_Mo_land (x1 : Int32) (h : Hp) : Res Hp :=
  bI (F_Mo_askedText x1 h) fun v2 h1 =>
  if (0 : Int32) ≤ v2 then
  (bI (F_Mo_goesOn x1 h1) fun v4 h3 =>
  if v4 = (-9 : Int32) then
  (bH (hs h3 178 8 (hg h3 178 17)) fun h5 =>
  bH (hs h5 178 11 (hg h5 178 18)) fun h6 =>
  loopC (Mo_land_43   ) FU ((0 : Int32), h6))
  else
  (retI (-4 : Int32) h3))
  else
  (retI v2 h1)
def sF_Mo_land : List Value → Hp → Res Hp := fun as h => match as with | [.ref f0, .int x1] => (match Nat.beq f0 178 with | true => F_Mo_land x1 h | false => none) | _ => none
theorem w_Mo_land (x1 : Int32) (h : Hp) : sF_Mo_land [.ref 178, .int x1] h = F_Mo_land x1 h := rfl
def S_Mo_land : Sem Hp := [(79, sF_Mo_askedText), (94, sF_Mo_goesOn)]
set_option maxRecDepth 100000 in
theorem e_Mo_land_0 (x1 : Int32) (h : Hp) : F_Mo_land x1 h = exec1 OI S_Mo_land 1 k_Mo_land 0 [some (.ref 178), some (.int x1), none, none] [] h (runF OI S_Mo_land [(43, [0, 3], fun vs st h => match vs, st with | [.ref f0, .int x3], [] => (match Nat.beq f0 178 with | true => loopC (Mo_land_43   ) FU (x3, h) | false => none) | _, _ => none)] 1 k_Mo_land 400) :=
  (x_bI (f := sF_Mo_askedText) rfl (w_Mo_askedText _ _) fun v2 h1 => (x_ite (x_bI (f := sF_Mo_goesOn) rfl (w_Mo_goesOn _ _) fun v4 h3 => (x_ite (x_bH fun h5 => (x_bH fun h6 => rfl)) rfl)) rfl))
set_option maxRecDepth 100000 in
theorem e_Mo_land_43 (κ43 : (Int32 × Hp) → Res Hp) (x3 : Int32)  (h : Hp) : Mo_land_43    (x3, h) κ43 = exec1 OI S_Mo_land 1 k_Mo_land 43 [some (.ref 178), none, none, some (.int x3)] [] h (runF OI S_Mo_land [(81, [0, 3], fun vs st h => match vs, st with | [.ref f0, .int x3], [] => (match Nat.beq f0 178 with | true => loopC (Mo_land_81   ) FU (x3, h) | false => none) | _, _ => none), (43, [0, 3], fun vs st h => match vs, st with | [.ref f0, .int x3], [] => (match Nat.beq f0 178 with | true => κ43 (x3, h) | false => none) | _, _ => none)] 1 k_Mo_land 400) :=
  (x_ite rfl (x_bif (x_bif (x_bH fun h1 => (x_bif (x_bif (x_bH fun h2 => rfl)))))))
set_option maxRecDepth 100000 in
theorem e_Mo_land_81 (κ81 : (Int32 × Hp) → Res Hp) (x3 : Int32)  (h : Hp) : Mo_land_81    (x3, h) κ81 = exec1 OI S_Mo_land 1 k_Mo_land 81 [some (.ref 178), none, none, some (.int x3)] [] h (runF OI S_Mo_land [(117, [0, 3], fun vs st h => match vs, st with | [.ref f0, .int x3], [] => (match Nat.beq f0 178 with | true => loopC (Mo_land_117   ) FU (x3, h) | false => none) | _, _ => none), (81, [0, 3], fun vs st h => match vs, st with | [.ref f0, .int x3], [] => (match Nat.beq f0 178 with | true => κ81 (x3, h) | false => none) | _, _ => none)] 1 k_Mo_land 400) :=
  (x_ite (x_bH fun h1 => (x_bH fun h2 => rfl)) (x_bif (x_bif (x_bH fun h3 => rfl))))
set_option maxRecDepth 100000 in
theorem e_Mo_land_117 (κ117 : (Int32 × Hp) → Res Hp) (x3 : Int32)  (h : Hp) : Mo_land_117    (x3, h) κ117 = exec1 OI S_Mo_land 1 k_Mo_land 117 [some (.ref 178), none, none, some (.int x3)] [] h (runF OI S_Mo_land [(117, [0, 3], fun vs st h => match vs, st with | [.ref f0, .int x3], [] => (match Nat.beq f0 178 with | true => κ117 (x3, h) | false => none) | _, _ => none)] 1 k_Mo_land 400) :=
  (x_ite rfl (x_bif (x_bH fun h1 => rfl)))
def k_Mo_isOne : List Ent := [(0, .iload_n 1, 1, [], .null), (1, .iconst 0, 1, [], .int (0)), (2, .aload_n 0, 1, [], .null), (3, .getfield 131, 3, [7, 8, 0], .null), (6, .iconst 1, 1, [], .int (1)), (7, .isub, 1, [], .null), (8, .invokestatic 72, 3, [71, 3, 2], .null), (11, .ireturn, 1, [], .null)]
def F_Mo_isOne (x1 : Int32) (h : Hp) : Res Hp :=
  bI (F_Mo_in x1 (0 : Int32) ((hg h 178 8) - (1 : Int32)) h) fun v2 h1 =>
  retZ v2 h1
def sF_Mo_isOne : List Value → Hp → Res Hp := fun as h => match as with | [.ref f0, .int x1] => (match Nat.beq f0 178 with | true => F_Mo_isOne x1 h | false => none) | _ => none
theorem w_Mo_isOne (x1 : Int32) (h : Hp) : sF_Mo_isOne [.ref 178, .int x1] h = F_Mo_isOne x1 h := rfl
def S_Mo_isOne : Sem Hp := [(71, sF_Mo_in)]
set_option maxRecDepth 100000 in
theorem e_Mo_isOne_0 (x1 : Int32) (h : Hp) : F_Mo_isOne x1 h = exec1 OI S_Mo_isOne 2 k_Mo_isOne 0 [some (.ref 178), some (.int x1)] [] h (runF OI S_Mo_isOne [] 2 k_Mo_isOne 400) :=
  (x_bI (f := sF_Mo_in) rfl (w_Mo_in _ _ _ _) fun v2 h1 => rfl)
def k_Mo_areTwo : List Ent := [(0, .aload_n 0, 1, [], .null), (1, .iload_n 1, 1, [], .null), (2, .invokevirtual 143, 3, [97, 2, 2], .null), (5, .ifCond .eq (20), 3, [25], .null), (8, .aload_n 0, 1, [], .null), (9, .iload_n 2, 1, [], .null), (10, .invokevirtual 143, 3, [97, 2, 2], .null), (13, .ifCond .eq (12), 3, [25], .null), (16, .iload_n 1, 1, [], .null), (17, .iload_n 2, 1, [], .null), (18, .if_icmp .eq (7), 3, [25], .null), (21, .iconst 1, 1, [], .int (1)), (22, .goto (4), 3, [26], .null), (25, .iconst 0, 1, [], .int (0)), (26, .ireturn, 1, [], .null)]
def F_Mo_areTwo (x1 : Int32) (x2 : Int32) (h : Hp) : Res Hp :=
  bI (F_Mo_isOne x1 h) fun v2 h1 =>
  if v2 = (0 : Int32) then
  (retZ (0 : Int32) h1)
  else
  (bI (F_Mo_isOne x2 h1) fun v4 h3 =>
  if v4 = (0 : Int32) then
  (retZ (0 : Int32) h3)
  else
  (if x1 = x2 then
  (retZ (0 : Int32) h3)
  else
  (retZ (1 : Int32) h3)))
def sF_Mo_areTwo : List Value → Hp → Res Hp := fun as h => match as with | [.ref f0, .int x1, .int x2] => (match Nat.beq f0 178 with | true => F_Mo_areTwo x1 x2 h | false => none) | _ => none
theorem w_Mo_areTwo (x1 : Int32) (x2 : Int32) (h : Hp) : sF_Mo_areTwo [.ref 178, .int x1, .int x2] h = F_Mo_areTwo x1 x2 h := rfl
def S_Mo_areTwo : Sem Hp := [(97, sF_Mo_isOne)]
set_option maxRecDepth 100000 in
theorem e_Mo_areTwo_0 (x1 : Int32) (x2 : Int32) (h : Hp) : F_Mo_areTwo x1 x2 h = exec1 OI S_Mo_areTwo 2 k_Mo_areTwo 0 [some (.ref 178), some (.int x1), some (.int x2)] [] h (runF OI S_Mo_areTwo [] 2 k_Mo_areTwo 400) :=
  (x_bI (f := sF_Mo_isOne) rfl (w_Mo_isOne _ _) fun v2 h1 => (x_ite rfl (x_bI (f := sF_Mo_isOne) rfl (w_Mo_isOne _ _) fun v4 h3 => (x_ite rfl (x_ite rfl rfl)))))
def k_Mo_isTongue : List Ent := [(0, .iload_n 0, 1, [], .null), (1, .iconst 0, 1, [], .int (0)), (2, .iconst 4, 1, [], .int (4)), (3, .invokestatic 72, 3, [71, 3, 2], .null), (6, .ireturn, 1, [], .null)]
def F_Mo_isTongue (x0 : Int32) (h : Hp) : Res Hp :=
  bI (F_Mo_in x0 (0 : Int32) (4 : Int32) h) fun v2 h1 =>
  retZ v2 h1
def sF_Mo_isTongue : List Value → Hp → Res Hp := fun as h => match as with | [.int x0] => F_Mo_isTongue x0 h | _ => none
theorem w_Mo_isTongue (x0 : Int32) (h : Hp) : sF_Mo_isTongue [.int x0] h = F_Mo_isTongue x0 h := rfl
def S_Mo_isTongue : Sem Hp := [(71, sF_Mo_in)]
set_option maxRecDepth 100000 in
theorem e_Mo_isTongue_0 (x0 : Int32) (h : Hp) : F_Mo_isTongue x0 h = exec1 OI S_Mo_isTongue 2 k_Mo_isTongue 0 [some (.int x0)] [] h (runF OI S_Mo_isTongue [] 2 k_Mo_isTongue 400) :=
  (x_bI (f := sF_Mo_in) rfl (w_Mo_in _ _ _ _) fun v2 h1 => rfl)
def k_Mo_isSet : List Ent := [(0, .iload_n 0, 1, [], .null), (1, .iconst 1, 1, [], .int (1)), (2, .bipush (31), 2, [], .int (31)), (4, .invokestatic 72, 3, [71, 3, 2], .null), (7, .ireturn, 1, [], .null)]
def F_Mo_isSet (x0 : Int32) (h : Hp) : Res Hp :=
  bI (F_Mo_in x0 (1 : Int32) (31 : Int32) h) fun v2 h1 =>
  retZ v2 h1
def sF_Mo_isSet : List Value → Hp → Res Hp := fun as h => match as with | [.int x0] => F_Mo_isSet x0 h | _ => none
theorem w_Mo_isSet (x0 : Int32) (h : Hp) : sF_Mo_isSet [.int x0] h = F_Mo_isSet x0 h := rfl
def S_Mo_isSet : Sem Hp := [(71, sF_Mo_in)]
set_option maxRecDepth 100000 in
theorem e_Mo_isSet_0 (x0 : Int32) (h : Hp) : F_Mo_isSet x0 h = exec1 OI S_Mo_isSet 2 k_Mo_isSet 0 [some (.int x0)] [] h (runF OI S_Mo_isSet [] 2 k_Mo_isSet 400) :=
  (x_bI (f := sF_Mo_in) rfl (w_Mo_in _ _ _ _) fun v2 h1 => rfl)
def k_Mo_isA : List Ent := [(0, .aload_n 0, 1, [], .null), (1, .getfield 28, 3, [7, 9, 1], .null), (4, .iload_n 1, 1, [], .null), (5, .iaload, 1, [], .null), (6, .iload_n 2, 1, [], .null), (7, .if_icmp .eq (33), 3, [40], .null), (10, .iload_n 2, 1, [], .null), (11, .iconst 1, 1, [], .int (1)), (12, .if_icmp .ne (13), 3, [25], .null), (15, .aload_n 0, 1, [], .null), (16, .getfield 28, 3, [7, 9, 1], .null), (19, .iload_n 1, 1, [], .null), (20, .iaload, 1, [], .null), (21, .iconst 4, 1, [], .int (4)), (22, .if_icmp .eq (18), 3, [40], .null), (25, .iload_n 2, 1, [], .null), (26, .iconst 3, 1, [], .int (3)), (27, .if_icmp .ne (17), 3, [44], .null), (30, .aload_n 0, 1, [], .null), (31, .getfield 28, 3, [7, 9, 1], .null), (34, .iload_n 1, 1, [], .null), (35, .iaload, 1, [], .null), (36, .iconst 5, 1, [], .int (5)), (37, .if_icmp .ne (7), 3, [44], .null), (40, .iconst 1, 1, [], .int (1)), (41, .goto (4), 3, [45], .null), (44, .iconst 0, 1, [], .int (0)), (45, .ireturn, 1, [], .null)]
def F_Mo_isA (x1 : Int32) (x2 : Int32) (h : Hp) : Res Hp :=
  bif okA 185 100 x1 then
  if (hg h 185 x1.toNatClampNeg) = x2 then
  (retZ (1 : Int32) h)
  else
  (if x2 = (1 : Int32) then
  (bif okA 185 100 x1 then
  if (hg h 185 x1.toNatClampNeg) = (4 : Int32) then
  (retZ (1 : Int32) h)
  else
  (if x2 = (3 : Int32) then
  (bif okA 185 100 x1 then
  if (hg h 185 x1.toNatClampNeg) = (5 : Int32) then
  (retZ (1 : Int32) h)
  else
  (retZ (0 : Int32) h)
  else none)
  else
  (retZ (0 : Int32) h))
  else none)
  else
  (if x2 = (3 : Int32) then
  (bif okA 185 100 x1 then
  if (hg h 185 x1.toNatClampNeg) = (5 : Int32) then
  (retZ (1 : Int32) h)
  else
  (retZ (0 : Int32) h)
  else none)
  else
  (retZ (0 : Int32) h)))
  else none
def sF_Mo_isA : List Value → Hp → Res Hp := fun as h => match as with | [.ref f0, .int x1, .int x2] => (match Nat.beq f0 178 with | true => F_Mo_isA x1 x2 h | false => none) | _ => none
theorem w_Mo_isA (x1 : Int32) (x2 : Int32) (h : Hp) : sF_Mo_isA [.ref 178, .int x1, .int x2] h = F_Mo_isA x1 x2 h := rfl
def S_Mo_isA : Sem Hp := []
set_option maxRecDepth 100000 in
theorem e_Mo_isA_0 (x1 : Int32) (x2 : Int32) (h : Hp) : F_Mo_isA x1 x2 h = exec1 OI S_Mo_isA 2 k_Mo_isA 0 [some (.ref 178), some (.int x1), some (.int x2)] [] h (runF OI S_Mo_isA [] 2 k_Mo_isA 400) :=
  (x_bif (x_ite rfl (x_ite (x_bif (x_ite rfl (x_ite (x_bif (x_ite rfl rfl)) rfl))) (x_ite (x_bif (x_ite rfl rfl)) rfl))))
def k_Mo_barsOf : List Ent := [(0, .aload_n 0, 1, [], .null), (1, .getfield 31, 3, [7, 10, 1], .null), (4, .iload_n 1, 1, [], .null), (5, .iaload, 1, [], .null), (6, .istore_n 2, 1, [], .null), (7, .aload_n 0, 1, [], .null), (8, .iload_n 1, 1, [], .null), (9, .iconst 1, 1, [], .int (1)), (10, .invokevirtual 146, 3, [101, 3, 2], .null), (13, .ifCond .ne (13), 3, [26], .null), (16, .aload_n 0, 1, [], .null), (17, .getfield 28, 3, [7, 9, 1], .null), (20, .iload_n 1, 1, [], .null), (21, .iaload, 1, [], .null), (22, .iconst 5, 1, [], .int (5)), (23, .if_icmp .ne (5), 3, [28], .null), (26, .iconst 0, 1, [], .int (0)), (27, .ireturn, 1, [], .null), (28, .aload_n 0, 1, [], .null), (29, .getfield 28, 3, [7, 9, 1], .null), (32, .iload_n 1, 1, [], .null), (33, .iaload, 1, [], .null), (34, .iconst 2, 1, [], .int (2)), (35, .if_icmp .ne (18), 3, [53], .null), (38, .iload_n 2, 1, [], .null), (39, .iload_n 2, 1, [], .null), (40, .iconst 1, 1, [], .int (1)), (41, .ishl, 1, [], .null), (42, .ior, 1, [], .null), (43, .iload_n 2, 1, [], .null), (44, .iconst 1, 1, [], .int (1)), (45, .ishr, 1, [], .null), (46, .ior, 1, [], .null), (47, .bipush (31), 2, [], .int (31)), (49, .iand, 1, [], .null), (50, .goto (4), 3, [54], .null), (53, .iload_n 2, 1, [], .null), (54, .ireturn, 1, [], .null)]
def F_Mo_barsOf (x1 : Int32) (h : Hp) : Res Hp :=
  bif okA 186 100 x1 then
  bI (F_Mo_isA x1 (1 : Int32) h) fun v2 h1 =>
  if v2 = (0 : Int32) then
  (bif okA 185 100 x1 then
  if (hg h1 185 x1.toNatClampNeg) = (5 : Int32) then
  (retI (0 : Int32) h1)
  else
  (bif okA 185 100 x1 then
  if (hg h1 185 x1.toNatClampNeg) = (2 : Int32) then
  (retI ((((hg h 186 x1.toNatClampNeg) ||| ((hg h 186 x1.toNatClampNeg) <<< ((1 : Int32) &&& 31))) ||| ((hg h 186 x1.toNatClampNeg) >>> ((1 : Int32) &&& 31))) &&& (31 : Int32)) h1)
  else
  (retI (hg h 186 x1.toNatClampNeg) h1)
  else none)
  else none)
  else
  (retI (0 : Int32) h1)
  else none
def sF_Mo_barsOf : List Value → Hp → Res Hp := fun as h => match as with | [.ref f0, .int x1] => (match Nat.beq f0 178 with | true => F_Mo_barsOf x1 h | false => none) | _ => none
theorem w_Mo_barsOf (x1 : Int32) (h : Hp) : sF_Mo_barsOf [.ref 178, .int x1] h = F_Mo_barsOf x1 h := rfl
def S_Mo_barsOf : Sem Hp := [(101, sF_Mo_isA)]
set_option maxRecDepth 100000 in
theorem e_Mo_barsOf_0 (x1 : Int32) (h : Hp) : F_Mo_barsOf x1 h = exec1 OI S_Mo_barsOf 1 k_Mo_barsOf 0 [some (.ref 178), some (.int x1), none] [] h (runF OI S_Mo_barsOf [] 1 k_Mo_barsOf 400) :=
  (x_bif (x_bI (f := sF_Mo_isA) rfl (w_Mo_isA _ _ _) fun v2 h1 => (x_ite (x_bif (x_ite rfl (x_bif (x_ite rfl rfl)))) rfl)))
def k_Mo_mayCarry : List Ent := [(0, .aload_n 0, 1, [], .null), (1, .iload_n 1, 1, [], .null), (2, .invokevirtual 150, 3, [102, 2, 1], .null), (5, .iload_n 2, 1, [], .null), (6, .iand, 1, [], .null), (7, .ifCond .ne (7), 3, [14], .null), (10, .iconst 1, 1, [], .int (1)), (11, .goto (4), 3, [15], .null), (14, .iconst 0, 1, [], .int (0)), (15, .ireturn, 1, [], .null)]
def F_Mo_mayCarry (x1 : Int32) (x2 : Int32) (h : Hp) : Res Hp :=
  bI (F_Mo_barsOf x1 h) fun v2 h1 =>
  if (v2 &&& x2) = (0 : Int32) then
  (retZ (1 : Int32) h1)
  else
  (retZ (0 : Int32) h1)
def sF_Mo_mayCarry : List Value → Hp → Res Hp := fun as h => match as with | [.ref f0, .int x1, .int x2] => (match Nat.beq f0 178 with | true => F_Mo_mayCarry x1 x2 h | false => none) | _ => none
theorem w_Mo_mayCarry (x1 : Int32) (x2 : Int32) (h : Hp) : sF_Mo_mayCarry [.ref 178, .int x1, .int x2] h = F_Mo_mayCarry x1 x2 h := rfl
def S_Mo_mayCarry : Sem Hp := [(102, sF_Mo_barsOf)]
set_option maxRecDepth 100000 in
theorem e_Mo_mayCarry_0 (x1 : Int32) (x2 : Int32) (h : Hp) : F_Mo_mayCarry x1 x2 h = exec1 OI S_Mo_mayCarry 2 k_Mo_mayCarry 0 [some (.ref 178), some (.int x1), some (.int x2)] [] h (runF OI S_Mo_mayCarry [] 2 k_Mo_mayCarry 400) :=
  (x_bI (f := sF_Mo_barsOf) rfl (w_Mo_barsOf _ _) fun v2 h1 => (x_ite rfl rfl))
def k_Mo_metBy : List Ent := [(0, .iconst 0, 1, [], .int (0)), (1, .istore_n 3, 1, [], .null), (2, .iconst 0, 1, [], .int (0)), (3, .istore 4, 2, [], .null), (5, .iload 4, 2, [], .null), (7, .aload_n 0, 1, [], .null), (8, .getfield 134, 3, [7, 11, 0], .null), (11, .if_icmp .ge (116), 3, [127], .null), (14, .iload_n 2, 1, [], .null), (15, .bipush (-9), 2, [], .int (-9)), (17, .if_icmp .eq (21), 3, [38], .null), (20, .aload_n 0, 1, [], .null), (21, .getfield 34, 3, [7, 12, 1], .null), (24, .iconst 3, 1, [], .int (3)), (25, .iload 4, 2, [], .null), (27, .imul, 1, [], .null), (28, .iconst 2, 1, [], .int (2)), (29, .iadd, 1, [], .null), (30, .iaload, 1, [], .null), (31, .iload_n 2, 1, [], .null), (32, .bipush (8), 2, [], .int (8)), (34, .irem, 1, [], .null), (35, .if_icmp .ne (7), 3, [42], .null), (38, .iconst 1, 1, [], .int (1)), (39, .goto (4), 3, [43], .null), (42, .iconst 0, 1, [], .int (0)), (43, .istore 5, 2, [], .null), (45, .iload_n 3, 1, [], .null), (46, .iload 5, 2, [], .null), (48, .ifCond .eq (32), 3, [80], .null), (51, .aload_n 0, 1, [], .null), (52, .getfield 34, 3, [7, 12, 1], .null), (55, .iconst 3, 1, [], .int (3)), (56, .iload 4, 2, [], .null), (58, .imul, 1, [], .null), (59, .iaload, 1, [], .null), (60, .iload_n 1, 1, [], .null), (61, .if_icmp .ne (19), 3, [80], .null), (64, .iconst 1, 1, [], .int (1)), (65, .aload_n 0, 1, [], .null), (66, .getfield 34, 3, [7, 12, 1], .null), (69, .iconst 3, 1, [], .int (3)), (70, .iload 4, 2, [], .null), (72, .imul, 1, [], .null), (73, .iconst 1, 1, [], .int (1)), (74, .iadd, 1, [], .null), (75, .iaload, 1, [], .null), (76, .ishl, 1, [], .null), (77, .goto (4), 3, [81], .null), (80, .iconst 0, 1, [], .int (0)), (81, .ior, 1, [], .null), (82, .istore_n 3, 1, [], .null), (83, .iload_n 3, 1, [], .null), (84, .iload 5, 2, [], .null), (86, .ifCond .eq (32), 3, [118], .null), (89, .aload_n 0, 1, [], .null), (90, .getfield 34, 3, [7, 12, 1], .null), (93, .iconst 3, 1, [], .int (3)), (94, .iload 4, 2, [], .null), (96, .imul, 1, [], .null), (97, .iconst 1, 1, [], .int (1)), (98, .iadd, 1, [], .null), (99, .iaload, 1, [], .null), (100, .iload_n 1, 1, [], .null), (101, .if_icmp .ne (17), 3, [118], .null), (104, .iconst 1, 1, [], .int (1)), (105, .aload_n 0, 1, [], .null), (106, .getfield 34, 3, [7, 12, 1], .null), (109, .iconst 3, 1, [], .int (3)), (110, .iload 4, 2, [], .null), (112, .imul, 1, [], .null), (113, .iaload, 1, [], .null), (114, .ishl, 1, [], .null), (115, .goto (4), 3, [119], .null), (118, .iconst 0, 1, [], .int (0)), (119, .ior, 1, [], .null), (120, .istore_n 3, 1, [], .null), (121, .iinc 4 (1), 3, [], .int (1)), (124, .goto (-119), 3, [5], .null), (127, .iload_n 3, 1, [], .null), (128, .ireturn, 1, [], .null)]
def Mo_metBy_5  (x1 : Int32) (x2 : Int32) (h : Hp) : (Int32 × Int32) → ((Int32 × Int32) → Res Hp) → Res Hp := fun s κ5 => match s with
  | (x3, x4) =>
  if (hg h 178 11) ≤ x4 then
  (retI x3 h)
  else
  (if x2 = (-9 : Int32) then
  (bif okA 187 100 ((3 : Int32) * x4) then
  if (hg h 187 ((3 : Int32) * x4).toNatClampNeg) = x1 then
  (bif okA 187 100 (((3 : Int32) * x4) + (1 : Int32)) then
  bif okA 187 100 (((3 : Int32) * x4) + (1 : Int32)) then
  if (hg h 187 (((3 : Int32) * x4) + (1 : Int32)).toNatClampNeg) = x1 then
  (bif okA 187 100 ((3 : Int32) * x4) then
  κ5 (((x3 ||| ((1 : Int32) <<< ((hg h 187 (((3 : Int32) * x4) + (1 : Int32)).toNatClampNeg) &&& 31))) ||| ((1 : Int32) <<< ((hg h 187 ((3 : Int32) * x4).toNatClampNeg) &&& 31))), (x4 + (1 : Int32)))
  else none)
  else
  (κ5 (((x3 ||| ((1 : Int32) <<< ((hg h 187 (((3 : Int32) * x4) + (1 : Int32)).toNatClampNeg) &&& 31))) ||| (0 : Int32)), (x4 + (1 : Int32))))
  else none
  else none)
  else
  (bif okA 187 100 (((3 : Int32) * x4) + (1 : Int32)) then
  if (hg h 187 (((3 : Int32) * x4) + (1 : Int32)).toNatClampNeg) = x1 then
  (bif okA 187 100 ((3 : Int32) * x4) then
  κ5 (((x3 ||| (0 : Int32)) ||| ((1 : Int32) <<< ((hg h 187 ((3 : Int32) * x4).toNatClampNeg) &&& 31))), (x4 + (1 : Int32)))
  else none)
  else
  (κ5 (((x3 ||| (0 : Int32)) ||| (0 : Int32)), (x4 + (1 : Int32))))
  else none)
  else none)
  else
  (bif okA 187 100 (((3 : Int32) * x4) + (2 : Int32)) then
  if (hg h 187 (((3 : Int32) * x4) + (2 : Int32)).toNatClampNeg) = (x2 - x2 / (8 : Int32) * (8 : Int32)) then
  (bif okA 187 100 ((3 : Int32) * x4) then
  if (hg h 187 ((3 : Int32) * x4).toNatClampNeg) = x1 then
  (bif okA 187 100 (((3 : Int32) * x4) + (1 : Int32)) then
  bif okA 187 100 (((3 : Int32) * x4) + (1 : Int32)) then
  if (hg h 187 (((3 : Int32) * x4) + (1 : Int32)).toNatClampNeg) = x1 then
  (bif okA 187 100 ((3 : Int32) * x4) then
  κ5 (((x3 ||| ((1 : Int32) <<< ((hg h 187 (((3 : Int32) * x4) + (1 : Int32)).toNatClampNeg) &&& 31))) ||| ((1 : Int32) <<< ((hg h 187 ((3 : Int32) * x4).toNatClampNeg) &&& 31))), (x4 + (1 : Int32)))
  else none)
  else
  (κ5 (((x3 ||| ((1 : Int32) <<< ((hg h 187 (((3 : Int32) * x4) + (1 : Int32)).toNatClampNeg) &&& 31))) ||| (0 : Int32)), (x4 + (1 : Int32))))
  else none
  else none)
  else
  (bif okA 187 100 (((3 : Int32) * x4) + (1 : Int32)) then
  if (hg h 187 (((3 : Int32) * x4) + (1 : Int32)).toNatClampNeg) = x1 then
  (bif okA 187 100 ((3 : Int32) * x4) then
  κ5 (((x3 ||| (0 : Int32)) ||| ((1 : Int32) <<< ((hg h 187 ((3 : Int32) * x4).toNatClampNeg) &&& 31))), (x4 + (1 : Int32)))
  else none)
  else
  (κ5 (((x3 ||| (0 : Int32)) ||| (0 : Int32)), (x4 + (1 : Int32))))
  else none)
  else none)
  else
  (κ5 (((x3 ||| (0 : Int32)) ||| (0 : Int32)), (x4 + (1 : Int32))))
  else none))
def F_Mo_metBy (x1 : Int32) (x2 : Int32) (h : Hp) : Res Hp :=
  loopC (Mo_metBy_5  x1 x2 h) FU ((0 : Int32), (0 : Int32))
def sF_Mo_metBy : List Value → Hp → Res Hp := fun as h => match as with | [.ref f0, .int x1, .int x2] => (match Nat.beq f0 178 with | true => F_Mo_metBy x1 x2 h | false => none) | _ => none
theorem w_Mo_metBy (x1 : Int32) (x2 : Int32) (h : Hp) : sF_Mo_metBy [.ref 178, .int x1, .int x2] h = F_Mo_metBy x1 x2 h := rfl
def S_Mo_metBy : Sem Hp := []
set_option maxRecDepth 100000 in
theorem e_Mo_metBy_0 (x1 : Int32) (x2 : Int32) (h : Hp) : F_Mo_metBy x1 x2 h = exec1 OI S_Mo_metBy 1 k_Mo_metBy 0 [some (.ref 178), some (.int x1), some (.int x2), none, none, none] [] h (runF OI S_Mo_metBy [(5, [0, 1, 2, 3, 4], fun vs st h => match vs, st with | [.ref f0, .int x1, .int x2, .int x3, .int x4], [] => (match Nat.beq f0 178 with | true => loopC (Mo_metBy_5  x1 x2 h) FU (x3, x4) | false => none) | _, _ => none)] 1 k_Mo_metBy 400) :=
  rfl
set_option maxRecDepth 100000 in
theorem e_Mo_metBy_5 (κ5 : (Int32 × Int32) → Res Hp) (x1 : Int32) (x2 : Int32) (x3 : Int32) (x4 : Int32)  (h : Hp) : Mo_metBy_5  x1 x2 h (x3, x4) κ5 = exec1 OI S_Mo_metBy 1 k_Mo_metBy 5 [some (.ref 178), some (.int x1), some (.int x2), some (.int x3), some (.int x4), none] [] h (runF OI S_Mo_metBy [(5, [0, 1, 2, 3, 4], fun vs st h => match vs, st with | [.ref f0, .int x1, .int x2, .int x3, .int x4], [] => (match Nat.beq f0 178 with | true => κ5 (x3, x4) | false => none) | _, _ => none)] 1 k_Mo_metBy 400) :=
  (x_ite rfl (x_ite (x_bif (x_ite (x_bif (x_bif (x_ite (x_bif rfl) rfl))) (x_bif (x_ite (x_bif rfl) rfl)))) (x_bif (x_ite (x_bif (x_ite (x_bif (x_bif (x_ite (x_bif rfl) rfl))) (x_bif (x_ite (x_bif rfl) rfl)))) rfl))))
def k_Mo_letterOf : List Ent := [(0, .aload_n 0, 1, [], .null), (1, .getfield 37, 3, [7, 15, 1], .null), (4, .bipush (17), 2, [], .int (17)), (6, .iload_n 1, 1, [], .null), (7, .imul, 1, [], .null), (8, .iload_n 2, 1, [], .null), (9, .iadd, 1, [], .null), (10, .iaload, 1, [], .null), (11, .ireturn, 1, [], .null)]
def F_Mo_letterOf (x1 : Int32) (x2 : Int32) (h : Hp) : Res Hp :=
  bif okA 188 100 (((17 : Int32) * x1) + x2) then
  retI (hg h 188 (((17 : Int32) * x1) + x2).toNatClampNeg) h
  else none
def sF_Mo_letterOf : List Value → Hp → Res Hp := fun as h => match as with | [.ref f0, .int x1, .int x2] => (match Nat.beq f0 178 with | true => F_Mo_letterOf x1 x2 h | false => none) | _ => none
theorem w_Mo_letterOf (x1 : Int32) (x2 : Int32) (h : Hp) : sF_Mo_letterOf [.ref 178, .int x1, .int x2] h = F_Mo_letterOf x1 x2 h := rfl
def S_Mo_letterOf : Sem Hp := []
set_option maxRecDepth 100000 in
theorem e_Mo_letterOf_0 (x1 : Int32) (x2 : Int32) (h : Hp) : F_Mo_letterOf x1 x2 h = exec1 OI S_Mo_letterOf 1 k_Mo_letterOf 0 [some (.ref 178), some (.int x1), some (.int x2)] [] h (runF OI S_Mo_letterOf [] 1 k_Mo_letterOf 400) :=
  (x_bif rfl)
def k_Mo_holderOf : List Ent := [(0, .aload_n 0, 1, [], .null), (1, .iload_n 1, 1, [], .null), (2, .iconst 3, 1, [], .int (3)), (3, .aload_n 0, 1, [], .null), (4, .iload_n 1, 1, [], .null), (5, .iconst 2, 1, [], .int (2)), (6, .invokevirtual 153, 3, [105, 3, 1], .null), (9, .iadd, 1, [], .null), (10, .iconst 1, 1, [], .int (1)), (11, .isub, 1, [], .null), (12, .invokevirtual 153, 3, [105, 3, 1], .null), (15, .ireturn, 1, [], .null)]
def F_Mo_holderOf (x1 : Int32) (h : Hp) : Res Hp :=
  bI (F_Mo_letterOf x1 (2 : Int32) h) fun v2 h1 =>
  bI (F_Mo_letterOf x1 (((3 : Int32) + v2) - (1 : Int32)) h1) fun v4 h3 =>
  retI v4 h3
def sF_Mo_holderOf : List Value → Hp → Res Hp := fun as h => match as with | [.ref f0, .int x1] => (match Nat.beq f0 178 with | true => F_Mo_holderOf x1 h | false => none) | _ => none
theorem w_Mo_holderOf (x1 : Int32) (h : Hp) : sF_Mo_holderOf [.ref 178, .int x1] h = F_Mo_holderOf x1 h := rfl
def S_Mo_holderOf : Sem Hp := [(105, sF_Mo_letterOf)]
set_option maxRecDepth 100000 in
theorem e_Mo_holderOf_0 (x1 : Int32) (h : Hp) : F_Mo_holderOf x1 h = exec1 OI S_Mo_holderOf 1 k_Mo_holderOf 0 [some (.ref 178), some (.int x1)] [] h (runF OI S_Mo_holderOf [] 1 k_Mo_holderOf 400) :=
  (x_bI (f := sF_Mo_letterOf) rfl (w_Mo_letterOf _ _ _) fun v2 h1 => (x_bI (f := sF_Mo_letterOf) rfl (w_Mo_letterOf _ _ _) fun v4 h3 => rfl))
def k_Mo_isThere : List Ent := [(0, .aload_n 0, 1, [], .null), (1, .iload_n 1, 1, [], .null), (2, .invokevirtual 156, 3, [106, 2, 1], .null), (5, .aload_n 0, 1, [], .null), (6, .iload_n 1, 1, [], .null), (7, .iconst 0, 1, [], .int (0)), (8, .invokevirtual 153, 3, [105, 3, 1], .null), (11, .if_icmp .ne (7), 3, [18], .null), (14, .iconst 1, 1, [], .int (1)), (15, .goto (4), 3, [19], .null), (18, .iconst 0, 1, [], .int (0)), (19, .ireturn, 1, [], .null)]
def F_Mo_isThere (x1 : Int32) (h : Hp) : Res Hp :=
  bI (F_Mo_holderOf x1 h) fun v2 h1 =>
  bI (F_Mo_letterOf x1 (0 : Int32) h1) fun v4 h3 =>
  if v2 = v4 then
  (retZ (1 : Int32) h3)
  else
  (retZ (0 : Int32) h3)
def sF_Mo_isThere : List Value → Hp → Res Hp := fun as h => match as with | [.ref f0, .int x1] => (match Nat.beq f0 178 with | true => F_Mo_isThere x1 h | false => none) | _ => none
theorem w_Mo_isThere (x1 : Int32) (h : Hp) : sF_Mo_isThere [.ref 178, .int x1] h = F_Mo_isThere x1 h := rfl
def S_Mo_isThere : Sem Hp := [(106, sF_Mo_holderOf), (105, sF_Mo_letterOf)]
set_option maxRecDepth 100000 in
theorem e_Mo_isThere_0 (x1 : Int32) (h : Hp) : F_Mo_isThere x1 h = exec1 OI S_Mo_isThere 2 k_Mo_isThere 0 [some (.ref 178), some (.int x1)] [] h (runF OI S_Mo_isThere [] 2 k_Mo_isThere 400) :=
  (x_bI (f := sF_Mo_holderOf) rfl (w_Mo_holderOf _ _) fun v2 h1 => (x_bI (f := sF_Mo_letterOf) rfl (w_Mo_letterOf _ _ _) fun v4 h3 => (x_ite rfl rfl)))
def k_Mo_handOf : List Ent := [(0, .iconst 0, 1, [], .int (0)), (1, .istore_n 3, 1, [], .null), (2, .iconst 0, 1, [], .int (0)), (3, .istore 4, 2, [], .null), (5, .iload 4, 2, [], .null), (7, .aload_n 0, 1, [], .null), (8, .getfield 134, 3, [7, 11, 0], .null), (11, .if_icmp .ge (50), 3, [61], .null), (14, .iload_n 2, 1, [], .null), (15, .iconst 2, 1, [], .int (2)), (16, .if_icmp .ne (45), 3, [61], .null), (19, .iload_n 3, 1, [], .null), (20, .aload_n 0, 1, [], .null), (21, .getfield 34, 3, [7, 12, 1], .null), (24, .iconst 3, 1, [], .int (3)), (25, .iload 4, 2, [], .null), (27, .imul, 1, [], .null), (28, .iaload, 1, [], .null), (29, .iload_n 1, 1, [], .null), (30, .if_icmp .eq (18), 3, [48], .null), (33, .aload_n 0, 1, [], .null), (34, .getfield 34, 3, [7, 12, 1], .null), (37, .iconst 3, 1, [], .int (3)), (38, .iload 4, 2, [], .null), (40, .imul, 1, [], .null), (41, .iconst 1, 1, [], .int (1)), (42, .iadd, 1, [], .null), (43, .iaload, 1, [], .null), (44, .iload_n 1, 1, [], .null), (45, .if_icmp .ne (7), 3, [52], .null), (48, .iconst 1, 1, [], .int (1)), (49, .goto (4), 3, [53], .null), (52, .iconst 0, 1, [], .int (0)), (53, .iadd, 1, [], .null), (54, .istore_n 3, 1, [], .null), (55, .iinc 4 (1), 3, [], .int (1)), (58, .goto (-53), 3, [5], .null), (61, .iconst 0, 1, [], .int (0)), (62, .istore 4, 2, [], .null), (64, .iload 4, 2, [], .null), (66, .aload_n 0, 1, [], .null), (67, .getfield 140, 3, [7, 14, 0], .null), (70, .if_icmp .ge (41), 3, [111], .null), (73, .iload_n 2, 1, [], .null), (74, .iconst 3, 1, [], .int (3)), (75, .if_icmp .ne (36), 3, [111], .null), (78, .iload_n 3, 1, [], .null), (79, .aload_n 0, 1, [], .null), (80, .iload 4, 2, [], .null), (82, .invokevirtual 156, 3, [106, 2, 1], .null), (85, .iload_n 1, 1, [], .null), (86, .if_icmp .ne (16), 3, [102], .null), (89, .aload_n 0, 1, [], .null), (90, .iload 4, 2, [], .null), (92, .invokevirtual 159, 3, [107, 2, 2], .null), (95, .ifCond .ne (7), 3, [102], .null), (98, .iconst 1, 1, [], .int (1)), (99, .goto (4), 3, [103], .null), (102, .iconst 0, 1, [], .int (0)), (103, .iadd, 1, [], .null), (104, .istore_n 3, 1, [], .null), (105, .iinc 4 (1), 3, [], .int (1)), (108, .goto (-44), 3, [64], .null), (111, .iload_n 2, 1, [], .null), (112, .ifCond .ne (12), 3, [124], .null), (115, .aload_n 0, 1, [], .null), (116, .getfield 28, 3, [7, 9, 1], .null), (119, .iload_n 1, 1, [], .null), (120, .iaload, 1, [], .null), (121, .goto (18), 3, [139], .null), (124, .iload_n 2, 1, [], .null), (125, .iconst 1, 1, [], .int (1)), (126, .if_icmp .ne (12), 3, [138], .null), (129, .aload_n 0, 1, [], .null), (130, .getfield 31, 3, [7, 10, 1], .null), (133, .iload_n 1, 1, [], .null), (134, .iaload, 1, [], .null), (135, .goto (4), 3, [139], .null), (138, .iload_n 3, 1, [], .null), (139, .ireturn, 1, [], .null)]
def Mo_handOf_64  (x1 : Int32) (x2 : Int32)  : (Int32 × Int32 × Hp) → ((Int32 × Int32 × Hp) → Res Hp) → Res Hp := fun s κ64 => match s with
  | (x3, x4, h) =>
  if (hg h 178 14) ≤ x4 then
  (if x2 = (0 : Int32) then
  (bif okA 185 100 x1 then
  retI (hg h 185 x1.toNatClampNeg) h
  else none)
  else
  (if x2 = (1 : Int32) then
  (bif okA 186 100 x1 then
  retI (hg h 186 x1.toNatClampNeg) h
  else none)
  else
  (retI x3 h)))
  else
  (if x2 = (3 : Int32) then
  (bI (F_Mo_holderOf x4 h) fun v2 h1 =>
  if v2 = x1 then
  (bI (F_Mo_isThere x4 h1) fun v4 h3 =>
  if v4 = (0 : Int32) then
  (κ64 ((x3 + (1 : Int32)), (x4 + (1 : Int32)), h3))
  else
  (κ64 ((x3 + (0 : Int32)), (x4 + (1 : Int32)), h3)))
  else
  (κ64 ((x3 + (0 : Int32)), (x4 + (1 : Int32)), h1)))
  else
  (if x2 = (0 : Int32) then
  (bif okA 185 100 x1 then
  retI (hg h 185 x1.toNatClampNeg) h
  else none)
  else
  (if x2 = (1 : Int32) then
  (bif okA 186 100 x1 then
  retI (hg h 186 x1.toNatClampNeg) h
  else none)
  else
  (retI x3 h))))
def Mo_handOf_5  (x1 : Int32) (x2 : Int32) (h : Hp) : (Int32 × Int32) → ((Int32 × Int32) → Res Hp) → Res Hp := fun s κ5 => match s with
  | (x3, x4) =>
  if (hg h 178 11) ≤ x4 then
  (loopC (Mo_handOf_64  x1 x2 ) FU (x3, (0 : Int32), h))
  else
  (if x2 = (2 : Int32) then
  (bif okA 187 100 ((3 : Int32) * x4) then
  if (hg h 187 ((3 : Int32) * x4).toNatClampNeg) = x1 then
  (κ5 ((x3 + (1 : Int32)), (x4 + (1 : Int32))))
  else
  (bif okA 187 100 (((3 : Int32) * x4) + (1 : Int32)) then
  if (hg h 187 (((3 : Int32) * x4) + (1 : Int32)).toNatClampNeg) = x1 then
  (κ5 ((x3 + (1 : Int32)), (x4 + (1 : Int32))))
  else
  (κ5 ((x3 + (0 : Int32)), (x4 + (1 : Int32))))
  else none)
  else none)
  else
  (loopC (Mo_handOf_64  x1 x2 ) FU (x3, (0 : Int32), h)))
def F_Mo_handOf (x1 : Int32) (x2 : Int32) (h : Hp) : Res Hp :=
  loopC (Mo_handOf_5  x1 x2 h) FU ((0 : Int32), (0 : Int32))
def sF_Mo_handOf : List Value → Hp → Res Hp := fun as h => match as with | [.ref f0, .int x1, .int x2] => (match Nat.beq f0 178 with | true => F_Mo_handOf x1 x2 h | false => none) | _ => none
theorem w_Mo_handOf (x1 : Int32) (x2 : Int32) (h : Hp) : sF_Mo_handOf [.ref 178, .int x1, .int x2] h = F_Mo_handOf x1 x2 h := rfl
def S_Mo_handOf : Sem Hp := [(106, sF_Mo_holderOf), (107, sF_Mo_isThere)]
set_option maxRecDepth 100000 in
theorem e_Mo_handOf_0 (x1 : Int32) (x2 : Int32) (h : Hp) : F_Mo_handOf x1 x2 h = exec1 OI S_Mo_handOf 1 k_Mo_handOf 0 [some (.ref 178), some (.int x1), some (.int x2), none, none] [] h (runF OI S_Mo_handOf [(5, [0, 1, 2, 3, 4], fun vs st h => match vs, st with | [.ref f0, .int x1, .int x2, .int x3, .int x4], [] => (match Nat.beq f0 178 with | true => loopC (Mo_handOf_5  x1 x2 h) FU (x3, x4) | false => none) | _, _ => none)] 1 k_Mo_handOf 400) :=
  rfl
set_option maxRecDepth 100000 in
theorem e_Mo_handOf_5 (κ5 : (Int32 × Int32) → Res Hp) (x1 : Int32) (x2 : Int32) (x3 : Int32) (x4 : Int32)  (h : Hp) : Mo_handOf_5  x1 x2 h (x3, x4) κ5 = exec1 OI S_Mo_handOf 1 k_Mo_handOf 5 [some (.ref 178), some (.int x1), some (.int x2), some (.int x3), some (.int x4)] [] h (runF OI S_Mo_handOf [(64, [0, 1, 2, 3, 4], fun vs st h => match vs, st with | [.ref f0, .int x1, .int x2, .int x3, .int x4], [] => (match Nat.beq f0 178 with | true => loopC (Mo_handOf_64  x1 x2 ) FU (x3, x4, h) | false => none) | _, _ => none), (5, [0, 1, 2, 3, 4], fun vs st h => match vs, st with | [.ref f0, .int x1, .int x2, .int x3, .int x4], [] => (match Nat.beq f0 178 with | true => κ5 (x3, x4) | false => none) | _, _ => none)] 1 k_Mo_handOf 400) :=
  (x_ite rfl (x_ite (x_bif (x_ite rfl (x_bif (x_ite rfl rfl)))) rfl))
set_option maxRecDepth 100000 in
theorem e_Mo_handOf_64 (κ64 : (Int32 × Int32 × Hp) → Res Hp) (x1 : Int32) (x2 : Int32) (x3 : Int32) (x4 : Int32)  (h : Hp) : Mo_handOf_64  x1 x2  (x3, x4, h) κ64 = exec1 OI S_Mo_handOf 1 k_Mo_handOf 64 [some (.ref 178), some (.int x1), some (.int x2), some (.int x3), some (.int x4)] [] h (runF OI S_Mo_handOf [(64, [0, 1, 2, 3, 4], fun vs st h => match vs, st with | [.ref f0, .int x1, .int x2, .int x3, .int x4], [] => (match Nat.beq f0 178 with | true => κ64 (x3, x4, h) | false => none) | _, _ => none)] 1 k_Mo_handOf 400) :=
  (x_ite (x_ite (x_bif rfl) (x_ite (x_bif rfl) rfl)) (x_ite (x_bI (f := sF_Mo_holderOf) rfl (w_Mo_holderOf _ _) fun v2 h1 => (x_ite (x_bI (f := sF_Mo_isThere) rfl (w_Mo_isThere _ _) fun v4 h3 => (x_ite rfl rfl)) rfl)) (x_ite (x_bif rfl) (x_ite (x_bif rfl) rfl))))
def k_Mo_hand : List Ent := [(0, .aload_n 0, 1, [], .null), (1, .iload_n 1, 1, [], .null), (2, .invokevirtual 143, 3, [97, 2, 2], .null), (5, .ifCond .eq (26), 3, [31], .null), (8, .iload_n 2, 1, [], .null), (9, .iconst 0, 1, [], .int (0)), (10, .iconst 3, 1, [], .int (3)), (11, .invokestatic 72, 3, [71, 3, 2], .null), (14, .ifCond .eq (17), 3, [31], .null), (17, .aload_n 0, 1, [], .null), (18, .aload_n 0, 1, [], .null), (19, .iload_n 1, 1, [], .null), (20, .iload_n 2, 1, [], .null), (21, .invokevirtual 162, 3, [108, 3, 1], .null), (24, .iconst 1, 1, [], .int (1)), (25, .invokevirtual 98, 3, [73, 3, 1], .null), (28, .goto (4), 3, [32], .null), (31, .iconst (-1), 1, [], .int (-1)), (32, .ireturn, 1, [], .null)]
def F_Mo_hand (x1 : Int32) (x2 : Int32) (h : Hp) : Res Hp :=
  bI (F_Mo_isOne x1 h) fun v2 h1 =>
  if v2 = (0 : Int32) then
  (retI (-1 : Int32) h1)
  else
  (bI (F_Mo_in x2 (0 : Int32) (3 : Int32) h1) fun v4 h3 =>
  if v4 = (0 : Int32) then
  (retI (-1 : Int32) h3)
  else
  (bI (F_Mo_handOf x1 x2 h3) fun v6 h5 =>
  bI (F_Mo_ask v6 (1 : Int32) h5) fun v8 h7 =>
  retI v8 h7))
def sF_Mo_hand : List Value → Hp → Res Hp := fun as h => match as with | [.ref f0, .int x1, .int x2] => (match Nat.beq f0 178 with | true => F_Mo_hand x1 x2 h | false => none) | _ => none
theorem w_Mo_hand (x1 : Int32) (x2 : Int32) (h : Hp) : sF_Mo_hand [.ref 178, .int x1, .int x2] h = F_Mo_hand x1 x2 h := rfl
def S_Mo_hand : Sem Hp := [(97, sF_Mo_isOne), (71, sF_Mo_in), (108, sF_Mo_handOf), (73, sF_Mo_ask)]
set_option maxRecDepth 100000 in
theorem e_Mo_hand_0 (x1 : Int32) (x2 : Int32) (h : Hp) : F_Mo_hand x1 x2 h = exec1 OI S_Mo_hand 1 k_Mo_hand 0 [some (.ref 178), some (.int x1), some (.int x2)] [] h (runF OI S_Mo_hand [] 1 k_Mo_hand 400) :=
  (x_bI (f := sF_Mo_isOne) rfl (w_Mo_isOne _ _) fun v2 h1 => (x_ite rfl (x_bI (f := sF_Mo_in) rfl (w_Mo_in _ _ _ _) fun v4 h3 => (x_ite rfl (x_bI (f := sF_Mo_handOf) rfl (w_Mo_handOf _ _ _) fun v6 h5 => (x_bI (f := sF_Mo_ask) rfl (w_Mo_ask _ _ _) fun v8 h7 => rfl))))))
end
end
section
noncomputable section
def k_Mo_givenOn : List Ent := [(0, .iconst 0, 1, [], .int (0)), (1, .istore_n 2, 1, [], .null), (2, .iconst 0, 1, [], .int (0)), (3, .istore_n 3, 1, [], .null), (4, .iload_n 3, 1, [], .null), (5, .aload_n 0, 1, [], .null), (6, .getfield 140, 3, [7, 14, 0], .null), (9, .if_icmp .ge (52), 3, [61], .null), (12, .iconst 1, 1, [], .int (1)), (13, .istore 4, 2, [], .null), (15, .iload 4, 2, [], .null), (17, .aload_n 0, 1, [], .null), (18, .iload_n 3, 1, [], .null), (19, .iconst 2, 1, [], .int (2)), (20, .invokevirtual 153, 3, [105, 3, 1], .null), (23, .iconst 1, 1, [], .int (1)), (24, .isub, 1, [], .null), (25, .if_icmp .ge (30), 3, [55], .null), (28, .iload_n 2, 1, [], .null), (29, .aload_n 0, 1, [], .null), (30, .iload_n 3, 1, [], .null), (31, .iconst 3, 1, [], .int (3)), (32, .iload 4, 2, [], .null), (34, .iadd, 1, [], .null), (35, .invokevirtual 153, 3, [105, 3, 1], .null), (38, .iload_n 1, 1, [], .null), (39, .if_icmp .ne (7), 3, [46], .null), (42, .iconst 1, 1, [], .int (1)), (43, .goto (4), 3, [47], .null), (46, .iconst 0, 1, [], .int (0)), (47, .iadd, 1, [], .null), (48, .istore_n 2, 1, [], .null), (49, .iinc 4 (1), 3, [], .int (1)), (52, .goto (-37), 3, [15], .null), (55, .iinc 3 (1), 3, [], .int (1)), (58, .goto (-54), 3, [4], .null), (61, .iload_n 2, 1, [], .null), (62, .ireturn, 1, [], .null)]
def Mo_givenOn_15 (κ4 : (Int32 × Int32 × Hp) → Res Hp) (x1 : Int32) (x3 : Int32)  : (Int32 × Int32 × Hp) → ((Int32 × Int32 × Hp) → Res Hp) → Res Hp := fun s κ15 => match s with
  | (x2, x4, h) =>
  bI (F_Mo_letterOf x3 (2 : Int32) h) fun v2 h1 =>
  if (v2 - (1 : Int32)) ≤ x4 then
  (κ4 (x2, (x3 + (1 : Int32)), h1))
  else
  (bI (F_Mo_letterOf x3 ((3 : Int32) + x4) h1) fun v4 h3 =>
  if v4 = x1 then
  (κ15 ((x2 + (1 : Int32)), (x4 + (1 : Int32)), h3))
  else
  (κ15 ((x2 + (0 : Int32)), (x4 + (1 : Int32)), h3)))
def Mo_givenOn_4  (x1 : Int32)  : (Int32 × Int32 × Hp) → ((Int32 × Int32 × Hp) → Res Hp) → Res Hp := fun s κ4 => match s with
  | (x2, x3, h) =>
  if (hg h 178 14) ≤ x3 then
  (retI x2 h)
  else
  (loopC (Mo_givenOn_15 κ4 x1 x3 ) FU (x2, (1 : Int32), h))
def F_Mo_givenOn (x1 : Int32) (h : Hp) : Res Hp :=
  loopC (Mo_givenOn_4  x1 ) FU ((0 : Int32), (0 : Int32), h)
def sF_Mo_givenOn : List Value → Hp → Res Hp := fun as h => match as with | [.ref f0, .int x1] => (match Nat.beq f0 178 with | true => F_Mo_givenOn x1 h | false => none) | _ => none
theorem w_Mo_givenOn (x1 : Int32) (h : Hp) : sF_Mo_givenOn [.ref 178, .int x1] h = F_Mo_givenOn x1 h := rfl
def S_Mo_givenOn : Sem Hp := [(105, sF_Mo_letterOf)]
set_option maxRecDepth 100000 in
theorem e_Mo_givenOn_0 (x1 : Int32) (h : Hp) : F_Mo_givenOn x1 h = exec1 OI S_Mo_givenOn 1 k_Mo_givenOn 0 [some (.ref 178), some (.int x1), none, none, none] [] h (runF OI S_Mo_givenOn [(4, [0, 1, 2, 3], fun vs st h => match vs, st with | [.ref f0, .int x1, .int x2, .int x3], [] => (match Nat.beq f0 178 with | true => loopC (Mo_givenOn_4  x1 ) FU (x2, x3, h) | false => none) | _, _ => none)] 1 k_Mo_givenOn 400) :=
  rfl
set_option maxRecDepth 100000 in
theorem e_Mo_givenOn_4 (κ4 : (Int32 × Int32 × Hp) → Res Hp) (x1 : Int32) (x2 : Int32) (x3 : Int32)  (h : Hp) : Mo_givenOn_4  x1  (x2, x3, h) κ4 = exec1 OI S_Mo_givenOn 1 k_Mo_givenOn 4 [some (.ref 178), some (.int x1), some (.int x2), some (.int x3), none] [] h (runF OI S_Mo_givenOn [(15, [0, 1, 2, 3, 4], fun vs st h => match vs, st with | [.ref f0, .int x1, .int x2, .int x3, .int x4], [] => (match Nat.beq f0 178 with | true => loopC (Mo_givenOn_15 κ4 x1 x3 ) FU (x2, x4, h) | false => none) | _, _ => none)] 1 k_Mo_givenOn 400) :=
  (x_ite rfl rfl)
set_option maxRecDepth 100000 in
theorem e_Mo_givenOn_15 (κ4 : (Int32 × Int32 × Hp) → Res Hp) (κ15 : (Int32 × Int32 × Hp) → Res Hp) (x1 : Int32) (x2 : Int32) (x3 : Int32) (x4 : Int32)  (h : Hp) : Mo_givenOn_15 κ4 x1 x3  (x2, x4, h) κ15 = exec1 OI S_Mo_givenOn 1 k_Mo_givenOn 15 [some (.ref 178), some (.int x1), some (.int x2), some (.int x3), some (.int x4)] [] h (runF OI S_Mo_givenOn [(4, [0, 1, 2, 3], fun vs st h => match vs, st with | [.ref f0, .int x1, .int x2, .int x3], [] => (match Nat.beq f0 178 with | true => κ4 (x2, x3, h) | false => none) | _, _ => none), (15, [0, 1, 2, 3, 4], fun vs st h => match vs, st with | [.ref f0, .int x1, .int x2, .int x3, .int x4], [] => (match Nat.beq f0 178 with | true => κ15 (x2, x4, h) | false => none) | _, _ => none)] 1 k_Mo_givenOn 400) :=
  (x_bI (f := sF_Mo_letterOf) rfl (w_Mo_letterOf _ _ _) fun v2 h1 => (x_ite rfl (x_bI (f := sF_Mo_letterOf) rfl (w_Mo_letterOf _ _ _) fun v4 h3 => (x_ite rfl rfl))))
def k_Mo_mark : List Ent := [(0, .aload_n 0, 1, [], .null), (1, .iload_n 1, 1, [], .null), (2, .invokevirtual 143, 3, [97, 2, 2], .null), (5, .ifCond .eq (12), 3, [17], .null), (8, .iload_n 2, 1, [], .null), (9, .iconst 1, 1, [], .int (1)), (10, .iconst 5, 1, [], .int (5)), (11, .invokestatic 72, 3, [71, 3, 2], .null), (14, .ifCond .ne (5), 3, [19], .null), (17, .iconst (-1), 1, [], .int (-1)), (18, .ireturn, 1, [], .null), (19, .aload_n 0, 1, [], .null), (20, .iload_n 1, 1, [], .null), (21, .iload_n 2, 1, [], .null), (22, .invokevirtual 146, 3, [101, 3, 2], .null), (25, .ifCond .ne (9), 3, [34], .null), (28, .aload_n 0, 1, [], .null), (29, .iconst 3, 1, [], .int (3)), (30, .invokevirtual 80, 3, [72, 2, 1], .null), (33, .ireturn, 1, [], .null), (34, .iload_n 2, 1, [], .null), (35, .tableswitch (62) 1 4 #[29, 39, 45, 51], 29, [97, 1, 64, 2, 74, 3, 80, 4, 86], .null), (64, .aload_n 0, 1, [], .null), (65, .getfield 31, 3, [7, 10, 1], .null), (68, .iload_n 1, 1, [], .null), (69, .iaload, 1, [], .null), (70, .invokestatic 165, 3, [75, 1, 1], .null), (73, .ireturn, 1, [], .null), (74, .aload_n 0, 1, [], .null), (75, .iload_n 1, 1, [], .null), (76, .invokevirtual 150, 3, [102, 2, 1], .null), (79, .ireturn, 1, [], .null), (80, .aload_n 0, 1, [], .null), (81, .iload_n 1, 1, [], .null), (82, .invokevirtual 168, 3, [110, 2, 1], .null), (85, .ireturn, 1, [], .null), (86, .aload_n 0, 1, [], .null), (87, .iload_n 1, 1, [], .null), (88, .bipush (-9), 2, [], .int (-9)), (90, .invokevirtual 171, 3, [104, 3, 1], .null), (93, .invokestatic 165, 3, [75, 1, 1], .null), (96, .ireturn, 1, [], .null), (97, .iconst 5, 1, [], .int (5)), (98, .aload_n 0, 1, [], .null), (99, .getfield 31, 3, [7, 10, 1], .null), (102, .iload_n 1, 1, [], .null), (103, .iaload, 1, [], .null), (104, .invokestatic 165, 3, [75, 1, 1], .null), (107, .isub, 1, [], .null), (108, .ireturn, 1, [], .null)]
def F_Mo_mark (x1 : Int32) (x2 : Int32) (h : Hp) : Res Hp :=
  bI (F_Mo_isOne x1 h) fun v2 h1 =>
  if v2 = (0 : Int32) then
  (retI (-1 : Int32) h1)
  else
  (bI (F_Mo_in x2 (1 : Int32) (5 : Int32) h1) fun v4 h3 =>
  if v4 = (0 : Int32) then
  (retI (-1 : Int32) h3)
  else
  (bI (F_Mo_isA x1 x2 h3) fun v6 h5 =>
  if v6 = (0 : Int32) then
  (bI (F_Mo_meetWith (3 : Int32) h5) fun v20 h19 =>
  retI v20 h19)
  else
  (if x2 = (1 : Int32) then
  (bif okA 186 100 x1 then
  bI (F_Mo_sizeOf (hg h5 186 x1.toNatClampNeg) h5) fun v8 h7 =>
  retI v8 h7
  else none)
  else if x2 = (2 : Int32) then
  (bI (F_Mo_barsOf x1 h5) fun v10 h9 =>
  retI v10 h9)
  else if x2 = (3 : Int32) then
  (bI (F_Mo_givenOn x1 h5) fun v12 h11 =>
  retI v12 h11)
  else if x2 = (4 : Int32) then
  (bI (F_Mo_metBy x1 (-9 : Int32) h5) fun v14 h13 =>
  bI (F_Mo_sizeOf v14 h13) fun v16 h15 =>
  retI v16 h15)
  else 
  (bif okA 186 100 x1 then
  bI (F_Mo_sizeOf (hg h5 186 x1.toNatClampNeg) h5) fun v18 h17 =>
  retI ((5 : Int32) - v18) h17
  else none))))
def sF_Mo_mark : List Value → Hp → Res Hp := fun as h => match as with | [.ref f0, .int x1, .int x2] => (match Nat.beq f0 178 with | true => F_Mo_mark x1 x2 h | false => none) | _ => none
theorem w_Mo_mark (x1 : Int32) (x2 : Int32) (h : Hp) : sF_Mo_mark [.ref 178, .int x1, .int x2] h = F_Mo_mark x1 x2 h := rfl
def S_Mo_mark : Sem Hp := [(97, sF_Mo_isOne), (71, sF_Mo_in), (101, sF_Mo_isA), (75, sF_Mo_sizeOf), (102, sF_Mo_barsOf), (110, sF_Mo_givenOn), (104, sF_Mo_metBy), (72, sF_Mo_meetWith)]
set_option maxRecDepth 100000 in
theorem e_Mo_mark_0 (x1 : Int32) (x2 : Int32) (h : Hp) : F_Mo_mark x1 x2 h = exec1 OI S_Mo_mark 1 k_Mo_mark 0 [some (.ref 178), some (.int x1), some (.int x2)] [] h (runF OI S_Mo_mark [] 1 k_Mo_mark 400) :=
  (x_bI (f := sF_Mo_isOne) rfl (w_Mo_isOne _ _) fun v2 h1 => (x_ite rfl (x_bI (f := sF_Mo_in) rfl (w_Mo_in _ _ _ _) fun v4 h3 => (x_ite rfl (x_bI (f := sF_Mo_isA) rfl (w_Mo_isA _ _ _) fun v6 h5 => (x_ite (x_bI (f := sF_Mo_meetWith) rfl (w_Mo_meetWith _ _) fun v20 h19 => rfl) (x_ite (x_bif (x_bI (f := sF_Mo_sizeOf) rfl (w_Mo_sizeOf _ _) fun v8 h7 => rfl)) (x_ite (x_bI (f := sF_Mo_barsOf) rfl (w_Mo_barsOf _ _) fun v10 h9 => rfl) (x_ite (x_bI (f := sF_Mo_givenOn) rfl (w_Mo_givenOn _ _) fun v12 h11 => rfl) (x_ite (x_bI (f := sF_Mo_metBy) rfl (w_Mo_metBy _ _ _) fun v14 h13 => (x_bI (f := sF_Mo_sizeOf) rfl (w_Mo_sizeOf _ _) fun v16 h15 => rfl)) (x_bif (x_bI (f := sF_Mo_sizeOf) rfl (w_Mo_sizeOf _ _) fun v18 h17 => rfl))))))))))))
def k_Mo_teach : List Ent := [(0, .aload_n 0, 1, [], .null), (1, .iload_n 1, 1, [], .null), (2, .invokevirtual 143, 3, [97, 2, 2], .null), (5, .ifCond .eq (19), 3, [24], .null), (8, .iload_n 2, 1, [], .null), (9, .invokestatic 174, 3, [99, 1, 2], .null), (12, .ifCond .eq (12), 3, [24], .null), (15, .iload_n 3, 1, [], .null), (16, .iconst 0, 1, [], .int (0)), (17, .iconst 1, 1, [], .int (1)), (18, .invokestatic 72, 3, [71, 3, 2], .null), (21, .ifCond .ne (5), 3, [26], .null), (24, .iconst (-1), 1, [], .int (-1)), (25, .ireturn, 1, [], .null), (26, .aload_n 0, 1, [], .null), (27, .getfield 31, 3, [7, 10, 1], .null), (30, .iload_n 1, 1, [], .null), (31, .iaload, 1, [], .null), (32, .iload_n 2, 1, [], .null), (33, .ishr, 1, [], .null), (34, .iconst 1, 1, [], .int (1)), (35, .iand, 1, [], .null), (36, .istore 4, 2, [], .null), (38, .aload_n 0, 1, [], .null), (39, .getfield 31, 3, [7, 10, 1], .null), (42, .iload_n 1, 1, [], .null), (43, .iload_n 3, 1, [], .null), (44, .iconst 1, 1, [], .int (1)), (45, .if_icmp .ne (16), 3, [61], .null), (48, .aload_n 0, 1, [], .null), (49, .getfield 31, 3, [7, 10, 1], .null), (52, .iload_n 1, 1, [], .null), (53, .iaload, 1, [], .null), (54, .iconst 1, 1, [], .int (1)), (55, .iload_n 2, 1, [], .null), (56, .ishl, 1, [], .null), (57, .ior, 1, [], .null), (58, .goto (15), 3, [73], .null), (61, .aload_n 0, 1, [], .null), (62, .getfield 31, 3, [7, 10, 1], .null), (65, .iload_n 1, 1, [], .null), (66, .iaload, 1, [], .null), (67, .iconst 1, 1, [], .int (1)), (68, .iload_n 2, 1, [], .null), (69, .ishl, 1, [], .null), (70, .iconst (-1), 1, [], .int (-1)), (71, .ixor, 1, [], .null), (72, .iand, 1, [], .null), (73, .iastore, 1, [], .null), (74, .iload 4, 2, [], .null), (76, .ireturn, 1, [], .null)]
def F_Mo_teach (x1 : Int32) (x2 : Int32) (x3 : Int32) (h : Hp) : Res Hp :=
  bI (F_Mo_isOne x1 h) fun v2 h1 =>
  if v2 = (0 : Int32) then
  (retI (-1 : Int32) h1)
  else
  (bI (F_Mo_isTongue x2 h1) fun v4 h3 =>
  if v4 = (0 : Int32) then
  (retI (-1 : Int32) h3)
  else
  (bI (F_Mo_in x3 (0 : Int32) (1 : Int32) h3) fun v6 h5 =>
  if v6 = (0 : Int32) then
  (retI (-1 : Int32) h5)
  else
  (bif okA 186 100 x1 then
  if x3 = (1 : Int32) then
  (bif okA 186 100 x1 then
  bif okA 186 100 x1 then
  bH (hs h5 186 x1.toNatClampNeg ((hg h5 186 x1.toNatClampNeg) ||| ((1 : Int32) <<< (x2 &&& 31)))) fun h8 =>
  retI (((hg h5 186 x1.toNatClampNeg) >>> (x2 &&& 31)) &&& (1 : Int32)) h8
  else none
  else none)
  else
  (bif okA 186 100 x1 then
  bif okA 186 100 x1 then
  bH (hs h5 186 x1.toNatClampNeg ((hg h5 186 x1.toNatClampNeg) &&& (((1 : Int32) <<< (x2 &&& 31)) ^^^ (-1 : Int32)))) fun h7 =>
  retI (((hg h5 186 x1.toNatClampNeg) >>> (x2 &&& 31)) &&& (1 : Int32)) h7
  else none
  else none)
  else none)))
def sF_Mo_teach : List Value → Hp → Res Hp := fun as h => match as with | [.ref f0, .int x1, .int x2, .int x3] => (match Nat.beq f0 178 with | true => F_Mo_teach x1 x2 x3 h | false => none) | _ => none
theorem w_Mo_teach (x1 : Int32) (x2 : Int32) (x3 : Int32) (h : Hp) : sF_Mo_teach [.ref 178, .int x1, .int x2, .int x3] h = F_Mo_teach x1 x2 x3 h := rfl
def S_Mo_teach : Sem Hp := [(97, sF_Mo_isOne), (99, sF_Mo_isTongue), (71, sF_Mo_in)]
set_option maxRecDepth 100000 in
theorem e_Mo_teach_0 (x1 : Int32) (x2 : Int32) (x3 : Int32) (h : Hp) : F_Mo_teach x1 x2 x3 h = exec1 OI S_Mo_teach 1 k_Mo_teach 0 [some (.ref 178), some (.int x1), some (.int x2), some (.int x3), none] [] h (runF OI S_Mo_teach [] 1 k_Mo_teach 400) :=
  (x_bI (f := sF_Mo_isOne) rfl (w_Mo_isOne _ _) fun v2 h1 => (x_ite rfl (x_bI (f := sF_Mo_isTongue) rfl (w_Mo_isTongue _ _) fun v4 h3 => (x_ite rfl (x_bI (f := sF_Mo_in) rfl (w_Mo_in _ _ _ _) fun v6 h5 => (x_ite rfl (x_bif (x_ite (x_bif (x_bif (x_bH fun h8 => rfl))) (x_bif (x_bif (x_bH fun h7 => rfl)))))))))))
def k_Mo_meet : List Ent := [(0, .aload_n 0, 1, [], .null), (1, .iload_n 1, 1, [], .null), (2, .iload_n 2, 1, [], .null), (3, .invokevirtual 177, 3, [98, 3, 2], .null), (6, .ifCond .eq (13), 3, [19], .null), (9, .iload_n 3, 1, [], .null), (10, .iconst 0, 1, [], .int (0)), (11, .bipush (7), 2, [], .int (7)), (13, .invokestatic 72, 3, [71, 3, 2], .null), (16, .ifCond .ne (5), 3, [21], .null), (19, .iconst (-1), 1, [], .int (-1)), (20, .ireturn, 1, [], .null), (21, .aload_n 0, 1, [], .null), (22, .getfield 134, 3, [7, 11, 0], .null), (25, .bipush (16), 2, [], .int (16)), (27, .if_icmp .ne (6), 3, [33], .null), (30, .bipush (-2), 2, [], .int (-2)), (32, .ireturn, 1, [], .null), (33, .aload_n 0, 1, [], .null), (34, .getfield 34, 3, [7, 12, 1], .null), (37, .iconst 3, 1, [], .int (3)), (38, .aload_n 0, 1, [], .null), (39, .getfield 134, 3, [7, 11, 0], .null), (42, .imul, 1, [], .null), (43, .iload_n 1, 1, [], .null), (44, .iastore, 1, [], .null), (45, .aload_n 0, 1, [], .null), (46, .getfield 34, 3, [7, 12, 1], .null), (49, .iconst 3, 1, [], .int (3)), (50, .aload_n 0, 1, [], .null), (51, .getfield 134, 3, [7, 11, 0], .null), (54, .imul, 1, [], .null), (55, .iconst 1, 1, [], .int (1)), (56, .iadd, 1, [], .null), (57, .iload_n 2, 1, [], .null), (58, .iastore, 1, [], .null), (59, .aload_n 0, 1, [], .null), (60, .getfield 34, 3, [7, 12, 1], .null), (63, .iconst 3, 1, [], .int (3)), (64, .aload_n 0, 1, [], .null), (65, .getfield 134, 3, [7, 11, 0], .null), (68, .imul, 1, [], .null), (69, .iconst 2, 1, [], .int (2)), (70, .iadd, 1, [], .null), (71, .iload_n 3, 1, [], .null), (72, .iastore, 1, [], .null), (73, .aload_n 0, 1, [], .null), (74, .dup, 1, [], .null), (75, .getfield 134, 3, [7, 11, 0], .null), (78, .iconst 1, 1, [], .int (1)), (79, .iadd, 1, [], .null), (80, .putfield 134, 3, [7, 11, 0], .null), (83, .aload_n 0, 1, [], .null), (84, .getfield 134, 3, [7, 11, 0], .null), (87, .iconst 1, 1, [], .int (1)), (88, .isub, 1, [], .null), (89, .ireturn, 1, [], .null)]
def F_Mo_meet (x1 : Int32) (x2 : Int32) (x3 : Int32) (h : Hp) : Res Hp :=
  bI (F_Mo_areTwo x1 x2 h) fun v2 h1 =>
  if v2 = (0 : Int32) then
  (retI (-1 : Int32) h1)
  else
  (bI (F_Mo_in x3 (0 : Int32) (7 : Int32) h1) fun v4 h3 =>
  if v4 = (0 : Int32) then
  (retI (-1 : Int32) h3)
  else
  (if (hg h3 178 11) = (16 : Int32) then
  (retI (-2 : Int32) h3)
  else
  (bif okA 187 100 ((3 : Int32) * (hg h3 178 11)) then
  bH (hs h3 187 ((3 : Int32) * (hg h3 178 11)).toNatClampNeg x1) fun h5 =>
  bif okA 187 100 (((3 : Int32) * (hg h5 178 11)) + (1 : Int32)) then
  bH (hs h5 187 (((3 : Int32) * (hg h5 178 11)) + (1 : Int32)).toNatClampNeg x2) fun h6 =>
  bif okA 187 100 (((3 : Int32) * (hg h6 178 11)) + (2 : Int32)) then
  bH (hs h6 187 (((3 : Int32) * (hg h6 178 11)) + (2 : Int32)).toNatClampNeg x3) fun h7 =>
  bH (hs h7 178 11 ((hg h7 178 11) + (1 : Int32))) fun h8 =>
  retI ((hg h8 178 11) - (1 : Int32)) h8
  else none
  else none
  else none)))
def sF_Mo_meet : List Value → Hp → Res Hp := fun as h => match as with | [.ref f0, .int x1, .int x2, .int x3] => (match Nat.beq f0 178 with | true => F_Mo_meet x1 x2 x3 h | false => none) | _ => none
theorem w_Mo_meet (x1 : Int32) (x2 : Int32) (x3 : Int32) (h : Hp) : sF_Mo_meet [.ref 178, .int x1, .int x2, .int x3] h = F_Mo_meet x1 x2 x3 h := rfl
def S_Mo_meet : Sem Hp := [(98, sF_Mo_areTwo), (71, sF_Mo_in)]
set_option maxRecDepth 100000 in
theorem e_Mo_meet_0 (x1 : Int32) (x2 : Int32) (x3 : Int32) (h : Hp) : F_Mo_meet x1 x2 x3 h = exec1 OI S_Mo_meet 1 k_Mo_meet 0 [some (.ref 178), some (.int x1), some (.int x2), some (.int x3)] [] h (runF OI S_Mo_meet [] 1 k_Mo_meet 400) :=
  (x_bI (f := sF_Mo_areTwo) rfl (w_Mo_areTwo _ _ _) fun v2 h1 => (x_ite rfl (x_bI (f := sF_Mo_in) rfl (w_Mo_in _ _ _ _) fun v4 h3 => (x_ite rfl (x_ite rfl (x_bif (x_bH fun h5 => (x_bif (x_bH fun h6 => (x_bif (x_bH fun h7 => (x_bH fun h8 => rfl))))))))))))
def k_Mo_off : List Ent := [(0, .iload_n 1, 1, [], .null), (1, .iconst 0, 1, [], .int (0)), (2, .aload_n 0, 1, [], .null), (3, .getfield 134, 3, [7, 11, 0], .null), (6, .invokestatic 72, 3, [71, 3, 2], .null), (9, .ifCond .ne (5), 3, [14], .null), (12, .iconst (-1), 1, [], .int (-1)), (13, .ireturn, 1, [], .null), (14, .aload_n 0, 1, [], .null), (15, .getfield 134, 3, [7, 11, 0], .null), (18, .iload_n 1, 1, [], .null), (19, .isub, 1, [], .null), (20, .istore_n 2, 1, [], .null), (21, .aload_n 0, 1, [], .null), (22, .iload_n 1, 1, [], .null), (23, .putfield 134, 3, [7, 11, 0], .null), (26, .iload_n 2, 1, [], .null), (27, .ireturn, 1, [], .null)]
def F_Mo_off (x1 : Int32) (h : Hp) : Res Hp :=
  bI (F_Mo_in x1 (0 : Int32) (hg h 178 11) h) fun v2 h1 =>
  if v2 = (0 : Int32) then
  (retI (-1 : Int32) h1)
  else
  (bH (hs h1 178 11 x1) fun h3 =>
  retI ((hg h1 178 11) - x1) h3)
def sF_Mo_off : List Value → Hp → Res Hp := fun as h => match as with | [.ref f0, .int x1] => (match Nat.beq f0 178 with | true => F_Mo_off x1 h | false => none) | _ => none
theorem w_Mo_off (x1 : Int32) (h : Hp) : sF_Mo_off [.ref 178, .int x1] h = F_Mo_off x1 h := rfl
def S_Mo_off : Sem Hp := [(71, sF_Mo_in)]
set_option maxRecDepth 100000 in
theorem e_Mo_off_0 (x1 : Int32) (h : Hp) : F_Mo_off x1 h = exec1 OI S_Mo_off 1 k_Mo_off 0 [some (.ref 178), some (.int x1), none] [] h (runF OI S_Mo_off [] 1 k_Mo_off 400) :=
  (x_bI (f := sF_Mo_in) rfl (w_Mo_in _ _ _ _) fun v2 h1 => (x_ite rfl (x_bH fun h3 => rfl)))
def k_Mo_may : List Ent := [(0, .aload_n 0, 1, [], .null), (1, .iload_n 1, 1, [], .null), (2, .invokevirtual 143, 3, [97, 2, 2], .null), (5, .ifCond .eq (27), 3, [32], .null), (8, .iload_n 2, 1, [], .null), (9, .invokestatic 180, 3, [100, 1, 2], .null), (12, .ifCond .eq (20), 3, [32], .null), (15, .aload_n 0, 1, [], .null), (16, .iload_n 1, 1, [], .null), (17, .iload_n 2, 1, [], .null), (18, .invokevirtual 183, 3, [103, 3, 2], .null), (21, .ifCond .eq (7), 3, [28], .null), (24, .iconst 1, 1, [], .int (1)), (25, .goto (8), 3, [33], .null), (28, .iconst 0, 1, [], .int (0)), (29, .goto (4), 3, [33], .null), (32, .iconst (-1), 1, [], .int (-1)), (33, .ireturn, 1, [], .null)]
def F_Mo_may (x1 : Int32) (x2 : Int32) (h : Hp) : Res Hp :=
  bI (F_Mo_isOne x1 h) fun v2 h1 =>
  if v2 = (0 : Int32) then
  (retI (-1 : Int32) h1)
  else
  (bI (F_Mo_isSet x2 h1) fun v4 h3 =>
  if v4 = (0 : Int32) then
  (retI (-1 : Int32) h3)
  else
  (bI (F_Mo_mayCarry x1 x2 h3) fun v6 h5 =>
  if v6 = (0 : Int32) then
  (retI (0 : Int32) h5)
  else
  (retI (1 : Int32) h5)))
def sF_Mo_may : List Value → Hp → Res Hp := fun as h => match as with | [.ref f0, .int x1, .int x2] => (match Nat.beq f0 178 with | true => F_Mo_may x1 x2 h | false => none) | _ => none
theorem w_Mo_may (x1 : Int32) (x2 : Int32) (h : Hp) : sF_Mo_may [.ref 178, .int x1, .int x2] h = F_Mo_may x1 x2 h := rfl
def S_Mo_may : Sem Hp := [(97, sF_Mo_isOne), (100, sF_Mo_isSet), (103, sF_Mo_mayCarry)]
set_option maxRecDepth 100000 in
theorem e_Mo_may_0 (x1 : Int32) (x2 : Int32) (h : Hp) : F_Mo_may x1 x2 h = exec1 OI S_Mo_may 1 k_Mo_may 0 [some (.ref 178), some (.int x1), some (.int x2)] [] h (runF OI S_Mo_may [] 1 k_Mo_may 400) :=
  (x_bI (f := sF_Mo_isOne) rfl (w_Mo_isOne _ _) fun v2 h1 => (x_ite rfl (x_bI (f := sF_Mo_isSet) rfl (w_Mo_isSet _ _) fun v4 h3 => (x_ite rfl (x_bI (f := sF_Mo_mayCarry) rfl (w_Mo_mayCarry _ _ _) fun v6 h5 => (x_ite rfl rfl))))))
def k_Mo_meets : List Ent := [(0, .aload_n 0, 1, [], .null), (1, .iload_n 1, 1, [], .null), (2, .invokevirtual 143, 3, [97, 2, 2], .null), (5, .ifCond .eq (22), 3, [27], .null), (8, .iload_n 2, 1, [], .null), (9, .iconst 0, 1, [], .int (0)), (10, .bipush (99), 2, [], .int (99)), (12, .invokestatic 72, 3, [71, 3, 2], .null), (15, .ifCond .eq (12), 3, [27], .null), (18, .aload_n 0, 1, [], .null), (19, .iload_n 1, 1, [], .null), (20, .iload_n 2, 1, [], .null), (21, .invokevirtual 171, 3, [104, 3, 1], .null), (24, .goto (4), 3, [28], .null), (27, .iconst (-1), 1, [], .int (-1)), (28, .ireturn, 1, [], .null)]
def F_Mo_meets (x1 : Int32) (x2 : Int32) (h : Hp) : Res Hp :=
  bI (F_Mo_isOne x1 h) fun v2 h1 =>
  if v2 = (0 : Int32) then
  (retI (-1 : Int32) h1)
  else
  (bI (F_Mo_in x2 (0 : Int32) (99 : Int32) h1) fun v4 h3 =>
  if v4 = (0 : Int32) then
  (retI (-1 : Int32) h3)
  else
  (bI (F_Mo_metBy x1 x2 h3) fun v6 h5 =>
  retI v6 h5))
def sF_Mo_meets : List Value → Hp → Res Hp := fun as h => match as with | [.ref f0, .int x1, .int x2] => (match Nat.beq f0 178 with | true => F_Mo_meets x1 x2 h | false => none) | _ => none
theorem w_Mo_meets (x1 : Int32) (x2 : Int32) (h : Hp) : sF_Mo_meets [.ref 178, .int x1, .int x2] h = F_Mo_meets x1 x2 h := rfl
def S_Mo_meets : Sem Hp := [(97, sF_Mo_isOne), (71, sF_Mo_in), (104, sF_Mo_metBy)]
set_option maxRecDepth 100000 in
theorem e_Mo_meets_0 (x1 : Int32) (x2 : Int32) (h : Hp) : F_Mo_meets x1 x2 h = exec1 OI S_Mo_meets 1 k_Mo_meets 0 [some (.ref 178), some (.int x1), some (.int x2)] [] h (runF OI S_Mo_meets [] 1 k_Mo_meets 400) :=
  (x_bI (f := sF_Mo_isOne) rfl (w_Mo_isOne _ _) fun v2 h1 => (x_ite rfl (x_bI (f := sF_Mo_in) rfl (w_Mo_in _ _ _ _) fun v4 h3 => (x_ite rfl (x_bI (f := sF_Mo_metBy) rfl (w_Mo_metBy _ _ _) fun v6 h5 => rfl)))))
def k_Mo_writes : List Ent := [(0, .iload_n 3, 1, [], .null), (1, .aload_n 0, 1, [], .null), (2, .getfield 31, 3, [7, 10, 1], .null), (5, .iload_n 1, 1, [], .null), (6, .iaload, 1, [], .null), (7, .aload_n 0, 1, [], .null), (8, .getfield 31, 3, [7, 10, 1], .null), (11, .iload_n 2, 1, [], .null), (12, .iaload, 1, [], .null), (13, .iand, 1, [], .null), (14, .iconst (-1), 1, [], .int (-1)), (15, .ixor, 1, [], .null), (16, .iand, 1, [], .null), (17, .ifCond .ne (7), 3, [24], .null), (20, .iconst 1, 1, [], .int (1)), (21, .goto (4), 3, [25], .null), (24, .iconst 0, 1, [], .int (0)), (25, .ireturn, 1, [], .null)]
def F_Mo_writes (x1 : Int32) (x2 : Int32) (x3 : Int32) (h : Hp) : Res Hp :=
  bif okA 186 100 x1 then
  bif okA 186 100 x2 then
  if (x3 &&& (((hg h 186 x1.toNatClampNeg) &&& (hg h 186 x2.toNatClampNeg)) ^^^ (-1 : Int32))) = (0 : Int32) then
  (retZ (1 : Int32) h)
  else
  (retZ (0 : Int32) h)
  else none
  else none
def sF_Mo_writes : List Value → Hp → Res Hp := fun as h => match as with | [.ref f0, .int x1, .int x2, .int x3] => (match Nat.beq f0 178 with | true => F_Mo_writes x1 x2 x3 h | false => none) | _ => none
theorem w_Mo_writes (x1 : Int32) (x2 : Int32) (x3 : Int32) (h : Hp) : sF_Mo_writes [.ref 178, .int x1, .int x2, .int x3] h = F_Mo_writes x1 x2 x3 h := rfl
def S_Mo_writes : Sem Hp := []
set_option maxRecDepth 100000 in
theorem e_Mo_writes_0 (x1 : Int32) (x2 : Int32) (x3 : Int32) (h : Hp) : F_Mo_writes x1 x2 x3 h = exec1 OI S_Mo_writes 2 k_Mo_writes 0 [some (.ref 178), some (.int x1), some (.int x2), some (.int x3)] [] h (runF OI S_Mo_writes [] 2 k_Mo_writes 400) :=
  (x_bif (x_bif (x_ite rfl rfl)))
def k_Mo_send : List Ent := [(0, .aload_n 0, 1, [], .null), (1, .iload_n 1, 1, [], .null), (2, .iload_n 2, 1, [], .null), (3, .invokevirtual 177, 3, [98, 3, 2], .null), (6, .ifCond .eq (10), 3, [16], .null), (9, .iload_n 3, 1, [], .null), (10, .invokestatic 180, 3, [100, 1, 2], .null), (13, .ifCond .ne (5), 3, [18], .null), (16, .iconst (-1), 1, [], .int (-1)), (17, .ireturn, 1, [], .null), (18, .aload_n 0, 1, [], .null), (19, .iload_n 1, 1, [], .null), (20, .iload_n 2, 1, [], .null), (21, .iload_n 3, 1, [], .null), (22, .invokevirtual 186, 3, [117, 4, 2], .null), (25, .ifCond .ne (6), 3, [31], .null), (28, .bipush (-4), 2, [], .int (-4)), (30, .ireturn, 1, [], .null), (31, .aload_n 0, 1, [], .null), (32, .getfield 140, 3, [7, 14, 0], .null), (35, .iconst 4, 1, [], .int (4)), (36, .if_icmp .ne (6), 3, [42], .null), (39, .bipush (-2), 2, [], .int (-2)), (41, .ireturn, 1, [], .null), (42, .bipush (17), 2, [], .int (17)), (44, .aload_n 0, 1, [], .null), (45, .getfield 140, 3, [7, 14, 0], .null), (48, .imul, 1, [], .null), (49, .istore 4, 2, [], .null), (51, .aload_n 0, 1, [], .null), (52, .getfield 37, 3, [7, 15, 1], .null), (55, .iload 4, 2, [], .null), (57, .iconst 0, 1, [], .int (0)), (58, .iadd, 1, [], .null), (59, .iload_n 2, 1, [], .null), (60, .iastore, 1, [], .null), (61, .aload_n 0, 1, [], .null), (62, .getfield 37, 3, [7, 15, 1], .null), (65, .iload 4, 2, [], .null), (67, .iconst 1, 1, [], .int (1)), (68, .iadd, 1, [], .null), (69, .iload_n 3, 1, [], .null), (70, .iastore, 1, [], .null), (71, .aload_n 0, 1, [], .null), (72, .getfield 37, 3, [7, 15, 1], .null), (75, .iload 4, 2, [], .null), (77, .iconst 2, 1, [], .int (2)), (78, .iadd, 1, [], .null), (79, .iconst 1, 1, [], .int (1)), (80, .iastore, 1, [], .null), (81, .aload_n 0, 1, [], .null), (82, .getfield 37, 3, [7, 15, 1], .null), (85, .iload 4, 2, [], .null), (87, .iconst 3, 1, [], .int (3)), (88, .iadd, 1, [], .null), (89, .iload_n 1, 1, [], .null), (90, .iastore, 1, [], .null), (91, .aload_n 0, 1, [], .null), (92, .getfield 37, 3, [7, 15, 1], .null), (95, .iload 4, 2, [], .null), (97, .bipush (10), 2, [], .int (10)), (99, .iadd, 1, [], .null), (100, .aload_n 0, 1, [], .null), (101, .getfield 137, 3, [7, 13, 0], .null), (104, .iastore, 1, [], .null), (105, .aload_n 0, 1, [], .null), (106, .dup, 1, [], .null), (107, .getfield 140, 3, [7, 14, 0], .null), (110, .iconst 1, 1, [], .int (1)), (111, .iadd, 1, [], .null), (112, .putfield 140, 3, [7, 14, 0], .null), (115, .aload_n 0, 1, [], .null), (116, .getfield 140, 3, [7, 14, 0], .null), (119, .iconst 1, 1, [], .int (1)), (120, .isub, 1, [], .null), (121, .ireturn, 1, [], .null)]
def F_Mo_send (x1 : Int32) (x2 : Int32) (x3 : Int32) (h : Hp) : Res Hp :=
  bI (F_Mo_areTwo x1 x2 h) fun v2 h1 =>
  if v2 = (0 : Int32) then
  (retI (-1 : Int32) h1)
  else
  (bI (F_Mo_isSet x3 h1) fun v4 h3 =>
  if v4 = (0 : Int32) then
  (retI (-1 : Int32) h3)
  else
  (bI (F_Mo_writes x1 x2 x3 h3) fun v6 h5 =>
  if v6 = (0 : Int32) then
  (retI (-4 : Int32) h5)
  else
  (if (hg h5 178 14) = (4 : Int32) then
  (retI (-2 : Int32) h5)
  else
  (bif okA 188 100 (((17 : Int32) * (hg h5 178 14)) + (0 : Int32)) then
  bH (hs h5 188 (((17 : Int32) * (hg h5 178 14)) + (0 : Int32)).toNatClampNeg x2) fun h7 =>
  bif okA 188 100 (((17 : Int32) * (hg h5 178 14)) + (1 : Int32)) then
  bH (hs h7 188 (((17 : Int32) * (hg h5 178 14)) + (1 : Int32)).toNatClampNeg x3) fun h8 =>
  bif okA 188 100 (((17 : Int32) * (hg h5 178 14)) + (2 : Int32)) then
  bH (hs h8 188 (((17 : Int32) * (hg h5 178 14)) + (2 : Int32)).toNatClampNeg (1 : Int32)) fun h9 =>
  bif okA 188 100 (((17 : Int32) * (hg h5 178 14)) + (3 : Int32)) then
  bH (hs h9 188 (((17 : Int32) * (hg h5 178 14)) + (3 : Int32)).toNatClampNeg x1) fun h10 =>
  bif okA 188 100 (((17 : Int32) * (hg h5 178 14)) + (10 : Int32)) then
  bH (hs h10 188 (((17 : Int32) * (hg h5 178 14)) + (10 : Int32)).toNatClampNeg (hg h10 178 13)) fun h11 =>
  bH (hs h11 178 14 ((hg h11 178 14) + (1 : Int32))) fun h12 =>
  retI ((hg h12 178 14) - (1 : Int32)) h12
  else none
  else none
  else none
  else none
  else none))))
def sF_Mo_send : List Value → Hp → Res Hp := fun as h => match as with | [.ref f0, .int x1, .int x2, .int x3] => (match Nat.beq f0 178 with | true => F_Mo_send x1 x2 x3 h | false => none) | _ => none
theorem w_Mo_send (x1 : Int32) (x2 : Int32) (x3 : Int32) (h : Hp) : sF_Mo_send [.ref 178, .int x1, .int x2, .int x3] h = F_Mo_send x1 x2 x3 h := rfl
def S_Mo_send : Sem Hp := [(98, sF_Mo_areTwo), (100, sF_Mo_isSet), (117, sF_Mo_writes)]
set_option maxRecDepth 100000 in
theorem e_Mo_send_0 (x1 : Int32) (x2 : Int32) (x3 : Int32) (h : Hp) : F_Mo_send x1 x2 x3 h = exec1 OI S_Mo_send 1 k_Mo_send 0 [some (.ref 178), some (.int x1), some (.int x2), some (.int x3), none] [] h (runF OI S_Mo_send [] 1 k_Mo_send 400) :=
  (x_bI (f := sF_Mo_areTwo) rfl (w_Mo_areTwo _ _ _) fun v2 h1 => (x_ite rfl (x_bI (f := sF_Mo_isSet) rfl (w_Mo_isSet _ _) fun v4 h3 => (x_ite rfl (x_bI (f := sF_Mo_writes) rfl (w_Mo_writes _ _ _ _) fun v6 h5 => (x_ite rfl (x_ite rfl (x_bif (x_bH fun h7 => (x_bif (x_bH fun h8 => (x_bif (x_bH fun h9 => (x_bif (x_bH fun h10 => (x_bif (x_bH fun h11 => (x_bH fun h12 => rfl))))))))))))))))))
def k_Mo_hadBy : List Ent := [(0, .iconst 0, 1, [], .int (0)), (1, .istore_n 2, 1, [], .null), (2, .iconst 0, 1, [], .int (0)), (3, .istore_n 3, 1, [], .null), (4, .iload_n 3, 1, [], .null), (5, .aload_n 0, 1, [], .null), (6, .iload_n 1, 1, [], .null), (7, .iconst 2, 1, [], .int (2)), (8, .invokevirtual 153, 3, [105, 3, 1], .null), (11, .if_icmp .ge (22), 3, [33], .null), (14, .iload_n 2, 1, [], .null), (15, .iconst 1, 1, [], .int (1)), (16, .aload_n 0, 1, [], .null), (17, .iload_n 1, 1, [], .null), (18, .iconst 3, 1, [], .int (3)), (19, .iload_n 3, 1, [], .null), (20, .iadd, 1, [], .null), (21, .invokevirtual 153, 3, [105, 3, 1], .null), (24, .ishl, 1, [], .null), (25, .ior, 1, [], .null), (26, .istore_n 2, 1, [], .null), (27, .iinc 3 (1), 3, [], .int (1)), (30, .goto (-26), 3, [4], .null), (33, .iload_n 2, 1, [], .null), (34, .ireturn, 1, [], .null)]
def Mo_hadBy_4  (x1 : Int32)  : (Int32 × Int32 × Hp) → ((Int32 × Int32 × Hp) → Res Hp) → Res Hp := fun s κ4 => match s with
  | (x2, x3, h) =>
  bI (F_Mo_letterOf x1 (2 : Int32) h) fun v2 h1 =>
  if v2 ≤ x3 then
  (retI x2 h1)
  else
  (bI (F_Mo_letterOf x1 ((3 : Int32) + x3) h1) fun v4 h3 =>
  κ4 ((x2 ||| ((1 : Int32) <<< (v4 &&& 31))), (x3 + (1 : Int32)), h3))
def F_Mo_hadBy (x1 : Int32) (h : Hp) : Res Hp :=
  loopC (Mo_hadBy_4  x1 ) FU ((0 : Int32), (0 : Int32), h)
def sF_Mo_hadBy : List Value → Hp → Res Hp := fun as h => match as with | [.ref f0, .int x1] => (match Nat.beq f0 178 with | true => F_Mo_hadBy x1 h | false => none) | _ => none
theorem w_Mo_hadBy (x1 : Int32) (h : Hp) : sF_Mo_hadBy [.ref 178, .int x1] h = F_Mo_hadBy x1 h := rfl
def S_Mo_hadBy : Sem Hp := [(105, sF_Mo_letterOf)]
set_option maxRecDepth 100000 in
theorem e_Mo_hadBy_0 (x1 : Int32) (h : Hp) : F_Mo_hadBy x1 h = exec1 OI S_Mo_hadBy 1 k_Mo_hadBy 0 [some (.ref 178), some (.int x1), none, none] [] h (runF OI S_Mo_hadBy [(4, [0, 1, 2, 3], fun vs st h => match vs, st with | [.ref f0, .int x1, .int x2, .int x3], [] => (match Nat.beq f0 178 with | true => loopC (Mo_hadBy_4  x1 ) FU (x2, x3, h) | false => none) | _, _ => none)] 1 k_Mo_hadBy 400) :=
  rfl
set_option maxRecDepth 100000 in
theorem e_Mo_hadBy_4 (κ4 : (Int32 × Int32 × Hp) → Res Hp) (x1 : Int32) (x2 : Int32) (x3 : Int32)  (h : Hp) : Mo_hadBy_4  x1  (x2, x3, h) κ4 = exec1 OI S_Mo_hadBy 1 k_Mo_hadBy 4 [some (.ref 178), some (.int x1), some (.int x2), some (.int x3)] [] h (runF OI S_Mo_hadBy [(4, [0, 1, 2, 3], fun vs st h => match vs, st with | [.ref f0, .int x1, .int x2, .int x3], [] => (match Nat.beq f0 178 with | true => κ4 (x2, x3, h) | false => none) | _, _ => none)] 1 k_Mo_hadBy 400) :=
  (x_bI (f := sF_Mo_letterOf) rfl (w_Mo_letterOf _ _ _) fun v2 h1 => (x_ite rfl (x_bI (f := sF_Mo_letterOf) rfl (w_Mo_letterOf _ _ _) fun v4 h3 => rfl)))
def k_Mo_takes : List Ent := [(0, .aload_n 0, 1, [], .null), (1, .getfield 28, 3, [7, 9, 1], .null), (4, .iload_n 1, 1, [], .null), (5, .iaload, 1, [], .null), (6, .iconst 4, 1, [], .int (4)), (7, .if_icmp .ne (8), 3, [15], .null), (10, .iload_n 2, 1, [], .null), (11, .iload_n 3, 1, [], .null), (12, .if_icmp .ne (7), 3, [19], .null), (15, .iconst 1, 1, [], .int (1)), (16, .goto (4), 3, [20], .null), (19, .iconst 0, 1, [], .int (0)), (20, .ireturn, 1, [], .null)]
def F_Mo_takes (x1 : Int32) (x2 : Int32) (x3 : Int32) (h : Hp) : Res Hp :=
  bif okA 185 100 x1 then
  if (hg h 185 x1.toNatClampNeg) = (4 : Int32) then
  (if x2 = x3 then
  (retZ (1 : Int32) h)
  else
  (retZ (0 : Int32) h))
  else
  (retZ (1 : Int32) h)
  else none
def sF_Mo_takes : List Value → Hp → Res Hp := fun as h => match as with | [.ref f0, .int x1, .int x2, .int x3] => (match Nat.beq f0 178 with | true => F_Mo_takes x1 x2 x3 h | false => none) | _ => none
theorem w_Mo_takes (x1 : Int32) (x2 : Int32) (x3 : Int32) (h : Hp) : sF_Mo_takes [.ref 178, .int x1, .int x2, .int x3] h = F_Mo_takes x1 x2 x3 h := rfl
def S_Mo_takes : Sem Hp := []
set_option maxRecDepth 100000 in
theorem e_Mo_takes_0 (x1 : Int32) (x2 : Int32) (x3 : Int32) (h : Hp) : F_Mo_takes x1 x2 x3 h = exec1 OI S_Mo_takes 2 k_Mo_takes 0 [some (.ref 178), some (.int x1), some (.int x2), some (.int x3)] [] h (runF OI S_Mo_takes [] 2 k_Mo_takes 400) :=
  (x_bif (x_ite (x_ite rfl rfl) rfl))
def k_Mo_givable : List Ent := [(0, .aload_n 0, 1, [], .null), (1, .iload_n 1, 1, [], .null), (2, .iconst 2, 1, [], .int (2)), (3, .invokevirtual 153, 3, [105, 3, 1], .null), (6, .istore_n 2, 1, [], .null), (7, .aload_n 0, 1, [], .null), (8, .iload_n 1, 1, [], .null), (9, .invokevirtual 159, 3, [107, 2, 2], .null), (12, .ifCond .ne (26), 3, [38], .null), (15, .iload_n 2, 1, [], .null), (16, .iconst 1, 1, [], .int (1)), (17, .if_icmp .le (23), 3, [40], .null), (20, .aload_n 0, 1, [], .null), (21, .iload_n 1, 1, [], .null), (22, .bipush (10), 2, [], .int (10)), (24, .iload_n 2, 1, [], .null), (25, .iadd, 1, [], .null), (26, .iconst 1, 1, [], .int (1)), (27, .isub, 1, [], .null), (28, .invokevirtual 153, 3, [105, 3, 1], .null), (31, .aload_n 0, 1, [], .null), (32, .getfield 137, 3, [7, 13, 0], .null), (35, .if_icmp .ne (5), 3, [40], .null), (38, .iconst 0, 1, [], .int (0)), (39, .ireturn, 1, [], .null), (40, .aload_n 0, 1, [], .null), (41, .iload_n 1, 1, [], .null), (42, .invokevirtual 156, 3, [106, 2, 1], .null), (45, .istore_n 3, 1, [], .null), (46, .iconst 0, 1, [], .int (0)), (47, .istore 4, 2, [], .null), (49, .aload_n 0, 1, [], .null), (50, .iload_n 3, 1, [], .null), (51, .aload_n 0, 1, [], .null), (52, .getfield 137, 3, [7, 13, 0], .null), (55, .invokevirtual 171, 3, [104, 3, 1], .null), (58, .aload_n 0, 1, [], .null), (59, .iload_n 1, 1, [], .null), (60, .invokevirtual 189, 3, [119, 2, 1], .null), (63, .iconst (-1), 1, [], .int (-1)), (64, .ixor, 1, [], .null), (65, .iand, 1, [], .null), (66, .istore 5, 2, [], .null), (68, .iconst 0, 1, [], .int (0)), (69, .istore 6, 2, [], .null), (71, .iload 6, 2, [], .null), (73, .aload_n 0, 1, [], .null), (74, .getfield 131, 3, [7, 8, 0], .null), (77, .if_icmp .ge (86), 3, [163], .null), (80, .iload 6, 2, [], .null), (82, .aload_n 0, 1, [], .null), (83, .iload_n 1, 1, [], .null), (84, .iconst 0, 1, [], .int (0)), (85, .invokevirtual 153, 3, [105, 3, 1], .null), (88, .if_icmp .eq (34), 3, [122], .null), (91, .aload_n 0, 1, [], .null), (92, .iload 6, 2, [], .null), (94, .aload_n 0, 1, [], .null), (95, .iload_n 1, 1, [], .null), (96, .iconst 1, 1, [], .int (1)), (97, .invokevirtual 153, 3, [105, 3, 1], .null), (100, .invokevirtual 183, 3, [103, 3, 2], .null), (103, .ifCond .eq (23), 3, [126], .null), (106, .aload_n 0, 1, [], .null), (107, .iload 6, 2, [], .null), (109, .iload_n 3, 1, [], .null), (110, .aload_n 0, 1, [], .null), (111, .iload_n 1, 1, [], .null), (112, .iconst 3, 1, [], .int (3)), (113, .invokevirtual 153, 3, [105, 3, 1], .null), (116, .invokevirtual 192, 3, [120, 4, 2], .null), (119, .ifCond .eq (7), 3, [126], .null), (122, .iconst 1, 1, [], .int (1)), (123, .goto (4), 3, [127], .null), (126, .iconst 0, 1, [], .int (0)), (127, .istore 7, 2, [], .null), (129, .iload 4, 2, [], .null), (131, .iload 5, 2, [], .null), (133, .iload 6, 2, [], .null), (135, .invokestatic 195, 3, [74, 2, 2], .null), (138, .ifCond .eq (15), 3, [153], .null), (141, .iload 7, 2, [], .null), (143, .ifCond .eq (10), 3, [153], .null), (146, .iconst 1, 1, [], .int (1)), (147, .iload 6, 2, [], .null), (149, .ishl, 1, [], .null), (150, .goto (4), 3, [154], .null), (153, .iconst 0, 1, [], .int (0)), (154, .ior, 1, [], .null), (155, .istore 4, 2, [], .null), (157, .iinc 6 (1), 3, [], .int (1)), (160, .goto (-89), 3, [71], .null), (163, .iload 4, 2, [], .null), (165, .ireturn, 1, [], .null)]
def Mo_givable_71  (x1 : Int32) (x3 : Int32) (x5 : Int32)  : (Int32 × Int32 × Hp) → ((Int32 × Int32 × Hp) → Res Hp) → Res Hp := fun s κ71 => match s with
  | (x4, x6, h) =>
  if (hg h 178 8) ≤ x6 then
  (retI x4 h)
  else
  (bI (F_Mo_letterOf x1 (0 : Int32) h) fun v2 h1 =>
  if x6 = v2 then
  (bI (F_Mo_has x5 x6 h1) fun v4 h3 =>
  if v4 = (0 : Int32) then
  (κ71 ((x4 ||| (0 : Int32)), (x6 + (1 : Int32)), h3))
  else
  (κ71 ((x4 ||| ((1 : Int32) <<< (x6 &&& 31))), (x6 + (1 : Int32)), h3)))
  else
  (bI (F_Mo_letterOf x1 (1 : Int32) h1) fun v6 h5 =>
  bI (F_Mo_mayCarry x6 v6 h5) fun v8 h7 =>
  if v8 = (0 : Int32) then
  (bI (F_Mo_has x5 x6 h7) fun v10 h9 =>
  if v10 = (0 : Int32) then
  (κ71 ((x4 ||| (0 : Int32)), (x6 + (1 : Int32)), h9))
  else
  (κ71 ((x4 ||| (0 : Int32)), (x6 + (1 : Int32)), h9)))
  else
  (bI (F_Mo_letterOf x1 (3 : Int32) h7) fun v12 h11 =>
  bI (F_Mo_takes x6 x3 v12 h11) fun v14 h13 =>
  if v14 = (0 : Int32) then
  (bI (F_Mo_has x5 x6 h13) fun v16 h15 =>
  if v16 = (0 : Int32) then
  (κ71 ((x4 ||| (0 : Int32)), (x6 + (1 : Int32)), h15))
  else
  (κ71 ((x4 ||| (0 : Int32)), (x6 + (1 : Int32)), h15)))
  else
  (bI (F_Mo_has x5 x6 h13) fun v18 h17 =>
  if v18 = (0 : Int32) then
  (κ71 ((x4 ||| (0 : Int32)), (x6 + (1 : Int32)), h17))
  else
  (κ71 ((x4 ||| ((1 : Int32) <<< (x6 &&& 31))), (x6 + (1 : Int32)), h17))))))
def F_Mo_givable (x1 : Int32) (h : Hp) : Res Hp :=
  bI (F_Mo_letterOf x1 (2 : Int32) h) fun v2 h1 =>
  bI (F_Mo_isThere x1 h1) fun v4 h3 =>
  if v4 = (0 : Int32) then
  (if v2 ≤ (1 : Int32) then
  (bI (F_Mo_holderOf x1 h3) fun v6 h5 =>
  bI (F_Mo_metBy v6 (hg h5 178 13) h5) fun v8 h7 =>
  bI (F_Mo_hadBy x1 h7) fun v10 h9 =>
  loopC (Mo_givable_71  x1 v6 (v8 &&& (v10 ^^^ (-1 : Int32))) ) FU ((0 : Int32), (0 : Int32), h9))
  else
  (bI (F_Mo_letterOf x1 (((10 : Int32) + v2) - (1 : Int32)) h3) fun v12 h11 =>
  if v12 = (hg h11 178 13) then
  (retI (0 : Int32) h11)
  else
  (bI (F_Mo_holderOf x1 h11) fun v14 h13 =>
  bI (F_Mo_metBy v14 (hg h13 178 13) h13) fun v16 h15 =>
  bI (F_Mo_hadBy x1 h15) fun v18 h17 =>
  loopC (Mo_givable_71  x1 v14 (v16 &&& (v18 ^^^ (-1 : Int32))) ) FU ((0 : Int32), (0 : Int32), h17))))
  else
  (retI (0 : Int32) h3)
def sF_Mo_givable : List Value → Hp → Res Hp := fun as h => match as with | [.ref f0, .int x1] => (match Nat.beq f0 178 with | true => F_Mo_givable x1 h | false => none) | _ => none
theorem w_Mo_givable (x1 : Int32) (h : Hp) : sF_Mo_givable [.ref 178, .int x1] h = F_Mo_givable x1 h := rfl
def S_Mo_givable : Sem Hp := [(105, sF_Mo_letterOf), (107, sF_Mo_isThere), (106, sF_Mo_holderOf), (104, sF_Mo_metBy), (119, sF_Mo_hadBy), (74, sF_Mo_has), (103, sF_Mo_mayCarry), (120, sF_Mo_takes)]
set_option maxRecDepth 100000 in
theorem e_Mo_givable_0 (x1 : Int32) (h : Hp) : F_Mo_givable x1 h = exec1 OI S_Mo_givable 1 k_Mo_givable 0 [some (.ref 178), some (.int x1), none, none, none, none, none, none] [] h (runF OI S_Mo_givable [(71, [0, 1, 3, 4, 5, 6], fun vs st h => match vs, st with | [.ref f0, .int x1, .int x3, .int x4, .int x5, .int x6], [] => (match Nat.beq f0 178 with | true => loopC (Mo_givable_71  x1 x3 x5 ) FU (x4, x6, h) | false => none) | _, _ => none)] 1 k_Mo_givable 400) :=
  (x_bI (f := sF_Mo_letterOf) rfl (w_Mo_letterOf _ _ _) fun v2 h1 => (x_bI (f := sF_Mo_isThere) rfl (w_Mo_isThere _ _) fun v4 h3 => (x_ite (x_ite (x_bI (f := sF_Mo_holderOf) rfl (w_Mo_holderOf _ _) fun v6 h5 => (x_bI (f := sF_Mo_metBy) rfl (w_Mo_metBy _ _ _) fun v8 h7 => (x_bI (f := sF_Mo_hadBy) rfl (w_Mo_hadBy _ _) fun v10 h9 => rfl))) (x_bI (f := sF_Mo_letterOf) rfl (w_Mo_letterOf _ _ _) fun v12 h11 => (x_ite rfl (x_bI (f := sF_Mo_holderOf) rfl (w_Mo_holderOf _ _) fun v14 h13 => (x_bI (f := sF_Mo_metBy) rfl (w_Mo_metBy _ _ _) fun v16 h15 => (x_bI (f := sF_Mo_hadBy) rfl (w_Mo_hadBy _ _) fun v18 h17 => rfl)))))) rfl)))
set_option maxRecDepth 100000 in
theorem e_Mo_givable_71 (κ71 : (Int32 × Int32 × Hp) → Res Hp) (x1 : Int32) (x3 : Int32) (x4 : Int32) (x5 : Int32) (x6 : Int32)  (h : Hp) : Mo_givable_71  x1 x3 x5  (x4, x6, h) κ71 = exec1 OI S_Mo_givable 1 k_Mo_givable 71 [some (.ref 178), some (.int x1), none, some (.int x3), some (.int x4), some (.int x5), some (.int x6), none] [] h (runF OI S_Mo_givable [(71, [0, 1, 3, 4, 5, 6], fun vs st h => match vs, st with | [.ref f0, .int x1, .int x3, .int x4, .int x5, .int x6], [] => (match Nat.beq f0 178 with | true => κ71 (x4, x6, h) | false => none) | _, _ => none)] 1 k_Mo_givable 400) :=
  (x_ite rfl (x_bI (f := sF_Mo_letterOf) rfl (w_Mo_letterOf _ _ _) fun v2 h1 => (x_ite (x_bI (f := sF_Mo_has) rfl (w_Mo_has _ _ _) fun v4 h3 => (x_ite rfl rfl)) (x_bI (f := sF_Mo_letterOf) rfl (w_Mo_letterOf _ _ _) fun v6 h5 => (x_bI (f := sF_Mo_mayCarry) rfl (w_Mo_mayCarry _ _ _) fun v8 h7 => (x_ite (x_bI (f := sF_Mo_has) rfl (w_Mo_has _ _ _) fun v10 h9 => (x_ite rfl rfl)) (x_bI (f := sF_Mo_letterOf) rfl (w_Mo_letterOf _ _ _) fun v12 h11 => (x_bI (f := sF_Mo_takes) rfl (w_Mo_takes _ _ _ _) fun v14 h13 => (x_ite (x_bI (f := sF_Mo_has) rfl (w_Mo_has _ _ _) fun v16 h15 => (x_ite rfl rfl)) (x_bI (f := sF_Mo_has) rfl (w_Mo_has _ _ _) fun v18 h17 => (x_ite rfl rfl)))))))))))
def k_Mo_giveTo : List Ent := [(0, .aload_n 0, 1, [], .null), (1, .iload_n 1, 1, [], .null), (2, .iconst 2, 1, [], .int (2)), (3, .invokevirtual 153, 3, [105, 3, 1], .null), (6, .istore_n 3, 1, [], .null), (7, .aload_n 0, 1, [], .null), (8, .iload_n 1, 1, [], .null), (9, .invokevirtual 156, 3, [106, 2, 1], .null), (12, .istore 4, 2, [], .null), (14, .aload_n 0, 1, [], .null), (15, .iload 4, 2, [], .null), (17, .iconst 3, 1, [], .int (3)), (18, .invokevirtual 146, 3, [101, 3, 2], .null), (21, .ifCond .eq (19), 3, [40], .null), (24, .aload_n 0, 1, [], .null), (25, .getfield 31, 3, [7, 10, 1], .null), (28, .iload 4, 2, [], .null), (30, .dup2, 1, [], .null), (31, .iaload, 1, [], .null), (32, .aload_n 0, 1, [], .null), (33, .iload_n 1, 1, [], .null), (34, .iconst 1, 1, [], .int (1)), (35, .invokevirtual 153, 3, [105, 3, 1], .null), (38, .ior, 1, [], .null), (39, .iastore, 1, [], .null), (40, .aload_n 0, 1, [], .null), (41, .getfield 37, 3, [7, 15, 1], .null), (44, .bipush (17), 2, [], .int (17)), (46, .iload_n 1, 1, [], .null), (47, .imul, 1, [], .null), (48, .iconst 3, 1, [], .int (3)), (49, .iadd, 1, [], .null), (50, .iload_n 3, 1, [], .null), (51, .iadd, 1, [], .null), (52, .iload_n 2, 1, [], .null), (53, .iastore, 1, [], .null), (54, .aload_n 0, 1, [], .null), (55, .getfield 37, 3, [7, 15, 1], .null), (58, .bipush (17), 2, [], .int (17)), (60, .iload_n 1, 1, [], .null), (61, .imul, 1, [], .null), (62, .bipush (10), 2, [], .int (10)), (64, .iadd, 1, [], .null), (65, .iload_n 3, 1, [], .null), (66, .iadd, 1, [], .null), (67, .aload_n 0, 1, [], .null), (68, .getfield 137, 3, [7, 13, 0], .null), (71, .iastore, 1, [], .null), (72, .aload_n 0, 1, [], .null), (73, .getfield 37, 3, [7, 15, 1], .null), (76, .bipush (17), 2, [], .int (17)), (78, .iload_n 1, 1, [], .null), (79, .imul, 1, [], .null), (80, .iconst 2, 1, [], .int (2)), (81, .iadd, 1, [], .null), (82, .iload_n 3, 1, [], .null), (83, .iconst 1, 1, [], .int (1)), (84, .iadd, 1, [], .null), (85, .iastore, 1, [], .null), (86, .iload_n 2, 1, [], .null), (87, .aload_n 0, 1, [], .null), (88, .iload_n 1, 1, [], .null), (89, .iconst 0, 1, [], .int (0)), (90, .invokevirtual 153, 3, [105, 3, 1], .null), (93, .if_icmp .ne (7), 3, [100], .null), (96, .iconst 1, 1, [], .int (1)), (97, .goto (4), 3, [101], .null), (100, .iconst 0, 1, [], .int (0)), (101, .ireturn, 1, [], .null)]
def F_Mo_giveTo (x1 : Int32) (x2 : Int32) (h : Hp) : Res Hp :=
  bI (F_Mo_letterOf x1 (2 : Int32) h) fun v2 h1 =>
  bI (F_Mo_holderOf x1 h1) fun v4 h3 =>
  bI (F_Mo_isA v4 (3 : Int32) h3) fun v6 h5 =>
  if v6 = (0 : Int32) then
  (bif okA 188 100 ((((17 : Int32) * x1) + (3 : Int32)) + v2) then
  bH (hs h5 188 ((((17 : Int32) * x1) + (3 : Int32)) + v2).toNatClampNeg x2) fun h7 =>
  bif okA 188 100 ((((17 : Int32) * x1) + (10 : Int32)) + v2) then
  bH (hs h7 188 ((((17 : Int32) * x1) + (10 : Int32)) + v2).toNatClampNeg (hg h7 178 13)) fun h8 =>
  bif okA 188 100 (((17 : Int32) * x1) + (2 : Int32)) then
  bH (hs h8 188 (((17 : Int32) * x1) + (2 : Int32)).toNatClampNeg (v2 + (1 : Int32))) fun h9 =>
  bI (F_Mo_letterOf x1 (0 : Int32) h9) fun v11 h10 =>
  if x2 = v11 then
  (retI (1 : Int32) h10)
  else
  (retI (0 : Int32) h10)
  else none
  else none
  else none)
  else
  (bif okA 186 100 v4 then
  bI (F_Mo_letterOf x1 (1 : Int32) h5) fun v13 h12 =>
  bif okA 186 100 v4 then
  bH (hs h12 186 v4.toNatClampNeg ((hg h5 186 v4.toNatClampNeg) ||| v13)) fun h14 =>
  bif okA 188 100 ((((17 : Int32) * x1) + (3 : Int32)) + v2) then
  bH (hs h14 188 ((((17 : Int32) * x1) + (3 : Int32)) + v2).toNatClampNeg x2) fun h15 =>
  bif okA 188 100 ((((17 : Int32) * x1) + (10 : Int32)) + v2) then
  bH (hs h15 188 ((((17 : Int32) * x1) + (10 : Int32)) + v2).toNatClampNeg (hg h15 178 13)) fun h16 =>
  bif okA 188 100 (((17 : Int32) * x1) + (2 : Int32)) then
  bH (hs h16 188 (((17 : Int32) * x1) + (2 : Int32)).toNatClampNeg (v2 + (1 : Int32))) fun h17 =>
  bI (F_Mo_letterOf x1 (0 : Int32) h17) fun v19 h18 =>
  if x2 = v19 then
  (retI (1 : Int32) h18)
  else
  (retI (0 : Int32) h18)
  else none
  else none
  else none
  else none
  else none)
def sF_Mo_giveTo : List Value → Hp → Res Hp := fun as h => match as with | [.ref f0, .int x1, .int x2] => (match Nat.beq f0 178 with | true => F_Mo_giveTo x1 x2 h | false => none) | _ => none
theorem w_Mo_giveTo (x1 : Int32) (x2 : Int32) (h : Hp) : sF_Mo_giveTo [.ref 178, .int x1, .int x2] h = F_Mo_giveTo x1 x2 h := rfl
def S_Mo_giveTo : Sem Hp := [(105, sF_Mo_letterOf), (106, sF_Mo_holderOf), (101, sF_Mo_isA)]
set_option maxRecDepth 100000 in
theorem e_Mo_giveTo_0 (x1 : Int32) (x2 : Int32) (h : Hp) : F_Mo_giveTo x1 x2 h = exec1 OI S_Mo_giveTo 1 k_Mo_giveTo 0 [some (.ref 178), some (.int x1), some (.int x2), none, none] [] h (runF OI S_Mo_giveTo [] 1 k_Mo_giveTo 400) :=
  (x_bI (f := sF_Mo_letterOf) rfl (w_Mo_letterOf _ _ _) fun v2 h1 => (x_bI (f := sF_Mo_holderOf) rfl (w_Mo_holderOf _ _) fun v4 h3 => (x_bI (f := sF_Mo_isA) rfl (w_Mo_isA _ _ _) fun v6 h5 => (x_ite (x_bif (x_bH fun h7 => (x_bif (x_bH fun h8 => (x_bif (x_bH fun h9 => (x_bI (f := sF_Mo_letterOf) rfl (w_Mo_letterOf _ _ _) fun v11 h10 => (x_ite rfl rfl)))))))) (x_bif (x_bI (f := sF_Mo_letterOf) rfl (w_Mo_letterOf _ _ _) fun v13 h12 => (x_bif (x_bH fun h14 => (x_bif (x_bH fun h15 => (x_bif (x_bH fun h16 => (x_bif (x_bH fun h17 => (x_bI (f := sF_Mo_letterOf) rfl (w_Mo_letterOf _ _ _) fun v19 h18 => (x_ite rfl rfl))))))))))))))))
def k_Mo_askedLetter : List Ent := [(0, .iload_n 1, 1, [], .null), (1, .ifCond .ge (7), 3, [8], .null), (4, .iconst (-1), 1, [], .int (-1)), (5, .goto (20), 3, [25], .null), (8, .iload_n 1, 1, [], .null), (9, .aload_n 0, 1, [], .null), (10, .getfield 140, 3, [7, 14, 0], .null), (13, .if_icmp .lt (11), 3, [24], .null), (16, .aload_n 0, 1, [], .null), (17, .iconst 2, 1, [], .int (2)), (18, .invokevirtual 80, 3, [72, 2, 1], .null), (21, .goto (4), 3, [25], .null), (24, .iconst 0, 1, [], .int (0)), (25, .ireturn, 1, [], .null)]
def F_Mo_askedLetter (x1 : Int32) (h : Hp) : Res Hp :=
  if (0 : Int32) ≤ x1 then
  (if x1 < (hg h 178 14) then
  (retI (0 : Int32) h)
  else
  (bI (F_Mo_meetWith (2 : Int32) h) fun v2 h1 =>
  retI v2 h1))
  else
  (retI (-1 : Int32) h)
def sF_Mo_askedLetter : List Value → Hp → Res Hp := fun as h => match as with | [.ref f0, .int x1] => (match Nat.beq f0 178 with | true => F_Mo_askedLetter x1 h | false => none) | _ => none
theorem w_Mo_askedLetter (x1 : Int32) (h : Hp) : sF_Mo_askedLetter [.ref 178, .int x1] h = F_Mo_askedLetter x1 h := rfl
def S_Mo_askedLetter : Sem Hp := [(72, sF_Mo_meetWith)]
set_option maxRecDepth 100000 in
theorem e_Mo_askedLetter_0 (x1 : Int32) (h : Hp) : F_Mo_askedLetter x1 h = exec1 OI S_Mo_askedLetter 1 k_Mo_askedLetter 0 [some (.ref 178), some (.int x1)] [] h (runF OI S_Mo_askedLetter [] 1 k_Mo_askedLetter 400) :=
  (x_ite (x_ite rfl (x_bI (f := sF_Mo_meetWith) rfl (w_Mo_meetWith _ _) fun v2 h1 => rfl)) rfl)
def k_Mo_give : List Ent := [(0, .iload_n 1, 1, [], .null), (1, .ifCond .lt (15), 3, [16], .null), (4, .aload_n 0, 1, [], .null), (5, .iload_n 2, 1, [], .null), (6, .invokevirtual 143, 3, [97, 2, 2], .null), (9, .ifCond .ne (7), 3, [16], .null), (12, .iconst (-1), 1, [], .int (-1)), (13, .goto (8), 3, [21], .null), (16, .aload_n 0, 1, [], .null), (17, .iload_n 1, 1, [], .null), (18, .invokevirtual 198, 3, [123, 2, 1], .null), (21, .istore_n 3, 1, [], .null), (22, .iload_n 3, 1, [], .null), (23, .ifCond .ge (5), 3, [28], .null), (26, .iload_n 3, 1, [], .null), (27, .ireturn, 1, [], .null), (28, .aload_n 0, 1, [], .null), (29, .iload_n 1, 1, [], .null), (30, .invokevirtual 201, 3, [121, 2, 1], .null), (33, .iload_n 2, 1, [], .null), (34, .invokestatic 195, 3, [74, 2, 2], .null), (37, .ifCond .eq (12), 3, [49], .null), (40, .aload_n 0, 1, [], .null), (41, .iload_n 1, 1, [], .null), (42, .iload_n 2, 1, [], .null), (43, .invokevirtual 204, 3, [122, 3, 1], .null), (46, .goto (5), 3, [51], .null), (49, .bipush (-4), 2, [], .int (-4)), (51, .ireturn, 1, [], .null)]
def F_Mo_give (x1 : Int32) (x2 : Int32) (h : Hp) : Res Hp :=
  if x1 < (0 : Int32) then
  (bI (F_Mo_askedLetter x1 h) fun v2 h1 =>
  if (0 : Int32) ≤ v2 then
  (bI (F_Mo_givable x1 h1) fun v4 h3 =>
  bI (F_Mo_has v4 x2 h3) fun v6 h5 =>
  if v6 = (0 : Int32) then
  (retI (-4 : Int32) h5)
  else
  (bI (F_Mo_giveTo x1 x2 h5) fun v8 h7 =>
  retI v8 h7))
  else
  (retI v2 h1))
  else
  (bI (F_Mo_isOne x2 h) fun v10 h9 =>
  if v10 = (0 : Int32) then
  (retI (-1 : Int32) h9)
  else
  (bI (F_Mo_askedLetter x1 h9) fun v12 h11 =>
  if (0 : Int32) ≤ v12 then
  (bI (F_Mo_givable x1 h11) fun v14 h13 =>
  bI (F_Mo_has v14 x2 h13) fun v16 h15 =>
  if v16 = (0 : Int32) then
  (retI (-4 : Int32) h15)
  else
  (bI (F_Mo_giveTo x1 x2 h15) fun v18 h17 =>
  retI v18 h17))
  else
  (retI v12 h11)))
def sF_Mo_give : List Value → Hp → Res Hp := fun as h => match as with | [.ref f0, .int x1, .int x2] => (match Nat.beq f0 178 with | true => F_Mo_give x1 x2 h | false => none) | _ => none
theorem w_Mo_give (x1 : Int32) (x2 : Int32) (h : Hp) : sF_Mo_give [.ref 178, .int x1, .int x2] h = F_Mo_give x1 x2 h := rfl
def S_Mo_give : Sem Hp := [(123, sF_Mo_askedLetter), (121, sF_Mo_givable), (74, sF_Mo_has), (122, sF_Mo_giveTo), (97, sF_Mo_isOne)]
set_option maxRecDepth 100000 in
theorem e_Mo_give_0 (x1 : Int32) (x2 : Int32) (h : Hp) : F_Mo_give x1 x2 h = exec1 OI S_Mo_give 1 k_Mo_give 0 [some (.ref 178), some (.int x1), some (.int x2), none] [] h (runF OI S_Mo_give [] 1 k_Mo_give 400) :=
  (x_ite (x_bI (f := sF_Mo_askedLetter) rfl (w_Mo_askedLetter _ _) fun v2 h1 => (x_ite (x_bI (f := sF_Mo_givable) rfl (w_Mo_givable _ _) fun v4 h3 => (x_bI (f := sF_Mo_has) rfl (w_Mo_has _ _ _) fun v6 h5 => (x_ite rfl (x_bI (f := sF_Mo_giveTo) rfl (w_Mo_giveTo _ _ _) fun v8 h7 => rfl)))) rfl)) (x_bI (f := sF_Mo_isOne) rfl (w_Mo_isOne _ _) fun v10 h9 => (x_ite rfl (x_bI (f := sF_Mo_askedLetter) rfl (w_Mo_askedLetter _ _) fun v12 h11 => (x_ite (x_bI (f := sF_Mo_givable) rfl (w_Mo_givable _ _) fun v14 h13 => (x_bI (f := sF_Mo_has) rfl (w_Mo_has _ _ _) fun v16 h15 => (x_ite rfl (x_bI (f := sF_Mo_giveTo) rfl (w_Mo_giveTo _ _ _) fun v18 h17 => rfl)))) rfl)))))
def k_Mo_hours : List Ent := [(0, .iload_n 1, 1, [], .null), (1, .iconst 0, 1, [], .int (0)), (2, .bipush (20), 2, [], .int (20)), (4, .invokestatic 72, 3, [71, 3, 2], .null), (7, .ifCond .ne (5), 3, [12], .null), (10, .iconst (-1), 1, [], .int (-1)), (11, .ireturn, 1, [], .null), (12, .aload_n 0, 1, [], .null), (13, .getfield 137, 3, [7, 13, 0], .null), (16, .iload_n 1, 1, [], .null), (17, .iadd, 1, [], .null), (18, .bipush (99), 2, [], .int (99)), (20, .if_icmp .le (6), 3, [26], .null), (23, .bipush (-2), 2, [], .int (-2)), (25, .ireturn, 1, [], .null), (26, .aload_n 0, 1, [], .null), (27, .dup, 1, [], .null), (28, .getfield 137, 3, [7, 13, 0], .null), (31, .iload_n 1, 1, [], .null), (32, .iadd, 1, [], .null), (33, .putfield 137, 3, [7, 13, 0], .null), (36, .aload_n 0, 1, [], .null), (37, .getfield 137, 3, [7, 13, 0], .null), (40, .ireturn, 1, [], .null)]
def F_Mo_hours (x1 : Int32) (h : Hp) : Res Hp :=
  bI (F_Mo_in x1 (0 : Int32) (20 : Int32) h) fun v2 h1 =>
  if v2 = (0 : Int32) then
  (retI (-1 : Int32) h1)
  else
  (if ((hg h1 178 13) + x1) ≤ (99 : Int32) then
  (bH (hs h1 178 13 ((hg h1 178 13) + x1)) fun h3 =>
  retI (hg h3 178 13) h3)
  else
  (retI (-2 : Int32) h1))
def sF_Mo_hours : List Value → Hp → Res Hp := fun as h => match as with | [.ref f0, .int x1] => (match Nat.beq f0 178 with | true => F_Mo_hours x1 h | false => none) | _ => none
theorem w_Mo_hours (x1 : Int32) (h : Hp) : sF_Mo_hours [.ref 178, .int x1] h = F_Mo_hours x1 h := rfl
def S_Mo_hours : Sem Hp := [(71, sF_Mo_in)]
set_option maxRecDepth 100000 in
theorem e_Mo_hours_0 (x1 : Int32) (h : Hp) : F_Mo_hours x1 h = exec1 OI S_Mo_hours 1 k_Mo_hours 0 [some (.ref 178), some (.int x1)] [] h (runF OI S_Mo_hours [] 1 k_Mo_hours 400) :=
  (x_bI (f := sF_Mo_in) rfl (w_Mo_in _ _ _ _) fun v2 h1 => (x_ite rfl (x_ite (x_bH fun h3 => rfl) rfl)))
def k_Mo_where : List Ent := [(0, .aload_n 0, 1, [], .null), (1, .iload_n 1, 1, [], .null), (2, .invokevirtual 198, 3, [123, 2, 1], .null), (5, .istore_n 2, 1, [], .null), (6, .iload_n 2, 1, [], .null), (7, .ifCond .ge (7), 3, [14], .null), (10, .iload_n 2, 1, [], .null), (11, .goto (28), 3, [39], .null), (14, .aload_n 0, 1, [], .null), (15, .aload_n 0, 1, [], .null), (16, .iload_n 1, 1, [], .null), (17, .bipush (10), 2, [], .int (10)), (19, .aload_n 0, 1, [], .null), (20, .iload_n 1, 1, [], .null), (21, .iconst 2, 1, [], .int (2)), (22, .invokevirtual 153, 3, [105, 3, 1], .null), (25, .iadd, 1, [], .null), (26, .iconst 1, 1, [], .int (1)), (27, .isub, 1, [], .null), (28, .invokevirtual 153, 3, [105, 3, 1], .null), (31, .aload_n 0, 1, [], .null), (32, .iload_n 1, 1, [], .null), (33, .invokevirtual 156, 3, [106, 2, 1], .null), (36, .invokevirtual 98, 3, [73, 3, 1], .null), (39, .ireturn, 1, [], .null)]
def F_Mo_where (x1 : Int32) (h : Hp) : Res Hp :=
  bI (F_Mo_askedLetter x1 h) fun v2 h1 =>
  if (0 : Int32) ≤ v2 then
  (bI (F_Mo_letterOf x1 (2 : Int32) h1) fun v4 h3 =>
  bI (F_Mo_letterOf x1 (((10 : Int32) + v4) - (1 : Int32)) h3) fun v6 h5 =>
  bI (F_Mo_holderOf x1 h5) fun v8 h7 =>
  bI (F_Mo_ask v6 v8 h7) fun v10 h9 =>
  retI v10 h9)
  else
  (retI v2 h1)
def sF_Mo_where : List Value → Hp → Res Hp := fun as h => match as with | [.ref f0, .int x1] => (match Nat.beq f0 178 with | true => F_Mo_where x1 h | false => none) | _ => none
theorem w_Mo_where (x1 : Int32) (h : Hp) : sF_Mo_where [.ref 178, .int x1] h = F_Mo_where x1 h := rfl
def S_Mo_where : Sem Hp := [(123, sF_Mo_askedLetter), (105, sF_Mo_letterOf), (106, sF_Mo_holderOf), (73, sF_Mo_ask)]
set_option maxRecDepth 100000 in
theorem e_Mo_where_0 (x1 : Int32) (h : Hp) : F_Mo_where x1 h = exec1 OI S_Mo_where 1 k_Mo_where 0 [some (.ref 178), some (.int x1), none] [] h (runF OI S_Mo_where [] 1 k_Mo_where 400) :=
  (x_bI (f := sF_Mo_askedLetter) rfl (w_Mo_askedLetter _ _) fun v2 h1 => (x_ite (x_bI (f := sF_Mo_letterOf) rfl (w_Mo_letterOf _ _ _) fun v4 h3 => (x_bI (f := sF_Mo_letterOf) rfl (w_Mo_letterOf _ _ _) fun v6 h5 => (x_bI (f := sF_Mo_holderOf) rfl (w_Mo_holderOf _ _) fun v8 h7 => (x_bI (f := sF_Mo_ask) rfl (w_Mo_ask _ _ _) fun v10 h9 => rfl)))) rfl))
def k_Mo_hands : List Ent := [(0, .iload_n 2, 1, [], .null), (1, .invokestatic 76, 3, [76, 1, 2], .null), (4, .ifCond .ne (5), 3, [9], .null), (7, .iconst (-1), 1, [], .int (-1)), (8, .ireturn, 1, [], .null), (9, .aload_n 0, 1, [], .null), (10, .iload_n 1, 1, [], .null), (11, .invokevirtual 198, 3, [123, 2, 1], .null), (14, .istore_n 3, 1, [], .null), (15, .iload_n 3, 1, [], .null), (16, .ifCond .ge (5), 3, [21], .null), (19, .iload_n 3, 1, [], .null), (20, .ireturn, 1, [], .null), (21, .aload_n 0, 1, [], .null), (22, .iload_n 1, 1, [], .null), (23, .iconst 2, 1, [], .int (2)), (24, .invokevirtual 153, 3, [105, 3, 1], .null), (27, .istore 4, 2, [], .null), (29, .aload_n 0, 1, [], .null), (30, .iload_n 2, 1, [], .null), (31, .iload 4, 2, [], .null), (33, .invokevirtual 207, 3, [82, 3, 1], .null), (36, .pop, 1, [], .null), (37, .iconst 0, 1, [], .int (0)), (38, .istore 5, 2, [], .null), (40, .iload 5, 2, [], .null), (42, .iload 4, 2, [], .null), (44, .if_icmp .ge (25), 3, [69], .null), (47, .aload_n 0, 1, [], .null), (48, .iload_n 2, 1, [], .null), (49, .iload 5, 2, [], .null), (51, .aload_n 0, 1, [], .null), (52, .iload_n 1, 1, [], .null), (53, .iconst 3, 1, [], .int (3)), (54, .iload 5, 2, [], .null), (56, .iadd, 1, [], .null), (57, .invokevirtual 153, 3, [105, 3, 1], .null), (60, .invokevirtual 87, 3, [81, 4, 0], .null), (63, .iinc 5 (1), 3, [], .int (1)), (66, .goto (-26), 3, [40], .null), (69, .iload 4, 2, [], .null), (71, .ireturn, 1, [], .null)]
def Mo_hands_40  (x1 : Int32) (x2 : Int32) (x4 : Int32)  : (Int32 × Hp) → ((Int32 × Hp) → Res Hp) → Res Hp := fun s κ40 => match s with
  | (x5, h) =>
  if x4 ≤ x5 then
  (retI x4 h)
  else
  (bI (F_Mo_letterOf x1 ((3 : Int32) + x5) h) fun v2 h1 =>
  bV (F_Mo_setRow x2 x5 v2 h1) fun h3 =>
  κ40 ((x5 + (1 : Int32)), h3))
def F_Mo_hands (x1 : Int32) (x2 : Int32) (h : Hp) : Res Hp :=
  bI (F_Mo_isRow x2 h) fun v2 h1 =>
  if v2 = (0 : Int32) then
  (retI (-1 : Int32) h1)
  else
  (bI (F_Mo_askedLetter x1 h1) fun v4 h3 =>
  if (0 : Int32) ≤ v4 then
  (bI (F_Mo_letterOf x1 (2 : Int32) h3) fun v6 h5 =>
  bI (F_Mo_row x2 v6 h5) fun v8 h7 =>
  loopC (Mo_hands_40  x1 x2 v6 ) FU ((0 : Int32), h7))
  else
  (retI v4 h3))
def sF_Mo_hands : List Value → Hp → Res Hp := fun as h => match as with | [.ref f0, .int x1, .int x2] => (match Nat.beq f0 178 with | true => F_Mo_hands x1 x2 h | false => none) | _ => none
theorem w_Mo_hands (x1 : Int32) (x2 : Int32) (h : Hp) : sF_Mo_hands [.ref 178, .int x1, .int x2] h = F_Mo_hands x1 x2 h := rfl
def S_Mo_hands : Sem Hp := [(76, sF_Mo_isRow), (123, sF_Mo_askedLetter), (105, sF_Mo_letterOf), (82, sF_Mo_row), (81, sF_Mo_setRow)]
set_option maxRecDepth 100000 in
theorem e_Mo_hands_0 (x1 : Int32) (x2 : Int32) (h : Hp) : F_Mo_hands x1 x2 h = exec1 OI S_Mo_hands 1 k_Mo_hands 0 [some (.ref 178), some (.int x1), some (.int x2), none, none, none] [] h (runF OI S_Mo_hands [(40, [0, 1, 2, 4, 5], fun vs st h => match vs, st with | [.ref f0, .int x1, .int x2, .int x4, .int x5], [] => (match Nat.beq f0 178 with | true => loopC (Mo_hands_40  x1 x2 x4 ) FU (x5, h) | false => none) | _, _ => none)] 1 k_Mo_hands 400) :=
  (x_bI (f := sF_Mo_isRow) rfl (w_Mo_isRow _ _) fun v2 h1 => (x_ite rfl (x_bI (f := sF_Mo_askedLetter) rfl (w_Mo_askedLetter _ _) fun v4 h3 => (x_ite (x_bI (f := sF_Mo_letterOf) rfl (w_Mo_letterOf _ _ _) fun v6 h5 => (x_bI (f := sF_Mo_row) rfl (w_Mo_row _ _ _) fun v8 h7 => rfl)) rfl))))
set_option maxRecDepth 100000 in
theorem e_Mo_hands_40 (κ40 : (Int32 × Hp) → Res Hp) (x1 : Int32) (x2 : Int32) (x4 : Int32) (x5 : Int32)  (h : Hp) : Mo_hands_40  x1 x2 x4  (x5, h) κ40 = exec1 OI S_Mo_hands 1 k_Mo_hands 40 [some (.ref 178), some (.int x1), some (.int x2), none, some (.int x4), some (.int x5)] [] h (runF OI S_Mo_hands [(40, [0, 1, 2, 4, 5], fun vs st h => match vs, st with | [.ref f0, .int x1, .int x2, .int x4, .int x5], [] => (match Nat.beq f0 178 with | true => κ40 (x5, h) | false => none) | _, _ => none)] 1 k_Mo_hands 400) :=
  (x_ite rfl (x_bI (f := sF_Mo_letterOf) rfl (w_Mo_letterOf _ _ _) fun v2 h1 => (x_bV (f := sF_Mo_setRow) rfl (w_Mo_setRow _ _ _ _) fun h3 => rfl)))
def k_Mo_back : List Ent := [(0, .aload_n 0, 1, [], .null), (1, .iload_n 1, 1, [], .null), (2, .invokevirtual 198, 3, [123, 2, 1], .null), (5, .istore_n 2, 1, [], .null), (6, .iload_n 2, 1, [], .null), (7, .ifCond .ge (5), 3, [12], .null), (10, .iload_n 2, 1, [], .null), (11, .ireturn, 1, [], .null), (12, .aload_n 0, 1, [], .null), (13, .iload_n 1, 1, [], .null), (14, .iconst 2, 1, [], .int (2)), (15, .invokevirtual 153, 3, [105, 3, 1], .null), (18, .iconst 1, 1, [], .int (1)), (19, .if_icmp .ne (6), 3, [25], .null), (22, .bipush (-4), 2, [], .int (-4)), (24, .ireturn, 1, [], .null), (25, .aload_n 0, 1, [], .null), (26, .getfield 37, 3, [7, 15, 1], .null), (29, .bipush (17), 2, [], .int (17)), (31, .iload_n 1, 1, [], .null), (32, .imul, 1, [], .null), (33, .iconst 2, 1, [], .int (2)), (34, .iadd, 1, [], .null), (35, .dup2, 1, [], .null), (36, .iaload, 1, [], .null), (37, .iconst 1, 1, [], .int (1)), (38, .isub, 1, [], .null), (39, .iastore, 1, [], .null), (40, .aload_n 0, 1, [], .null), (41, .iload_n 1, 1, [], .null), (42, .invokevirtual 156, 3, [106, 2, 1], .null), (45, .ireturn, 1, [], .null)]
def F_Mo_back (x1 : Int32) (h : Hp) : Res Hp :=
  bI (F_Mo_askedLetter x1 h) fun v2 h1 =>
  if (0 : Int32) ≤ v2 then
  (bI (F_Mo_letterOf x1 (2 : Int32) h1) fun v4 h3 =>
  if v4 = (1 : Int32) then
  (retI (-4 : Int32) h3)
  else
  (bif okA 188 100 (((17 : Int32) * x1) + (2 : Int32)) then
  bif okA 188 100 (((17 : Int32) * x1) + (2 : Int32)) then
  bH (hs h3 188 (((17 : Int32) * x1) + (2 : Int32)).toNatClampNeg ((hg h3 188 (((17 : Int32) * x1) + (2 : Int32)).toNatClampNeg) - (1 : Int32))) fun h5 =>
  bI (F_Mo_holderOf x1 h5) fun v7 h6 =>
  retI v7 h6
  else none
  else none))
  else
  (retI v2 h1)
def sF_Mo_back : List Value → Hp → Res Hp := fun as h => match as with | [.ref f0, .int x1] => (match Nat.beq f0 178 with | true => F_Mo_back x1 h | false => none) | _ => none
theorem w_Mo_back (x1 : Int32) (h : Hp) : sF_Mo_back [.ref 178, .int x1] h = F_Mo_back x1 h := rfl
def S_Mo_back : Sem Hp := [(123, sF_Mo_askedLetter), (105, sF_Mo_letterOf), (106, sF_Mo_holderOf)]
set_option maxRecDepth 100000 in
theorem e_Mo_back_0 (x1 : Int32) (h : Hp) : F_Mo_back x1 h = exec1 OI S_Mo_back 1 k_Mo_back 0 [some (.ref 178), some (.int x1), none] [] h (runF OI S_Mo_back [] 1 k_Mo_back 400) :=
  (x_bI (f := sF_Mo_askedLetter) rfl (w_Mo_askedLetter _ _) fun v2 h1 => (x_ite (x_bI (f := sF_Mo_letterOf) rfl (w_Mo_letterOf _ _ _) fun v4 h3 => (x_ite rfl (x_bif (x_bif (x_bH fun h5 => (x_bI (f := sF_Mo_holderOf) rfl (w_Mo_holderOf _ _) fun v7 h6 => rfl)))))) rfl))
def k_Mo_keep : List Ent := [(0, .iload_n 1, 1, [], .null), (1, .iconst 0, 1, [], .int (0)), (2, .iconst 2, 1, [], .int (2)), (3, .invokestatic 72, 3, [71, 3, 2], .null), (6, .ifCond .ne (5), 3, [11], .null), (9, .iconst (-1), 1, [], .int (-1)), (10, .ireturn, 1, [], .null), (11, .aload_n 0, 1, [], .null), (12, .getfield 131, 3, [7, 8, 0], .null), (15, .ifCond .ne (6), 3, [21], .null), (18, .bipush (-4), 2, [], .int (-4)), (20, .ireturn, 1, [], .null), (21, .sipush (140), 3, [], .int (140)), (24, .iload_n 1, 1, [], .null), (25, .imul, 1, [], .null), (26, .istore_n 2, 1, [], .null), (27, .aload_n 0, 1, [], .null), (28, .getfield 49, 3, [7, 22, 1], .null), (31, .iload_n 2, 1, [], .null), (32, .aload_n 0, 1, [], .null), (33, .getfield 137, 3, [7, 13, 0], .null), (36, .iastore, 1, [], .null), (37, .aload_n 0, 1, [], .null), (38, .getfield 49, 3, [7, 22, 1], .null), (41, .iload_n 2, 1, [], .null), (42, .iconst 1, 1, [], .int (1)), (43, .iadd, 1, [], .null), (44, .aload_n 0, 1, [], .null), (45, .getfield 134, 3, [7, 11, 0], .null), (48, .iastore, 1, [], .null), (49, .aload_n 0, 1, [], .null), (50, .getfield 49, 3, [7, 22, 1], .null), (53, .iload_n 2, 1, [], .null), (54, .iconst 2, 1, [], .int (2)), (55, .iadd, 1, [], .null), (56, .aload_n 0, 1, [], .null), (57, .getfield 140, 3, [7, 14, 0], .null), (60, .iastore, 1, [], .null), (61, .iconst 0, 1, [], .int (0)), (62, .istore_n 3, 1, [], .null), (63, .iload_n 3, 1, [], .null), (64, .bipush (7), 2, [], .int (7)), (66, .if_icmp .ge (25), 3, [91], .null), (69, .aload_n 0, 1, [], .null), (70, .getfield 49, 3, [7, 22, 1], .null), (73, .iload_n 2, 1, [], .null), (74, .iconst 3, 1, [], .int (3)), (75, .iadd, 1, [], .null), (76, .iload_n 3, 1, [], .null), (77, .iadd, 1, [], .null), (78, .aload_n 0, 1, [], .null), (79, .getfield 31, 3, [7, 10, 1], .null), (82, .iload_n 3, 1, [], .null), (83, .iaload, 1, [], .null), (84, .iastore, 1, [], .null), (85, .iinc 3 (1), 3, [], .int (1)), (88, .goto (-25), 3, [63], .null), (91, .iconst 0, 1, [], .int (0)), (92, .istore_n 3, 1, [], .null), (93, .iload_n 3, 1, [], .null), (94, .bipush (48), 2, [], .int (48)), (96, .if_icmp .ge (26), 3, [122], .null), (99, .aload_n 0, 1, [], .null), (100, .getfield 49, 3, [7, 22, 1], .null), (103, .iload_n 2, 1, [], .null), (104, .bipush (10), 2, [], .int (10)), (106, .iadd, 1, [], .null), (107, .iload_n 3, 1, [], .null), (108, .iadd, 1, [], .null), (109, .aload_n 0, 1, [], .null), (110, .getfield 34, 3, [7, 12, 1], .null), (113, .iload_n 3, 1, [], .null), (114, .iaload, 1, [], .null), (115, .iastore, 1, [], .null), (116, .iinc 3 (1), 3, [], .int (1)), (119, .goto (-26), 3, [93], .null), (122, .iconst 0, 1, [], .int (0)), (123, .istore_n 3, 1, [], .null), (124, .iload_n 3, 1, [], .null), (125, .bipush (68), 2, [], .int (68)), (127, .if_icmp .ge (26), 3, [153], .null), (130, .aload_n 0, 1, [], .null), (131, .getfield 49, 3, [7, 22, 1], .null), (134, .iload_n 2, 1, [], .null), (135, .bipush (58), 2, [], .int (58)), (137, .iadd, 1, [], .null), (138, .iload_n 3, 1, [], .null), (139, .iadd, 1, [], .null), (140, .aload_n 0, 1, [], .null), (141, .getfield 37, 3, [7, 15, 1], .null), (144, .iload_n 3, 1, [], .null), (145, .iaload, 1, [], .null), (146, .iastore, 1, [], .null), (147, .iinc 3 (1), 3, [], .int (1)), (150, .goto (-26), 3, [124], .null), (153, .aload_n 0, 1, [], .null), (154, .getfield 137, 3, [7, 13, 0], .null), (157, .ireturn, 1, [], .null)]
def Mo_keep_124  (x2 : Int32)  : (Int32 × Hp) → ((Int32 × Hp) → Res Hp) → Res Hp := fun s κ124 => match s with
  | (x3, h) =>
  if (68 : Int32) ≤ x3 then
  (retI (hg h 178 13) h)
  else
  (bif okA 188 100 x3 then
  bif okA 192 100 ((x2 + (58 : Int32)) + x3) then
  bH (hs h 192 ((x2 + (58 : Int32)) + x3).toNatClampNeg (hg h 188 x3.toNatClampNeg)) fun h1 =>
  κ124 ((x3 + (1 : Int32)), h1)
  else none
  else none)
def Mo_keep_93  (x2 : Int32)  : (Int32 × Hp) → ((Int32 × Hp) → Res Hp) → Res Hp := fun s κ93 => match s with
  | (x3, h) =>
  if (48 : Int32) ≤ x3 then
  (loopC (Mo_keep_124  x2 ) FU ((0 : Int32), h))
  else
  (bif okA 187 100 x3 then
  bif okA 192 100 ((x2 + (10 : Int32)) + x3) then
  bH (hs h 192 ((x2 + (10 : Int32)) + x3).toNatClampNeg (hg h 187 x3.toNatClampNeg)) fun h1 =>
  κ93 ((x3 + (1 : Int32)), h1)
  else none
  else none)
def Mo_keep_63  (x2 : Int32)  : (Int32 × Hp) → ((Int32 × Hp) → Res Hp) → Res Hp := fun s κ63 => match s with
  | (x3, h) =>
  if (7 : Int32) ≤ x3 then
  (loopC (Mo_keep_93  x2 ) FU ((0 : Int32), h))
  else
  (bif okA 186 100 x3 then
  bif okA 192 100 ((x2 + (3 : Int32)) + x3) then
  bH (hs h 192 ((x2 + (3 : Int32)) + x3).toNatClampNeg (hg h 186 x3.toNatClampNeg)) fun h1 =>
  κ63 ((x3 + (1 : Int32)), h1)
  else none
  else none)
def F_Mo_keep (x1 : Int32) (h : Hp) : Res Hp :=
  bI (F_Mo_in x1 (0 : Int32) (2 : Int32) h) fun v2 h1 =>
  if v2 = (0 : Int32) then
  (retI (-1 : Int32) h1)
  else
  (if (hg h1 178 8) = (0 : Int32) then
  (retI (-4 : Int32) h1)
  else
  (bif okA 192 100 ((140 : Int32) * x1) then
  bH (hs h1 192 ((140 : Int32) * x1).toNatClampNeg (hg h1 178 13)) fun h3 =>
  bif okA 192 100 (((140 : Int32) * x1) + (1 : Int32)) then
  bH (hs h3 192 (((140 : Int32) * x1) + (1 : Int32)).toNatClampNeg (hg h3 178 11)) fun h4 =>
  bif okA 192 100 (((140 : Int32) * x1) + (2 : Int32)) then
  bH (hs h4 192 (((140 : Int32) * x1) + (2 : Int32)).toNatClampNeg (hg h4 178 14)) fun h5 =>
  loopC (Mo_keep_63  ((140 : Int32) * x1) ) FU ((0 : Int32), h5)
  else none
  else none
  else none))
def sF_Mo_keep : List Value → Hp → Res Hp := fun as h => match as with | [.ref f0, .int x1] => (match Nat.beq f0 178 with | true => F_Mo_keep x1 h | false => none) | _ => none
theorem w_Mo_keep (x1 : Int32) (h : Hp) : sF_Mo_keep [.ref 178, .int x1] h = F_Mo_keep x1 h := rfl
def S_Mo_keep : Sem Hp := [(71, sF_Mo_in)]
set_option maxRecDepth 100000 in
theorem e_Mo_keep_0 (x1 : Int32) (h : Hp) : F_Mo_keep x1 h = exec1 OI S_Mo_keep 1 k_Mo_keep 0 [some (.ref 178), some (.int x1), none, none] [] h (runF OI S_Mo_keep [(63, [0, 2, 3], fun vs st h => match vs, st with | [.ref f0, .int x2, .int x3], [] => (match Nat.beq f0 178 with | true => loopC (Mo_keep_63  x2 ) FU (x3, h) | false => none) | _, _ => none)] 1 k_Mo_keep 400) :=
  (x_bI (f := sF_Mo_in) rfl (w_Mo_in _ _ _ _) fun v2 h1 => (x_ite rfl (x_ite rfl (x_bif (x_bH fun h3 => (x_bif (x_bH fun h4 => (x_bif (x_bH fun h5 => rfl)))))))))
set_option maxRecDepth 100000 in
theorem e_Mo_keep_63 (κ63 : (Int32 × Hp) → Res Hp) (x2 : Int32) (x3 : Int32)  (h : Hp) : Mo_keep_63  x2  (x3, h) κ63 = exec1 OI S_Mo_keep 1 k_Mo_keep 63 [some (.ref 178), none, some (.int x2), some (.int x3)] [] h (runF OI S_Mo_keep [(93, [0, 2, 3], fun vs st h => match vs, st with | [.ref f0, .int x2, .int x3], [] => (match Nat.beq f0 178 with | true => loopC (Mo_keep_93  x2 ) FU (x3, h) | false => none) | _, _ => none), (63, [0, 2, 3], fun vs st h => match vs, st with | [.ref f0, .int x2, .int x3], [] => (match Nat.beq f0 178 with | true => κ63 (x3, h) | false => none) | _, _ => none)] 1 k_Mo_keep 400) :=
  (x_ite rfl (x_bif (x_bif (x_bH fun h1 => rfl))))
set_option maxRecDepth 100000 in
theorem e_Mo_keep_93 (κ93 : (Int32 × Hp) → Res Hp) (x2 : Int32) (x3 : Int32)  (h : Hp) : Mo_keep_93  x2  (x3, h) κ93 = exec1 OI S_Mo_keep 1 k_Mo_keep 93 [some (.ref 178), none, some (.int x2), some (.int x3)] [] h (runF OI S_Mo_keep [(124, [0, 2, 3], fun vs st h => match vs, st with | [.ref f0, .int x2, .int x3], [] => (match Nat.beq f0 178 with | true => loopC (Mo_keep_124  x2 ) FU (x3, h) | false => none) | _, _ => none), (93, [0, 2, 3], fun vs st h => match vs, st with | [.ref f0, .int x2, .int x3], [] => (match Nat.beq f0 178 with | true => κ93 (x3, h) | false => none) | _, _ => none)] 1 k_Mo_keep 400) :=
  (x_ite rfl (x_bif (x_bif (x_bH fun h1 => rfl))))
set_option maxRecDepth 100000 in
theorem e_Mo_keep_124 (κ124 : (Int32 × Hp) → Res Hp) (x2 : Int32) (x3 : Int32)  (h : Hp) : Mo_keep_124  x2  (x3, h) κ124 = exec1 OI S_Mo_keep 1 k_Mo_keep 124 [some (.ref 178), none, some (.int x2), some (.int x3)] [] h (runF OI S_Mo_keep [(124, [0, 2, 3], fun vs st h => match vs, st with | [.ref f0, .int x2, .int x3], [] => (match Nat.beq f0 178 with | true => κ124 (x3, h) | false => none) | _, _ => none)] 1 k_Mo_keep 400) :=
  (x_ite rfl (x_bif (x_bif (x_bH fun h1 => rfl))))
end
end
section
noncomputable section
def k_Mo_on : List Ent := [(0, .iload_n 1, 1, [], .null), (1, .iconst 0, 1, [], .int (0)), (2, .iconst 2, 1, [], .int (2)), (3, .invokestatic 72, 3, [71, 3, 2], .null), (6, .ifCond .ne (5), 3, [11], .null), (9, .iconst (-1), 1, [], .int (-1)), (10, .ireturn, 1, [], .null), (11, .sipush (140), 3, [], .int (140)), (14, .iload_n 1, 1, [], .null), (15, .imul, 1, [], .null), (16, .istore_n 2, 1, [], .null), (17, .aload_n 0, 1, [], .null), (18, .getfield 49, 3, [7, 22, 1], .null), (21, .iload_n 2, 1, [], .null), (22, .iaload, 1, [], .null), (23, .bipush (-9), 2, [], .int (-9)), (25, .if_icmp .ne (9), 3, [34], .null), (28, .aload_n 0, 1, [], .null), (29, .iconst 1, 1, [], .int (1)), (30, .invokevirtual 80, 3, [72, 2, 1], .null), (33, .ireturn, 1, [], .null), (34, .aload_n 0, 1, [], .null), (35, .aload_n 0, 1, [], .null), (36, .getfield 49, 3, [7, 22, 1], .null), (39, .iload_n 2, 1, [], .null), (40, .iaload, 1, [], .null), (41, .putfield 137, 3, [7, 13, 0], .null), (44, .aload_n 0, 1, [], .null), (45, .aload_n 0, 1, [], .null), (46, .getfield 49, 3, [7, 22, 1], .null), (49, .iload_n 2, 1, [], .null), (50, .iconst 1, 1, [], .int (1)), (51, .iadd, 1, [], .null), (52, .iaload, 1, [], .null), (53, .putfield 134, 3, [7, 11, 0], .null), (56, .aload_n 0, 1, [], .null), (57, .aload_n 0, 1, [], .null), (58, .getfield 49, 3, [7, 22, 1], .null), (61, .iload_n 2, 1, [], .null), (62, .iconst 2, 1, [], .int (2)), (63, .iadd, 1, [], .null), (64, .iaload, 1, [], .null), (65, .putfield 140, 3, [7, 14, 0], .null), (68, .iconst 0, 1, [], .int (0)), (69, .istore_n 3, 1, [], .null), (70, .iload_n 3, 1, [], .null), (71, .bipush (7), 2, [], .int (7)), (73, .if_icmp .ge (25), 3, [98], .null), (76, .aload_n 0, 1, [], .null), (77, .getfield 31, 3, [7, 10, 1], .null), (80, .iload_n 3, 1, [], .null), (81, .aload_n 0, 1, [], .null), (82, .getfield 49, 3, [7, 22, 1], .null), (85, .iload_n 2, 1, [], .null), (86, .iconst 3, 1, [], .int (3)), (87, .iadd, 1, [], .null), (88, .iload_n 3, 1, [], .null), (89, .iadd, 1, [], .null), (90, .iaload, 1, [], .null), (91, .iastore, 1, [], .null), (92, .iinc 3 (1), 3, [], .int (1)), (95, .goto (-25), 3, [70], .null), (98, .iconst 0, 1, [], .int (0)), (99, .istore_n 3, 1, [], .null), (100, .iload_n 3, 1, [], .null), (101, .bipush (48), 2, [], .int (48)), (103, .if_icmp .ge (26), 3, [129], .null), (106, .aload_n 0, 1, [], .null), (107, .getfield 34, 3, [7, 12, 1], .null), (110, .iload_n 3, 1, [], .null), (111, .aload_n 0, 1, [], .null), (112, .getfield 49, 3, [7, 22, 1], .null), (115, .iload_n 2, 1, [], .null), (116, .bipush (10), 2, [], .int (10)), (118, .iadd, 1, [], .null), (119, .iload_n 3, 1, [], .null), (120, .iadd, 1, [], .null), (121, .iaload, 1, [], .null), (122, .iastore, 1, [], .null), (123, .iinc 3 (1), 3, [], .int (1)), (126, .goto (-26), 3, [100], .null), (129, .iconst 0, 1, [], .int (0)), (130, .istore_n 3, 1, [], .null), (131, .iload_n 3, 1, [], .null), (132, .bipush (68), 2, [], .int (68)), (134, .if_icmp .ge (26), 3, [160], .null), (137, .aload_n 0, 1, [], .null), (138, .getfield 37, 3, [7, 15, 1], .null), (141, .iload_n 3, 1, [], .null), (142, .aload_n 0, 1, [], .null), (143, .getfield 49, 3, [7, 22, 1], .null), (146, .iload_n 2, 1, [], .null), (147, .bipush (58), 2, [], .int (58)), (149, .iadd, 1, [], .null), (150, .iload_n 3, 1, [], .null), (151, .iadd, 1, [], .null), (152, .iaload, 1, [], .null), (153, .iastore, 1, [], .null), (154, .iinc 3 (1), 3, [], .int (1)), (157, .goto (-26), 3, [131], .null), (160, .aload_n 0, 1, [], .null), (161, .getfield 137, 3, [7, 13, 0], .null), (164, .ireturn, 1, [], .null)]
def Mo_on_131  (x2 : Int32)  : (Int32 × Hp) → ((Int32 × Hp) → Res Hp) → Res Hp := fun s κ131 => match s with
  | (x3, h) =>
  if (68 : Int32) ≤ x3 then
  (retI (hg h 178 13) h)
  else
  (bif okA 192 100 ((x2 + (58 : Int32)) + x3) then
  bif okA 188 100 x3 then
  bH (hs h 188 x3.toNatClampNeg (hg h 192 ((x2 + (58 : Int32)) + x3).toNatClampNeg)) fun h1 =>
  κ131 ((x3 + (1 : Int32)), h1)
  else none
  else none)
def Mo_on_100  (x2 : Int32)  : (Int32 × Hp) → ((Int32 × Hp) → Res Hp) → Res Hp := fun s κ100 => match s with
  | (x3, h) =>
  if (48 : Int32) ≤ x3 then
  (loopC (Mo_on_131  x2 ) FU ((0 : Int32), h))
  else
  (bif okA 192 100 ((x2 + (10 : Int32)) + x3) then
  bif okA 187 100 x3 then
  bH (hs h 187 x3.toNatClampNeg (hg h 192 ((x2 + (10 : Int32)) + x3).toNatClampNeg)) fun h1 =>
  κ100 ((x3 + (1 : Int32)), h1)
  else none
  else none)
def Mo_on_70  (x2 : Int32)  : (Int32 × Hp) → ((Int32 × Hp) → Res Hp) → Res Hp := fun s κ70 => match s with
  | (x3, h) =>
  if (7 : Int32) ≤ x3 then
  (loopC (Mo_on_100  x2 ) FU ((0 : Int32), h))
  else
  (bif okA 192 100 ((x2 + (3 : Int32)) + x3) then
  bif okA 186 100 x3 then
  bH (hs h 186 x3.toNatClampNeg (hg h 192 ((x2 + (3 : Int32)) + x3).toNatClampNeg)) fun h1 =>
  κ70 ((x3 + (1 : Int32)), h1)
  else none
  else none)
def F_Mo_on (x1 : Int32) (h : Hp) : Res Hp :=
  bI (F_Mo_in x1 (0 : Int32) (2 : Int32) h) fun v2 h1 =>
  if v2 = (0 : Int32) then
  (retI (-1 : Int32) h1)
  else
  (bif okA 192 100 ((140 : Int32) * x1) then
  if (hg h1 192 ((140 : Int32) * x1).toNatClampNeg) = (-9 : Int32) then
  (bI (F_Mo_meetWith (1 : Int32) h1) fun v7 h6 =>
  retI v7 h6)
  else
  (bif okA 192 100 ((140 : Int32) * x1) then
  bH (hs h1 178 13 (hg h1 192 ((140 : Int32) * x1).toNatClampNeg)) fun h3 =>
  bif okA 192 100 (((140 : Int32) * x1) + (1 : Int32)) then
  bH (hs h3 178 11 (hg h3 192 (((140 : Int32) * x1) + (1 : Int32)).toNatClampNeg)) fun h4 =>
  bif okA 192 100 (((140 : Int32) * x1) + (2 : Int32)) then
  bH (hs h4 178 14 (hg h4 192 (((140 : Int32) * x1) + (2 : Int32)).toNatClampNeg)) fun h5 =>
  loopC (Mo_on_70  ((140 : Int32) * x1) ) FU ((0 : Int32), h5)
  else none
  else none
  else none)
  else none)
def sF_Mo_on : List Value → Hp → Res Hp := fun as h => match as with | [.ref f0, .int x1] => (match Nat.beq f0 178 with | true => F_Mo_on x1 h | false => none) | _ => none
theorem w_Mo_on (x1 : Int32) (h : Hp) : sF_Mo_on [.ref 178, .int x1] h = F_Mo_on x1 h := rfl
def S_Mo_on : Sem Hp := [(71, sF_Mo_in), (72, sF_Mo_meetWith)]
set_option maxRecDepth 100000 in
theorem e_Mo_on_0 (x1 : Int32) (h : Hp) : F_Mo_on x1 h = exec1 OI S_Mo_on 1 k_Mo_on 0 [some (.ref 178), some (.int x1), none, none] [] h (runF OI S_Mo_on [(70, [0, 2, 3], fun vs st h => match vs, st with | [.ref f0, .int x2, .int x3], [] => (match Nat.beq f0 178 with | true => loopC (Mo_on_70  x2 ) FU (x3, h) | false => none) | _, _ => none)] 1 k_Mo_on 400) :=
  (x_bI (f := sF_Mo_in) rfl (w_Mo_in _ _ _ _) fun v2 h1 => (x_ite rfl (x_bif (x_ite (x_bI (f := sF_Mo_meetWith) rfl (w_Mo_meetWith _ _) fun v7 h6 => rfl) (x_bif (x_bH fun h3 => (x_bif (x_bH fun h4 => (x_bif (x_bH fun h5 => rfl))))))))))
set_option maxRecDepth 100000 in
theorem e_Mo_on_70 (κ70 : (Int32 × Hp) → Res Hp) (x2 : Int32) (x3 : Int32)  (h : Hp) : Mo_on_70  x2  (x3, h) κ70 = exec1 OI S_Mo_on 1 k_Mo_on 70 [some (.ref 178), none, some (.int x2), some (.int x3)] [] h (runF OI S_Mo_on [(100, [0, 2, 3], fun vs st h => match vs, st with | [.ref f0, .int x2, .int x3], [] => (match Nat.beq f0 178 with | true => loopC (Mo_on_100  x2 ) FU (x3, h) | false => none) | _, _ => none), (70, [0, 2, 3], fun vs st h => match vs, st with | [.ref f0, .int x2, .int x3], [] => (match Nat.beq f0 178 with | true => κ70 (x3, h) | false => none) | _, _ => none)] 1 k_Mo_on 400) :=
  (x_ite rfl (x_bif (x_bif (x_bH fun h1 => rfl))))
set_option maxRecDepth 100000 in
theorem e_Mo_on_100 (κ100 : (Int32 × Hp) → Res Hp) (x2 : Int32) (x3 : Int32)  (h : Hp) : Mo_on_100  x2  (x3, h) κ100 = exec1 OI S_Mo_on 1 k_Mo_on 100 [some (.ref 178), none, some (.int x2), some (.int x3)] [] h (runF OI S_Mo_on [(131, [0, 2, 3], fun vs st h => match vs, st with | [.ref f0, .int x2, .int x3], [] => (match Nat.beq f0 178 with | true => loopC (Mo_on_131  x2 ) FU (x3, h) | false => none) | _, _ => none), (100, [0, 2, 3], fun vs st h => match vs, st with | [.ref f0, .int x2, .int x3], [] => (match Nat.beq f0 178 with | true => κ100 (x3, h) | false => none) | _, _ => none)] 1 k_Mo_on 400) :=
  (x_ite rfl (x_bif (x_bif (x_bH fun h1 => rfl))))
set_option maxRecDepth 100000 in
theorem e_Mo_on_131 (κ131 : (Int32 × Hp) → Res Hp) (x2 : Int32) (x3 : Int32)  (h : Hp) : Mo_on_131  x2  (x3, h) κ131 = exec1 OI S_Mo_on 1 k_Mo_on 131 [some (.ref 178), none, some (.int x2), some (.int x3)] [] h (runF OI S_Mo_on [(131, [0, 2, 3], fun vs st h => match vs, st with | [.ref f0, .int x2, .int x3], [] => (match Nat.beq f0 178 with | true => κ131 (x3, h) | false => none) | _, _ => none)] 1 k_Mo_on 400) :=
  (x_ite rfl (x_bif (x_bif (x_bH fun h1 => rfl))))
def k_Mo_soonOf : List Ent := [(0, .iconst 1, 1, [], .int (1)), (1, .iload_n 1, 1, [], .null), (2, .ishl, 1, [], .null), (3, .istore 5, 2, [], .null), (5, .iconst 0, 1, [], .int (0)), (6, .istore 6, 2, [], .null), (8, .iload 6, 2, [], .null), (10, .bipush (40), 2, [], .int (40)), (12, .if_icmp .ge (167), 3, [179], .null), (15, .iload 4, 2, [], .null), (17, .iload 6, 2, [], .null), (19, .iadd, 1, [], .null), (20, .bipush (99), 2, [], .int (99)), (22, .if_icmp .gt (157), 3, [179], .null), (25, .iload 5, 2, [], .null), (27, .istore 7, 2, [], .null), (29, .iconst 0, 1, [], .int (0)), (30, .istore 8, 2, [], .null), (32, .iload 8, 2, [], .null), (34, .aload_n 0, 1, [], .null), (35, .getfield 131, 3, [7, 8, 0], .null), (38, .if_icmp .ge (117), 3, [155], .null), (41, .iload 5, 2, [], .null), (43, .iload 8, 2, [], .null), (45, .invokestatic 195, 3, [74, 2, 2], .null), (48, .ifCond .eq (17), 3, [65], .null), (51, .aload_n 0, 1, [], .null), (52, .iload 8, 2, [], .null), (54, .iload 4, 2, [], .null), (56, .iload 6, 2, [], .null), (58, .iadd, 1, [], .null), (59, .invokevirtual 171, 3, [104, 3, 1], .null), (62, .goto (4), 3, [66], .null), (65, .iconst 0, 1, [], .int (0)), (66, .istore 9, 2, [], .null), (68, .iconst 0, 1, [], .int (0)), (69, .istore 10, 2, [], .null), (71, .iload 10, 2, [], .null), (73, .aload_n 0, 1, [], .null), (74, .getfield 131, 3, [7, 8, 0], .null), (77, .if_icmp .ge (72), 3, [149], .null), (80, .iload 10, 2, [], .null), (82, .iload_n 2, 1, [], .null), (83, .if_icmp .eq (25), 3, [108], .null), (86, .aload_n 0, 1, [], .null), (87, .iload 10, 2, [], .null), (89, .iload_n 3, 1, [], .null), (90, .invokevirtual 183, 3, [103, 3, 2], .null), (93, .ifCond .eq (19), 3, [112], .null), (96, .aload_n 0, 1, [], .null), (97, .iload 10, 2, [], .null), (99, .iload 8, 2, [], .null), (101, .iload_n 1, 1, [], .null), (102, .invokevirtual 192, 3, [120, 4, 2], .null), (105, .ifCond .eq (7), 3, [112], .null), (108, .iconst 1, 1, [], .int (1)), (109, .goto (4), 3, [113], .null), (112, .iconst 0, 1, [], .int (0)), (113, .istore 11, 2, [], .null), (115, .iload 7, 2, [], .null), (117, .iload 9, 2, [], .null), (119, .iload 10, 2, [], .null), (121, .invokestatic 195, 3, [74, 2, 2], .null), (124, .ifCond .eq (15), 3, [139], .null), (127, .iload 11, 2, [], .null), (129, .ifCond .eq (10), 3, [139], .null), (132, .iconst 1, 1, [], .int (1)), (133, .iload 10, 2, [], .null), (135, .ishl, 1, [], .null), (136, .goto (4), 3, [140], .null), (139, .iconst 0, 1, [], .int (0)), (140, .ior, 1, [], .null), (141, .istore 7, 2, [], .null), (143, .iinc 10 (1), 3, [], .int (1)), (146, .goto (-75), 3, [71], .null), (149, .iinc 8 (1), 3, [], .int (1)), (152, .goto (-120), 3, [32], .null), (155, .iload 7, 2, [], .null), (157, .istore 5, 2, [], .null), (159, .iload 5, 2, [], .null), (161, .iload_n 2, 1, [], .null), (162, .invokestatic 195, 3, [74, 2, 2], .null), (165, .ifCond .eq (8), 3, [173], .null), (168, .iload 6, 2, [], .null), (170, .iconst 1, 1, [], .int (1)), (171, .iadd, 1, [], .null), (172, .ireturn, 1, [], .null), (173, .iinc 6 (1), 3, [], .int (1)), (176, .goto (-168), 3, [8], .null), (179, .bipush (-9), 2, [], .int (-9)), (181, .ireturn, 1, [], .null)]
def Mo_soonOf_71 (κ8 : (Int32 × Int32 × Hp) → Res Hp) (κ32 : (Int32 × Int32 × Hp) → Res Hp) (x1 : Int32) (x2 : Int32) (x3 : Int32) (x4 : Int32) (x5 : Int32) (x6 : Int32) (x8 : Int32) (x9 : Int32)  : (Int32 × Int32 × Hp) → ((Int32 × Int32 × Hp) → Res Hp) → Res Hp := fun s κ71 => match s with
  | (x7, x10, h) =>
  if (hg h 178 8) ≤ x10 then
  (κ32 (x7, (x8 + (1 : Int32)), h))
  else
  (if x10 = x2 then
  (bI (F_Mo_has x9 x10 h) fun v2 h1 =>
  if v2 = (0 : Int32) then
  (κ71 ((x7 ||| (0 : Int32)), (x10 + (1 : Int32)), h1))
  else
  (κ71 ((x7 ||| ((1 : Int32) <<< (x10 &&& 31))), (x10 + (1 : Int32)), h1)))
  else
  (bI (F_Mo_mayCarry x10 x3 h) fun v4 h3 =>
  if v4 = (0 : Int32) then
  (bI (F_Mo_has x9 x10 h3) fun v6 h5 =>
  if v6 = (0 : Int32) then
  (κ71 ((x7 ||| (0 : Int32)), (x10 + (1 : Int32)), h5))
  else
  (κ71 ((x7 ||| (0 : Int32)), (x10 + (1 : Int32)), h5)))
  else
  (bI (F_Mo_takes x10 x8 x1 h3) fun v8 h7 =>
  if v8 = (0 : Int32) then
  (bI (F_Mo_has x9 x10 h7) fun v10 h9 =>
  if v10 = (0 : Int32) then
  (κ71 ((x7 ||| (0 : Int32)), (x10 + (1 : Int32)), h9))
  else
  (κ71 ((x7 ||| (0 : Int32)), (x10 + (1 : Int32)), h9)))
  else
  (bI (F_Mo_has x9 x10 h7) fun v12 h11 =>
  if v12 = (0 : Int32) then
  (κ71 ((x7 ||| (0 : Int32)), (x10 + (1 : Int32)), h11))
  else
  (κ71 ((x7 ||| ((1 : Int32) <<< (x10 &&& 31))), (x10 + (1 : Int32)), h11))))))
def Mo_soonOf_32 (κ8 : (Int32 × Int32 × Hp) → Res Hp) (x1 : Int32) (x2 : Int32) (x3 : Int32) (x4 : Int32) (x5 : Int32) (x6 : Int32)  : (Int32 × Int32 × Hp) → ((Int32 × Int32 × Hp) → Res Hp) → Res Hp := fun s κ32 => match s with
  | (x7, x8, h) =>
  if (hg h 178 8) ≤ x8 then
  (bI (F_Mo_has x7 x2 h) fun v2 h1 =>
  if v2 = (0 : Int32) then
  (κ8 (x7, (x6 + (1 : Int32)), h1))
  else
  (retI (x6 + (1 : Int32)) h1))
  else
  (bI (F_Mo_has x5 x8 h) fun v4 h3 =>
  if v4 = (0 : Int32) then
  (loopC (Mo_soonOf_71 κ8 κ32 x1 x2 x3 x4 x5 x6 x8 (0 : Int32) ) FU (x7, (0 : Int32), h3))
  else
  (bI (F_Mo_metBy x8 (x4 + x6) h3) fun v6 h5 =>
  loopC (Mo_soonOf_71 κ8 κ32 x1 x2 x3 x4 x5 x6 x8 v6 ) FU (x7, (0 : Int32), h5)))
def Mo_soonOf_8  (x1 : Int32) (x2 : Int32) (x3 : Int32) (x4 : Int32)  : (Int32 × Int32 × Hp) → ((Int32 × Int32 × Hp) → Res Hp) → Res Hp := fun s κ8 => match s with
  | (x5, x6, h) =>
  if (40 : Int32) ≤ x6 then
  (retI (-9 : Int32) h)
  else
  (if (99 : Int32) < (x4 + x6) then
  (retI (-9 : Int32) h)
  else
  (loopC (Mo_soonOf_32 κ8 x1 x2 x3 x4 x5 x6 ) FU (x5, (0 : Int32), h)))
def F_Mo_soonOf (x1 : Int32) (x2 : Int32) (x3 : Int32) (x4 : Int32) (h : Hp) : Res Hp :=
  loopC (Mo_soonOf_8  x1 x2 x3 x4 ) FU (((1 : Int32) <<< (x1 &&& 31)), (0 : Int32), h)
def sF_Mo_soonOf : List Value → Hp → Res Hp := fun as h => match as with | [.ref f0, .int x1, .int x2, .int x3, .int x4] => (match Nat.beq f0 178 with | true => F_Mo_soonOf x1 x2 x3 x4 h | false => none) | _ => none
theorem w_Mo_soonOf (x1 : Int32) (x2 : Int32) (x3 : Int32) (x4 : Int32) (h : Hp) : sF_Mo_soonOf [.ref 178, .int x1, .int x2, .int x3, .int x4] h = F_Mo_soonOf x1 x2 x3 x4 h := rfl
def S_Mo_soonOf : Sem Hp := [(74, sF_Mo_has), (103, sF_Mo_mayCarry), (120, sF_Mo_takes), (104, sF_Mo_metBy)]
set_option maxRecDepth 100000 in
theorem e_Mo_soonOf_0 (x1 : Int32) (x2 : Int32) (x3 : Int32) (x4 : Int32) (h : Hp) : F_Mo_soonOf x1 x2 x3 x4 h = exec1 OI S_Mo_soonOf 1 k_Mo_soonOf 0 [some (.ref 178), some (.int x1), some (.int x2), some (.int x3), some (.int x4), none, none, none, none, none, none, none] [] h (runF OI S_Mo_soonOf [(8, [0, 1, 2, 3, 4, 5, 6], fun vs st h => match vs, st with | [.ref f0, .int x1, .int x2, .int x3, .int x4, .int x5, .int x6], [] => (match Nat.beq f0 178 with | true => loopC (Mo_soonOf_8  x1 x2 x3 x4 ) FU (x5, x6, h) | false => none) | _, _ => none)] 1 k_Mo_soonOf 400) :=
  rfl
set_option maxRecDepth 100000 in
theorem e_Mo_soonOf_8 (κ8 : (Int32 × Int32 × Hp) → Res Hp) (x1 : Int32) (x2 : Int32) (x3 : Int32) (x4 : Int32) (x5 : Int32) (x6 : Int32)  (h : Hp) : Mo_soonOf_8  x1 x2 x3 x4  (x5, x6, h) κ8 = exec1 OI S_Mo_soonOf 1 k_Mo_soonOf 8 [some (.ref 178), some (.int x1), some (.int x2), some (.int x3), some (.int x4), some (.int x5), some (.int x6), none, none, none, none, none] [] h (runF OI S_Mo_soonOf [(32, [0, 1, 2, 3, 4, 5, 6, 7, 8], fun vs st h => match vs, st with | [.ref f0, .int x1, .int x2, .int x3, .int x4, .int x5, .int x6, .int x7, .int x8], [] => (match Nat.beq f0 178 with | true => loopC (Mo_soonOf_32 κ8 x1 x2 x3 x4 x5 x6 ) FU (x7, x8, h) | false => none) | _, _ => none)] 1 k_Mo_soonOf 400) :=
  (x_ite rfl (x_ite rfl rfl))
set_option maxRecDepth 100000 in
theorem e_Mo_soonOf_32 (κ8 : (Int32 × Int32 × Hp) → Res Hp) (κ32 : (Int32 × Int32 × Hp) → Res Hp) (x1 : Int32) (x2 : Int32) (x3 : Int32) (x4 : Int32) (x5 : Int32) (x6 : Int32) (x7 : Int32) (x8 : Int32)  (h : Hp) : Mo_soonOf_32 κ8 x1 x2 x3 x4 x5 x6  (x7, x8, h) κ32 = exec1 OI S_Mo_soonOf 1 k_Mo_soonOf 32 [some (.ref 178), some (.int x1), some (.int x2), some (.int x3), some (.int x4), some (.int x5), some (.int x6), some (.int x7), some (.int x8), none, none, none] [] h (runF OI S_Mo_soonOf [(8, [0, 1, 2, 3, 4, 5, 6], fun vs st h => match vs, st with | [.ref f0, .int x1, .int x2, .int x3, .int x4, .int x5, .int x6], [] => (match Nat.beq f0 178 with | true => κ8 (x5, x6, h) | false => none) | _, _ => none), (71, [0, 1, 2, 3, 4, 5, 6, 7, 8, 9, 10], fun vs st h => match vs, st with | [.ref f0, .int x1, .int x2, .int x3, .int x4, .int x5, .int x6, .int x7, .int x8, .int x9, .int x10], [] => (match Nat.beq f0 178 with | true => loopC (Mo_soonOf_71 κ8 κ32 x1 x2 x3 x4 x5 x6 x8 x9 ) FU (x7, x10, h) | false => none) | _, _ => none)] 1 k_Mo_soonOf 400) :=
  (x_ite (x_bI (f := sF_Mo_has) rfl (w_Mo_has _ _ _) fun v2 h1 => (x_ite rfl rfl)) (x_bI (f := sF_Mo_has) rfl (w_Mo_has _ _ _) fun v4 h3 => (x_ite rfl (x_bI (f := sF_Mo_metBy) rfl (w_Mo_metBy _ _ _) fun v6 h5 => rfl))))
set_option maxRecDepth 100000 in
theorem e_Mo_soonOf_71 (κ8 : (Int32 × Int32 × Hp) → Res Hp) (κ32 : (Int32 × Int32 × Hp) → Res Hp) (κ71 : (Int32 × Int32 × Hp) → Res Hp) (x1 : Int32) (x2 : Int32) (x3 : Int32) (x4 : Int32) (x5 : Int32) (x6 : Int32) (x7 : Int32) (x8 : Int32) (x9 : Int32) (x10 : Int32)  (h : Hp) : Mo_soonOf_71 κ8 κ32 x1 x2 x3 x4 x5 x6 x8 x9  (x7, x10, h) κ71 = exec1 OI S_Mo_soonOf 1 k_Mo_soonOf 71 [some (.ref 178), some (.int x1), some (.int x2), some (.int x3), some (.int x4), some (.int x5), some (.int x6), some (.int x7), some (.int x8), some (.int x9), some (.int x10), none] [] h (runF OI S_Mo_soonOf [(32, [0, 1, 2, 3, 4, 5, 6, 7, 8], fun vs st h => match vs, st with | [.ref f0, .int x1, .int x2, .int x3, .int x4, .int x5, .int x6, .int x7, .int x8], [] => (match Nat.beq f0 178 with | true => κ32 (x7, x8, h) | false => none) | _, _ => none), (71, [0, 1, 2, 3, 4, 5, 6, 7, 8, 9, 10], fun vs st h => match vs, st with | [.ref f0, .int x1, .int x2, .int x3, .int x4, .int x5, .int x6, .int x7, .int x8, .int x9, .int x10], [] => (match Nat.beq f0 178 with | true => κ71 (x7, x10, h) | false => none) | _, _ => none)] 1 k_Mo_soonOf 400) :=
  (x_ite rfl (x_ite (x_bI (f := sF_Mo_has) rfl (w_Mo_has _ _ _) fun v2 h1 => (x_ite rfl rfl)) (x_bI (f := sF_Mo_mayCarry) rfl (w_Mo_mayCarry _ _ _) fun v4 h3 => (x_ite (x_bI (f := sF_Mo_has) rfl (w_Mo_has _ _ _) fun v6 h5 => (x_ite rfl rfl)) (x_bI (f := sF_Mo_takes) rfl (w_Mo_takes _ _ _ _) fun v8 h7 => (x_ite (x_bI (f := sF_Mo_has) rfl (w_Mo_has _ _ _) fun v10 h9 => (x_ite rfl rfl)) (x_bI (f := sF_Mo_has) rfl (w_Mo_has _ _ _) fun v12 h11 => (x_ite rfl rfl))))))))
def k_Mo_isAsk : List Ent := [(0, .aload_n 0, 1, [], .null), (1, .iload_n 1, 1, [], .null), (2, .iload_n 2, 1, [], .null), (3, .invokevirtual 177, 3, [98, 3, 2], .null), (6, .ifCond .eq (14), 3, [20], .null), (9, .iload_n 3, 1, [], .null), (10, .invokestatic 180, 3, [100, 1, 2], .null), (13, .ifCond .eq (7), 3, [20], .null), (16, .iconst 1, 1, [], .int (1)), (17, .goto (4), 3, [21], .null), (20, .iconst 0, 1, [], .int (0)), (21, .ireturn, 1, [], .null)]
def F_Mo_isAsk (x1 : Int32) (x2 : Int32) (x3 : Int32) (h : Hp) : Res Hp :=
  bI (F_Mo_areTwo x1 x2 h) fun v2 h1 =>
  if v2 = (0 : Int32) then
  (retZ (0 : Int32) h1)
  else
  (bI (F_Mo_isSet x3 h1) fun v4 h3 =>
  if v4 = (0 : Int32) then
  (retZ (0 : Int32) h3)
  else
  (retZ (1 : Int32) h3))
def sF_Mo_isAsk : List Value → Hp → Res Hp := fun as h => match as with | [.ref f0, .int x1, .int x2, .int x3] => (match Nat.beq f0 178 with | true => F_Mo_isAsk x1 x2 x3 h | false => none) | _ => none
theorem w_Mo_isAsk (x1 : Int32) (x2 : Int32) (x3 : Int32) (h : Hp) : sF_Mo_isAsk [.ref 178, .int x1, .int x2, .int x3] h = F_Mo_isAsk x1 x2 x3 h := rfl
def S_Mo_isAsk : Sem Hp := [(98, sF_Mo_areTwo), (100, sF_Mo_isSet)]
set_option maxRecDepth 100000 in
theorem e_Mo_isAsk_0 (x1 : Int32) (x2 : Int32) (x3 : Int32) (h : Hp) : F_Mo_isAsk x1 x2 x3 h = exec1 OI S_Mo_isAsk 2 k_Mo_isAsk 0 [some (.ref 178), some (.int x1), some (.int x2), some (.int x3)] [] h (runF OI S_Mo_isAsk [] 2 k_Mo_isAsk 400) :=
  (x_bI (f := sF_Mo_areTwo) rfl (w_Mo_areTwo _ _ _) fun v2 h1 => (x_ite rfl (x_bI (f := sF_Mo_isSet) rfl (w_Mo_isSet _ _) fun v4 h3 => (x_ite rfl rfl))))
def k_Mo_soon : List Ent := [(0, .aload_n 0, 1, [], .null), (1, .iload_n 1, 1, [], .null), (2, .iload_n 2, 1, [], .null), (3, .iload_n 3, 1, [], .null), (4, .invokevirtual 210, 3, [132, 4, 2], .null), (7, .ifCond .eq (26), 3, [33], .null), (10, .iload 4, 2, [], .null), (12, .iconst 0, 1, [], .int (0)), (13, .bipush (99), 2, [], .int (99)), (15, .invokestatic 72, 3, [71, 3, 2], .null), (18, .ifCond .eq (15), 3, [33], .null), (21, .aload_n 0, 1, [], .null), (22, .iload_n 1, 1, [], .null), (23, .iload_n 2, 1, [], .null), (24, .iload_n 3, 1, [], .null), (25, .iload 4, 2, [], .null), (27, .invokevirtual 213, 3, [131, 5, 1], .null), (30, .goto (4), 3, [34], .null), (33, .iconst (-1), 1, [], .int (-1)), (34, .ireturn, 1, [], .null)]
def F_Mo_soon (x1 : Int32) (x2 : Int32) (x3 : Int32) (x4 : Int32) (h : Hp) : Res Hp :=
  bI (F_Mo_isAsk x1 x2 x3 h) fun v2 h1 =>
  if v2 = (0 : Int32) then
  (retI (-1 : Int32) h1)
  else
  (bI (F_Mo_in x4 (0 : Int32) (99 : Int32) h1) fun v4 h3 =>
  if v4 = (0 : Int32) then
  (retI (-1 : Int32) h3)
  else
  (bI (F_Mo_soonOf x1 x2 x3 x4 h3) fun v6 h5 =>
  retI v6 h5))
def sF_Mo_soon : List Value → Hp → Res Hp := fun as h => match as with | [.ref f0, .int x1, .int x2, .int x3, .int x4] => (match Nat.beq f0 178 with | true => F_Mo_soon x1 x2 x3 x4 h | false => none) | _ => none
theorem w_Mo_soon (x1 : Int32) (x2 : Int32) (x3 : Int32) (x4 : Int32) (h : Hp) : sF_Mo_soon [.ref 178, .int x1, .int x2, .int x3, .int x4] h = F_Mo_soon x1 x2 x3 x4 h := rfl
def S_Mo_soon : Sem Hp := [(132, sF_Mo_isAsk), (71, sF_Mo_in), (131, sF_Mo_soonOf)]
set_option maxRecDepth 100000 in
theorem e_Mo_soon_0 (x1 : Int32) (x2 : Int32) (x3 : Int32) (x4 : Int32) (h : Hp) : F_Mo_soon x1 x2 x3 x4 h = exec1 OI S_Mo_soon 1 k_Mo_soon 0 [some (.ref 178), some (.int x1), some (.int x2), some (.int x3), some (.int x4)] [] h (runF OI S_Mo_soon [] 1 k_Mo_soon 400) :=
  (x_bI (f := sF_Mo_isAsk) rfl (w_Mo_isAsk _ _ _ _) fun v2 h1 => (x_ite rfl (x_bI (f := sF_Mo_in) rfl (w_Mo_in _ _ _ _) fun v4 h3 => (x_ite rfl (x_bI (f := sF_Mo_soonOf) rfl (w_Mo_soonOf _ _ _ _ _) fun v6 h5 => rfl)))))
def k_Mo_costOf : List Ent := [(0, .aload_n 0, 1, [], .null), (1, .iload_n 1, 1, [], .null), (2, .iconst 1, 1, [], .int (1)), (3, .invokevirtual 146, 3, [101, 3, 2], .null), (6, .ifCond .ne (13), 3, [19], .null), (9, .aload_n 0, 1, [], .null), (10, .getfield 28, 3, [7, 9, 1], .null), (13, .iload_n 1, 1, [], .null), (14, .iaload, 1, [], .null), (15, .iconst 5, 1, [], .int (5)), (16, .if_icmp .ne (5), 3, [21], .null), (19, .iconst 0, 1, [], .int (0)), (20, .ireturn, 1, [], .null), (21, .aload_n 0, 1, [], .null), (22, .getfield 28, 3, [7, 9, 1], .null), (25, .iload_n 1, 1, [], .null), (26, .iaload, 1, [], .null), (27, .iconst 2, 1, [], .int (2)), (28, .if_icmp .ne (18), 3, [46], .null), (31, .iload_n 2, 1, [], .null), (32, .iload_n 2, 1, [], .null), (33, .iconst 1, 1, [], .int (1)), (34, .ishl, 1, [], .null), (35, .ior, 1, [], .null), (36, .iload_n 2, 1, [], .null), (37, .iconst 1, 1, [], .int (1)), (38, .ishr, 1, [], .null), (39, .ior, 1, [], .null), (40, .bipush (31), 2, [], .int (31)), (42, .iand, 1, [], .null), (43, .goto (4), 3, [47], .null), (46, .iload_n 2, 1, [], .null), (47, .istore_n 3, 1, [], .null), (48, .aload_n 0, 1, [], .null), (49, .getfield 31, 3, [7, 10, 1], .null), (52, .iload_n 1, 1, [], .null), (53, .iaload, 1, [], .null), (54, .iload_n 3, 1, [], .null), (55, .iand, 1, [], .null), (56, .invokestatic 165, 3, [75, 1, 1], .null), (59, .ireturn, 1, [], .null)]
def F_Mo_costOf (x1 : Int32) (x2 : Int32) (h : Hp) : Res Hp :=
  bI (F_Mo_isA x1 (1 : Int32) h) fun v2 h1 =>
  if v2 = (0 : Int32) then
  (bif okA 185 100 x1 then
  if (hg h1 185 x1.toNatClampNeg) = (5 : Int32) then
  (retI (0 : Int32) h1)
  else
  (bif okA 185 100 x1 then
  if (hg h1 185 x1.toNatClampNeg) = (2 : Int32) then
  (bif okA 186 100 x1 then
  bI (F_Mo_sizeOf ((hg h1 186 x1.toNatClampNeg) &&& (((x2 ||| (x2 <<< ((1 : Int32) &&& 31))) ||| (x2 >>> ((1 : Int32) &&& 31))) &&& (31 : Int32))) h1) fun v6 h5 =>
  retI v6 h5
  else none)
  else
  (bif okA 186 100 x1 then
  bI (F_Mo_sizeOf ((hg h1 186 x1.toNatClampNeg) &&& x2) h1) fun v4 h3 =>
  retI v4 h3
  else none)
  else none)
  else none)
  else
  (retI (0 : Int32) h1)
def sF_Mo_costOf : List Value → Hp → Res Hp := fun as h => match as with | [.ref f0, .int x1, .int x2] => (match Nat.beq f0 178 with | true => F_Mo_costOf x1 x2 h | false => none) | _ => none
theorem w_Mo_costOf (x1 : Int32) (x2 : Int32) (h : Hp) : sF_Mo_costOf [.ref 178, .int x1, .int x2] h = F_Mo_costOf x1 x2 h := rfl
def S_Mo_costOf : Sem Hp := [(101, sF_Mo_isA), (75, sF_Mo_sizeOf)]
set_option maxRecDepth 100000 in
theorem e_Mo_costOf_0 (x1 : Int32) (x2 : Int32) (h : Hp) : F_Mo_costOf x1 x2 h = exec1 OI S_Mo_costOf 1 k_Mo_costOf 0 [some (.ref 178), some (.int x1), some (.int x2), none] [] h (runF OI S_Mo_costOf [] 1 k_Mo_costOf 400) :=
  (x_bI (f := sF_Mo_isA) rfl (w_Mo_isA _ _ _) fun v2 h1 => (x_ite (x_bif (x_ite rfl (x_bif (x_ite (x_bif (x_bI (f := sF_Mo_sizeOf) rfl (w_Mo_sizeOf _ _) fun v6 h5 => rfl)) (x_bif (x_bI (f := sF_Mo_sizeOf) rfl (w_Mo_sizeOf _ _) fun v4 h3 => rfl)))))) rfl))
def k_Mo_meetWay : List Ent := [(0, .aload_n 0, 1, [], .null), (1, .dup, 1, [], .null), (2, .getfield 217, 3, [7, 27, 0], .null), (5, .iconst 1, 1, [], .int (1)), (6, .iadd, 1, [], .null), (7, .putfield 217, 3, [7, 27, 0], .null), (10, .aload_n 0, 1, [], .null), (11, .dup, 1, [], .null), (12, .getfield 220, 3, [7, 28, 0], .null), (15, .iload_n 2, 1, [], .null), (16, .iand, 1, [], .null), (17, .putfield 220, 3, [7, 28, 0], .null), (20, .aload_n 0, 1, [], .null), (21, .getfield 58, 3, [7, 29, 1], .null), (24, .iload_n 2, 1, [], .null), (25, .iconst 1, 1, [], .int (1)), (26, .bastore, 1, [], .null), (27, .aload_n 0, 1, [], .null), (28, .getfield 223, 3, [7, 26, 0], .null), (31, .ldc 226, 2, [], .int (1048576)), (33, .if_icmp .eq (27), 3, [60], .null), (36, .iload_n 3, 1, [], .null), (37, .aload_n 0, 1, [], .null), (38, .getfield 223, 3, [7, 26, 0], .null), (41, .if_icmp .lt (19), 3, [60], .null), (44, .iload_n 3, 1, [], .null), (45, .aload_n 0, 1, [], .null), (46, .getfield 223, 3, [7, 26, 0], .null), (49, .if_icmp .ne (50), 3, [99], .null), (52, .iload_n 1, 1, [], .null), (53, .aload_n 0, 1, [], .null), (54, .getfield 227, 3, [7, 25, 0], .null), (57, .if_icmp .ge (42), 3, [99], .null), (60, .aload_n 0, 1, [], .null), (61, .iload_n 3, 1, [], .null), (62, .putfield 223, 3, [7, 26, 0], .null), (65, .aload_n 0, 1, [], .null), (66, .iload_n 1, 1, [], .null), (67, .putfield 227, 3, [7, 25, 0], .null), (70, .iconst 0, 1, [], .int (0)), (71, .istore 4, 2, [], .null), (73, .iload 4, 2, [], .null), (75, .iload_n 1, 1, [], .null), (76, .if_icmp .ge (23), 3, [99], .null), (79, .aload_n 0, 1, [], .null), (80, .getfield 55, 3, [7, 24, 1], .null), (83, .iload 4, 2, [], .null), (85, .aload_n 0, 1, [], .null), (86, .getfield 52, 3, [7, 23, 1], .null), (89, .iload 4, 2, [], .null), (91, .iaload, 1, [], .null), (92, .iastore, 1, [], .null), (93, .iinc 4 (1), 3, [], .int (1)), (96, .goto (-23), 3, [73], .null), (99, .return_, 1, [], .null)]
def Mo_meetWay_73  (x1 : Int32)  : (Int32 × Hp) → ((Int32 × Hp) → Res Hp) → Res Hp := fun s κ73 => match s with
  | (x4, h) =>
  if x1 ≤ x4 then
  (retV h)
  else
  (bif okA 193 100 x4 then
  bif okA 194 100 x4 then
  bH (hs h 194 x4.toNatClampNeg (hg h 193 x4.toNatClampNeg)) fun h1 =>
  κ73 ((x4 + (1 : Int32)), h1)
  else none
  else none)
def F_Mo_meetWay (x1 : Int32) (x2 : Int32) (x3 : Int32) (h : Hp) : Res Hp :=
  bH (hs h 178 27 ((hg h 178 27) + (1 : Int32))) fun h1 =>
  bH (hs h1 178 28 ((hg h1 178 28) &&& x2)) fun h2 =>
  bif okA 195 101 x2 then
  bH (hs h2 195 x2.toNatClampNeg (vp_nar .boolean (1 : Int32))) fun h3 =>
  if (hg h3 178 26) = (1048576 : Int32) then
  (bH (hs h3 178 26 x3) fun h4 =>
  bH (hs h4 178 25 x1) fun h5 =>
  loopC (Mo_meetWay_73  x1 ) FU ((0 : Int32), h5))
  else
  (if x3 < (hg h3 178 26) then
  (bH (hs h3 178 26 x3) fun h6 =>
  bH (hs h6 178 25 x1) fun h7 =>
  loopC (Mo_meetWay_73  x1 ) FU ((0 : Int32), h7))
  else
  (if x3 = (hg h3 178 26) then
  (if (hg h3 178 25) ≤ x1 then
  (retV h3)
  else
  (bH (hs h3 178 26 x3) fun h8 =>
  bH (hs h8 178 25 x1) fun h9 =>
  loopC (Mo_meetWay_73  x1 ) FU ((0 : Int32), h9)))
  else
  (retV h3)))
  else none
def sF_Mo_meetWay : List Value → Hp → Res Hp := fun as h => match as with | [.ref f0, .int x1, .int x2, .int x3] => (match Nat.beq f0 178 with | true => F_Mo_meetWay x1 x2 x3 h | false => none) | _ => none
theorem w_Mo_meetWay (x1 : Int32) (x2 : Int32) (x3 : Int32) (h : Hp) : sF_Mo_meetWay [.ref 178, .int x1, .int x2, .int x3] h = F_Mo_meetWay x1 x2 x3 h := rfl
def S_Mo_meetWay : Sem Hp := []
set_option maxRecDepth 100000 in
theorem e_Mo_meetWay_0 (x1 : Int32) (x2 : Int32) (x3 : Int32) (h : Hp) : F_Mo_meetWay x1 x2 x3 h = exec1 OI S_Mo_meetWay 0 k_Mo_meetWay 0 [some (.ref 178), some (.int x1), some (.int x2), some (.int x3), none] [] h (runF OI S_Mo_meetWay [(73, [0, 1, 4], fun vs st h => match vs, st with | [.ref f0, .int x1, .int x4], [] => (match Nat.beq f0 178 with | true => loopC (Mo_meetWay_73  x1 ) FU (x4, h) | false => none) | _, _ => none)] 0 k_Mo_meetWay 400) :=
  (x_bH fun h1 => (x_bH fun h2 => (x_bif (x_bH fun h3 => (x_ite (x_bH fun h4 => (x_bH fun h5 => rfl)) (x_ite (x_bH fun h6 => (x_bH fun h7 => rfl)) (x_ite (x_ite rfl (x_bH fun h8 => (x_bH fun h9 => rfl))) rfl)))))))
set_option maxRecDepth 100000 in
theorem e_Mo_meetWay_73 (κ73 : (Int32 × Hp) → Res Hp) (x1 : Int32) (x4 : Int32)  (h : Hp) : Mo_meetWay_73  x1  (x4, h) κ73 = exec1 OI S_Mo_meetWay 0 k_Mo_meetWay 73 [some (.ref 178), some (.int x1), none, none, some (.int x4)] [] h (runF OI S_Mo_meetWay [(73, [0, 1, 4], fun vs st h => match vs, st with | [.ref f0, .int x1, .int x4], [] => (match Nat.beq f0 178 with | true => κ73 (x4, h) | false => none) | _, _ => none)] 0 k_Mo_meetWay 400) :=
  (x_ite rfl (x_bif (x_bif (x_bH fun h1 => rfl))))
def k_Mo_wayOn : List Ent := [(0, .aload_n 0, 1, [], .null), (1, .getfield 52, 3, [7, 23, 1], .null), (4, .iload_n 3, 1, [], .null), (5, .iconst 1, 1, [], .int (1)), (6, .isub, 1, [], .null), (7, .iaload, 1, [], .null), (8, .istore 7, 2, [], .null), (10, .aload_n 0, 1, [], .null), (11, .iload 7, 2, [], .null), (13, .bipush (-9), 2, [], .int (-9)), (15, .invokevirtual 171, 3, [104, 3, 1], .null), (18, .iload 4, 2, [], .null), (20, .iconst (-1), 1, [], .int (-1)), (21, .ixor, 1, [], .null), (22, .iand, 1, [], .null), (23, .istore 8, 2, [], .null), (25, .iconst 0, 1, [], .int (0)), (26, .istore 9, 2, [], .null), (28, .iload 9, 2, [], .null), (30, .aload_n 0, 1, [], .null), (31, .getfield 131, 3, [7, 8, 0], .null), (34, .if_icmp .ge (118), 3, [152], .null), (37, .iload 8, 2, [], .null), (39, .iload 9, 2, [], .null), (41, .invokestatic 195, 3, [74, 2, 2], .null), (44, .ifCond .eq (102), 3, [146], .null), (47, .aload_n 0, 1, [], .null), (48, .getfield 52, 3, [7, 23, 1], .null), (51, .iload_n 3, 1, [], .null), (52, .iload 9, 2, [], .null), (54, .iastore, 1, [], .null), (55, .iload 9, 2, [], .null), (57, .iload_n 1, 1, [], .null), (58, .if_icmp .ne (28), 3, [86], .null), (61, .aload_n 0, 1, [], .null), (62, .iload_n 3, 1, [], .null), (63, .iconst 1, 1, [], .int (1)), (64, .iadd, 1, [], .null), (65, .iload 4, 2, [], .null), (67, .iconst 1, 1, [], .int (1)), (68, .aload_n 0, 1, [], .null), (69, .getfield 52, 3, [7, 23, 1], .null), (72, .iconst 0, 1, [], .int (0)), (73, .iaload, 1, [], .null), (74, .ishl, 1, [], .null), (75, .iconst (-1), 1, [], .int (-1)), (76, .ixor, 1, [], .null), (77, .iand, 1, [], .null), (78, .iload 5, 2, [], .null), (80, .invokevirtual 230, 3, [135, 4, 0], .null), (83, .goto (63), 3, [146], .null), (86, .aload_n 0, 1, [], .null), (87, .iload 9, 2, [], .null), (89, .iload 7, 2, [], .null), (91, .aload_n 0, 1, [], .null), (92, .getfield 52, 3, [7, 23, 1], .null), (95, .iconst 0, 1, [], .int (0)), (96, .iaload, 1, [], .null), (97, .invokevirtual 192, 3, [120, 4, 2], .null), (100, .ifCond .eq (46), 3, [146], .null), (103, .iload 6, 2, [], .null), (105, .ifCond .ne (13), 3, [118], .null), (108, .aload_n 0, 1, [], .null), (109, .iload 9, 2, [], .null), (111, .iload_n 2, 1, [], .null), (112, .invokevirtual 183, 3, [103, 3, 2], .null), (115, .ifCond .eq (31), 3, [146], .null), (118, .aload_n 0, 1, [], .null), (119, .iload_n 1, 1, [], .null), (120, .iload_n 2, 1, [], .null), (121, .iload_n 3, 1, [], .null), (122, .iconst 1, 1, [], .int (1)), (123, .iadd, 1, [], .null), (124, .iload 4, 2, [], .null), (126, .iconst 1, 1, [], .int (1)), (127, .iload 9, 2, [], .null), (129, .ishl, 1, [], .null), (130, .ior, 1, [], .null), (131, .iload 5, 2, [], .null), (133, .aload_n 0, 1, [], .null), (134, .iload 9, 2, [], .null), (136, .iload_n 2, 1, [], .null), (137, .invokevirtual 233, 3, [134, 3, 1], .null), (140, .iadd, 1, [], .null), (141, .iload 6, 2, [], .null), (143, .invokevirtual 236, 3, [136, 7, 0], .null), (146, .iinc 9 (1), 3, [], .int (1)), (149, .goto (-121), 3, [28], .null), (152, .return_, 1, [], .null)]
def Mo_wayOn_28 (self : Int32 → Int32 → Int32 → Int32 → Int32 → Int32 → Hp → Res Hp)   (x1 : Int32) (x2 : Int32) (x3 : Int32) (x4 : Int32) (x5 : Int32) (x6 : Int32) (x7 : Int32) (x8 : Int32)  : (Int32 × Hp) → ((Int32 × Hp) → Res Hp) → Res Hp := fun s κ28 => match s with
  | (x9, h) =>
  if (hg h 178 8) ≤ x9 then
  (retV h)
  else
  (bI (F_Mo_has x8 x9 h) fun v2 h1 =>
  if v2 = (0 : Int32) then
  (κ28 ((x9 + (1 : Int32)), h1))
  else
  (bif okA 193 100 x3 then
  bH (hs h1 193 x3.toNatClampNeg x9) fun h3 =>
  if x9 = x1 then
  (bV (F_Mo_meetWay (x3 + (1 : Int32)) (x4 &&& (((1 : Int32) <<< ((hg h3 193 0) &&& 31)) ^^^ (-1 : Int32))) x5 h3) fun h14 =>
  κ28 ((x9 + (1 : Int32)), h14))
  else
  (bI (F_Mo_takes x9 x7 (hg h3 193 0) h3) fun v5 h4 =>
  if v5 = (0 : Int32) then
  (κ28 ((x9 + (1 : Int32)), h4))
  else
  (if x6 = (0 : Int32) then
  (bI (F_Mo_mayCarry x9 x2 h4) fun v10 h9 =>
  if v10 = (0 : Int32) then
  (κ28 ((x9 + (1 : Int32)), h9))
  else
  (bI (F_Mo_costOf x9 x2 h9) fun v12 h11 =>
  bV (self x1 x2 (x3 + (1 : Int32)) (x4 ||| ((1 : Int32) <<< (x9 &&& 31))) (x5 + v12) x6 h11) fun h13 =>
  κ28 ((x9 + (1 : Int32)), h13)))
  else
  (bI (F_Mo_costOf x9 x2 h4) fun v7 h6 =>
  bV (self x1 x2 (x3 + (1 : Int32)) (x4 ||| ((1 : Int32) <<< (x9 &&& 31))) (x5 + v7) x6 h6) fun h8 =>
  κ28 ((x9 + (1 : Int32)), h8))))
  else none))
def G_Mo_wayOn (self : Int32 → Int32 → Int32 → Int32 → Int32 → Int32 → Hp → Res Hp) (x1 : Int32) (x2 : Int32) (x3 : Int32) (x4 : Int32) (x5 : Int32) (x6 : Int32) (h : Hp) : Res Hp :=
  bif okA 193 100 (x3 - (1 : Int32)) then
  bI (F_Mo_metBy (hg h 193 (x3 - (1 : Int32)).toNatClampNeg) (-9 : Int32) h) fun v2 h1 =>
  loopC (Mo_wayOn_28 self  x1 x2 x3 x4 x5 x6 (hg h 193 (x3 - (1 : Int32)).toNatClampNeg) (v2 &&& (x4 ^^^ (-1 : Int32))) ) FU ((0 : Int32), h1)
  else none
def F_Mo_wayOn (d : Nat) : Int32 → Int32 → Int32 → Int32 → Int32 → Int32 → Hp → Res Hp := Nat.rec (fun _ _ _ _ _ _ _ => none) (fun _ ih => G_Mo_wayOn ih) d
def sF_Mo_wayOn (d : Nat) : List Value → Hp → Res Hp := fun as h => match as with | [.ref f0, .int x1, .int x2, .int x3, .int x4, .int x5, .int x6] => (match Nat.beq f0 178 with | true => F_Mo_wayOn d x1 x2 x3 x4 x5 x6 h | false => none) | _ => none
theorem w_Mo_wayOn (d : Nat) (x1 : Int32) (x2 : Int32) (x3 : Int32) (x4 : Int32) (x5 : Int32) (x6 : Int32) (h : Hp) : sF_Mo_wayOn d [.ref 178, .int x1, .int x2, .int x3, .int x4, .int x5, .int x6] h = F_Mo_wayOn d x1 x2 x3 x4 x5 x6 h := rfl
def S_Mo_wayOn (self : Int32 → Int32 → Int32 → Int32 → Int32 → Int32 → Hp → Res Hp) : Sem Hp := [(104, sF_Mo_metBy), (74, sF_Mo_has), (120, sF_Mo_takes), (134, sF_Mo_costOf), (136, fun as h => match as with | [.ref f0, .int x1, .int x2, .int x3, .int x4, .int x5, .int x6] => (match Nat.beq f0 178 with | true => self x1 x2 x3 x4 x5 x6 h | false => none) | _ => none), (103, sF_Mo_mayCarry), (135, sF_Mo_meetWay)]
set_option maxRecDepth 100000 in
theorem e_Mo_wayOn_0 (self : Int32 → Int32 → Int32 → Int32 → Int32 → Int32 → Hp → Res Hp) (x1 : Int32) (x2 : Int32) (x3 : Int32) (x4 : Int32) (x5 : Int32) (x6 : Int32) (h : Hp) : G_Mo_wayOn self x1 x2 x3 x4 x5 x6 h = exec1 OI (S_Mo_wayOn self) 0 k_Mo_wayOn 0 [some (.ref 178), some (.int x1), some (.int x2), some (.int x3), some (.int x4), some (.int x5), some (.int x6), none, none, none] [] h (runF OI (S_Mo_wayOn self) [(28, [0, 1, 2, 3, 4, 5, 6, 7, 8, 9], fun vs st h => match vs, st with | [.ref f0, .int x1, .int x2, .int x3, .int x4, .int x5, .int x6, .int x7, .int x8, .int x9], [] => (match Nat.beq f0 178 with | true => loopC (Mo_wayOn_28 self  x1 x2 x3 x4 x5 x6 x7 x8 ) FU (x9, h) | false => none) | _, _ => none)] 0 k_Mo_wayOn 400) :=
  (x_bif (x_bI (f := sF_Mo_metBy) rfl (w_Mo_metBy _ _ _) fun v2 h1 => rfl))
set_option maxRecDepth 100000 in
theorem e_Mo_wayOn_28 (self : Int32 → Int32 → Int32 → Int32 → Int32 → Int32 → Hp → Res Hp) (κ28 : (Int32 × Hp) → Res Hp) (x1 : Int32) (x2 : Int32) (x3 : Int32) (x4 : Int32) (x5 : Int32) (x6 : Int32) (x7 : Int32) (x8 : Int32) (x9 : Int32)  (h : Hp) : Mo_wayOn_28 self  x1 x2 x3 x4 x5 x6 x7 x8  (x9, h) κ28 = exec1 OI (S_Mo_wayOn self) 0 k_Mo_wayOn 28 [some (.ref 178), some (.int x1), some (.int x2), some (.int x3), some (.int x4), some (.int x5), some (.int x6), some (.int x7), some (.int x8), some (.int x9)] [] h (runF OI (S_Mo_wayOn self) [(28, [0, 1, 2, 3, 4, 5, 6, 7, 8, 9], fun vs st h => match vs, st with | [.ref f0, .int x1, .int x2, .int x3, .int x4, .int x5, .int x6, .int x7, .int x8, .int x9], [] => (match Nat.beq f0 178 with | true => κ28 (x9, h) | false => none) | _, _ => none)] 0 k_Mo_wayOn 400) :=
  (x_ite rfl (x_bI (f := sF_Mo_has) rfl (w_Mo_has _ _ _) fun v2 h1 => (x_ite rfl (x_bif (x_bH fun h3 => (x_ite (x_bV (f := sF_Mo_meetWay) rfl (w_Mo_meetWay _ _ _ _) fun h14 => rfl) (x_bI (f := sF_Mo_takes) rfl (w_Mo_takes _ _ _ _) fun v5 h4 => (x_ite rfl (x_ite (x_bI (f := sF_Mo_mayCarry) rfl (w_Mo_mayCarry _ _ _) fun v10 h9 => (x_ite rfl (x_bI (f := sF_Mo_costOf) rfl (w_Mo_costOf _ _ _) fun v12 h11 => (x_bV rfl rfl fun h13 => rfl)))) (x_bI (f := sF_Mo_costOf) rfl (w_Mo_costOf _ _ _) fun v7 h6 => (x_bV rfl rfl fun h8 => rfl)))))))))))
def k_Mo_setWays : List Ent := [(0, .aload_n 0, 1, [], .null), (1, .iconst 0, 1, [], .int (0)), (2, .putfield 217, 3, [7, 27, 0], .null), (5, .aload_n 0, 1, [], .null), (6, .bipush (127), 2, [], .int (127)), (8, .putfield 220, 3, [7, 28, 0], .null), (11, .aload_n 0, 1, [], .null), (12, .ldc 226, 2, [], .int (1048576)), (14, .putfield 223, 3, [7, 26, 0], .null), (17, .aload_n 0, 1, [], .null), (18, .iconst 0, 1, [], .int (0)), (19, .putfield 227, 3, [7, 25, 0], .null), (22, .iconst 0, 1, [], .int (0)), (23, .istore 5, 2, [], .null), (25, .iload 5, 2, [], .null), (27, .sipush (128), 3, [], .int (128)), (30, .if_icmp .ge (17), 3, [47], .null), (33, .aload_n 0, 1, [], .null), (34, .getfield 58, 3, [7, 29, 1], .null), (37, .iload 5, 2, [], .null), (39, .iconst 0, 1, [], .int (0)), (40, .bastore, 1, [], .null), (41, .iinc 5 (1), 3, [], .int (1)), (44, .goto (-19), 3, [25], .null), (47, .aload_n 0, 1, [], .null), (48, .getfield 52, 3, [7, 23, 1], .null), (51, .iconst 0, 1, [], .int (0)), (52, .iload_n 1, 1, [], .null), (53, .iastore, 1, [], .null), (54, .aload_n 0, 1, [], .null), (55, .iload_n 2, 1, [], .null), (56, .iload_n 3, 1, [], .null), (57, .iconst 1, 1, [], .int (1)), (58, .iconst 1, 1, [], .int (1)), (59, .iload_n 1, 1, [], .null), (60, .ishl, 1, [], .null), (61, .iconst 0, 1, [], .int (0)), (62, .iload 4, 2, [], .null), (64, .invokevirtual 236, 3, [136, 7, 0], .null), (67, .return_, 1, [], .null)]
def Mo_setWays_25  (x1 : Int32) (x2 : Int32) (x3 : Int32) (x4 : Int32)  : (Int32 × Hp) → ((Int32 × Hp) → Res Hp) → Res Hp := fun s κ25 => match s with
  | (x5, h) =>
  if (128 : Int32) ≤ x5 then
  (bH (hs h 193 0 x1) fun h1 =>
  bV (F_Mo_wayOn 9 x2 x3 (1 : Int32) ((1 : Int32) <<< (x1 &&& 31)) (0 : Int32) x4 h1) fun h2 =>
  retV h2)
  else
  (bif okA 195 101 x5 then
  bH (hs h 195 x5.toNatClampNeg (vp_nar .boolean (0 : Int32))) fun h3 =>
  κ25 ((x5 + (1 : Int32)), h3)
  else none)
def F_Mo_setWays (x1 : Int32) (x2 : Int32) (x3 : Int32) (x4 : Int32) (h : Hp) : Res Hp :=
  bH (hs h 178 27 (0 : Int32)) fun h1 =>
  bH (hs h1 178 28 (127 : Int32)) fun h2 =>
  bH (hs h2 178 26 (1048576 : Int32)) fun h3 =>
  bH (hs h3 178 25 (0 : Int32)) fun h4 =>
  loopC (Mo_setWays_25  x1 x2 x3 x4 ) FU ((0 : Int32), h4)
def sF_Mo_setWays : List Value → Hp → Res Hp := fun as h => match as with | [.ref f0, .int x1, .int x2, .int x3, .int x4] => (match Nat.beq f0 178 with | true => F_Mo_setWays x1 x2 x3 x4 h | false => none) | _ => none
theorem w_Mo_setWays (x1 : Int32) (x2 : Int32) (x3 : Int32) (x4 : Int32) (h : Hp) : sF_Mo_setWays [.ref 178, .int x1, .int x2, .int x3, .int x4] h = F_Mo_setWays x1 x2 x3 x4 h := rfl
def S_Mo_setWays : Sem Hp := [(136, sF_Mo_wayOn 9)]
set_option maxRecDepth 100000 in
theorem e_Mo_setWays_0 (x1 : Int32) (x2 : Int32) (x3 : Int32) (x4 : Int32) (h : Hp) : F_Mo_setWays x1 x2 x3 x4 h = exec1 OI S_Mo_setWays 0 k_Mo_setWays 0 [some (.ref 178), some (.int x1), some (.int x2), some (.int x3), some (.int x4), none] [] h (runF OI S_Mo_setWays [(25, [0, 1, 2, 3, 4, 5], fun vs st h => match vs, st with | [.ref f0, .int x1, .int x2, .int x3, .int x4, .int x5], [] => (match Nat.beq f0 178 with | true => loopC (Mo_setWays_25  x1 x2 x3 x4 ) FU (x5, h) | false => none) | _, _ => none)] 0 k_Mo_setWays 400) :=
  (x_bH fun h1 => (x_bH fun h2 => (x_bH fun h3 => (x_bH fun h4 => rfl))))
set_option maxRecDepth 100000 in
theorem e_Mo_setWays_25 (κ25 : (Int32 × Hp) → Res Hp) (x1 : Int32) (x2 : Int32) (x3 : Int32) (x4 : Int32) (x5 : Int32)  (h : Hp) : Mo_setWays_25  x1 x2 x3 x4  (x5, h) κ25 = exec1 OI S_Mo_setWays 0 k_Mo_setWays 25 [some (.ref 178), some (.int x1), some (.int x2), some (.int x3), some (.int x4), some (.int x5)] [] h (runF OI S_Mo_setWays [(25, [0, 1, 2, 3, 4, 5], fun vs st h => match vs, st with | [.ref f0, .int x1, .int x2, .int x3, .int x4, .int x5], [] => (match Nat.beq f0 178 with | true => κ25 (x5, h) | false => none) | _, _ => none)] 0 k_Mo_setWays 400) :=
  (x_ite (x_bH fun h1 => (x_bV (f := sF_Mo_wayOn 9) rfl (w_Mo_wayOn 9 _ _ _ _ _ _ _) fun h2 => rfl)) (x_bif (x_bH fun h3 => rfl)))
def k_Mo_way : List Ent := [(0, .aload_n 0, 1, [], .null), (1, .iload_n 1, 1, [], .null), (2, .iload_n 2, 1, [], .null), (3, .iload_n 3, 1, [], .null), (4, .invokevirtual 210, 3, [132, 4, 2], .null), (7, .ifCond .eq (11), 3, [18], .null), (10, .iload 4, 2, [], .null), (12, .invokestatic 76, 3, [76, 1, 2], .null), (15, .ifCond .ne (5), 3, [20], .null), (18, .iconst (-1), 1, [], .int (-1)), (19, .ireturn, 1, [], .null), (20, .aload_n 0, 1, [], .null), (21, .iload_n 1, 1, [], .null), (22, .iload_n 2, 1, [], .null), (23, .iload_n 3, 1, [], .null), (24, .iconst 0, 1, [], .int (0)), (25, .invokevirtual 240, 3, [137, 5, 0], .null), (28, .aload_n 0, 1, [], .null), (29, .getfield 217, 3, [7, 27, 0], .null), (32, .ifCond .ne (6), 3, [38], .null), (35, .bipush (-9), 2, [], .int (-9)), (37, .ireturn, 1, [], .null), (38, .aload_n 0, 1, [], .null), (39, .iload 4, 2, [], .null), (41, .aload_n 0, 1, [], .null), (42, .getfield 227, 3, [7, 25, 0], .null), (45, .invokevirtual 207, 3, [82, 3, 1], .null), (48, .pop, 1, [], .null), (49, .iconst 0, 1, [], .int (0)), (50, .istore 5, 2, [], .null), (52, .iload 5, 2, [], .null), (54, .aload_n 0, 1, [], .null), (55, .getfield 227, 3, [7, 25, 0], .null), (58, .if_icmp .ge (24), 3, [82], .null), (61, .aload_n 0, 1, [], .null), (62, .iload 4, 2, [], .null), (64, .iload 5, 2, [], .null), (66, .aload_n 0, 1, [], .null), (67, .getfield 55, 3, [7, 24, 1], .null), (70, .iload 5, 2, [], .null), (72, .iaload, 1, [], .null), (73, .invokevirtual 87, 3, [81, 4, 0], .null), (76, .iinc 5 (1), 3, [], .int (1)), (79, .goto (-27), 3, [52], .null), (82, .aload_n 0, 1, [], .null), (83, .getfield 227, 3, [7, 25, 0], .null), (86, .iconst 2, 1, [], .int (2)), (87, .isub, 1, [], .null), (88, .ireturn, 1, [], .null)]
def Mo_way_52  (x4 : Int32)  : (Int32 × Hp) → ((Int32 × Hp) → Res Hp) → Res Hp := fun s κ52 => match s with
  | (x5, h) =>
  if (hg h 178 25) ≤ x5 then
  (retI ((hg h 178 25) - (2 : Int32)) h)
  else
  (bif okA 194 100 x5 then
  bV (F_Mo_setRow x4 x5 (hg h 194 x5.toNatClampNeg) h) fun h1 =>
  κ52 ((x5 + (1 : Int32)), h1)
  else none)
def F_Mo_way (x1 : Int32) (x2 : Int32) (x3 : Int32) (x4 : Int32) (h : Hp) : Res Hp :=
  bI (F_Mo_isAsk x1 x2 x3 h) fun v2 h1 =>
  if v2 = (0 : Int32) then
  (retI (-1 : Int32) h1)
  else
  (bI (F_Mo_isRow x4 h1) fun v4 h3 =>
  if v4 = (0 : Int32) then
  (retI (-1 : Int32) h3)
  else
  (bV (F_Mo_setWays x1 x2 x3 (0 : Int32) h3) fun h5 =>
  if (hg h5 178 27) = (0 : Int32) then
  (retI (-9 : Int32) h5)
  else
  (bI (F_Mo_row x4 (hg h5 178 25) h5) fun v7 h6 =>
  loopC (Mo_way_52  x4 ) FU ((0 : Int32), h6))))
def sF_Mo_way : List Value → Hp → Res Hp := fun as h => match as with | [.ref f0, .int x1, .int x2, .int x3, .int x4] => (match Nat.beq f0 178 with | true => F_Mo_way x1 x2 x3 x4 h | false => none) | _ => none
theorem w_Mo_way (x1 : Int32) (x2 : Int32) (x3 : Int32) (x4 : Int32) (h : Hp) : sF_Mo_way [.ref 178, .int x1, .int x2, .int x3, .int x4] h = F_Mo_way x1 x2 x3 x4 h := rfl
def S_Mo_way : Sem Hp := [(132, sF_Mo_isAsk), (76, sF_Mo_isRow), (137, sF_Mo_setWays), (82, sF_Mo_row), (81, sF_Mo_setRow)]
set_option maxRecDepth 100000 in
theorem e_Mo_way_0 (x1 : Int32) (x2 : Int32) (x3 : Int32) (x4 : Int32) (h : Hp) : F_Mo_way x1 x2 x3 x4 h = exec1 OI S_Mo_way 1 k_Mo_way 0 [some (.ref 178), some (.int x1), some (.int x2), some (.int x3), some (.int x4), none] [] h (runF OI S_Mo_way [(52, [0, 4, 5], fun vs st h => match vs, st with | [.ref f0, .int x4, .int x5], [] => (match Nat.beq f0 178 with | true => loopC (Mo_way_52  x4 ) FU (x5, h) | false => none) | _, _ => none)] 1 k_Mo_way 400) :=
  (x_bI (f := sF_Mo_isAsk) rfl (w_Mo_isAsk _ _ _ _) fun v2 h1 => (x_ite rfl (x_bI (f := sF_Mo_isRow) rfl (w_Mo_isRow _ _) fun v4 h3 => (x_ite rfl (x_bV (f := sF_Mo_setWays) rfl (w_Mo_setWays _ _ _ _ _) fun h5 => (x_ite rfl (x_bI (f := sF_Mo_row) rfl (w_Mo_row _ _ _) fun v7 h6 => rfl)))))))
set_option maxRecDepth 100000 in
theorem e_Mo_way_52 (κ52 : (Int32 × Hp) → Res Hp) (x4 : Int32) (x5 : Int32)  (h : Hp) : Mo_way_52  x4  (x5, h) κ52 = exec1 OI S_Mo_way 1 k_Mo_way 52 [some (.ref 178), none, none, none, some (.int x4), some (.int x5)] [] h (runF OI S_Mo_way [(52, [0, 4, 5], fun vs st h => match vs, st with | [.ref f0, .int x4, .int x5], [] => (match Nat.beq f0 178 with | true => κ52 (x5, h) | false => none) | _, _ => none)] 1 k_Mo_way 400) :=
  (x_ite rfl (x_bif (x_bV (f := sF_Mo_setRow) rfl (w_Mo_setRow _ _ _ _) fun h1 => rfl)))
def k_Mo_tongue : List Ent := [(0, .aload_n 0, 1, [], .null), (1, .iload_n 1, 1, [], .null), (2, .iload_n 2, 1, [], .null), (3, .invokevirtual 177, 3, [98, 3, 2], .null), (6, .ifCond .eq (13), 3, [19], .null), (9, .iload_n 3, 1, [], .null), (10, .iconst 0, 1, [], .int (0)), (11, .bipush (99), 2, [], .int (99)), (13, .invokestatic 72, 3, [71, 3, 2], .null), (16, .ifCond .ne (5), 3, [21], .null), (19, .iconst (-1), 1, [], .int (-1)), (20, .ireturn, 1, [], .null), (21, .bipush (-9), 2, [], .int (-9)), (23, .istore 4, 2, [], .null), (25, .ldc 226, 2, [], .int (1048576)), (27, .istore 5, 2, [], .null), (29, .iconst 0, 1, [], .int (0)), (30, .istore 6, 2, [], .null), (32, .iload 6, 2, [], .null), (34, .iconst 5, 1, [], .int (5)), (35, .if_icmp .ge (86), 3, [121], .null), (38, .aload_n 0, 1, [], .null), (39, .iload_n 1, 1, [], .null), (40, .iload_n 2, 1, [], .null), (41, .iconst 1, 1, [], .int (1)), (42, .iload 6, 2, [], .null), (44, .ishl, 1, [], .null), (45, .invokevirtual 186, 3, [117, 4, 2], .null), (48, .ifCond .eq (17), 3, [65], .null), (51, .aload_n 0, 1, [], .null), (52, .iload_n 1, 1, [], .null), (53, .iload_n 2, 1, [], .null), (54, .iconst 1, 1, [], .int (1)), (55, .iload 6, 2, [], .null), (57, .ishl, 1, [], .null), (58, .iload_n 3, 1, [], .null), (59, .invokevirtual 213, 3, [131, 5, 1], .null), (62, .goto (5), 3, [67], .null), (65, .bipush (-9), 2, [], .int (-9)), (67, .istore 7, 2, [], .null), (69, .iload 7, 2, [], .null), (71, .bipush (-9), 2, [], .int (-9)), (73, .if_icmp .eq (15), 3, [88], .null), (76, .iload 7, 2, [], .null), (78, .iload 5, 2, [], .null), (80, .if_icmp .ge (8), 3, [88], .null), (83, .iload 6, 2, [], .null), (85, .goto (5), 3, [90], .null), (88, .iload 4, 2, [], .null), (90, .istore 4, 2, [], .null), (92, .iload 7, 2, [], .null), (94, .bipush (-9), 2, [], .int (-9)), (96, .if_icmp .eq (15), 3, [111], .null), (99, .iload 7, 2, [], .null), (101, .iload 5, 2, [], .null), (103, .if_icmp .ge (8), 3, [111], .null), (106, .iload 7, 2, [], .null), (108, .goto (5), 3, [113], .null), (111, .iload 5, 2, [], .null), (113, .istore 5, 2, [], .null), (115, .iinc 6 (1), 3, [], .int (1)), (118, .goto (-86), 3, [32], .null), (121, .iload 4, 2, [], .null), (123, .bipush (-9), 2, [], .int (-9)), (125, .if_icmp .ne (8), 3, [133], .null), (128, .bipush (-9), 2, [], .int (-9)), (130, .goto (11), 3, [141], .null), (133, .aload_n 0, 1, [], .null), (134, .iload 5, 2, [], .null), (136, .iload 4, 2, [], .null), (138, .invokevirtual 98, 3, [73, 3, 1], .null), (141, .ireturn, 1, [], .null)]
def Mo_tongue_32  (x1 : Int32) (x2 : Int32) (x3 : Int32)  : (Int32 × Int32 × Int32 × Hp) → ((Int32 × Int32 × Int32 × Hp) → Res Hp) → Res Hp := fun s κ32 => match s with
  | (x4, x5, x6, h) =>
  if (5 : Int32) ≤ x6 then
  (if x4 = (-9 : Int32) then
  (retI (-9 : Int32) h)
  else
  (bI (F_Mo_ask x5 x4 h) fun v2 h1 =>
  retI v2 h1))
  else
  (bI (F_Mo_writes x1 x2 ((1 : Int32) <<< (x6 &&& 31)) h) fun v4 h3 =>
  if v4 = (0 : Int32) then
  (κ32 (x4, x5, (x6 + (1 : Int32)), h3))
  else
  (bI (F_Mo_soonOf x1 x2 ((1 : Int32) <<< (x6 &&& 31)) x3 h3) fun v6 h5 =>
  if v6 = (-9 : Int32) then
  (if v6 = (-9 : Int32) then
  (κ32 (x4, x5, (x6 + (1 : Int32)), h5))
  else
  (if x5 ≤ v6 then
  (κ32 (x4, x5, (x6 + (1 : Int32)), h5))
  else
  (κ32 (x4, v6, (x6 + (1 : Int32)), h5))))
  else
  (if x5 ≤ v6 then
  (if v6 = (-9 : Int32) then
  (κ32 (x4, x5, (x6 + (1 : Int32)), h5))
  else
  (if x5 ≤ v6 then
  (κ32 (x4, x5, (x6 + (1 : Int32)), h5))
  else
  (κ32 (x4, v6, (x6 + (1 : Int32)), h5))))
  else
  (if v6 = (-9 : Int32) then
  (κ32 (x6, x5, (x6 + (1 : Int32)), h5))
  else
  (if x5 ≤ v6 then
  (κ32 (x6, x5, (x6 + (1 : Int32)), h5))
  else
  (κ32 (x6, v6, (x6 + (1 : Int32)), h5)))))))
def F_Mo_tongue (x1 : Int32) (x2 : Int32) (x3 : Int32) (h : Hp) : Res Hp :=
  bI (F_Mo_areTwo x1 x2 h) fun v2 h1 =>
  if v2 = (0 : Int32) then
  (retI (-1 : Int32) h1)
  else
  (bI (F_Mo_in x3 (0 : Int32) (99 : Int32) h1) fun v4 h3 =>
  if v4 = (0 : Int32) then
  (retI (-1 : Int32) h3)
  else
  (loopC (Mo_tongue_32  x1 x2 x3 ) FU ((-9 : Int32), (1048576 : Int32), (0 : Int32), h3)))
def sF_Mo_tongue : List Value → Hp → Res Hp := fun as h => match as with | [.ref f0, .int x1, .int x2, .int x3] => (match Nat.beq f0 178 with | true => F_Mo_tongue x1 x2 x3 h | false => none) | _ => none
theorem w_Mo_tongue (x1 : Int32) (x2 : Int32) (x3 : Int32) (h : Hp) : sF_Mo_tongue [.ref 178, .int x1, .int x2, .int x3] h = F_Mo_tongue x1 x2 x3 h := rfl
def S_Mo_tongue : Sem Hp := [(98, sF_Mo_areTwo), (71, sF_Mo_in), (73, sF_Mo_ask), (117, sF_Mo_writes), (131, sF_Mo_soonOf)]
set_option maxRecDepth 100000 in
theorem e_Mo_tongue_0 (x1 : Int32) (x2 : Int32) (x3 : Int32) (h : Hp) : F_Mo_tongue x1 x2 x3 h = exec1 OI S_Mo_tongue 1 k_Mo_tongue 0 [some (.ref 178), some (.int x1), some (.int x2), some (.int x3), none, none, none, none] [] h (runF OI S_Mo_tongue [(32, [0, 1, 2, 3, 4, 5, 6], fun vs st h => match vs, st with | [.ref f0, .int x1, .int x2, .int x3, .int x4, .int x5, .int x6], [] => (match Nat.beq f0 178 with | true => loopC (Mo_tongue_32  x1 x2 x3 ) FU (x4, x5, x6, h) | false => none) | _, _ => none)] 1 k_Mo_tongue 400) :=
  (x_bI (f := sF_Mo_areTwo) rfl (w_Mo_areTwo _ _ _) fun v2 h1 => (x_ite rfl (x_bI (f := sF_Mo_in) rfl (w_Mo_in _ _ _ _) fun v4 h3 => (x_ite rfl rfl))))
set_option maxRecDepth 100000 in
theorem e_Mo_tongue_32 (κ32 : (Int32 × Int32 × Int32 × Hp) → Res Hp) (x1 : Int32) (x2 : Int32) (x3 : Int32) (x4 : Int32) (x5 : Int32) (x6 : Int32)  (h : Hp) : Mo_tongue_32  x1 x2 x3  (x4, x5, x6, h) κ32 = exec1 OI S_Mo_tongue 1 k_Mo_tongue 32 [some (.ref 178), some (.int x1), some (.int x2), some (.int x3), some (.int x4), some (.int x5), some (.int x6), none] [] h (runF OI S_Mo_tongue [(32, [0, 1, 2, 3, 4, 5, 6], fun vs st h => match vs, st with | [.ref f0, .int x1, .int x2, .int x3, .int x4, .int x5, .int x6], [] => (match Nat.beq f0 178 with | true => κ32 (x4, x5, x6, h) | false => none) | _, _ => none)] 1 k_Mo_tongue 400) :=
  (x_ite (x_ite rfl (x_bI (f := sF_Mo_ask) rfl (w_Mo_ask _ _ _) fun v2 h1 => rfl)) (x_bI (f := sF_Mo_writes) rfl (w_Mo_writes _ _ _ _) fun v4 h3 => (x_ite rfl (x_bI (f := sF_Mo_soonOf) rfl (w_Mo_soonOf _ _ _ _ _) fun v6 h5 => (x_ite (x_ite rfl (x_ite rfl rfl)) (x_ite (x_ite rfl (x_ite rfl rfl)) (x_ite rfl (x_ite rfl rfl))))))))
def k_Mo_parts : List Ent := [(0, .aload_n 0, 1, [], .null), (1, .iload_n 1, 1, [], .null), (2, .iload_n 2, 1, [], .null), (3, .iload_n 3, 1, [], .null), (4, .invokevirtual 210, 3, [132, 4, 2], .null), (7, .ifCond .eq (14), 3, [21], .null), (10, .iload 4, 2, [], .null), (12, .iconst 0, 1, [], .int (0)), (13, .bipush (99), 2, [], .int (99)), (15, .invokestatic 72, 3, [71, 3, 2], .null), (18, .ifCond .ne (5), 3, [23], .null), (21, .iconst (-1), 1, [], .int (-1)), (22, .ireturn, 1, [], .null), (23, .iconst 0, 1, [], .int (0)), (24, .istore 5, 2, [], .null), (26, .iconst 0, 1, [], .int (0)), (27, .istore 6, 2, [], .null), (29, .iload 6, 2, [], .null), (31, .iconst 5, 1, [], .int (5)), (32, .if_icmp .ge (62), 3, [94], .null), (35, .iload_n 3, 1, [], .null), (36, .iload 6, 2, [], .null), (38, .invokestatic 195, 3, [74, 2, 2], .null), (41, .ifCond .eq (18), 3, [59], .null), (44, .aload_n 0, 1, [], .null), (45, .iload_n 1, 1, [], .null), (46, .iload_n 2, 1, [], .null), (47, .iconst 1, 1, [], .int (1)), (48, .iload 6, 2, [], .null), (50, .ishl, 1, [], .null), (51, .iload 4, 2, [], .null), (53, .invokevirtual 213, 3, [131, 5, 1], .null), (56, .goto (4), 3, [60], .null), (59, .iconst 0, 1, [], .int (0)), (60, .istore 7, 2, [], .null), (62, .iload 7, 2, [], .null), (64, .bipush (-9), 2, [], .int (-9)), (66, .if_icmp .ne (6), 3, [72], .null), (69, .bipush (-9), 2, [], .int (-9)), (71, .ireturn, 1, [], .null), (72, .iload 7, 2, [], .null), (74, .iload 5, 2, [], .null), (76, .if_icmp .le (8), 3, [84], .null), (79, .iload 7, 2, [], .null), (81, .goto (5), 3, [86], .null), (84, .iload 5, 2, [], .null), (86, .istore 5, 2, [], .null), (88, .iinc 6 (1), 3, [], .int (1)), (91, .goto (-62), 3, [29], .null), (94, .iload 5, 2, [], .null), (96, .ireturn, 1, [], .null)]
def Mo_parts_29  (x1 : Int32) (x2 : Int32) (x3 : Int32) (x4 : Int32)  : (Int32 × Int32 × Hp) → ((Int32 × Int32 × Hp) → Res Hp) → Res Hp := fun s κ29 => match s with
  | (x5, x6, h) =>
  if (5 : Int32) ≤ x6 then
  (retI x5 h)
  else
  (bI (F_Mo_has x3 x6 h) fun v2 h1 =>
  if v2 = (0 : Int32) then
  (if (0 : Int32) ≤ x5 then
  (κ29 (x5, (x6 + (1 : Int32)), h1))
  else
  (κ29 ((0 : Int32), (x6 + (1 : Int32)), h1)))
  else
  (bI (F_Mo_soonOf x1 x2 ((1 : Int32) <<< (x6 &&& 31)) x4 h1) fun v4 h3 =>
  if v4 = (-9 : Int32) then
  (retI (-9 : Int32) h3)
  else
  (if v4 ≤ x5 then
  (κ29 (x5, (x6 + (1 : Int32)), h3))
  else
  (κ29 (v4, (x6 + (1 : Int32)), h3)))))
def F_Mo_parts (x1 : Int32) (x2 : Int32) (x3 : Int32) (x4 : Int32) (h : Hp) : Res Hp :=
  bI (F_Mo_isAsk x1 x2 x3 h) fun v2 h1 =>
  if v2 = (0 : Int32) then
  (retI (-1 : Int32) h1)
  else
  (bI (F_Mo_in x4 (0 : Int32) (99 : Int32) h1) fun v4 h3 =>
  if v4 = (0 : Int32) then
  (retI (-1 : Int32) h3)
  else
  (loopC (Mo_parts_29  x1 x2 x3 x4 ) FU ((0 : Int32), (0 : Int32), h3)))
def sF_Mo_parts : List Value → Hp → Res Hp := fun as h => match as with | [.ref f0, .int x1, .int x2, .int x3, .int x4] => (match Nat.beq f0 178 with | true => F_Mo_parts x1 x2 x3 x4 h | false => none) | _ => none
theorem w_Mo_parts (x1 : Int32) (x2 : Int32) (x3 : Int32) (x4 : Int32) (h : Hp) : sF_Mo_parts [.ref 178, .int x1, .int x2, .int x3, .int x4] h = F_Mo_parts x1 x2 x3 x4 h := rfl
def S_Mo_parts : Sem Hp := [(132, sF_Mo_isAsk), (71, sF_Mo_in), (74, sF_Mo_has), (131, sF_Mo_soonOf)]
set_option maxRecDepth 100000 in
theorem e_Mo_parts_0 (x1 : Int32) (x2 : Int32) (x3 : Int32) (x4 : Int32) (h : Hp) : F_Mo_parts x1 x2 x3 x4 h = exec1 OI S_Mo_parts 1 k_Mo_parts 0 [some (.ref 178), some (.int x1), some (.int x2), some (.int x3), some (.int x4), none, none, none] [] h (runF OI S_Mo_parts [(29, [0, 1, 2, 3, 4, 5, 6], fun vs st h => match vs, st with | [.ref f0, .int x1, .int x2, .int x3, .int x4, .int x5, .int x6], [] => (match Nat.beq f0 178 with | true => loopC (Mo_parts_29  x1 x2 x3 x4 ) FU (x5, x6, h) | false => none) | _, _ => none)] 1 k_Mo_parts 400) :=
  (x_bI (f := sF_Mo_isAsk) rfl (w_Mo_isAsk _ _ _ _) fun v2 h1 => (x_ite rfl (x_bI (f := sF_Mo_in) rfl (w_Mo_in _ _ _ _) fun v4 h3 => (x_ite rfl rfl))))
set_option maxRecDepth 100000 in
theorem e_Mo_parts_29 (κ29 : (Int32 × Int32 × Hp) → Res Hp) (x1 : Int32) (x2 : Int32) (x3 : Int32) (x4 : Int32) (x5 : Int32) (x6 : Int32)  (h : Hp) : Mo_parts_29  x1 x2 x3 x4  (x5, x6, h) κ29 = exec1 OI S_Mo_parts 1 k_Mo_parts 29 [some (.ref 178), some (.int x1), some (.int x2), some (.int x3), some (.int x4), some (.int x5), some (.int x6), none] [] h (runF OI S_Mo_parts [(29, [0, 1, 2, 3, 4, 5, 6], fun vs st h => match vs, st with | [.ref f0, .int x1, .int x2, .int x3, .int x4, .int x5, .int x6], [] => (match Nat.beq f0 178 with | true => κ29 (x5, x6, h) | false => none) | _, _ => none)] 1 k_Mo_parts 400) :=
  (x_ite rfl (x_bI (f := sF_Mo_has) rfl (w_Mo_has _ _ _) fun v2 h1 => (x_ite (x_ite rfl rfl) (x_bI (f := sF_Mo_soonOf) rfl (w_Mo_soonOf _ _ _ _ _) fun v4 h3 => (x_ite rfl (x_ite rfl rfl))))))
def k_Mo_packOn : List Ent := [(0, .iconst 0, 1, [], .int (0)), (1, .istore_n 3, 1, [], .null), (2, .iload_n 1, 1, [], .null), (3, .istore 4, 2, [], .null), (5, .iload 4, 2, [], .null), (7, .sipush (128), 3, [], .int (128)), (10, .if_icmp .ge (64), 3, [74], .null), (13, .iload 4, 2, [], .null), (15, .ifCond .le (53), 3, [68], .null), (18, .aload_n 0, 1, [], .null), (19, .getfield 58, 3, [7, 29, 1], .null), (22, .iload 4, 2, [], .null), (24, .baload, 1, [], .null), (25, .ifCond .eq (43), 3, [68], .null), (28, .iload 4, 2, [], .null), (30, .iload_n 2, 1, [], .null), (31, .iconst (-1), 1, [], .int (-1)), (32, .ixor, 1, [], .null), (33, .iand, 1, [], .null), (34, .ifCond .ne (34), 3, [68], .null), (37, .iconst 1, 1, [], .int (1)), (38, .aload_n 0, 1, [], .null), (39, .iload 4, 2, [], .null), (41, .iconst 1, 1, [], .int (1)), (42, .iadd, 1, [], .null), (43, .iload_n 2, 1, [], .null), (44, .iload 4, 2, [], .null), (46, .iconst (-1), 1, [], .int (-1)), (47, .ixor, 1, [], .null), (48, .iand, 1, [], .null), (49, .invokevirtual 244, 3, [141, 3, 1], .null), (52, .iadd, 1, [], .null), (53, .istore 5, 2, [], .null), (55, .iload 5, 2, [], .null), (57, .iload_n 3, 1, [], .null), (58, .if_icmp .le (8), 3, [66], .null), (61, .iload 5, 2, [], .null), (63, .goto (4), 3, [67], .null), (66, .iload_n 3, 1, [], .null), (67, .istore_n 3, 1, [], .null), (68, .iinc 4 (1), 3, [], .int (1)), (71, .goto (-66), 3, [5], .null), (74, .iload_n 3, 1, [], .null), (75, .ireturn, 1, [], .null)]
def Mo_packOn_5 (self : Int32 → Int32 → Hp → Res Hp)   (x2 : Int32)  : (Int32 × Int32 × Hp) → ((Int32 × Int32 × Hp) → Res Hp) → Res Hp := fun s κ5 => match s with
  | (x3, x4, h) =>
  if (128 : Int32) ≤ x4 then
  (retI x3 h)
  else
  (if x4 ≤ (0 : Int32) then
  (κ5 (x3, (x4 + (1 : Int32)), h))
  else
  (bif okA 195 101 x4 then
  if (hg h 195 x4.toNatClampNeg) = (0 : Int32) then
  (κ5 (x3, (x4 + (1 : Int32)), h))
  else
  (if (x4 &&& (x2 ^^^ (-1 : Int32))) = (0 : Int32) then
  (bI (self (x4 + (1 : Int32)) (x2 &&& (x4 ^^^ (-1 : Int32))) h) fun v2 h1 =>
  if ((1 : Int32) + v2) ≤ x3 then
  (κ5 (x3, (x4 + (1 : Int32)), h1))
  else
  (κ5 (((1 : Int32) + v2), (x4 + (1 : Int32)), h1)))
  else
  (κ5 (x3, (x4 + (1 : Int32)), h)))
  else none))
def G_Mo_packOn (self : Int32 → Int32 → Hp → Res Hp) (x1 : Int32) (x2 : Int32) (h : Hp) : Res Hp :=
  loopC (Mo_packOn_5 self  x2 ) FU ((0 : Int32), x1, h)
def F_Mo_packOn (d : Nat) : Int32 → Int32 → Hp → Res Hp := Nat.rec (fun _ _ _ => none) (fun _ ih => G_Mo_packOn ih) d
def sF_Mo_packOn (d : Nat) : List Value → Hp → Res Hp := fun as h => match as with | [.ref f0, .int x1, .int x2] => (match Nat.beq f0 178 with | true => F_Mo_packOn d x1 x2 h | false => none) | _ => none
theorem w_Mo_packOn (d : Nat) (x1 : Int32) (x2 : Int32) (h : Hp) : sF_Mo_packOn d [.ref 178, .int x1, .int x2] h = F_Mo_packOn d x1 x2 h := rfl
def S_Mo_packOn (self : Int32 → Int32 → Hp → Res Hp) : Sem Hp := [(141, fun as h => match as with | [.ref f0, .int x1, .int x2] => (match Nat.beq f0 178 with | true => self x1 x2 h | false => none) | _ => none)]
set_option maxRecDepth 100000 in
theorem e_Mo_packOn_0 (self : Int32 → Int32 → Hp → Res Hp) (x1 : Int32) (x2 : Int32) (h : Hp) : G_Mo_packOn self x1 x2 h = exec1 OI (S_Mo_packOn self) 1 k_Mo_packOn 0 [some (.ref 178), some (.int x1), some (.int x2), none, none, none] [] h (runF OI (S_Mo_packOn self) [(5, [0, 2, 3, 4], fun vs st h => match vs, st with | [.ref f0, .int x2, .int x3, .int x4], [] => (match Nat.beq f0 178 with | true => loopC (Mo_packOn_5 self  x2 ) FU (x3, x4, h) | false => none) | _, _ => none)] 1 k_Mo_packOn 400) :=
  rfl
set_option maxRecDepth 100000 in
theorem e_Mo_packOn_5 (self : Int32 → Int32 → Hp → Res Hp) (κ5 : (Int32 × Int32 × Hp) → Res Hp) (x2 : Int32) (x3 : Int32) (x4 : Int32)  (h : Hp) : Mo_packOn_5 self  x2  (x3, x4, h) κ5 = exec1 OI (S_Mo_packOn self) 1 k_Mo_packOn 5 [some (.ref 178), none, some (.int x2), some (.int x3), some (.int x4), none] [] h (runF OI (S_Mo_packOn self) [(5, [0, 2, 3, 4], fun vs st h => match vs, st with | [.ref f0, .int x2, .int x3, .int x4], [] => (match Nat.beq f0 178 with | true => κ5 (x3, x4, h) | false => none) | _, _ => none)] 1 k_Mo_packOn 400) :=
  (x_ite rfl (x_ite rfl (x_bif (x_ite rfl (x_ite (x_bI rfl rfl fun v2 h1 => (x_ite rfl rfl)) rfl)))))
def k_Mo_apart : List Ent := [(0, .aload_n 0, 1, [], .null), (1, .iload_n 1, 1, [], .null), (2, .iload_n 2, 1, [], .null), (3, .iload_n 3, 1, [], .null), (4, .invokevirtual 210, 3, [132, 4, 2], .null), (7, .ifCond .ne (5), 3, [12], .null), (10, .iconst (-1), 1, [], .int (-1)), (11, .ireturn, 1, [], .null), (12, .aload_n 0, 1, [], .null), (13, .iload_n 1, 1, [], .null), (14, .iload_n 2, 1, [], .null), (15, .iload_n 3, 1, [], .null), (16, .iconst 0, 1, [], .int (0)), (17, .invokevirtual 240, 3, [137, 5, 0], .null), (20, .aload_n 0, 1, [], .null), (21, .getfield 58, 3, [7, 29, 1], .null), (24, .iconst 0, 1, [], .int (0)), (25, .baload, 1, [], .null), (26, .ifCond .eq (7), 3, [33], .null), (29, .iconst 1, 1, [], .int (1)), (30, .goto (4), 3, [34], .null), (33, .iconst 0, 1, [], .int (0)), (34, .aload_n 0, 1, [], .null), (35, .iconst 1, 1, [], .int (1)), (36, .bipush (127), 2, [], .int (127)), (38, .invokevirtual 244, 3, [141, 3, 1], .null), (41, .iadd, 1, [], .null), (42, .ireturn, 1, [], .null)]
def F_Mo_apart (x1 : Int32) (x2 : Int32) (x3 : Int32) (h : Hp) : Res Hp :=
  bI (F_Mo_isAsk x1 x2 x3 h) fun v2 h1 =>
  if v2 = (0 : Int32) then
  (retI (-1 : Int32) h1)
  else
  (bV (F_Mo_setWays x1 x2 x3 (0 : Int32) h1) fun h3 =>
  if (hg h3 195 0) = (0 : Int32) then
  (bI (F_Mo_packOn 9 (1 : Int32) (127 : Int32) h3) fun v5 h4 =>
  retI ((0 : Int32) + v5) h4)
  else
  (bI (F_Mo_packOn 9 (1 : Int32) (127 : Int32) h3) fun v7 h6 =>
  retI ((1 : Int32) + v7) h6))
def sF_Mo_apart : List Value → Hp → Res Hp := fun as h => match as with | [.ref f0, .int x1, .int x2, .int x3] => (match Nat.beq f0 178 with | true => F_Mo_apart x1 x2 x3 h | false => none) | _ => none
theorem w_Mo_apart (x1 : Int32) (x2 : Int32) (x3 : Int32) (h : Hp) : sF_Mo_apart [.ref 178, .int x1, .int x2, .int x3] h = F_Mo_apart x1 x2 x3 h := rfl
def S_Mo_apart : Sem Hp := [(132, sF_Mo_isAsk), (137, sF_Mo_setWays), (141, sF_Mo_packOn 9)]
set_option maxRecDepth 100000 in
theorem e_Mo_apart_0 (x1 : Int32) (x2 : Int32) (x3 : Int32) (h : Hp) : F_Mo_apart x1 x2 x3 h = exec1 OI S_Mo_apart 1 k_Mo_apart 0 [some (.ref 178), some (.int x1), some (.int x2), some (.int x3)] [] h (runF OI S_Mo_apart [] 1 k_Mo_apart 400) :=
  (x_bI (f := sF_Mo_isAsk) rfl (w_Mo_isAsk _ _ _ _) fun v2 h1 => (x_ite rfl (x_bV (f := sF_Mo_setWays) rfl (w_Mo_setWays _ _ _ _ _) fun h3 => (x_ite (x_bI (f := sF_Mo_packOn 9) rfl (w_Mo_packOn 9 _ _ _) fun v5 h4 => rfl) (x_bI (f := sF_Mo_packOn 9) rfl (w_Mo_packOn 9 _ _ _) fun v7 h6 => rfl)))))
def k_Mo_needs : List Ent := [(0, .aload_n 0, 1, [], .null), (1, .iload_n 1, 1, [], .null), (2, .iload_n 2, 1, [], .null), (3, .iload_n 3, 1, [], .null), (4, .invokevirtual 210, 3, [132, 4, 2], .null), (7, .ifCond .ne (5), 3, [12], .null), (10, .iconst (-1), 1, [], .int (-1)), (11, .ireturn, 1, [], .null), (12, .aload_n 0, 1, [], .null), (13, .iload_n 1, 1, [], .null), (14, .iload_n 2, 1, [], .null), (15, .iload_n 3, 1, [], .null), (16, .iconst 0, 1, [], .int (0)), (17, .invokevirtual 240, 3, [137, 5, 0], .null), (20, .aload_n 0, 1, [], .null), (21, .getfield 217, 3, [7, 27, 0], .null), (24, .ifCond .ne (7), 3, [31], .null), (27, .iconst 0, 1, [], .int (0)), (28, .goto (7), 3, [35], .null), (31, .aload_n 0, 1, [], .null), (32, .getfield 220, 3, [7, 28, 0], .null), (35, .ireturn, 1, [], .null)]
def F_Mo_needs (x1 : Int32) (x2 : Int32) (x3 : Int32) (h : Hp) : Res Hp :=
  bI (F_Mo_isAsk x1 x2 x3 h) fun v2 h1 =>
  if v2 = (0 : Int32) then
  (retI (-1 : Int32) h1)
  else
  (bV (F_Mo_setWays x1 x2 x3 (0 : Int32) h1) fun h3 =>
  if (hg h3 178 27) = (0 : Int32) then
  (retI (0 : Int32) h3)
  else
  (retI (hg h3 178 28) h3))
def sF_Mo_needs : List Value → Hp → Res Hp := fun as h => match as with | [.ref f0, .int x1, .int x2, .int x3] => (match Nat.beq f0 178 with | true => F_Mo_needs x1 x2 x3 h | false => none) | _ => none
theorem w_Mo_needs (x1 : Int32) (x2 : Int32) (x3 : Int32) (h : Hp) : sF_Mo_needs [.ref 178, .int x1, .int x2, .int x3] h = F_Mo_needs x1 x2 x3 h := rfl
def S_Mo_needs : Sem Hp := [(132, sF_Mo_isAsk), (137, sF_Mo_setWays)]
set_option maxRecDepth 100000 in
theorem e_Mo_needs_0 (x1 : Int32) (x2 : Int32) (x3 : Int32) (h : Hp) : F_Mo_needs x1 x2 x3 h = exec1 OI S_Mo_needs 1 k_Mo_needs 0 [some (.ref 178), some (.int x1), some (.int x2), some (.int x3)] [] h (runF OI S_Mo_needs [] 1 k_Mo_needs 400) :=
  (x_bI (f := sF_Mo_isAsk) rfl (w_Mo_isAsk _ _ _ _) fun v2 h1 => (x_ite rfl (x_bV (f := sF_Mo_setWays) rfl (w_Mo_setWays _ _ _ _ _) fun h3 => (x_ite rfl rfl))))
def k_Mo_forget : List Ent := [(0, .aload_n 0, 1, [], .null), (1, .iload_n 1, 1, [], .null), (2, .iload_n 2, 1, [], .null), (3, .iload_n 3, 1, [], .null), (4, .invokevirtual 210, 3, [132, 4, 2], .null), (7, .ifCond .ne (5), 3, [12], .null), (10, .iconst (-1), 1, [], .int (-1)), (11, .ireturn, 1, [], .null), (12, .aload_n 0, 1, [], .null), (13, .iload_n 1, 1, [], .null), (14, .iload_n 2, 1, [], .null), (15, .iload_n 3, 1, [], .null), (16, .iconst 1, 1, [], .int (1)), (17, .invokevirtual 240, 3, [137, 5, 0], .null), (20, .aload_n 0, 1, [], .null), (21, .getfield 217, 3, [7, 27, 0], .null), (24, .ifCond .ne (6), 3, [30], .null), (27, .bipush (-9), 2, [], .int (-9)), (29, .ireturn, 1, [], .null), (30, .iconst 0, 1, [], .int (0)), (31, .istore 4, 2, [], .null), (33, .iconst 1, 1, [], .int (1)), (34, .istore 5, 2, [], .null), (36, .iload 5, 2, [], .null), (38, .aload_n 0, 1, [], .null), (39, .getfield 227, 3, [7, 25, 0], .null), (42, .iconst 1, 1, [], .int (1)), (43, .isub, 1, [], .null), (44, .if_icmp .ge (42), 3, [86], .null), (47, .iload 4, 2, [], .null), (49, .aload_n 0, 1, [], .null), (50, .aload_n 0, 1, [], .null), (51, .getfield 55, 3, [7, 24, 1], .null), (54, .iload 5, 2, [], .null), (56, .iaload, 1, [], .null), (57, .iload_n 3, 1, [], .null), (58, .invokevirtual 233, 3, [134, 3, 1], .null), (61, .ifCond .le (15), 3, [76], .null), (64, .iconst 1, 1, [], .int (1)), (65, .aload_n 0, 1, [], .null), (66, .getfield 55, 3, [7, 24, 1], .null), (69, .iload 5, 2, [], .null), (71, .iaload, 1, [], .null), (72, .ishl, 1, [], .null), (73, .goto (4), 3, [77], .null), (76, .iconst 0, 1, [], .int (0)), (77, .ior, 1, [], .null), (78, .istore 4, 2, [], .null), (80, .iinc 5 (1), 3, [], .int (1)), (83, .goto (-47), 3, [36], .null), (86, .aload_n 0, 1, [], .null), (87, .iload 4, 2, [], .null), (89, .aload_n 0, 1, [], .null), (90, .getfield 223, 3, [7, 26, 0], .null), (93, .invokevirtual 98, 3, [73, 3, 1], .null), (96, .ireturn, 1, [], .null)]
def Mo_forget_36  (x3 : Int32)  : (Int32 × Int32 × Hp) → ((Int32 × Int32 × Hp) → Res Hp) → Res Hp := fun s κ36 => match s with
  | (x4, x5, h) =>
  if ((hg h 178 25) - (1 : Int32)) ≤ x5 then
  (bI (F_Mo_ask x4 (hg h 178 26) h) fun v2 h1 =>
  retI v2 h1)
  else
  (bif okA 194 100 x5 then
  bI (F_Mo_costOf (hg h 194 x5.toNatClampNeg) x3 h) fun v4 h3 =>
  if v4 ≤ (0 : Int32) then
  (κ36 ((x4 ||| (0 : Int32)), (x5 + (1 : Int32)), h3))
  else
  (bif okA 194 100 x5 then
  κ36 ((x4 ||| ((1 : Int32) <<< ((hg h3 194 x5.toNatClampNeg) &&& 31))), (x5 + (1 : Int32)), h3)
  else none)
  else none)
def F_Mo_forget (x1 : Int32) (x2 : Int32) (x3 : Int32) (h : Hp) : Res Hp :=
  bI (F_Mo_isAsk x1 x2 x3 h) fun v2 h1 =>
  if v2 = (0 : Int32) then
  (retI (-1 : Int32) h1)
  else
  (bV (F_Mo_setWays x1 x2 x3 (1 : Int32) h1) fun h3 =>
  if (hg h3 178 27) = (0 : Int32) then
  (retI (-9 : Int32) h3)
  else
  (loopC (Mo_forget_36  x3 ) FU ((0 : Int32), (1 : Int32), h3)))
def sF_Mo_forget : List Value → Hp → Res Hp := fun as h => match as with | [.ref f0, .int x1, .int x2, .int x3] => (match Nat.beq f0 178 with | true => F_Mo_forget x1 x2 x3 h | false => none) | _ => none
theorem w_Mo_forget (x1 : Int32) (x2 : Int32) (x3 : Int32) (h : Hp) : sF_Mo_forget [.ref 178, .int x1, .int x2, .int x3] h = F_Mo_forget x1 x2 x3 h := rfl
def S_Mo_forget : Sem Hp := [(132, sF_Mo_isAsk), (137, sF_Mo_setWays), (73, sF_Mo_ask), (134, sF_Mo_costOf)]
set_option maxRecDepth 100000 in
theorem e_Mo_forget_0 (x1 : Int32) (x2 : Int32) (x3 : Int32) (h : Hp) : F_Mo_forget x1 x2 x3 h = exec1 OI S_Mo_forget 1 k_Mo_forget 0 [some (.ref 178), some (.int x1), some (.int x2), some (.int x3), none, none] [] h (runF OI S_Mo_forget [(36, [0, 3, 4, 5], fun vs st h => match vs, st with | [.ref f0, .int x3, .int x4, .int x5], [] => (match Nat.beq f0 178 with | true => loopC (Mo_forget_36  x3 ) FU (x4, x5, h) | false => none) | _, _ => none)] 1 k_Mo_forget 400) :=
  (x_bI (f := sF_Mo_isAsk) rfl (w_Mo_isAsk _ _ _ _) fun v2 h1 => (x_ite rfl (x_bV (f := sF_Mo_setWays) rfl (w_Mo_setWays _ _ _ _ _) fun h3 => (x_ite rfl rfl))))
set_option maxRecDepth 100000 in
theorem e_Mo_forget_36 (κ36 : (Int32 × Int32 × Hp) → Res Hp) (x3 : Int32) (x4 : Int32) (x5 : Int32)  (h : Hp) : Mo_forget_36  x3  (x4, x5, h) κ36 = exec1 OI S_Mo_forget 1 k_Mo_forget 36 [some (.ref 178), none, none, some (.int x3), some (.int x4), some (.int x5)] [] h (runF OI S_Mo_forget [(36, [0, 3, 4, 5], fun vs st h => match vs, st with | [.ref f0, .int x3, .int x4, .int x5], [] => (match Nat.beq f0 178 with | true => κ36 (x4, x5, h) | false => none) | _, _ => none)] 1 k_Mo_forget 400) :=
  (x_ite (x_bI (f := sF_Mo_ask) rfl (w_Mo_ask _ _ _) fun v2 h1 => rfl) (x_bif (x_bI (f := sF_Mo_costOf) rfl (w_Mo_costOf _ _ _) fun v4 h3 => (x_ite rfl (x_bif rfl)))))
def k_Mo_isWayIn : List Ent := [(0, .aload_n 0, 1, [], .null), (1, .iload_n 1, 1, [], .null), (2, .iload_n 2, 1, [], .null), (3, .iconst 1, 1, [], .int (1)), (4, .iload_n 3, 1, [], .null), (5, .ishl, 1, [], .null), (6, .invokevirtual 186, 3, [117, 4, 2], .null), (9, .ifCond .ne (5), 3, [14], .null), (12, .iconst 0, 1, [], .int (0)), (13, .ireturn, 1, [], .null), (14, .aload_n 0, 1, [], .null), (15, .iload_n 1, 1, [], .null), (16, .iload_n 2, 1, [], .null), (17, .iconst 1, 1, [], .int (1)), (18, .iload_n 3, 1, [], .null), (19, .ishl, 1, [], .null), (20, .iconst 0, 1, [], .int (0)), (21, .invokevirtual 240, 3, [137, 5, 0], .null), (24, .aload_n 0, 1, [], .null), (25, .getfield 217, 3, [7, 27, 0], .null), (28, .ifCond .le (7), 3, [35], .null), (31, .iconst 1, 1, [], .int (1)), (32, .goto (4), 3, [36], .null), (35, .iconst 0, 1, [], .int (0)), (36, .ireturn, 1, [], .null)]
def F_Mo_isWayIn (x1 : Int32) (x2 : Int32) (x3 : Int32) (h : Hp) : Res Hp :=
  bI (F_Mo_writes x1 x2 ((1 : Int32) <<< (x3 &&& 31)) h) fun v2 h1 =>
  if v2 = (0 : Int32) then
  (retZ (0 : Int32) h1)
  else
  (bV (F_Mo_setWays x1 x2 ((1 : Int32) <<< (x3 &&& 31)) (0 : Int32) h1) fun h3 =>
  if (hg h3 178 27) ≤ (0 : Int32) then
  (retZ (0 : Int32) h3)
  else
  (retZ (1 : Int32) h3))
def sF_Mo_isWayIn : List Value → Hp → Res Hp := fun as h => match as with | [.ref f0, .int x1, .int x2, .int x3] => (match Nat.beq f0 178 with | true => F_Mo_isWayIn x1 x2 x3 h | false => none) | _ => none
theorem w_Mo_isWayIn (x1 : Int32) (x2 : Int32) (x3 : Int32) (h : Hp) : sF_Mo_isWayIn [.ref 178, .int x1, .int x2, .int x3] h = F_Mo_isWayIn x1 x2 x3 h := rfl
def S_Mo_isWayIn : Sem Hp := [(117, sF_Mo_writes), (137, sF_Mo_setWays)]
set_option maxRecDepth 100000 in
theorem e_Mo_isWayIn_0 (x1 : Int32) (x2 : Int32) (x3 : Int32) (h : Hp) : F_Mo_isWayIn x1 x2 x3 h = exec1 OI S_Mo_isWayIn 2 k_Mo_isWayIn 0 [some (.ref 178), some (.int x1), some (.int x2), some (.int x3)] [] h (runF OI S_Mo_isWayIn [] 2 k_Mo_isWayIn 400) :=
  (x_bI (f := sF_Mo_writes) rfl (w_Mo_writes _ _ _ _) fun v2 h1 => (x_ite rfl (x_bV (f := sF_Mo_setWays) rfl (w_Mo_setWays _ _ _ _ _) fun h3 => (x_ite rfl rfl))))
def k_Mo_reach : List Ent := [(0, .aload_n 0, 1, [], .null), (1, .iload_n 1, 1, [], .null), (2, .invokevirtual 143, 3, [97, 2, 2], .null), (5, .ifCond .eq (10), 3, [15], .null), (8, .iload_n 2, 1, [], .null), (9, .invokestatic 174, 3, [99, 1, 2], .null), (12, .ifCond .ne (5), 3, [17], .null), (15, .iconst (-1), 1, [], .int (-1)), (16, .ireturn, 1, [], .null), (17, .iconst 0, 1, [], .int (0)), (18, .istore_n 3, 1, [], .null), (19, .iconst 0, 1, [], .int (0)), (20, .istore 4, 2, [], .null), (22, .iload 4, 2, [], .null), (24, .aload_n 0, 1, [], .null), (25, .getfield 131, 3, [7, 8, 0], .null), (28, .if_icmp .ge (37), 3, [65], .null), (31, .iload_n 3, 1, [], .null), (32, .iload 4, 2, [], .null), (34, .iload_n 1, 1, [], .null), (35, .if_icmp .eq (21), 3, [56], .null), (38, .aload_n 0, 1, [], .null), (39, .iload_n 1, 1, [], .null), (40, .iload 4, 2, [], .null), (42, .iload_n 2, 1, [], .null), (43, .invokevirtual 247, 3, [145, 4, 2], .null), (46, .ifCond .eq (10), 3, [56], .null), (49, .iconst 1, 1, [], .int (1)), (50, .iload 4, 2, [], .null), (52, .ishl, 1, [], .null), (53, .goto (4), 3, [57], .null), (56, .iconst 0, 1, [], .int (0)), (57, .ior, 1, [], .null), (58, .istore_n 3, 1, [], .null), (59, .iinc 4 (1), 3, [], .int (1)), (62, .goto (-40), 3, [22], .null), (65, .iload_n 3, 1, [], .null), (66, .ireturn, 1, [], .null)]
def Mo_reach_22  (x1 : Int32) (x2 : Int32)  : (Int32 × Int32 × Hp) → ((Int32 × Int32 × Hp) → Res Hp) → Res Hp := fun s κ22 => match s with
  | (x3, x4, h) =>
  if (hg h 178 8) ≤ x4 then
  (retI x3 h)
  else
  (if x4 = x1 then
  (κ22 ((x3 ||| (0 : Int32)), (x4 + (1 : Int32)), h))
  else
  (bI (F_Mo_isWayIn x1 x4 x2 h) fun v2 h1 =>
  if v2 = (0 : Int32) then
  (κ22 ((x3 ||| (0 : Int32)), (x4 + (1 : Int32)), h1))
  else
  (κ22 ((x3 ||| ((1 : Int32) <<< (x4 &&& 31))), (x4 + (1 : Int32)), h1))))
def F_Mo_reach (x1 : Int32) (x2 : Int32) (h : Hp) : Res Hp :=
  bI (F_Mo_isOne x1 h) fun v2 h1 =>
  if v2 = (0 : Int32) then
  (retI (-1 : Int32) h1)
  else
  (bI (F_Mo_isTongue x2 h1) fun v4 h3 =>
  if v4 = (0 : Int32) then
  (retI (-1 : Int32) h3)
  else
  (loopC (Mo_reach_22  x1 x2 ) FU ((0 : Int32), (0 : Int32), h3)))
def sF_Mo_reach : List Value → Hp → Res Hp := fun as h => match as with | [.ref f0, .int x1, .int x2] => (match Nat.beq f0 178 with | true => F_Mo_reach x1 x2 h | false => none) | _ => none
theorem w_Mo_reach (x1 : Int32) (x2 : Int32) (h : Hp) : sF_Mo_reach [.ref 178, .int x1, .int x2] h = F_Mo_reach x1 x2 h := rfl
def S_Mo_reach : Sem Hp := [(97, sF_Mo_isOne), (99, sF_Mo_isTongue), (145, sF_Mo_isWayIn)]
set_option maxRecDepth 100000 in
theorem e_Mo_reach_0 (x1 : Int32) (x2 : Int32) (h : Hp) : F_Mo_reach x1 x2 h = exec1 OI S_Mo_reach 1 k_Mo_reach 0 [some (.ref 178), some (.int x1), some (.int x2), none, none] [] h (runF OI S_Mo_reach [(22, [0, 1, 2, 3, 4], fun vs st h => match vs, st with | [.ref f0, .int x1, .int x2, .int x3, .int x4], [] => (match Nat.beq f0 178 with | true => loopC (Mo_reach_22  x1 x2 ) FU (x3, x4, h) | false => none) | _, _ => none)] 1 k_Mo_reach 400) :=
  (x_bI (f := sF_Mo_isOne) rfl (w_Mo_isOne _ _) fun v2 h1 => (x_ite rfl (x_bI (f := sF_Mo_isTongue) rfl (w_Mo_isTongue _ _) fun v4 h3 => (x_ite rfl rfl))))
set_option maxRecDepth 100000 in
theorem e_Mo_reach_22 (κ22 : (Int32 × Int32 × Hp) → Res Hp) (x1 : Int32) (x2 : Int32) (x3 : Int32) (x4 : Int32)  (h : Hp) : Mo_reach_22  x1 x2  (x3, x4, h) κ22 = exec1 OI S_Mo_reach 1 k_Mo_reach 22 [some (.ref 178), some (.int x1), some (.int x2), some (.int x3), some (.int x4)] [] h (runF OI S_Mo_reach [(22, [0, 1, 2, 3, 4], fun vs st h => match vs, st with | [.ref f0, .int x1, .int x2, .int x3, .int x4], [] => (match Nat.beq f0 178 with | true => κ22 (x3, x4, h) | false => none) | _, _ => none)] 1 k_Mo_reach 400) :=
  (x_ite rfl (x_ite rfl (x_bI (f := sF_Mo_isWayIn) rfl (w_Mo_isWayIn _ _ _ _) fun v2 h1 => (x_ite rfl rfl))))
def k_Mo_tonguesOf : List Ent := [(0, .iconst 0, 1, [], .int (0)), (1, .istore_n 3, 1, [], .null), (2, .iconst 0, 1, [], .int (0)), (3, .istore 4, 2, [], .null), (5, .iload 4, 2, [], .null), (7, .iconst 5, 1, [], .int (5)), (8, .if_icmp .ge (31), 3, [39], .null), (11, .iload_n 3, 1, [], .null), (12, .aload_n 0, 1, [], .null), (13, .iload_n 1, 1, [], .null), (14, .iload_n 2, 1, [], .null), (15, .iload 4, 2, [], .null), (17, .invokevirtual 247, 3, [145, 4, 2], .null), (20, .ifCond .eq (10), 3, [30], .null), (23, .iconst 1, 1, [], .int (1)), (24, .iload 4, 2, [], .null), (26, .ishl, 1, [], .null), (27, .goto (4), 3, [31], .null), (30, .iconst 0, 1, [], .int (0)), (31, .ior, 1, [], .null), (32, .istore_n 3, 1, [], .null), (33, .iinc 4 (1), 3, [], .int (1)), (36, .goto (-31), 3, [5], .null), (39, .iload_n 3, 1, [], .null), (40, .ireturn, 1, [], .null)]
def Mo_tonguesOf_5  (x1 : Int32) (x2 : Int32)  : (Int32 × Int32 × Hp) → ((Int32 × Int32 × Hp) → Res Hp) → Res Hp := fun s κ5 => match s with
  | (x3, x4, h) =>
  if (5 : Int32) ≤ x4 then
  (retI x3 h)
  else
  (bI (F_Mo_isWayIn x1 x2 x4 h) fun v2 h1 =>
  if v2 = (0 : Int32) then
  (κ5 ((x3 ||| (0 : Int32)), (x4 + (1 : Int32)), h1))
  else
  (κ5 ((x3 ||| ((1 : Int32) <<< (x4 &&& 31))), (x4 + (1 : Int32)), h1)))
def F_Mo_tonguesOf (x1 : Int32) (x2 : Int32) (h : Hp) : Res Hp :=
  loopC (Mo_tonguesOf_5  x1 x2 ) FU ((0 : Int32), (0 : Int32), h)
def sF_Mo_tonguesOf : List Value → Hp → Res Hp := fun as h => match as with | [.ref f0, .int x1, .int x2] => (match Nat.beq f0 178 with | true => F_Mo_tonguesOf x1 x2 h | false => none) | _ => none
theorem w_Mo_tonguesOf (x1 : Int32) (x2 : Int32) (h : Hp) : sF_Mo_tonguesOf [.ref 178, .int x1, .int x2] h = F_Mo_tonguesOf x1 x2 h := rfl
def S_Mo_tonguesOf : Sem Hp := [(145, sF_Mo_isWayIn)]
set_option maxRecDepth 100000 in
theorem e_Mo_tonguesOf_0 (x1 : Int32) (x2 : Int32) (h : Hp) : F_Mo_tonguesOf x1 x2 h = exec1 OI S_Mo_tonguesOf 1 k_Mo_tonguesOf 0 [some (.ref 178), some (.int x1), some (.int x2), none, none] [] h (runF OI S_Mo_tonguesOf [(5, [0, 1, 2, 3, 4], fun vs st h => match vs, st with | [.ref f0, .int x1, .int x2, .int x3, .int x4], [] => (match Nat.beq f0 178 with | true => loopC (Mo_tonguesOf_5  x1 x2 ) FU (x3, x4, h) | false => none) | _, _ => none)] 1 k_Mo_tonguesOf 400) :=
  rfl
set_option maxRecDepth 100000 in
theorem e_Mo_tonguesOf_5 (κ5 : (Int32 × Int32 × Hp) → Res Hp) (x1 : Int32) (x2 : Int32) (x3 : Int32) (x4 : Int32)  (h : Hp) : Mo_tonguesOf_5  x1 x2  (x3, x4, h) κ5 = exec1 OI S_Mo_tonguesOf 1 k_Mo_tonguesOf 5 [some (.ref 178), some (.int x1), some (.int x2), some (.int x3), some (.int x4)] [] h (runF OI S_Mo_tonguesOf [(5, [0, 1, 2, 3, 4], fun vs st h => match vs, st with | [.ref f0, .int x1, .int x2, .int x3, .int x4], [] => (match Nat.beq f0 178 with | true => κ5 (x3, x4, h) | false => none) | _, _ => none)] 1 k_Mo_tonguesOf 400) :=
  (x_ite rfl (x_bI (f := sF_Mo_isWayIn) rfl (w_Mo_isWayIn _ _ _ _) fun v2 h1 => (x_ite rfl rfl)))
end
end
section
noncomputable section
def k_Mo_cutNow : List Ent := [(0, .iconst 0, 1, [], .int (0)), (1, .istore_n 1, 1, [], .null), (2, .aload_n 0, 1, [], .null), (3, .iconst 0, 1, [], .int (0)), (4, .putfield 250, 3, [7, 30, 0], .null), (7, .iconst 0, 1, [], .int (0)), (8, .istore_n 2, 1, [], .null), (9, .iload_n 2, 1, [], .null), (10, .aload_n 0, 1, [], .null), (11, .getfield 131, 3, [7, 8, 0], .null), (14, .if_icmp .ge (73), 3, [87], .null), (17, .iconst 0, 1, [], .int (0)), (18, .istore_n 3, 1, [], .null), (19, .iload_n 3, 1, [], .null), (20, .aload_n 0, 1, [], .null), (21, .getfield 131, 3, [7, 8, 0], .null), (24, .if_icmp .ge (57), 3, [81], .null), (27, .iload_n 2, 1, [], .null), (28, .iload_n 3, 1, [], .null), (29, .if_icmp .eq (46), 3, [75], .null), (32, .aload_n 0, 1, [], .null), (33, .getfield 31, 3, [7, 10, 1], .null), (36, .iload_n 2, 1, [], .null), (37, .iaload, 1, [], .null), (38, .aload_n 0, 1, [], .null), (39, .getfield 31, 3, [7, 10, 1], .null), (42, .iload_n 3, 1, [], .null), (43, .iaload, 1, [], .null), (44, .iand, 1, [], .null), (45, .ifCond .eq (30), 3, [75], .null), (48, .aload_n 0, 1, [], .null), (49, .dup, 1, [], .null), (50, .getfield 250, 3, [7, 30, 0], .null), (53, .iconst 1, 1, [], .int (1)), (54, .iadd, 1, [], .null), (55, .putfield 250, 3, [7, 30, 0], .null), (58, .iload_n 1, 1, [], .null), (59, .aload_n 0, 1, [], .null), (60, .iload_n 2, 1, [], .null), (61, .iload_n 3, 1, [], .null), (62, .invokevirtual 253, 3, [147, 3, 1], .null), (65, .ifCond .ne (7), 3, [72], .null), (68, .iconst 1, 1, [], .int (1)), (69, .goto (4), 3, [73], .null), (72, .iconst 0, 1, [], .int (0)), (73, .iadd, 1, [], .null), (74, .istore_n 1, 1, [], .null), (75, .iinc 3 (1), 3, [], .int (1)), (78, .goto (-59), 3, [19], .null), (81, .iinc 2 (1), 3, [], .int (1)), (84, .goto (-75), 3, [9], .null), (87, .iload_n 1, 1, [], .null), (88, .ireturn, 1, [], .null)]
def Mo_cutNow_19 (κ9 : (Int32 × Int32 × Hp) → Res Hp) (x2 : Int32)  : (Int32 × Int32 × Hp) → ((Int32 × Int32 × Hp) → Res Hp) → Res Hp := fun s κ19 => match s with
  | (x1, x3, h) =>
  if (hg h 178 8) ≤ x3 then
  (κ9 (x1, (x2 + (1 : Int32)), h))
  else
  (if x2 = x3 then
  (κ19 (x1, (x3 + (1 : Int32)), h))
  else
  (bif okA 186 100 x2 then
  bif okA 186 100 x3 then
  if ((hg h 186 x2.toNatClampNeg) &&& (hg h 186 x3.toNatClampNeg)) = (0 : Int32) then
  (κ19 (x1, (x3 + (1 : Int32)), h))
  else
  (bH (hs h 178 30 ((hg h 178 30) + (1 : Int32))) fun h1 =>
  bI (F_Mo_tonguesOf x2 x3 h1) fun v3 h2 =>
  if v3 = (0 : Int32) then
  (κ19 ((x1 + (1 : Int32)), (x3 + (1 : Int32)), h2))
  else
  (κ19 ((x1 + (0 : Int32)), (x3 + (1 : Int32)), h2)))
  else none
  else none))
def Mo_cutNow_9    : (Int32 × Int32 × Hp) → ((Int32 × Int32 × Hp) → Res Hp) → Res Hp := fun s κ9 => match s with
  | (x1, x2, h) =>
  if (hg h 178 8) ≤ x2 then
  (retI x1 h)
  else
  (loopC (Mo_cutNow_19 κ9 x2 ) FU (x1, (0 : Int32), h))
def F_Mo_cutNow  (h : Hp) : Res Hp :=
  bH (hs h 178 30 (0 : Int32)) fun h1 =>
  loopC (Mo_cutNow_9   ) FU ((0 : Int32), (0 : Int32), h1)
def sF_Mo_cutNow : List Value → Hp → Res Hp := fun as h => match as with | [.ref f0] => (match Nat.beq f0 178 with | true => F_Mo_cutNow  h | false => none) | _ => none
theorem w_Mo_cutNow  (h : Hp) : sF_Mo_cutNow [.ref 178] h = F_Mo_cutNow  h := rfl
def S_Mo_cutNow : Sem Hp := [(147, sF_Mo_tonguesOf)]
set_option maxRecDepth 100000 in
theorem e_Mo_cutNow_0  (h : Hp) : F_Mo_cutNow  h = exec1 OI S_Mo_cutNow 1 k_Mo_cutNow 0 [some (.ref 178), none, none, none] [] h (runF OI S_Mo_cutNow [(9, [0, 1, 2], fun vs st h => match vs, st with | [.ref f0, .int x1, .int x2], [] => (match Nat.beq f0 178 with | true => loopC (Mo_cutNow_9   ) FU (x1, x2, h) | false => none) | _, _ => none)] 1 k_Mo_cutNow 400) :=
  (x_bH fun h1 => rfl)
set_option maxRecDepth 100000 in
theorem e_Mo_cutNow_9 (κ9 : (Int32 × Int32 × Hp) → Res Hp) (x1 : Int32) (x2 : Int32)  (h : Hp) : Mo_cutNow_9    (x1, x2, h) κ9 = exec1 OI S_Mo_cutNow 1 k_Mo_cutNow 9 [some (.ref 178), some (.int x1), some (.int x2), none] [] h (runF OI S_Mo_cutNow [(19, [0, 1, 2, 3], fun vs st h => match vs, st with | [.ref f0, .int x1, .int x2, .int x3], [] => (match Nat.beq f0 178 with | true => loopC (Mo_cutNow_19 κ9 x2 ) FU (x1, x3, h) | false => none) | _, _ => none)] 1 k_Mo_cutNow 400) :=
  (x_ite rfl rfl)
set_option maxRecDepth 100000 in
theorem e_Mo_cutNow_19 (κ9 : (Int32 × Int32 × Hp) → Res Hp) (κ19 : (Int32 × Int32 × Hp) → Res Hp) (x1 : Int32) (x2 : Int32) (x3 : Int32)  (h : Hp) : Mo_cutNow_19 κ9 x2  (x1, x3, h) κ19 = exec1 OI S_Mo_cutNow 1 k_Mo_cutNow 19 [some (.ref 178), some (.int x1), some (.int x2), some (.int x3)] [] h (runF OI S_Mo_cutNow [(9, [0, 1, 2], fun vs st h => match vs, st with | [.ref f0, .int x1, .int x2], [] => (match Nat.beq f0 178 with | true => κ9 (x1, x2, h) | false => none) | _, _ => none), (19, [0, 1, 2, 3], fun vs st h => match vs, st with | [.ref f0, .int x1, .int x2, .int x3], [] => (match Nat.beq f0 178 with | true => κ19 (x1, x3, h) | false => none) | _, _ => none)] 1 k_Mo_cutNow 400) :=
  (x_ite rfl (x_ite rfl (x_bif (x_bif (x_ite rfl (x_bH fun h1 => (x_bI (f := sF_Mo_tonguesOf) rfl (w_Mo_tonguesOf _ _ _) fun v3 h2 => (x_ite rfl rfl))))))))
def k_Mo_cutOff : List Ent := [(0, .aload_n 0, 1, [], .null), (1, .invokevirtual 256, 3, [148, 1, 1], .null), (4, .istore_n 1, 1, [], .null), (5, .aload_n 0, 1, [], .null), (6, .aload_n 0, 1, [], .null), (7, .getfield 250, 3, [7, 30, 0], .null), (10, .iload_n 1, 1, [], .null), (11, .invokevirtual 98, 3, [73, 3, 1], .null), (14, .ireturn, 1, [], .null)]
def F_Mo_cutOff  (h : Hp) : Res Hp :=
  bI (F_Mo_cutNow  h) fun v2 h1 =>
  bI (F_Mo_ask (hg h1 178 30) v2 h1) fun v4 h3 =>
  retI v4 h3
def sF_Mo_cutOff : List Value → Hp → Res Hp := fun as h => match as with | [.ref f0] => (match Nat.beq f0 178 with | true => F_Mo_cutOff  h | false => none) | _ => none
theorem w_Mo_cutOff  (h : Hp) : sF_Mo_cutOff [.ref 178] h = F_Mo_cutOff  h := rfl
def S_Mo_cutOff : Sem Hp := [(148, sF_Mo_cutNow), (73, sF_Mo_ask)]
set_option maxRecDepth 100000 in
theorem e_Mo_cutOff_0  (h : Hp) : F_Mo_cutOff  h = exec1 OI S_Mo_cutOff 1 k_Mo_cutOff 0 [some (.ref 178), none] [] h (runF OI S_Mo_cutOff [] 1 k_Mo_cutOff 400) :=
  (x_bI (f := sF_Mo_cutNow) rfl (w_Mo_cutNow  _) fun v2 h1 => (x_bI (f := sF_Mo_ask) rfl (w_Mo_ask _ _ _) fun v4 h3 => rfl))
def k_Mo_cutIf : List Ent := [(0, .aload_n 0, 1, [], .null), (1, .getfield 31, 3, [7, 10, 1], .null), (4, .iload_n 1, 1, [], .null), (5, .iaload, 1, [], .null), (6, .istore_n 3, 1, [], .null), (7, .aload_n 0, 1, [], .null), (8, .getfield 31, 3, [7, 10, 1], .null), (11, .iload_n 1, 1, [], .null), (12, .dup2, 1, [], .null), (13, .iaload, 1, [], .null), (14, .iconst 1, 1, [], .int (1)), (15, .iload_n 2, 1, [], .null), (16, .ishl, 1, [], .null), (17, .ior, 1, [], .null), (18, .iastore, 1, [], .null), (19, .aload_n 0, 1, [], .null), (20, .invokevirtual 256, 3, [148, 1, 1], .null), (23, .istore 4, 2, [], .null), (25, .aload_n 0, 1, [], .null), (26, .getfield 31, 3, [7, 10, 1], .null), (29, .iload_n 1, 1, [], .null), (30, .iload_n 3, 1, [], .null), (31, .iastore, 1, [], .null), (32, .iload 4, 2, [], .null), (34, .ireturn, 1, [], .null)]
def F_Mo_cutIf (x1 : Int32) (x2 : Int32) (h : Hp) : Res Hp :=
  bif okA 186 100 x1 then
  bif okA 186 100 x1 then
  bif okA 186 100 x1 then
  bH (hs h 186 x1.toNatClampNeg ((hg h 186 x1.toNatClampNeg) ||| ((1 : Int32) <<< (x2 &&& 31)))) fun h1 =>
  bI (F_Mo_cutNow  h1) fun v3 h2 =>
  bif okA 186 100 x1 then
  bH (hs h2 186 x1.toNatClampNeg (hg h 186 x1.toNatClampNeg)) fun h4 =>
  retI v3 h4
  else none
  else none
  else none
  else none
def sF_Mo_cutIf : List Value → Hp → Res Hp := fun as h => match as with | [.ref f0, .int x1, .int x2] => (match Nat.beq f0 178 with | true => F_Mo_cutIf x1 x2 h | false => none) | _ => none
theorem w_Mo_cutIf (x1 : Int32) (x2 : Int32) (h : Hp) : sF_Mo_cutIf [.ref 178, .int x1, .int x2] h = F_Mo_cutIf x1 x2 h := rfl
def S_Mo_cutIf : Sem Hp := [(148, sF_Mo_cutNow)]
set_option maxRecDepth 100000 in
theorem e_Mo_cutIf_0 (x1 : Int32) (x2 : Int32) (h : Hp) : F_Mo_cutIf x1 x2 h = exec1 OI S_Mo_cutIf 1 k_Mo_cutIf 0 [some (.ref 178), some (.int x1), some (.int x2), none, none] [] h (runF OI S_Mo_cutIf [] 1 k_Mo_cutIf 400) :=
  (x_bif (x_bif (x_bif (x_bH fun h1 => (x_bI (f := sF_Mo_cutNow) rfl (w_Mo_cutNow  _) fun v3 h2 => (x_bif (x_bH fun h4 => rfl)))))))
def k_Mo_taught : List Ent := [(0, .aload_n 0, 1, [], .null), (1, .iload_n 1, 1, [], .null), (2, .invokevirtual 143, 3, [97, 2, 2], .null), (5, .ifCond .eq (10), 3, [15], .null), (8, .iload_n 2, 1, [], .null), (9, .invokestatic 174, 3, [99, 1, 2], .null), (12, .ifCond .ne (5), 3, [17], .null), (15, .iconst (-1), 1, [], .int (-1)), (16, .ireturn, 1, [], .null), (17, .aload_n 0, 1, [], .null), (18, .invokevirtual 256, 3, [148, 1, 1], .null), (21, .istore_n 3, 1, [], .null), (22, .aload_n 0, 1, [], .null), (23, .aload_n 0, 1, [], .null), (24, .iload_n 1, 1, [], .null), (25, .iload_n 2, 1, [], .null), (26, .invokevirtual 260, 3, [150, 3, 1], .null), (29, .iload_n 3, 1, [], .null), (30, .isub, 1, [], .null), (31, .iconst 1, 1, [], .int (1)), (32, .invokevirtual 98, 3, [73, 3, 1], .null), (35, .ireturn, 1, [], .null)]
def F_Mo_taught (x1 : Int32) (x2 : Int32) (h : Hp) : Res Hp :=
  bI (F_Mo_isOne x1 h) fun v2 h1 =>
  if v2 = (0 : Int32) then
  (retI (-1 : Int32) h1)
  else
  (bI (F_Mo_isTongue x2 h1) fun v4 h3 =>
  if v4 = (0 : Int32) then
  (retI (-1 : Int32) h3)
  else
  (bI (F_Mo_cutNow  h3) fun v6 h5 =>
  bI (F_Mo_cutIf x1 x2 h5) fun v8 h7 =>
  bI (F_Mo_ask (v8 - v6) (1 : Int32) h7) fun v10 h9 =>
  retI v10 h9))
def sF_Mo_taught : List Value → Hp → Res Hp := fun as h => match as with | [.ref f0, .int x1, .int x2] => (match Nat.beq f0 178 with | true => F_Mo_taught x1 x2 h | false => none) | _ => none
theorem w_Mo_taught (x1 : Int32) (x2 : Int32) (h : Hp) : sF_Mo_taught [.ref 178, .int x1, .int x2] h = F_Mo_taught x1 x2 h := rfl
def S_Mo_taught : Sem Hp := [(97, sF_Mo_isOne), (99, sF_Mo_isTongue), (148, sF_Mo_cutNow), (150, sF_Mo_cutIf), (73, sF_Mo_ask)]
set_option maxRecDepth 100000 in
theorem e_Mo_taught_0 (x1 : Int32) (x2 : Int32) (h : Hp) : F_Mo_taught x1 x2 h = exec1 OI S_Mo_taught 1 k_Mo_taught 0 [some (.ref 178), some (.int x1), some (.int x2), none] [] h (runF OI S_Mo_taught [] 1 k_Mo_taught 400) :=
  (x_bI (f := sF_Mo_isOne) rfl (w_Mo_isOne _ _) fun v2 h1 => (x_ite rfl (x_bI (f := sF_Mo_isTongue) rfl (w_Mo_isTongue _ _) fun v4 h3 => (x_ite rfl (x_bI (f := sF_Mo_cutNow) rfl (w_Mo_cutNow  _) fun v6 h5 => (x_bI (f := sF_Mo_cutIf) rfl (w_Mo_cutIf _ _ _) fun v8 h7 => (x_bI (f := sF_Mo_ask) rfl (w_Mo_ask _ _ _) fun v10 h9 => rfl)))))))
def k_Mo_best : List Ent := [(0, .bipush (-9), 2, [], .int (-9)), (2, .istore_n 1, 1, [], .null), (3, .ldc 226, 2, [], .int (1048576)), (5, .istore_n 2, 1, [], .null), (6, .iconst 0, 1, [], .int (0)), (7, .istore_n 3, 1, [], .null), (8, .iload_n 3, 1, [], .null), (9, .aload_n 0, 1, [], .null), (10, .getfield 131, 3, [7, 8, 0], .null), (13, .if_icmp .ge (78), 3, [91], .null), (16, .iconst 0, 1, [], .int (0)), (17, .istore 4, 2, [], .null), (19, .iload 4, 2, [], .null), (21, .iconst 5, 1, [], .int (5)), (22, .if_icmp .ge (63), 3, [85], .null), (25, .aload_n 0, 1, [], .null), (26, .getfield 31, 3, [7, 10, 1], .null), (29, .iload_n 3, 1, [], .null), (30, .iaload, 1, [], .null), (31, .iload 4, 2, [], .null), (33, .invokestatic 195, 3, [74, 2, 2], .null), (36, .ifCond .ne (43), 3, [79], .null), (39, .aload_n 0, 1, [], .null), (40, .iload_n 3, 1, [], .null), (41, .iload 4, 2, [], .null), (43, .invokevirtual 260, 3, [150, 3, 1], .null), (46, .istore 5, 2, [], .null), (48, .iload 5, 2, [], .null), (50, .iload_n 2, 1, [], .null), (51, .if_icmp .ge (13), 3, [64], .null), (54, .bipush (10), 2, [], .int (10)), (56, .iload_n 3, 1, [], .null), (57, .imul, 1, [], .null), (58, .iload 4, 2, [], .null), (60, .iadd, 1, [], .null), (61, .goto (4), 3, [65], .null), (64, .iload_n 1, 1, [], .null), (65, .istore_n 1, 1, [], .null), (66, .iload 5, 2, [], .null), (68, .iload_n 2, 1, [], .null), (69, .if_icmp .ge (8), 3, [77], .null), (72, .iload 5, 2, [], .null), (74, .goto (4), 3, [78], .null), (77, .iload_n 2, 1, [], .null), (78, .istore_n 2, 1, [], .null), (79, .iinc 4 (1), 3, [], .int (1)), (82, .goto (-63), 3, [19], .null), (85, .iinc 3 (1), 3, [], .int (1)), (88, .goto (-80), 3, [8], .null), (91, .iload_n 1, 1, [], .null), (92, .bipush (-9), 2, [], .int (-9)), (94, .if_icmp .ne (8), 3, [102], .null), (97, .bipush (-9), 2, [], .int (-9)), (99, .goto (9), 3, [108], .null), (102, .aload_n 0, 1, [], .null), (103, .iload_n 2, 1, [], .null), (104, .iload_n 1, 1, [], .null), (105, .invokevirtual 98, 3, [73, 3, 1], .null), (108, .ireturn, 1, [], .null)]
def Mo_best_19 (κ8 : (Int32 × Int32 × Int32 × Hp) → Res Hp) (x3 : Int32)  : (Int32 × Int32 × Int32 × Hp) → ((Int32 × Int32 × Int32 × Hp) → Res Hp) → Res Hp := fun s κ19 => match s with
  | (x1, x2, x4, h) =>
  if (5 : Int32) ≤ x4 then
  (κ8 (x1, x2, (x3 + (1 : Int32)), h))
  else
  (bif okA 186 100 x3 then
  bI (F_Mo_has (hg h 186 x3.toNatClampNeg) x4 h) fun v2 h1 =>
  if v2 = (0 : Int32) then
  (bI (F_Mo_cutIf x3 x4 h1) fun v4 h3 =>
  if x2 ≤ v4 then
  (if x2 ≤ v4 then
  (κ19 (x1, x2, (x4 + (1 : Int32)), h3))
  else
  (κ19 (x1, v4, (x4 + (1 : Int32)), h3)))
  else
  (if x2 ≤ v4 then
  (κ19 ((((10 : Int32) * x3) + x4), x2, (x4 + (1 : Int32)), h3))
  else
  (κ19 ((((10 : Int32) * x3) + x4), v4, (x4 + (1 : Int32)), h3))))
  else
  (κ19 (x1, x2, (x4 + (1 : Int32)), h1))
  else none)
def Mo_best_8    : (Int32 × Int32 × Int32 × Hp) → ((Int32 × Int32 × Int32 × Hp) → Res Hp) → Res Hp := fun s κ8 => match s with
  | (x1, x2, x3, h) =>
  if (hg h 178 8) ≤ x3 then
  (if x1 = (-9 : Int32) then
  (retI (-9 : Int32) h)
  else
  (bI (F_Mo_ask x2 x1 h) fun v2 h1 =>
  retI v2 h1))
  else
  (loopC (Mo_best_19 κ8 x3 ) FU (x1, x2, (0 : Int32), h))
def F_Mo_best  (h : Hp) : Res Hp :=
  loopC (Mo_best_8   ) FU ((-9 : Int32), (1048576 : Int32), (0 : Int32), h)
def sF_Mo_best : List Value → Hp → Res Hp := fun as h => match as with | [.ref f0] => (match Nat.beq f0 178 with | true => F_Mo_best  h | false => none) | _ => none
theorem w_Mo_best  (h : Hp) : sF_Mo_best [.ref 178] h = F_Mo_best  h := rfl
def S_Mo_best : Sem Hp := [(73, sF_Mo_ask), (74, sF_Mo_has), (150, sF_Mo_cutIf)]
set_option maxRecDepth 100000 in
theorem e_Mo_best_0  (h : Hp) : F_Mo_best  h = exec1 OI S_Mo_best 1 k_Mo_best 0 [some (.ref 178), none, none, none, none, none] [] h (runF OI S_Mo_best [(8, [0, 1, 2, 3], fun vs st h => match vs, st with | [.ref f0, .int x1, .int x2, .int x3], [] => (match Nat.beq f0 178 with | true => loopC (Mo_best_8   ) FU (x1, x2, x3, h) | false => none) | _, _ => none)] 1 k_Mo_best 400) :=
  rfl
set_option maxRecDepth 100000 in
theorem e_Mo_best_8 (κ8 : (Int32 × Int32 × Int32 × Hp) → Res Hp) (x1 : Int32) (x2 : Int32) (x3 : Int32)  (h : Hp) : Mo_best_8    (x1, x2, x3, h) κ8 = exec1 OI S_Mo_best 1 k_Mo_best 8 [some (.ref 178), some (.int x1), some (.int x2), some (.int x3), none, none] [] h (runF OI S_Mo_best [(19, [0, 1, 2, 3, 4], fun vs st h => match vs, st with | [.ref f0, .int x1, .int x2, .int x3, .int x4], [] => (match Nat.beq f0 178 with | true => loopC (Mo_best_19 κ8 x3 ) FU (x1, x2, x4, h) | false => none) | _, _ => none)] 1 k_Mo_best 400) :=
  (x_ite (x_ite rfl (x_bI (f := sF_Mo_ask) rfl (w_Mo_ask _ _ _) fun v2 h1 => rfl)) rfl)
set_option maxRecDepth 100000 in
theorem e_Mo_best_19 (κ8 : (Int32 × Int32 × Int32 × Hp) → Res Hp) (κ19 : (Int32 × Int32 × Int32 × Hp) → Res Hp) (x1 : Int32) (x2 : Int32) (x3 : Int32) (x4 : Int32)  (h : Hp) : Mo_best_19 κ8 x3  (x1, x2, x4, h) κ19 = exec1 OI S_Mo_best 1 k_Mo_best 19 [some (.ref 178), some (.int x1), some (.int x2), some (.int x3), some (.int x4), none] [] h (runF OI S_Mo_best [(8, [0, 1, 2, 3], fun vs st h => match vs, st with | [.ref f0, .int x1, .int x2, .int x3], [] => (match Nat.beq f0 178 with | true => κ8 (x1, x2, x3, h) | false => none) | _, _ => none), (19, [0, 1, 2, 3, 4], fun vs st h => match vs, st with | [.ref f0, .int x1, .int x2, .int x3, .int x4], [] => (match Nat.beq f0 178 with | true => κ19 (x1, x2, x4, h) | false => none) | _, _ => none)] 1 k_Mo_best 400) :=
  (x_ite rfl (x_bif (x_bI (f := sF_Mo_has) rfl (w_Mo_has _ _ _) fun v2 h1 => (x_ite (x_bI (f := sF_Mo_cutIf) rfl (w_Mo_cutIf _ _ _) fun v4 h3 => (x_ite (x_ite rfl rfl) (x_ite rfl rfl))) rfl))))
def k_Mo_worth : List Ent := [(0, .aload_n 0, 1, [], .null), (1, .iload_n 1, 1, [], .null), (2, .invokevirtual 143, 3, [97, 2, 2], .null), (5, .ifCond .ne (5), 3, [10], .null), (8, .iconst (-1), 1, [], .int (-1)), (9, .ireturn, 1, [], .null), (10, .iconst 0, 1, [], .int (0)), (11, .istore_n 2, 1, [], .null), (12, .iconst 0, 1, [], .int (0)), (13, .istore_n 3, 1, [], .null), (14, .iload_n 3, 1, [], .null), (15, .aload_n 0, 1, [], .null), (16, .getfield 131, 3, [7, 8, 0], .null), (19, .if_icmp .ge (79), 3, [98], .null), (22, .iconst 0, 1, [], .int (0)), (23, .istore 4, 2, [], .null), (25, .iload 4, 2, [], .null), (27, .aload_n 0, 1, [], .null), (28, .getfield 131, 3, [7, 8, 0], .null), (31, .if_icmp .ge (61), 3, [92], .null), (34, .iconst 0, 1, [], .int (0)), (35, .istore 5, 2, [], .null), (37, .iload 5, 2, [], .null), (39, .iconst 5, 1, [], .int (5)), (40, .if_icmp .ge (46), 3, [86], .null), (43, .iload_n 2, 1, [], .null), (44, .iload_n 3, 1, [], .null), (45, .iload 4, 2, [], .null), (47, .if_icmp .eq (30), 3, [77], .null), (50, .aload_n 0, 1, [], .null), (51, .iload_n 3, 1, [], .null), (52, .iload 4, 2, [], .null), (54, .iload 5, 2, [], .null), (56, .invokevirtual 247, 3, [145, 4, 2], .null), (59, .ifCond .eq (18), 3, [77], .null), (62, .aload_n 0, 1, [], .null), (63, .getfield 220, 3, [7, 28, 0], .null), (66, .iload_n 1, 1, [], .null), (67, .invokestatic 195, 3, [74, 2, 2], .null), (70, .ifCond .eq (7), 3, [77], .null), (73, .iconst 1, 1, [], .int (1)), (74, .goto (4), 3, [78], .null), (77, .iconst 0, 1, [], .int (0)), (78, .iadd, 1, [], .null), (79, .istore_n 2, 1, [], .null), (80, .iinc 5 (1), 3, [], .int (1)), (83, .goto (-46), 3, [37], .null), (86, .iinc 4 (1), 3, [], .int (1)), (89, .goto (-64), 3, [25], .null), (92, .iinc 3 (1), 3, [], .int (1)), (95, .goto (-81), 3, [14], .null), (98, .iload_n 2, 1, [], .null), (99, .ireturn, 1, [], .null)]
def Mo_worth_37 (κ14 : (Int32 × Int32 × Hp) → Res Hp) (κ25 : (Int32 × Int32 × Hp) → Res Hp) (x1 : Int32) (x3 : Int32) (x4 : Int32)  : (Int32 × Int32 × Hp) → ((Int32 × Int32 × Hp) → Res Hp) → Res Hp := fun s κ37 => match s with
  | (x2, x5, h) =>
  if (5 : Int32) ≤ x5 then
  (κ25 (x2, (x4 + (1 : Int32)), h))
  else
  (if x3 = x4 then
  (κ37 ((x2 + (0 : Int32)), (x5 + (1 : Int32)), h))
  else
  (bI (F_Mo_isWayIn x3 x4 x5 h) fun v2 h1 =>
  if v2 = (0 : Int32) then
  (κ37 ((x2 + (0 : Int32)), (x5 + (1 : Int32)), h1))
  else
  (bI (F_Mo_has (hg h1 178 28) x1 h1) fun v4 h3 =>
  if v4 = (0 : Int32) then
  (κ37 ((x2 + (0 : Int32)), (x5 + (1 : Int32)), h3))
  else
  (κ37 ((x2 + (1 : Int32)), (x5 + (1 : Int32)), h3)))))
def Mo_worth_25 (κ14 : (Int32 × Int32 × Hp) → Res Hp) (x1 : Int32) (x3 : Int32)  : (Int32 × Int32 × Hp) → ((Int32 × Int32 × Hp) → Res Hp) → Res Hp := fun s κ25 => match s with
  | (x2, x4, h) =>
  if (hg h 178 8) ≤ x4 then
  (κ14 (x2, (x3 + (1 : Int32)), h))
  else
  (loopC (Mo_worth_37 κ14 κ25 x1 x3 x4 ) FU (x2, (0 : Int32), h))
def Mo_worth_14  (x1 : Int32)  : (Int32 × Int32 × Hp) → ((Int32 × Int32 × Hp) → Res Hp) → Res Hp := fun s κ14 => match s with
  | (x2, x3, h) =>
  if (hg h 178 8) ≤ x3 then
  (retI x2 h)
  else
  (loopC (Mo_worth_25 κ14 x1 x3 ) FU (x2, (0 : Int32), h))
def F_Mo_worth (x1 : Int32) (h : Hp) : Res Hp :=
  bI (F_Mo_isOne x1 h) fun v2 h1 =>
  if v2 = (0 : Int32) then
  (retI (-1 : Int32) h1)
  else
  (loopC (Mo_worth_14  x1 ) FU ((0 : Int32), (0 : Int32), h1))
def sF_Mo_worth : List Value → Hp → Res Hp := fun as h => match as with | [.ref f0, .int x1] => (match Nat.beq f0 178 with | true => F_Mo_worth x1 h | false => none) | _ => none
theorem w_Mo_worth (x1 : Int32) (h : Hp) : sF_Mo_worth [.ref 178, .int x1] h = F_Mo_worth x1 h := rfl
def S_Mo_worth : Sem Hp := [(97, sF_Mo_isOne), (145, sF_Mo_isWayIn), (74, sF_Mo_has)]
set_option maxRecDepth 100000 in
theorem e_Mo_worth_0 (x1 : Int32) (h : Hp) : F_Mo_worth x1 h = exec1 OI S_Mo_worth 1 k_Mo_worth 0 [some (.ref 178), some (.int x1), none, none, none, none] [] h (runF OI S_Mo_worth [(14, [0, 1, 2, 3], fun vs st h => match vs, st with | [.ref f0, .int x1, .int x2, .int x3], [] => (match Nat.beq f0 178 with | true => loopC (Mo_worth_14  x1 ) FU (x2, x3, h) | false => none) | _, _ => none)] 1 k_Mo_worth 400) :=
  (x_bI (f := sF_Mo_isOne) rfl (w_Mo_isOne _ _) fun v2 h1 => (x_ite rfl rfl))
set_option maxRecDepth 100000 in
theorem e_Mo_worth_14 (κ14 : (Int32 × Int32 × Hp) → Res Hp) (x1 : Int32) (x2 : Int32) (x3 : Int32)  (h : Hp) : Mo_worth_14  x1  (x2, x3, h) κ14 = exec1 OI S_Mo_worth 1 k_Mo_worth 14 [some (.ref 178), some (.int x1), some (.int x2), some (.int x3), none, none] [] h (runF OI S_Mo_worth [(25, [0, 1, 2, 3, 4], fun vs st h => match vs, st with | [.ref f0, .int x1, .int x2, .int x3, .int x4], [] => (match Nat.beq f0 178 with | true => loopC (Mo_worth_25 κ14 x1 x3 ) FU (x2, x4, h) | false => none) | _, _ => none)] 1 k_Mo_worth 400) :=
  (x_ite rfl rfl)
set_option maxRecDepth 100000 in
theorem e_Mo_worth_25 (κ14 : (Int32 × Int32 × Hp) → Res Hp) (κ25 : (Int32 × Int32 × Hp) → Res Hp) (x1 : Int32) (x2 : Int32) (x3 : Int32) (x4 : Int32)  (h : Hp) : Mo_worth_25 κ14 x1 x3  (x2, x4, h) κ25 = exec1 OI S_Mo_worth 1 k_Mo_worth 25 [some (.ref 178), some (.int x1), some (.int x2), some (.int x3), some (.int x4), none] [] h (runF OI S_Mo_worth [(14, [0, 1, 2, 3], fun vs st h => match vs, st with | [.ref f0, .int x1, .int x2, .int x3], [] => (match Nat.beq f0 178 with | true => κ14 (x2, x3, h) | false => none) | _, _ => none), (37, [0, 1, 2, 3, 4, 5], fun vs st h => match vs, st with | [.ref f0, .int x1, .int x2, .int x3, .int x4, .int x5], [] => (match Nat.beq f0 178 with | true => loopC (Mo_worth_37 κ14 κ25 x1 x3 x4 ) FU (x2, x5, h) | false => none) | _, _ => none)] 1 k_Mo_worth 400) :=
  (x_ite rfl rfl)
set_option maxRecDepth 100000 in
theorem e_Mo_worth_37 (κ14 : (Int32 × Int32 × Hp) → Res Hp) (κ25 : (Int32 × Int32 × Hp) → Res Hp) (κ37 : (Int32 × Int32 × Hp) → Res Hp) (x1 : Int32) (x2 : Int32) (x3 : Int32) (x4 : Int32) (x5 : Int32)  (h : Hp) : Mo_worth_37 κ14 κ25 x1 x3 x4  (x2, x5, h) κ37 = exec1 OI S_Mo_worth 1 k_Mo_worth 37 [some (.ref 178), some (.int x1), some (.int x2), some (.int x3), some (.int x4), some (.int x5)] [] h (runF OI S_Mo_worth [(25, [0, 1, 2, 3, 4], fun vs st h => match vs, st with | [.ref f0, .int x1, .int x2, .int x3, .int x4], [] => (match Nat.beq f0 178 with | true => κ25 (x2, x4, h) | false => none) | _, _ => none), (37, [0, 1, 2, 3, 4, 5], fun vs st h => match vs, st with | [.ref f0, .int x1, .int x2, .int x3, .int x4, .int x5], [] => (match Nat.beq f0 178 with | true => κ37 (x2, x5, h) | false => none) | _, _ => none)] 1 k_Mo_worth 400) :=
  (x_ite rfl (x_ite rfl (x_bI (f := sF_Mo_isWayIn) rfl (w_Mo_isWayIn _ _ _ _) fun v2 h1 => (x_ite rfl (x_bI (f := sF_Mo_has) rfl (w_Mo_has _ _ _) fun v4 h3 => (x_ite rfl rfl))))))
def k_Mo_fewest : List Ent := [(0, .iconst 0, 1, [], .int (0)), (1, .istore_n 1, 1, [], .null), (2, .iload_n 1, 1, [], .null), (3, .aload_n 0, 1, [], .null), (4, .getfield 131, 3, [7, 8, 0], .null), (7, .if_icmp .ge (51), 3, [58], .null), (10, .iconst 0, 1, [], .int (0)), (11, .istore_n 2, 1, [], .null), (12, .iload_n 2, 1, [], .null), (13, .aload_n 0, 1, [], .null), (14, .getfield 131, 3, [7, 8, 0], .null), (17, .if_icmp .ge (35), 3, [52], .null), (20, .aload_n 0, 1, [], .null), (21, .getfield 62, 3, [7, 31, 1], .null), (24, .bipush (7), 2, [], .int (7)), (26, .iload_n 1, 1, [], .null), (27, .imul, 1, [], .null), (28, .iload_n 2, 1, [], .null), (29, .iadd, 1, [], .null), (30, .iload_n 1, 1, [], .null), (31, .iload_n 2, 1, [], .null), (32, .if_icmp .ne (7), 3, [39], .null), (35, .iconst 0, 1, [], .int (0)), (36, .goto (9), 3, [45], .null), (39, .aload_n 0, 1, [], .null), (40, .iload_n 1, 1, [], .null), (41, .iload_n 2, 1, [], .null), (42, .invokevirtual 253, 3, [147, 3, 1], .null), (45, .iastore, 1, [], .null), (46, .iinc 2 (1), 3, [], .int (1)), (49, .goto (-37), 3, [12], .null), (52, .iinc 1 (1), 3, [], .int (1)), (55, .goto (-53), 3, [2], .null), (58, .bipush (31), 2, [], .int (31)), (60, .istore_n 1, 1, [], .null), (61, .bipush (31), 2, [], .int (31)), (63, .istore_n 2, 1, [], .null), (64, .iload_n 2, 1, [], .null), (65, .ifCond .lt (109), 3, [174], .null), (68, .iload_n 2, 1, [], .null), (69, .invokestatic 165, 3, [75, 1, 1], .null), (72, .iload_n 1, 1, [], .null), (73, .invokestatic 165, 3, [75, 1, 1], .null), (76, .if_icmp .gt (7), 3, [83], .null), (79, .iconst 1, 1, [], .int (1)), (80, .goto (4), 3, [84], .null), (83, .iconst 0, 1, [], .int (0)), (84, .istore_n 3, 1, [], .null), (85, .iconst 0, 1, [], .int (0)), (86, .istore 4, 2, [], .null), (88, .iload 4, 2, [], .null), (90, .aload_n 0, 1, [], .null), (91, .getfield 131, 3, [7, 8, 0], .null), (94, .if_icmp .ge (64), 3, [158], .null), (97, .iconst 0, 1, [], .int (0)), (98, .istore 5, 2, [], .null), (100, .iload 5, 2, [], .null), (102, .aload_n 0, 1, [], .null), (103, .getfield 131, 3, [7, 8, 0], .null), (106, .if_icmp .ge (46), 3, [152], .null), (109, .aload_n 0, 1, [], .null), (110, .getfield 62, 3, [7, 31, 1], .null), (113, .bipush (7), 2, [], .int (7)), (115, .iload 4, 2, [], .null), (117, .imul, 1, [], .null), (118, .iload 5, 2, [], .null), (120, .iadd, 1, [], .null), (121, .iaload, 1, [], .null), (122, .istore 6, 2, [], .null), (124, .iload_n 3, 1, [], .null), (125, .ifCond .eq (19), 3, [144], .null), (128, .iload 6, 2, [], .null), (130, .ifCond .eq (10), 3, [140], .null), (133, .iload 6, 2, [], .null), (135, .iload_n 2, 1, [], .null), (136, .iand, 1, [], .null), (137, .ifCond .eq (7), 3, [144], .null), (140, .iconst 1, 1, [], .int (1)), (141, .goto (4), 3, [145], .null), (144, .iconst 0, 1, [], .int (0)), (145, .istore_n 3, 1, [], .null), (146, .iinc 5 (1), 3, [], .int (1)), (149, .goto (-49), 3, [100], .null), (152, .iinc 4 (1), 3, [], .int (1)), (155, .goto (-67), 3, [88], .null), (158, .iload_n 3, 1, [], .null), (159, .ifCond .eq (7), 3, [166], .null), (162, .iload_n 2, 1, [], .null), (163, .goto (4), 3, [167], .null), (166, .iload_n 1, 1, [], .null), (167, .istore_n 1, 1, [], .null), (168, .iinc 2 (-1), 3, [], .int (-1)), (171, .goto (-107), 3, [64], .null), (174, .aload_n 0, 1, [], .null), (175, .iload_n 1, 1, [], .null), (176, .iload_n 1, 1, [], .null), (177, .invokestatic 165, 3, [75, 1, 1], .null), (180, .invokevirtual 98, 3, [73, 3, 1], .null), (183, .ireturn, 1, [], .null)]
def Mo_fewest_100 (κ64 : (Int32 × Int32 × Hp) → Res Hp) (κ88 : (Int32 × Int32) → Res Hp) (x1 : Int32) (x2 : Int32) (x4 : Int32) (h : Hp) : (Int32 × Int32) → ((Int32 × Int32) → Res Hp) → Res Hp := fun s κ100 => match s with
  | (x3, x5) =>
  if (hg h 178 8) ≤ x5 then
  (κ88 (x3, (x4 + (1 : Int32))))
  else
  (bif okA 196 100 (((7 : Int32) * x4) + x5) then
  if x3 = (0 : Int32) then
  (κ100 ((0 : Int32), (x5 + (1 : Int32))))
  else
  (if (hg h 196 (((7 : Int32) * x4) + x5).toNatClampNeg) = (0 : Int32) then
  (κ100 ((1 : Int32), (x5 + (1 : Int32))))
  else
  (if ((hg h 196 (((7 : Int32) * x4) + x5).toNatClampNeg) &&& x2) = (0 : Int32) then
  (κ100 ((0 : Int32), (x5 + (1 : Int32))))
  else
  (κ100 ((1 : Int32), (x5 + (1 : Int32))))))
  else none)
def Mo_fewest_88 (κ64 : (Int32 × Int32 × Hp) → Res Hp) (x1 : Int32) (x2 : Int32) (h : Hp) : (Int32 × Int32) → ((Int32 × Int32) → Res Hp) → Res Hp := fun s κ88 => match s with
  | (x3, x4) =>
  if (hg h 178 8) ≤ x4 then
  (if x3 = (0 : Int32) then
  (κ64 (x1, (x2 + (-1 : Int32)), h))
  else
  (κ64 (x2, (x2 + (-1 : Int32)), h)))
  else
  (loopC (Mo_fewest_100 κ64 κ88 x1 x2 x4 h) FU (x3, (0 : Int32)))
def Mo_fewest_64    : (Int32 × Int32 × Hp) → ((Int32 × Int32 × Hp) → Res Hp) → Res Hp := fun s κ64 => match s with
  | (x1, x2, h) =>
  if x2 < (0 : Int32) then
  (bI (F_Mo_sizeOf x1 h) fun v2 h1 =>
  bI (F_Mo_ask x1 v2 h1) fun v4 h3 =>
  retI v4 h3)
  else
  (bI (F_Mo_sizeOf x2 h) fun v6 h5 =>
  bI (F_Mo_sizeOf x1 h5) fun v8 h7 =>
  if v8 < v6 then
  (loopC (Mo_fewest_88 κ64 x1 x2 h7) FU ((0 : Int32), (0 : Int32)))
  else
  (loopC (Mo_fewest_88 κ64 x1 x2 h7) FU ((1 : Int32), (0 : Int32))))
def Mo_fewest_12 (κ2 : (Int32 × Hp) → Res Hp) (x1 : Int32)  : (Int32 × Hp) → ((Int32 × Hp) → Res Hp) → Res Hp := fun s κ12 => match s with
  | (x2, h) =>
  if (hg h 178 8) ≤ x2 then
  (κ2 ((x1 + (1 : Int32)), h))
  else
  (if x1 = x2 then
  (bif okA 196 100 (((7 : Int32) * x1) + x2) then
  bH (hs h 196 (((7 : Int32) * x1) + x2).toNatClampNeg (0 : Int32)) fun h4 =>
  κ12 ((x2 + (1 : Int32)), h4)
  else none)
  else
  (bI (F_Mo_tonguesOf x1 x2 h) fun v2 h1 =>
  bif okA 196 100 (((7 : Int32) * x1) + x2) then
  bH (hs h1 196 (((7 : Int32) * x1) + x2).toNatClampNeg v2) fun h3 =>
  κ12 ((x2 + (1 : Int32)), h3)
  else none))
def Mo_fewest_2    : (Int32 × Hp) → ((Int32 × Hp) → Res Hp) → Res Hp := fun s κ2 => match s with
  | (x1, h) =>
  if (hg h 178 8) ≤ x1 then
  (loopC (Mo_fewest_64   ) FU ((31 : Int32), (31 : Int32), h))
  else
  (loopC (Mo_fewest_12 κ2 x1 ) FU ((0 : Int32), h))
def F_Mo_fewest  (h : Hp) : Res Hp :=
  loopC (Mo_fewest_2   ) FU ((0 : Int32), h)
def sF_Mo_fewest : List Value → Hp → Res Hp := fun as h => match as with | [.ref f0] => (match Nat.beq f0 178 with | true => F_Mo_fewest  h | false => none) | _ => none
theorem w_Mo_fewest  (h : Hp) : sF_Mo_fewest [.ref 178] h = F_Mo_fewest  h := rfl
def S_Mo_fewest : Sem Hp := [(75, sF_Mo_sizeOf), (73, sF_Mo_ask), (147, sF_Mo_tonguesOf)]
set_option maxRecDepth 100000 in
theorem e_Mo_fewest_0  (h : Hp) : F_Mo_fewest  h = exec1 OI S_Mo_fewest 1 k_Mo_fewest 0 [some (.ref 178), none, none, none, none, none, none] [] h (runF OI S_Mo_fewest [(2, [0, 1], fun vs st h => match vs, st with | [.ref f0, .int x1], [] => (match Nat.beq f0 178 with | true => loopC (Mo_fewest_2   ) FU (x1, h) | false => none) | _, _ => none)] 1 k_Mo_fewest 400) :=
  rfl
set_option maxRecDepth 100000 in
theorem e_Mo_fewest_2 (κ2 : (Int32 × Hp) → Res Hp) (x1 : Int32)  (h : Hp) : Mo_fewest_2    (x1, h) κ2 = exec1 OI S_Mo_fewest 1 k_Mo_fewest 2 [some (.ref 178), some (.int x1), none, none, none, none, none] [] h (runF OI S_Mo_fewest [(64, [0, 1, 2], fun vs st h => match vs, st with | [.ref f0, .int x1, .int x2], [] => (match Nat.beq f0 178 with | true => loopC (Mo_fewest_64   ) FU (x1, x2, h) | false => none) | _, _ => none), (12, [0, 1, 2], fun vs st h => match vs, st with | [.ref f0, .int x1, .int x2], [] => (match Nat.beq f0 178 with | true => loopC (Mo_fewest_12 κ2 x1 ) FU (x2, h) | false => none) | _, _ => none)] 1 k_Mo_fewest 400) :=
  (x_ite rfl rfl)
set_option maxRecDepth 100000 in
theorem e_Mo_fewest_64 (κ64 : (Int32 × Int32 × Hp) → Res Hp) (x1 : Int32) (x2 : Int32)  (h : Hp) : Mo_fewest_64    (x1, x2, h) κ64 = exec1 OI S_Mo_fewest 1 k_Mo_fewest 64 [some (.ref 178), some (.int x1), some (.int x2), none, none, none, none] [] h (runF OI S_Mo_fewest [(88, [0, 1, 2, 3, 4], fun vs st h => match vs, st with | [.ref f0, .int x1, .int x2, .int x3, .int x4], [] => (match Nat.beq f0 178 with | true => loopC (Mo_fewest_88 κ64 x1 x2 h) FU (x3, x4) | false => none) | _, _ => none)] 1 k_Mo_fewest 400) :=
  (x_ite (x_bI (f := sF_Mo_sizeOf) rfl (w_Mo_sizeOf _ _) fun v2 h1 => (x_bI (f := sF_Mo_ask) rfl (w_Mo_ask _ _ _) fun v4 h3 => rfl)) (x_bI (f := sF_Mo_sizeOf) rfl (w_Mo_sizeOf _ _) fun v6 h5 => (x_bI (f := sF_Mo_sizeOf) rfl (w_Mo_sizeOf _ _) fun v8 h7 => (x_ite rfl rfl))))
set_option maxRecDepth 100000 in
theorem e_Mo_fewest_88 (κ64 : (Int32 × Int32 × Hp) → Res Hp) (κ88 : (Int32 × Int32) → Res Hp) (x1 : Int32) (x2 : Int32) (x3 : Int32) (x4 : Int32)  (h : Hp) : Mo_fewest_88 κ64 x1 x2 h (x3, x4) κ88 = exec1 OI S_Mo_fewest 1 k_Mo_fewest 88 [some (.ref 178), some (.int x1), some (.int x2), some (.int x3), some (.int x4), none, none] [] h (runF OI S_Mo_fewest [(64, [0, 1, 2], fun vs st h => match vs, st with | [.ref f0, .int x1, .int x2], [] => (match Nat.beq f0 178 with | true => κ64 (x1, x2, h) | false => none) | _, _ => none), (100, [0, 1, 2, 3, 4, 5], fun vs st h => match vs, st with | [.ref f0, .int x1, .int x2, .int x3, .int x4, .int x5], [] => (match Nat.beq f0 178 with | true => loopC (Mo_fewest_100 κ64 κ88 x1 x2 x4 h) FU (x3, x5) | false => none) | _, _ => none)] 1 k_Mo_fewest 400) :=
  (x_ite (x_ite rfl rfl) rfl)
set_option maxRecDepth 100000 in
theorem e_Mo_fewest_100 (κ64 : (Int32 × Int32 × Hp) → Res Hp) (κ88 : (Int32 × Int32) → Res Hp) (κ100 : (Int32 × Int32) → Res Hp) (x1 : Int32) (x2 : Int32) (x3 : Int32) (x4 : Int32) (x5 : Int32)  (h : Hp) : Mo_fewest_100 κ64 κ88 x1 x2 x4 h (x3, x5) κ100 = exec1 OI S_Mo_fewest 1 k_Mo_fewest 100 [some (.ref 178), some (.int x1), some (.int x2), some (.int x3), some (.int x4), some (.int x5), none] [] h (runF OI S_Mo_fewest [(88, [0, 1, 2, 3, 4], fun vs st h => match vs, st with | [.ref f0, .int x1, .int x2, .int x3, .int x4], [] => (match Nat.beq f0 178 with | true => κ88 (x3, x4) | false => none) | _, _ => none), (100, [0, 1, 2, 3, 4, 5], fun vs st h => match vs, st with | [.ref f0, .int x1, .int x2, .int x3, .int x4, .int x5], [] => (match Nat.beq f0 178 with | true => κ100 (x3, x5) | false => none) | _, _ => none)] 1 k_Mo_fewest 400) :=
  (x_ite rfl (x_bif (x_ite rfl (x_ite rfl (x_ite rfl rfl)))))
set_option maxRecDepth 100000 in
theorem e_Mo_fewest_12 (κ2 : (Int32 × Hp) → Res Hp) (κ12 : (Int32 × Hp) → Res Hp) (x1 : Int32) (x2 : Int32)  (h : Hp) : Mo_fewest_12 κ2 x1  (x2, h) κ12 = exec1 OI S_Mo_fewest 1 k_Mo_fewest 12 [some (.ref 178), some (.int x1), some (.int x2), none, none, none, none] [] h (runF OI S_Mo_fewest [(2, [0, 1], fun vs st h => match vs, st with | [.ref f0, .int x1], [] => (match Nat.beq f0 178 with | true => κ2 (x1, h) | false => none) | _, _ => none), (12, [0, 1, 2], fun vs st h => match vs, st with | [.ref f0, .int x1, .int x2], [] => (match Nat.beq f0 178 with | true => κ12 (x2, h) | false => none) | _, _ => none)] 1 k_Mo_fewest 400) :=
  (x_ite rfl (x_ite (x_bif (x_bH fun h4 => rfl)) (x_bI (f := sF_Mo_tonguesOf) rfl (w_Mo_tonguesOf _ _ _) fun v2 h1 => (x_bif (x_bH fun h3 => rfl)))))
def k_Mo_askedPairs : List Ent := [(0, .aload_n 0, 1, [], .null), (1, .iload_n 1, 1, [], .null), (2, .invokevirtual 91, 3, [78, 2, 1], .null), (5, .istore_n 2, 1, [], .null), (6, .iload_n 2, 1, [], .null), (7, .ifCond .ge (5), 3, [12], .null), (10, .iload_n 2, 1, [], .null), (11, .ireturn, 1, [], .null), (12, .aload_n 0, 1, [], .null), (13, .getfield 13, 3, [7, 3, 1], .null), (16, .iload_n 1, 1, [], .null), (17, .iaload, 1, [], .null), (18, .iconst 2, 1, [], .int (2)), (19, .irem, 1, [], .null), (20, .iconst 1, 1, [], .int (1)), (21, .if_icmp .ne (9), 3, [30], .null), (24, .aload_n 0, 1, [], .null), (25, .iconst 5, 1, [], .int (5)), (26, .invokevirtual 80, 3, [72, 2, 1], .null), (29, .ireturn, 1, [], .null), (30, .iconst 0, 1, [], .int (0)), (31, .istore_n 3, 1, [], .null), (32, .iload_n 3, 1, [], .null), (33, .aload_n 0, 1, [], .null), (34, .getfield 13, 3, [7, 3, 1], .null), (37, .iload_n 1, 1, [], .null), (38, .iaload, 1, [], .null), (39, .if_icmp .ge (52), 3, [91], .null), (42, .aload_n 0, 1, [], .null), (43, .iload_n 1, 1, [], .null), (44, .iload_n 3, 1, [], .null), (45, .invokevirtual 94, 3, [80, 3, 1], .null), (48, .iconst 0, 1, [], .int (0)), (49, .iconst 1, 1, [], .int (1)), (50, .aload_n 0, 1, [], .null), (51, .getfield 131, 3, [7, 8, 0], .null), (54, .ishl, 1, [], .null), (55, .iconst 1, 1, [], .int (1)), (56, .isub, 1, [], .null), (57, .invokestatic 72, 3, [71, 3, 2], .null), (60, .ifCond .eq (19), 3, [79], .null), (63, .aload_n 0, 1, [], .null), (64, .iload_n 1, 1, [], .null), (65, .iload_n 3, 1, [], .null), (66, .iconst 1, 1, [], .int (1)), (67, .iadd, 1, [], .null), (68, .invokevirtual 94, 3, [80, 3, 1], .null), (71, .iconst 0, 1, [], .int (0)), (72, .iconst 1, 1, [], .int (1)), (73, .invokestatic 72, 3, [71, 3, 2], .null), (76, .ifCond .ne (9), 3, [85], .null), (79, .aload_n 0, 1, [], .null), (80, .iconst 3, 1, [], .int (3)), (81, .invokevirtual 80, 3, [72, 2, 1], .null), (84, .ireturn, 1, [], .null), (85, .iinc 3 (2), 3, [], .int (2)), (88, .goto (-56), 3, [32], .null), (91, .iconst 0, 1, [], .int (0)), (92, .ireturn, 1, [], .null)]
def Mo_askedPairs_32  (x1 : Int32)  : (Int32 × Hp) → ((Int32 × Hp) → Res Hp) → Res Hp := fun s κ32 => match s with
  | (x3, h) =>
  bif okA 180 100 x1 then
  if (hg h 180 x1.toNatClampNeg) ≤ x3 then
  (retI (0 : Int32) h)
  else
  (bI (F_Mo_rowAt x1 x3 h) fun v2 h1 =>
  bI (F_Mo_in v2 (0 : Int32) (((1 : Int32) <<< ((hg h1 178 8) &&& 31)) - (1 : Int32)) h1) fun v4 h3 =>
  if v4 = (0 : Int32) then
  (bI (F_Mo_meetWith (3 : Int32) h3) fun v6 h5 =>
  retI v6 h5)
  else
  (bI (F_Mo_rowAt x1 (x3 + (1 : Int32)) h3) fun v8 h7 =>
  bI (F_Mo_in v8 (0 : Int32) (1 : Int32) h7) fun v10 h9 =>
  if v10 = (0 : Int32) then
  (bI (F_Mo_meetWith (3 : Int32) h9) fun v12 h11 =>
  retI v12 h11)
  else
  (κ32 ((x3 + (2 : Int32)), h9))))
  else none
def F_Mo_askedPairs (x1 : Int32) (h : Hp) : Res Hp :=
  bI (F_Mo_askedRow x1 h) fun v2 h1 =>
  if (0 : Int32) ≤ v2 then
  (bif okA 180 100 x1 then
  if ((hg h1 180 x1.toNatClampNeg) - (hg h1 180 x1.toNatClampNeg) / (2 : Int32) * (2 : Int32)) = (1 : Int32) then
  (bI (F_Mo_meetWith (5 : Int32) h1) fun v4 h3 =>
  retI v4 h3)
  else
  (loopC (Mo_askedPairs_32  x1 ) FU ((0 : Int32), h1))
  else none)
  else
  (retI v2 h1)
def sF_Mo_askedPairs : List Value → Hp → Res Hp := fun as h => match as with | [.ref f0, .int x1] => (match Nat.beq f0 178 with | true => F_Mo_askedPairs x1 h | false => none) | _ => none
theorem w_Mo_askedPairs (x1 : Int32) (h : Hp) : sF_Mo_askedPairs [.ref 178, .int x1] h = F_Mo_askedPairs x1 h := rfl
def S_Mo_askedPairs : Sem Hp := [(78, sF_Mo_askedRow), (80, sF_Mo_rowAt), (71, sF_Mo_in), (72, sF_Mo_meetWith)]
set_option maxRecDepth 100000 in
theorem e_Mo_askedPairs_0 (x1 : Int32) (h : Hp) : F_Mo_askedPairs x1 h = exec1 OI S_Mo_askedPairs 1 k_Mo_askedPairs 0 [some (.ref 178), some (.int x1), none, none] [] h (runF OI S_Mo_askedPairs [(32, [0, 1, 3], fun vs st h => match vs, st with | [.ref f0, .int x1, .int x3], [] => (match Nat.beq f0 178 with | true => loopC (Mo_askedPairs_32  x1 ) FU (x3, h) | false => none) | _, _ => none)] 1 k_Mo_askedPairs 400) :=
  (x_bI (f := sF_Mo_askedRow) rfl (w_Mo_askedRow _ _) fun v2 h1 => (x_ite (x_bif (x_ite (x_bI (f := sF_Mo_meetWith) rfl (w_Mo_meetWith _ _) fun v4 h3 => rfl) rfl)) rfl))
set_option maxRecDepth 100000 in
theorem e_Mo_askedPairs_32 (κ32 : (Int32 × Hp) → Res Hp) (x1 : Int32) (x3 : Int32)  (h : Hp) : Mo_askedPairs_32  x1  (x3, h) κ32 = exec1 OI S_Mo_askedPairs 1 k_Mo_askedPairs 32 [some (.ref 178), some (.int x1), none, some (.int x3)] [] h (runF OI S_Mo_askedPairs [(32, [0, 1, 3], fun vs st h => match vs, st with | [.ref f0, .int x1, .int x3], [] => (match Nat.beq f0 178 with | true => κ32 (x3, h) | false => none) | _, _ => none)] 1 k_Mo_askedPairs 400) :=
  (x_bif (x_ite rfl (x_bI (f := sF_Mo_rowAt) rfl (w_Mo_rowAt _ _ _) fun v2 h1 => (x_bI (f := sF_Mo_in) rfl (w_Mo_in _ _ _ _) fun v4 h3 => (x_ite (x_bI (f := sF_Mo_meetWith) rfl (w_Mo_meetWith _ _) fun v6 h5 => rfl) (x_bI (f := sF_Mo_rowAt) rfl (w_Mo_rowAt _ _ _) fun v8 h7 => (x_bI (f := sF_Mo_in) rfl (w_Mo_in _ _ _ _) fun v10 h9 => (x_ite (x_bI (f := sF_Mo_meetWith) rfl (w_Mo_meetWith _ _) fun v12 h11 => rfl) rfl))))))))
def k_Mo_isRead : List Ent := [(0, .iconst 1, 1, [], .int (1)), (1, .istore_n 3, 1, [], .null), (2, .iconst 0, 1, [], .int (0)), (3, .istore 4, 2, [], .null), (5, .iload 4, 2, [], .null), (7, .aload_n 0, 1, [], .null), (8, .getfield 13, 3, [7, 3, 1], .null), (11, .iload_n 1, 1, [], .null), (12, .iaload, 1, [], .null), (13, .if_icmp .ge (57), 3, [70], .null), (16, .iload_n 3, 1, [], .null), (17, .ifCond .eq (45), 3, [62], .null), (20, .aload_n 0, 1, [], .null), (21, .iload_n 1, 1, [], .null), (22, .iload 4, 2, [], .null), (24, .invokevirtual 94, 3, [80, 3, 1], .null), (27, .iload_n 2, 1, [], .null), (28, .iand, 1, [], .null), (29, .ifCond .eq (7), 3, [36], .null), (32, .iconst 1, 1, [], .int (1)), (33, .goto (4), 3, [37], .null), (36, .iconst 0, 1, [], .int (0)), (37, .aload_n 0, 1, [], .null), (38, .iload_n 1, 1, [], .null), (39, .iload 4, 2, [], .null), (41, .iconst 1, 1, [], .int (1)), (42, .iadd, 1, [], .null), (43, .invokevirtual 94, 3, [80, 3, 1], .null), (46, .iconst 1, 1, [], .int (1)), (47, .if_icmp .ne (7), 3, [54], .null), (50, .iconst 1, 1, [], .int (1)), (51, .goto (4), 3, [55], .null), (54, .iconst 0, 1, [], .int (0)), (55, .if_icmp .ne (7), 3, [62], .null), (58, .iconst 1, 1, [], .int (1)), (59, .goto (4), 3, [63], .null), (62, .iconst 0, 1, [], .int (0)), (63, .istore_n 3, 1, [], .null), (64, .iinc 4 (2), 3, [], .int (2)), (67, .goto (-62), 3, [5], .null), (70, .iload_n 3, 1, [], .null), (71, .ireturn, 1, [], .null)]
def Mo_isRead_5  (x1 : Int32) (x2 : Int32)  : (Int32 × Int32 × Hp) → ((Int32 × Int32 × Hp) → Res Hp) → Res Hp := fun s κ5 => match s with
  | (x3, x4, h) =>
  bif okA 180 100 x1 then
  if (hg h 180 x1.toNatClampNeg) ≤ x4 then
  (retZ x3 h)
  else
  (if x3 = (0 : Int32) then
  (κ5 ((0 : Int32), (x4 + (2 : Int32)), h))
  else
  (bI (F_Mo_rowAt x1 x4 h) fun v2 h1 =>
  if (v2 &&& x2) = (0 : Int32) then
  (bI (F_Mo_rowAt x1 (x4 + (1 : Int32)) h1) fun v4 h3 =>
  if v4 = (1 : Int32) then
  (κ5 ((0 : Int32), (x4 + (2 : Int32)), h3))
  else
  (κ5 ((1 : Int32), (x4 + (2 : Int32)), h3)))
  else
  (bI (F_Mo_rowAt x1 (x4 + (1 : Int32)) h1) fun v6 h5 =>
  if v6 = (1 : Int32) then
  (κ5 ((1 : Int32), (x4 + (2 : Int32)), h5))
  else
  (κ5 ((0 : Int32), (x4 + (2 : Int32)), h5)))))
  else none
def F_Mo_isRead (x1 : Int32) (x2 : Int32) (h : Hp) : Res Hp :=
  loopC (Mo_isRead_5  x1 x2 ) FU ((1 : Int32), (0 : Int32), h)
def sF_Mo_isRead : List Value → Hp → Res Hp := fun as h => match as with | [.ref f0, .int x1, .int x2] => (match Nat.beq f0 178 with | true => F_Mo_isRead x1 x2 h | false => none) | _ => none
theorem w_Mo_isRead (x1 : Int32) (x2 : Int32) (h : Hp) : sF_Mo_isRead [.ref 178, .int x1, .int x2] h = F_Mo_isRead x1 x2 h := rfl
def S_Mo_isRead : Sem Hp := [(80, sF_Mo_rowAt)]
set_option maxRecDepth 100000 in
theorem e_Mo_isRead_0 (x1 : Int32) (x2 : Int32) (h : Hp) : F_Mo_isRead x1 x2 h = exec1 OI S_Mo_isRead 2 k_Mo_isRead 0 [some (.ref 178), some (.int x1), some (.int x2), none, none] [] h (runF OI S_Mo_isRead [(5, [0, 1, 2, 3, 4], fun vs st h => match vs, st with | [.ref f0, .int x1, .int x2, .int x3, .int x4], [] => (match Nat.beq f0 178 with | true => loopC (Mo_isRead_5  x1 x2 ) FU (x3, x4, h) | false => none) | _, _ => none)] 2 k_Mo_isRead 400) :=
  rfl
set_option maxRecDepth 100000 in
theorem e_Mo_isRead_5 (κ5 : (Int32 × Int32 × Hp) → Res Hp) (x1 : Int32) (x2 : Int32) (x3 : Int32) (x4 : Int32)  (h : Hp) : Mo_isRead_5  x1 x2  (x3, x4, h) κ5 = exec1 OI S_Mo_isRead 2 k_Mo_isRead 5 [some (.ref 178), some (.int x1), some (.int x2), some (.int x3), some (.int x4)] [] h (runF OI S_Mo_isRead [(5, [0, 1, 2, 3, 4], fun vs st h => match vs, st with | [.ref f0, .int x1, .int x2, .int x3, .int x4], [] => (match Nat.beq f0 178 with | true => κ5 (x3, x4, h) | false => none) | _, _ => none)] 2 k_Mo_isRead 400) :=
  (x_bif (x_ite rfl (x_ite rfl (x_bI (f := sF_Mo_rowAt) rfl (w_Mo_rowAt _ _ _) fun v2 h1 => (x_ite (x_bI (f := sF_Mo_rowAt) rfl (w_Mo_rowAt _ _ _) fun v4 h3 => (x_ite rfl rfl)) (x_bI (f := sF_Mo_rowAt) rfl (w_Mo_rowAt _ _ _) fun v6 h5 => (x_ite rfl rfl)))))))
def k_Mo_reader : List Ent := [(0, .aload_n 0, 1, [], .null), (1, .iload_n 1, 1, [], .null), (2, .invokevirtual 263, 3, [155, 2, 1], .null), (5, .istore_n 2, 1, [], .null), (6, .iload_n 2, 1, [], .null), (7, .ifCond .ge (5), 3, [12], .null), (10, .iload_n 2, 1, [], .null), (11, .ireturn, 1, [], .null), (12, .iconst 0, 1, [], .int (0)), (13, .istore_n 3, 1, [], .null), (14, .iconst 0, 1, [], .int (0)), (15, .istore 4, 2, [], .null), (17, .iload 4, 2, [], .null), (19, .aload_n 0, 1, [], .null), (20, .getfield 131, 3, [7, 8, 0], .null), (23, .if_icmp .ge (32), 3, [55], .null), (26, .iload_n 3, 1, [], .null), (27, .aload_n 0, 1, [], .null), (28, .iload_n 1, 1, [], .null), (29, .iconst 1, 1, [], .int (1)), (30, .iload 4, 2, [], .null), (32, .ishl, 1, [], .null), (33, .invokevirtual 266, 3, [156, 3, 2], .null), (36, .ifCond .eq (10), 3, [46], .null), (39, .iconst 1, 1, [], .int (1)), (40, .iload 4, 2, [], .null), (42, .ishl, 1, [], .null), (43, .goto (4), 3, [47], .null), (46, .iconst 0, 1, [], .int (0)), (47, .ior, 1, [], .null), (48, .istore_n 3, 1, [], .null), (49, .iinc 4 (1), 3, [], .int (1)), (52, .goto (-35), 3, [17], .null), (55, .iload_n 3, 1, [], .null), (56, .ireturn, 1, [], .null)]
def Mo_reader_17  (x1 : Int32)  : (Int32 × Int32 × Hp) → ((Int32 × Int32 × Hp) → Res Hp) → Res Hp := fun s κ17 => match s with
  | (x3, x4, h) =>
  if (hg h 178 8) ≤ x4 then
  (retI x3 h)
  else
  (bI (F_Mo_isRead x1 ((1 : Int32) <<< (x4 &&& 31)) h) fun v2 h1 =>
  if v2 = (0 : Int32) then
  (κ17 ((x3 ||| (0 : Int32)), (x4 + (1 : Int32)), h1))
  else
  (κ17 ((x3 ||| ((1 : Int32) <<< (x4 &&& 31))), (x4 + (1 : Int32)), h1)))
def F_Mo_reader (x1 : Int32) (h : Hp) : Res Hp :=
  bI (F_Mo_askedPairs x1 h) fun v2 h1 =>
  if (0 : Int32) ≤ v2 then
  (loopC (Mo_reader_17  x1 ) FU ((0 : Int32), (0 : Int32), h1))
  else
  (retI v2 h1)
def sF_Mo_reader : List Value → Hp → Res Hp := fun as h => match as with | [.ref f0, .int x1] => (match Nat.beq f0 178 with | true => F_Mo_reader x1 h | false => none) | _ => none
theorem w_Mo_reader (x1 : Int32) (h : Hp) : sF_Mo_reader [.ref 178, .int x1] h = F_Mo_reader x1 h := rfl
def S_Mo_reader : Sem Hp := [(155, sF_Mo_askedPairs), (156, sF_Mo_isRead)]
set_option maxRecDepth 100000 in
theorem e_Mo_reader_0 (x1 : Int32) (h : Hp) : F_Mo_reader x1 h = exec1 OI S_Mo_reader 1 k_Mo_reader 0 [some (.ref 178), some (.int x1), none, none, none] [] h (runF OI S_Mo_reader [(17, [0, 1, 3, 4], fun vs st h => match vs, st with | [.ref f0, .int x1, .int x3, .int x4], [] => (match Nat.beq f0 178 with | true => loopC (Mo_reader_17  x1 ) FU (x3, x4, h) | false => none) | _, _ => none)] 1 k_Mo_reader 400) :=
  (x_bI (f := sF_Mo_askedPairs) rfl (w_Mo_askedPairs _ _) fun v2 h1 => (x_ite rfl rfl))
set_option maxRecDepth 100000 in
theorem e_Mo_reader_17 (κ17 : (Int32 × Int32 × Hp) → Res Hp) (x1 : Int32) (x3 : Int32) (x4 : Int32)  (h : Hp) : Mo_reader_17  x1  (x3, x4, h) κ17 = exec1 OI S_Mo_reader 1 k_Mo_reader 17 [some (.ref 178), some (.int x1), none, some (.int x3), some (.int x4)] [] h (runF OI S_Mo_reader [(17, [0, 1, 3, 4], fun vs st h => match vs, st with | [.ref f0, .int x1, .int x3, .int x4], [] => (match Nat.beq f0 178 with | true => κ17 (x3, x4, h) | false => none) | _, _ => none)] 1 k_Mo_reader 400) :=
  (x_ite rfl (x_bI (f := sF_Mo_isRead) rfl (w_Mo_isRead _ _ _) fun v2 h1 => (x_ite rfl rfl)))
def k_Mo_readers : List Ent := [(0, .aload_n 0, 1, [], .null), (1, .iload_n 1, 1, [], .null), (2, .invokevirtual 263, 3, [155, 2, 1], .null), (5, .istore_n 2, 1, [], .null), (6, .iload_n 2, 1, [], .null), (7, .ifCond .ge (5), 3, [12], .null), (10, .iload_n 2, 1, [], .null), (11, .ireturn, 1, [], .null), (12, .iconst 0, 1, [], .int (0)), (13, .istore_n 3, 1, [], .null), (14, .iconst 0, 1, [], .int (0)), (15, .istore 4, 2, [], .null), (17, .iload 4, 2, [], .null), (19, .aload_n 0, 1, [], .null), (20, .getfield 131, 3, [7, 8, 0], .null), (23, .if_icmp .ge (55), 3, [78], .null), (26, .iload 4, 2, [], .null), (28, .iconst 1, 1, [], .int (1)), (29, .iadd, 1, [], .null), (30, .istore 5, 2, [], .null), (32, .iload 5, 2, [], .null), (34, .aload_n 0, 1, [], .null), (35, .getfield 131, 3, [7, 8, 0], .null), (38, .if_icmp .ge (34), 3, [72], .null), (41, .iload_n 3, 1, [], .null), (42, .aload_n 0, 1, [], .null), (43, .iload_n 1, 1, [], .null), (44, .iconst 1, 1, [], .int (1)), (45, .iload 4, 2, [], .null), (47, .ishl, 1, [], .null), (48, .iconst 1, 1, [], .int (1)), (49, .iload 5, 2, [], .null), (51, .ishl, 1, [], .null), (52, .ior, 1, [], .null), (53, .invokevirtual 266, 3, [156, 3, 2], .null), (56, .ifCond .eq (7), 3, [63], .null), (59, .iconst 1, 1, [], .int (1)), (60, .goto (4), 3, [64], .null), (63, .iconst 0, 1, [], .int (0)), (64, .iadd, 1, [], .null), (65, .istore_n 3, 1, [], .null), (66, .iinc 5 (1), 3, [], .int (1)), (69, .goto (-37), 3, [32], .null), (72, .iinc 4 (1), 3, [], .int (1)), (75, .goto (-58), 3, [17], .null), (78, .iload_n 3, 1, [], .null), (79, .ireturn, 1, [], .null)]
def Mo_readers_32 (κ17 : (Int32 × Int32 × Hp) → Res Hp) (x1 : Int32) (x4 : Int32)  : (Int32 × Int32 × Hp) → ((Int32 × Int32 × Hp) → Res Hp) → Res Hp := fun s κ32 => match s with
  | (x3, x5, h) =>
  if (hg h 178 8) ≤ x5 then
  (κ17 (x3, (x4 + (1 : Int32)), h))
  else
  (bI (F_Mo_isRead x1 (((1 : Int32) <<< (x4 &&& 31)) ||| ((1 : Int32) <<< (x5 &&& 31))) h) fun v2 h1 =>
  if v2 = (0 : Int32) then
  (κ32 ((x3 + (0 : Int32)), (x5 + (1 : Int32)), h1))
  else
  (κ32 ((x3 + (1 : Int32)), (x5 + (1 : Int32)), h1)))
def Mo_readers_17  (x1 : Int32)  : (Int32 × Int32 × Hp) → ((Int32 × Int32 × Hp) → Res Hp) → Res Hp := fun s κ17 => match s with
  | (x3, x4, h) =>
  if (hg h 178 8) ≤ x4 then
  (retI x3 h)
  else
  (loopC (Mo_readers_32 κ17 x1 x4 ) FU (x3, (x4 + (1 : Int32)), h))
def F_Mo_readers (x1 : Int32) (h : Hp) : Res Hp :=
  bI (F_Mo_askedPairs x1 h) fun v2 h1 =>
  if (0 : Int32) ≤ v2 then
  (loopC (Mo_readers_17  x1 ) FU ((0 : Int32), (0 : Int32), h1))
  else
  (retI v2 h1)
def sF_Mo_readers : List Value → Hp → Res Hp := fun as h => match as with | [.ref f0, .int x1] => (match Nat.beq f0 178 with | true => F_Mo_readers x1 h | false => none) | _ => none
theorem w_Mo_readers (x1 : Int32) (h : Hp) : sF_Mo_readers [.ref 178, .int x1] h = F_Mo_readers x1 h := rfl
def S_Mo_readers : Sem Hp := [(155, sF_Mo_askedPairs), (156, sF_Mo_isRead)]
set_option maxRecDepth 100000 in
theorem e_Mo_readers_0 (x1 : Int32) (h : Hp) : F_Mo_readers x1 h = exec1 OI S_Mo_readers 1 k_Mo_readers 0 [some (.ref 178), some (.int x1), none, none, none, none] [] h (runF OI S_Mo_readers [(17, [0, 1, 3, 4], fun vs st h => match vs, st with | [.ref f0, .int x1, .int x3, .int x4], [] => (match Nat.beq f0 178 with | true => loopC (Mo_readers_17  x1 ) FU (x3, x4, h) | false => none) | _, _ => none)] 1 k_Mo_readers 400) :=
  (x_bI (f := sF_Mo_askedPairs) rfl (w_Mo_askedPairs _ _) fun v2 h1 => (x_ite rfl rfl))
set_option maxRecDepth 100000 in
theorem e_Mo_readers_17 (κ17 : (Int32 × Int32 × Hp) → Res Hp) (x1 : Int32) (x3 : Int32) (x4 : Int32)  (h : Hp) : Mo_readers_17  x1  (x3, x4, h) κ17 = exec1 OI S_Mo_readers 1 k_Mo_readers 17 [some (.ref 178), some (.int x1), none, some (.int x3), some (.int x4), none] [] h (runF OI S_Mo_readers [(32, [0, 1, 3, 4, 5], fun vs st h => match vs, st with | [.ref f0, .int x1, .int x3, .int x4, .int x5], [] => (match Nat.beq f0 178 with | true => loopC (Mo_readers_32 κ17 x1 x4 ) FU (x3, x5, h) | false => none) | _, _ => none)] 1 k_Mo_readers 400) :=
  (x_ite rfl rfl)
set_option maxRecDepth 100000 in
theorem e_Mo_readers_32 (κ17 : (Int32 × Int32 × Hp) → Res Hp) (κ32 : (Int32 × Int32 × Hp) → Res Hp) (x1 : Int32) (x3 : Int32) (x4 : Int32) (x5 : Int32)  (h : Hp) : Mo_readers_32 κ17 x1 x4  (x3, x5, h) κ32 = exec1 OI S_Mo_readers 1 k_Mo_readers 32 [some (.ref 178), some (.int x1), none, some (.int x3), some (.int x4), some (.int x5)] [] h (runF OI S_Mo_readers [(17, [0, 1, 3, 4], fun vs st h => match vs, st with | [.ref f0, .int x1, .int x3, .int x4], [] => (match Nat.beq f0 178 with | true => κ17 (x3, x4, h) | false => none) | _, _ => none), (32, [0, 1, 3, 4, 5], fun vs st h => match vs, st with | [.ref f0, .int x1, .int x3, .int x4, .int x5], [] => (match Nat.beq f0 178 with | true => κ32 (x3, x5, h) | false => none) | _, _ => none)] 1 k_Mo_readers 400) :=
  (x_ite rfl (x_bI (f := sF_Mo_isRead) rfl (w_Mo_isRead _ _ _) fun v2 h1 => (x_ite rfl rfl)))
def k_Mo_knows : List Ent := [(0, .aload_n 0, 1, [], .null), (1, .iload_n 1, 1, [], .null), (2, .invokevirtual 91, 3, [78, 2, 1], .null), (5, .istore_n 2, 1, [], .null), (6, .iload_n 2, 1, [], .null), (7, .ifCond .ge (5), 3, [12], .null), (10, .iload_n 2, 1, [], .null), (11, .ireturn, 1, [], .null), (12, .iconst 0, 1, [], .int (0)), (13, .istore_n 3, 1, [], .null), (14, .iconst 0, 1, [], .int (0)), (15, .istore 4, 2, [], .null), (17, .iload 4, 2, [], .null), (19, .aload_n 0, 1, [], .null), (20, .getfield 13, 3, [7, 3, 1], .null), (23, .iload_n 1, 1, [], .null), (24, .iaload, 1, [], .null), (25, .if_icmp .ge (38), 3, [63], .null), (28, .aload_n 0, 1, [], .null), (29, .iload_n 1, 1, [], .null), (30, .iload 4, 2, [], .null), (32, .invokevirtual 94, 3, [80, 3, 1], .null), (35, .invokestatic 180, 3, [100, 1, 2], .null), (38, .ifCond .ne (9), 3, [47], .null), (41, .aload_n 0, 1, [], .null), (42, .iconst 3, 1, [], .int (3)), (43, .invokevirtual 80, 3, [72, 2, 1], .null), (46, .ireturn, 1, [], .null), (47, .iload_n 3, 1, [], .null), (48, .aload_n 0, 1, [], .null), (49, .iload_n 1, 1, [], .null), (50, .iload 4, 2, [], .null), (52, .invokevirtual 94, 3, [80, 3, 1], .null), (55, .ior, 1, [], .null), (56, .istore_n 3, 1, [], .null), (57, .iinc 4 (1), 3, [], .int (1)), (60, .goto (-43), 3, [17], .null), (63, .aload_n 0, 1, [], .null), (64, .bipush (31), 2, [], .int (31)), (66, .iload_n 3, 1, [], .null), (67, .iconst (-1), 1, [], .int (-1)), (68, .ixor, 1, [], .null), (69, .iand, 1, [], .null), (70, .iconst 1, 1, [], .int (1)), (71, .iconst 5, 1, [], .int (5)), (72, .iload_n 3, 1, [], .null), (73, .invokestatic 165, 3, [75, 1, 1], .null), (76, .isub, 1, [], .null), (77, .ishl, 1, [], .null), (78, .invokevirtual 98, 3, [73, 3, 1], .null), (81, .ireturn, 1, [], .null)]
def Mo_knows_17  (x1 : Int32)  : (Int32 × Int32 × Hp) → ((Int32 × Int32 × Hp) → Res Hp) → Res Hp := fun s κ17 => match s with
  | (x3, x4, h) =>
  bif okA 180 100 x1 then
  if (hg h 180 x1.toNatClampNeg) ≤ x4 then
  (bI (F_Mo_sizeOf x3 h) fun v2 h1 =>
  bI (F_Mo_ask ((31 : Int32) &&& (x3 ^^^ (-1 : Int32))) ((1 : Int32) <<< (((5 : Int32) - v2) &&& 31)) h1) fun v4 h3 =>
  retI v4 h3)
  else
  (bI (F_Mo_rowAt x1 x4 h) fun v6 h5 =>
  bI (F_Mo_isSet v6 h5) fun v8 h7 =>
  if v8 = (0 : Int32) then
  (bI (F_Mo_meetWith (3 : Int32) h7) fun v12 h11 =>
  retI v12 h11)
  else
  (bI (F_Mo_rowAt x1 x4 h7) fun v10 h9 =>
  κ17 ((x3 ||| v10), (x4 + (1 : Int32)), h9)))
  else none
def F_Mo_knows (x1 : Int32) (h : Hp) : Res Hp :=
  bI (F_Mo_askedRow x1 h) fun v2 h1 =>
  if (0 : Int32) ≤ v2 then
  (loopC (Mo_knows_17  x1 ) FU ((0 : Int32), (0 : Int32), h1))
  else
  (retI v2 h1)
def sF_Mo_knows : List Value → Hp → Res Hp := fun as h => match as with | [.ref f0, .int x1] => (match Nat.beq f0 178 with | true => F_Mo_knows x1 h | false => none) | _ => none
theorem w_Mo_knows (x1 : Int32) (h : Hp) : sF_Mo_knows [.ref 178, .int x1] h = F_Mo_knows x1 h := rfl
def S_Mo_knows : Sem Hp := [(78, sF_Mo_askedRow), (75, sF_Mo_sizeOf), (73, sF_Mo_ask), (80, sF_Mo_rowAt), (100, sF_Mo_isSet), (72, sF_Mo_meetWith)]
set_option maxRecDepth 100000 in
theorem e_Mo_knows_0 (x1 : Int32) (h : Hp) : F_Mo_knows x1 h = exec1 OI S_Mo_knows 1 k_Mo_knows 0 [some (.ref 178), some (.int x1), none, none, none] [] h (runF OI S_Mo_knows [(17, [0, 1, 3, 4], fun vs st h => match vs, st with | [.ref f0, .int x1, .int x3, .int x4], [] => (match Nat.beq f0 178 with | true => loopC (Mo_knows_17  x1 ) FU (x3, x4, h) | false => none) | _, _ => none)] 1 k_Mo_knows 400) :=
  (x_bI (f := sF_Mo_askedRow) rfl (w_Mo_askedRow _ _) fun v2 h1 => (x_ite rfl rfl))
set_option maxRecDepth 100000 in
theorem e_Mo_knows_17 (κ17 : (Int32 × Int32 × Hp) → Res Hp) (x1 : Int32) (x3 : Int32) (x4 : Int32)  (h : Hp) : Mo_knows_17  x1  (x3, x4, h) κ17 = exec1 OI S_Mo_knows 1 k_Mo_knows 17 [some (.ref 178), some (.int x1), none, some (.int x3), some (.int x4)] [] h (runF OI S_Mo_knows [(17, [0, 1, 3, 4], fun vs st h => match vs, st with | [.ref f0, .int x1, .int x3, .int x4], [] => (match Nat.beq f0 178 with | true => κ17 (x3, x4, h) | false => none) | _, _ => none)] 1 k_Mo_knows 400) :=
  (x_bif (x_ite (x_bI (f := sF_Mo_sizeOf) rfl (w_Mo_sizeOf _ _) fun v2 h1 => (x_bI (f := sF_Mo_ask) rfl (w_Mo_ask _ _ _) fun v4 h3 => rfl)) (x_bI (f := sF_Mo_rowAt) rfl (w_Mo_rowAt _ _ _) fun v6 h5 => (x_bI (f := sF_Mo_isSet) rfl (w_Mo_isSet _ _) fun v8 h7 => (x_ite (x_bI (f := sF_Mo_meetWith) rfl (w_Mo_meetWith _ _) fun v12 h11 => rfl) (x_bI (f := sF_Mo_rowAt) rfl (w_Mo_rowAt _ _ _) fun v10 h9 => rfl))))))
def k_Mo_days : List Ent := [(0, .iload_n 1, 1, [], .null), (1, .iconst 1, 1, [], .int (1)), (2, .bipush (60), 2, [], .int (60)), (4, .invokestatic 72, 3, [71, 3, 2], .null), (7, .ifCond .eq (14), 3, [21], .null), (10, .iload_n 2, 1, [], .null), (11, .iconst 1, 1, [], .int (1)), (12, .ldc_w 269, 3, [], .int (2147483646)), (15, .invokestatic 72, 3, [71, 3, 2], .null), (18, .ifCond .ne (5), 3, [23], .null), (21, .iconst (-1), 1, [], .int (-1)), (22, .ireturn, 1, [], .null), (23, .aload_n 0, 1, [], .null), (24, .getfield 131, 3, [7, 8, 0], .null), (27, .ifCond .ne (6), 3, [33], .null), (30, .bipush (-4), 2, [], .int (-4)), (32, .ireturn, 1, [], .null), (33, .aload_n 0, 1, [], .null), (34, .getfield 137, 3, [7, 13, 0], .null), (37, .iload_n 1, 1, [], .null), (38, .iadd, 1, [], .null), (39, .bipush (99), 2, [], .int (99)), (41, .if_icmp .le (6), 3, [47], .null), (44, .bipush (-2), 2, [], .int (-2)), (46, .ireturn, 1, [], .null), (47, .iload_n 2, 1, [], .null), (48, .i2l, 1, [], .null), (49, .lstore_n 3, 1, [], .null), (50, .iconst 0, 1, [], .int (0)), (51, .istore 5, 2, [], .null), (53, .iconst 0, 1, [], .int (0)), (54, .istore 6, 2, [], .null), (56, .iload 6, 2, [], .null), (58, .iload_n 1, 1, [], .null), (59, .if_icmp .ge (128), 3, [187], .null), (62, .iconst 0, 1, [], .int (0)), (63, .istore 7, 2, [], .null), (65, .iload 7, 2, [], .null), (67, .aload_n 0, 1, [], .null), (68, .getfield 140, 3, [7, 14, 0], .null), (71, .if_icmp .ge (100), 3, [171], .null), (74, .aload_n 0, 1, [], .null), (75, .iload 7, 2, [], .null), (77, .invokevirtual 201, 3, [121, 2, 1], .null), (80, .istore 8, 2, [], .null), (82, .iload 8, 2, [], .null), (84, .ifCond .eq (81), 3, [165], .null), (87, .ldc2_w 270, 3, [], .long 48271), (90, .lload_n 3, 1, [], .null), (91, .lmul, 1, [], .null), (92, .ldc2_w 272, 3, [], .long 2147483647), (95, .lrem, 1, [], .null), (96, .lstore_n 3, 1, [], .null), (97, .lload_n 3, 1, [], .null), (98, .iload 8, 2, [], .null), (100, .invokestatic 165, 3, [75, 1, 1], .null), (103, .i2l, 1, [], .null), (104, .lrem, 1, [], .null), (105, .l2i, 1, [], .null), (106, .istore 9, 2, [], .null), (108, .iconst 0, 1, [], .int (0)), (109, .istore 10, 2, [], .null), (111, .iload 8, 2, [], .null), (113, .iload 10, 2, [], .null), (115, .invokestatic 195, 3, [74, 2, 2], .null), (118, .ifCond .eq (8), 3, [126], .null), (121, .iload 9, 2, [], .null), (123, .ifCond .le (29), 3, [152], .null), (126, .iload 9, 2, [], .null), (128, .iload 8, 2, [], .null), (130, .iload 10, 2, [], .null), (132, .invokestatic 195, 3, [74, 2, 2], .null), (135, .ifCond .eq (7), 3, [142], .null), (138, .iconst 1, 1, [], .int (1)), (139, .goto (4), 3, [143], .null), (142, .iconst 0, 1, [], .int (0)), (143, .isub, 1, [], .null), (144, .istore 9, 2, [], .null), (146, .iinc 10 (1), 3, [], .int (1)), (149, .goto (-38), 3, [111], .null), (152, .iload 5, 2, [], .null), (154, .aload_n 0, 1, [], .null), (155, .iload 7, 2, [], .null), (157, .iload 10, 2, [], .null), (159, .invokevirtual 204, 3, [122, 3, 1], .null), (162, .iadd, 1, [], .null), (163, .istore 5, 2, [], .null), (165, .iinc 7 (1), 3, [], .int (1)), (168, .goto (-103), 3, [65], .null), (171, .aload_n 0, 1, [], .null), (172, .dup, 1, [], .null), (173, .getfield 137, 3, [7, 13, 0], .null), (176, .iconst 1, 1, [], .int (1)), (177, .iadd, 1, [], .null), (178, .putfield 137, 3, [7, 13, 0], .null), (181, .iinc 6 (1), 3, [], .int (1)), (184, .goto (-128), 3, [56], .null), (187, .iload 5, 2, [], .null), (189, .ireturn, 1, [], .null)]
def Mo_days_111 (κ56 : (Int64 × Int32 × Int32 × Hp) → Res Hp) (κ65 : (Int64 × Int32 × Int32 × Hp) → Res Hp) (x1 : Int32) (y3 : Int64) (x5 : Int32) (x6 : Int32) (x7 : Int32) (x8 : Int32)  : (Int32 × Int32 × Hp) → ((Int32 × Int32 × Hp) → Res Hp) → Res Hp := fun s κ111 => match s with
  | (x9, x10, h) =>
  bI (F_Mo_has x8 x10 h) fun v2 h1 =>
  if v2 = (0 : Int32) then
  (bI (F_Mo_has x8 x10 h1) fun v4 h3 =>
  if v4 = (0 : Int32) then
  (κ111 ((x9 - (0 : Int32)), (x10 + (1 : Int32)), h3))
  else
  (κ111 ((x9 - (1 : Int32)), (x10 + (1 : Int32)), h3)))
  else
  (if x9 ≤ (0 : Int32) then
  (bI (F_Mo_giveTo x7 x10 h1) fun v6 h5 =>
  κ65 (y3, (x5 + v6), (x7 + (1 : Int32)), h5))
  else
  (bI (F_Mo_has x8 x10 h1) fun v8 h7 =>
  if v8 = (0 : Int32) then
  (κ111 ((x9 - (0 : Int32)), (x10 + (1 : Int32)), h7))
  else
  (κ111 ((x9 - (1 : Int32)), (x10 + (1 : Int32)), h7))))
def Mo_days_65 (κ56 : (Int64 × Int32 × Int32 × Hp) → Res Hp) (x1 : Int32) (x6 : Int32)  : (Int64 × Int32 × Int32 × Hp) → ((Int64 × Int32 × Int32 × Hp) → Res Hp) → Res Hp := fun s κ65 => match s with
  | (y3, x5, x7, h) =>
  if (hg h 178 14) ≤ x7 then
  (bH (hs h 178 13 ((hg h 178 13) + (1 : Int32))) fun h1 =>
  κ56 (y3, x5, (x6 + (1 : Int32)), h1))
  else
  (bI (F_Mo_givable x7 h) fun v3 h2 =>
  if v3 = (0 : Int32) then
  (κ65 (y3, x5, (x7 + (1 : Int32)), h2))
  else
  (bI (F_Mo_sizeOf v3 h2) fun v5 h4 =>
  if v5.toInt64 = 0 then none else
  loopC (Mo_days_111 κ56 κ65 x1 (((48271 : Int64) * y3) - ((48271 : Int64) * y3) / (2147483647 : Int64) * (2147483647 : Int64)) x5 x6 x7 v3 ) FU ((((((48271 : Int64) * y3) - ((48271 : Int64) * y3) / (2147483647 : Int64) * (2147483647 : Int64)) - (((48271 : Int64) * y3) - ((48271 : Int64) * y3) / (2147483647 : Int64) * (2147483647 : Int64)) / v5.toInt64 * v5.toInt64)).toInt32, (0 : Int32), h4)))
def Mo_days_56  (x1 : Int32)  : (Int64 × Int32 × Int32 × Hp) → ((Int64 × Int32 × Int32 × Hp) → Res Hp) → Res Hp := fun s κ56 => match s with
  | (y3, x5, x6, h) =>
  if x1 ≤ x6 then
  (retI x5 h)
  else
  (loopC (Mo_days_65 κ56 x1 x6 ) FU (y3, x5, (0 : Int32), h))
def F_Mo_days (x1 : Int32) (x2 : Int32) (h : Hp) : Res Hp :=
  bI (F_Mo_in x1 (1 : Int32) (60 : Int32) h) fun v2 h1 =>
  if v2 = (0 : Int32) then
  (retI (-1 : Int32) h1)
  else
  (bI (F_Mo_in x2 (1 : Int32) (2147483646 : Int32) h1) fun v4 h3 =>
  if v4 = (0 : Int32) then
  (retI (-1 : Int32) h3)
  else
  (if (hg h3 178 8) = (0 : Int32) then
  (retI (-4 : Int32) h3)
  else
  (if ((hg h3 178 13) + x1) ≤ (99 : Int32) then
  (loopC (Mo_days_56  x1 ) FU (x2.toInt64, (0 : Int32), (0 : Int32), h3))
  else
  (retI (-2 : Int32) h3))))
def sF_Mo_days : List Value → Hp → Res Hp := fun as h => match as with | [.ref f0, .int x1, .int x2] => (match Nat.beq f0 178 with | true => F_Mo_days x1 x2 h | false => none) | _ => none
theorem w_Mo_days (x1 : Int32) (x2 : Int32) (h : Hp) : sF_Mo_days [.ref 178, .int x1, .int x2] h = F_Mo_days x1 x2 h := rfl
def S_Mo_days : Sem Hp := [(71, sF_Mo_in), (121, sF_Mo_givable), (75, sF_Mo_sizeOf), (74, sF_Mo_has), (122, sF_Mo_giveTo)]
set_option maxRecDepth 100000 in
theorem e_Mo_days_0 (x1 : Int32) (x2 : Int32) (h : Hp) : F_Mo_days x1 x2 h = exec1 OI S_Mo_days 1 k_Mo_days 0 [some (.ref 178), some (.int x1), some (.int x2), none, none, none, none, none, none, none, none] [] h (runF OI S_Mo_days [(56, [0, 1, 3, 5, 6], fun vs st h => match vs, st with | [.ref f0, .int x1, .long y3, .int x5, .int x6], [] => (match Nat.beq f0 178 with | true => loopC (Mo_days_56  x1 ) FU (y3, x5, x6, h) | false => none) | _, _ => none)] 1 k_Mo_days 400) :=
  (x_bI (f := sF_Mo_in) rfl (w_Mo_in _ _ _ _) fun v2 h1 => (x_ite rfl (x_bI (f := sF_Mo_in) rfl (w_Mo_in _ _ _ _) fun v4 h3 => (x_ite rfl (x_ite rfl (x_ite rfl rfl))))))
set_option maxRecDepth 100000 in
theorem e_Mo_days_56 (κ56 : (Int64 × Int32 × Int32 × Hp) → Res Hp) (x1 : Int32) (y3 : Int64) (x5 : Int32) (x6 : Int32)  (h : Hp) : Mo_days_56  x1  (y3, x5, x6, h) κ56 = exec1 OI S_Mo_days 1 k_Mo_days 56 [some (.ref 178), some (.int x1), none, some (.long y3), none, some (.int x5), some (.int x6), none, none, none, none] [] h (runF OI S_Mo_days [(65, [0, 1, 3, 5, 6, 7], fun vs st h => match vs, st with | [.ref f0, .int x1, .long y3, .int x5, .int x6, .int x7], [] => (match Nat.beq f0 178 with | true => loopC (Mo_days_65 κ56 x1 x6 ) FU (y3, x5, x7, h) | false => none) | _, _ => none)] 1 k_Mo_days 400) :=
  (x_ite rfl rfl)
set_option maxRecDepth 100000 in
theorem e_Mo_days_65 (κ56 : (Int64 × Int32 × Int32 × Hp) → Res Hp) (κ65 : (Int64 × Int32 × Int32 × Hp) → Res Hp) (x1 : Int32) (y3 : Int64) (x5 : Int32) (x6 : Int32) (x7 : Int32)  (h : Hp) : Mo_days_65 κ56 x1 x6  (y3, x5, x7, h) κ65 = exec1 OI S_Mo_days 1 k_Mo_days 65 [some (.ref 178), some (.int x1), none, some (.long y3), none, some (.int x5), some (.int x6), some (.int x7), none, none, none] [] h (runF OI S_Mo_days [(56, [0, 1, 3, 5, 6], fun vs st h => match vs, st with | [.ref f0, .int x1, .long y3, .int x5, .int x6], [] => (match Nat.beq f0 178 with | true => κ56 (y3, x5, x6, h) | false => none) | _, _ => none), (65, [0, 1, 3, 5, 6, 7], fun vs st h => match vs, st with | [.ref f0, .int x1, .long y3, .int x5, .int x6, .int x7], [] => (match Nat.beq f0 178 with | true => κ65 (y3, x5, x7, h) | false => none) | _, _ => none), (111, [0, 1, 3, 5, 6, 7, 8, 9, 10], fun vs st h => match vs, st with | [.ref f0, .int x1, .long y3, .int x5, .int x6, .int x7, .int x8, .int x9, .int x10], [] => (match Nat.beq f0 178 with | true => loopC (Mo_days_111 κ56 κ65 x1 y3 x5 x6 x7 x8 ) FU (x9, x10, h) | false => none) | _, _ => none)] 1 k_Mo_days 400) :=
  (x_ite (x_bH fun h1 => rfl) (x_bI (f := sF_Mo_givable) rfl (w_Mo_givable _ _) fun v3 h2 => (x_ite rfl (x_bI (f := sF_Mo_sizeOf) rfl (w_Mo_sizeOf _ _) fun v5 h4 => (x_if0 rfl)))))
set_option maxRecDepth 100000 in
theorem e_Mo_days_111 (κ56 : (Int64 × Int32 × Int32 × Hp) → Res Hp) (κ65 : (Int64 × Int32 × Int32 × Hp) → Res Hp) (κ111 : (Int32 × Int32 × Hp) → Res Hp) (x1 : Int32) (y3 : Int64) (x5 : Int32) (x6 : Int32) (x7 : Int32) (x8 : Int32) (x9 : Int32) (x10 : Int32)  (h : Hp) : Mo_days_111 κ56 κ65 x1 y3 x5 x6 x7 x8  (x9, x10, h) κ111 = exec1 OI S_Mo_days 1 k_Mo_days 111 [some (.ref 178), some (.int x1), none, some (.long y3), none, some (.int x5), some (.int x6), some (.int x7), some (.int x8), some (.int x9), some (.int x10)] [] h (runF OI S_Mo_days [(111, [0, 1, 3, 5, 6, 7, 8, 9, 10], fun vs st h => match vs, st with | [.ref f0, .int x1, .long y3, .int x5, .int x6, .int x7, .int x8, .int x9, .int x10], [] => (match Nat.beq f0 178 with | true => κ111 (x9, x10, h) | false => none) | _, _ => none), (65, [0, 1, 3, 5, 6, 7], fun vs st h => match vs, st with | [.ref f0, .int x1, .long y3, .int x5, .int x6, .int x7], [] => (match Nat.beq f0 178 with | true => κ65 (y3, x5, x7, h) | false => none) | _, _ => none)] 1 k_Mo_days 400) :=
  (x_bI (f := sF_Mo_has) rfl (w_Mo_has _ _ _) fun v2 h1 => (x_ite (x_bI (f := sF_Mo_has) rfl (w_Mo_has _ _ _) fun v4 h3 => (x_ite rfl rfl)) (x_ite (x_bI (f := sF_Mo_giveTo) rfl (w_Mo_giveTo _ _ _) fun v6 h5 => rfl) (x_bI (f := sF_Mo_has) rfl (w_Mo_has _ _ _) fun v8 h7 => (x_ite rfl rfl)))))
def k_Mo_asked : List Ent := [(0, .aload_n 0, 1, [], .null), (1, .getfield 69, 3, [7, 2, 0], .null), (4, .ireturn, 1, [], .null)]
def F_Mo_asked  (h : Hp) : Res Hp :=
  retI (hg h 178 2) h
def sF_Mo_asked : List Value → Hp → Res Hp := fun as h => match as with | [.ref f0] => (match Nat.beq f0 178 with | true => F_Mo_asked  h | false => none) | _ => none
theorem w_Mo_asked  (h : Hp) : sF_Mo_asked [.ref 178] h = F_Mo_asked  h := rfl
def S_Mo_asked : Sem Hp := []
set_option maxRecDepth 100000 in
theorem e_Mo_asked_0  (h : Hp) : F_Mo_asked  h = exec1 OI S_Mo_asked 1 k_Mo_asked 0 [some (.ref 178)] [] h (runF OI S_Mo_asked [] 1 k_Mo_asked 400) :=
  rfl
def k_Mo_divisor : List Ent := [(0, .iload_n 0, 1, [], .null), (1, .istore_n 2, 1, [], .null), (2, .iload_n 1, 1, [], .null), (3, .istore_n 3, 1, [], .null), (4, .iload_n 3, 1, [], .null), (5, .ifCond .eq (16), 3, [21], .null), (8, .iload_n 2, 1, [], .null), (9, .iload_n 3, 1, [], .null), (10, .irem, 1, [], .null), (11, .istore 4, 2, [], .null), (13, .iload_n 3, 1, [], .null), (14, .istore_n 2, 1, [], .null), (15, .iload 4, 2, [], .null), (17, .istore_n 3, 1, [], .null), (18, .goto (-14), 3, [4], .null), (21, .iload_n 2, 1, [], .null), (22, .ireturn, 1, [], .null)]
def Mo_divisor_4   (h : Hp) : (Int32 × Int32) → ((Int32 × Int32) → Res Hp) → Res Hp := fun s κ4 => match s with
  | (x2, x3) =>
  if x3 = (0 : Int32) then
  (retI x2 h)
  else
  (if x3 = 0 then none else
  κ4 (x3, (x2 - x2 / x3 * x3)))
def F_Mo_divisor (x0 : Int32) (x1 : Int32) (h : Hp) : Res Hp :=
  loopC (Mo_divisor_4   h) FU (x0, x1)
def sF_Mo_divisor : List Value → Hp → Res Hp := fun as h => match as with | [.int x0, .int x1] => F_Mo_divisor x0 x1 h | _ => none
theorem w_Mo_divisor (x0 : Int32) (x1 : Int32) (h : Hp) : sF_Mo_divisor [.int x0, .int x1] h = F_Mo_divisor x0 x1 h := rfl
def S_Mo_divisor : Sem Hp := []
set_option maxRecDepth 100000 in
theorem e_Mo_divisor_0 (x0 : Int32) (x1 : Int32) (h : Hp) : F_Mo_divisor x0 x1 h = exec1 OI S_Mo_divisor 1 k_Mo_divisor 0 [some (.int x0), some (.int x1), none, none, none] [] h (runF OI S_Mo_divisor [(4, [2, 3], fun vs st h => match vs, st with | [.int x2, .int x3], [] => loopC (Mo_divisor_4   h) FU (x2, x3) | _, _ => none)] 1 k_Mo_divisor 400) :=
  rfl
set_option maxRecDepth 100000 in
theorem e_Mo_divisor_4 (κ4 : (Int32 × Int32) → Res Hp) (x2 : Int32) (x3 : Int32)  (h : Hp) : Mo_divisor_4   h (x2, x3) κ4 = exec1 OI S_Mo_divisor 1 k_Mo_divisor 4 [none, none, some (.int x2), some (.int x3), none] [] h (runF OI S_Mo_divisor [(4, [2, 3], fun vs st h => match vs, st with | [.int x2, .int x3], [] => κ4 (x2, x3) | _, _ => none)] 1 k_Mo_divisor 400) :=
  (x_ite rfl (x_if0 rfl))
def k_Mo_upper : List Ent := [(0, .aload_n 0, 1, [], .null), (1, .invokevirtual 256, 3, [148, 1, 1], .null), (4, .istore_n 1, 1, [], .null), (5, .aload_n 0, 1, [], .null), (6, .getfield 250, 3, [7, 30, 0], .null), (9, .ifCond .ne (7), 3, [16], .null), (12, .lconst 0, 1, [], .long 0), (13, .goto (24), 3, [37], .null), (16, .aload_n 0, 1, [], .null), (17, .getfield 250, 3, [7, 30, 0], .null), (20, .iload_n 1, 1, [], .null), (21, .isub, 1, [], .null), (22, .aload_n 0, 1, [], .null), (23, .getfield 250, 3, [7, 30, 0], .null), (26, .iload_n 1, 1, [], .null), (27, .isub, 1, [], .null), (28, .aload_n 0, 1, [], .null), (29, .getfield 250, 3, [7, 30, 0], .null), (32, .invokestatic 274, 3, [162, 2, 1], .null), (35, .idiv, 1, [], .null), (36, .i2l, 1, [], .null), (37, .lreturn, 1, [], .null)]
def F_Mo_upper  (h : Hp) : Res Hp :=
  bI (F_Mo_cutNow  h) fun v2 h1 =>
  if (hg h1 178 30) = (0 : Int32) then
  (retL (0 : Int64) h1)
  else
  (bI (F_Mo_divisor ((hg h1 178 30) - v2) (hg h1 178 30) h1) fun v4 h3 =>
  if v4 = 0 then none else
  retL (((hg h1 178 30) - v2) / v4).toInt64 h3)
def sF_Mo_upper : List Value → Hp → Res Hp := fun as h => match as with | [.ref f0] => (match Nat.beq f0 178 with | true => F_Mo_upper  h | false => none) | _ => none
theorem w_Mo_upper  (h : Hp) : sF_Mo_upper [.ref 178] h = F_Mo_upper  h := rfl
def S_Mo_upper : Sem Hp := [(148, sF_Mo_cutNow), (162, sF_Mo_divisor)]
set_option maxRecDepth 100000 in
theorem e_Mo_upper_0  (h : Hp) : F_Mo_upper  h = exec1 OI S_Mo_upper 3 k_Mo_upper 0 [some (.ref 178), none] [] h (runF OI S_Mo_upper [] 3 k_Mo_upper 400) :=
  (x_bI (f := sF_Mo_cutNow) rfl (w_Mo_cutNow  _) fun v2 h1 => (x_ite rfl (x_bI (f := sF_Mo_divisor) rfl (w_Mo_divisor _ _ _) fun v4 h3 => (x_if0 rfl))))
def k_Mo_lower : List Ent := [(0, .aload_n 0, 1, [], .null), (1, .invokevirtual 256, 3, [148, 1, 1], .null), (4, .istore_n 1, 1, [], .null), (5, .aload_n 0, 1, [], .null), (6, .getfield 250, 3, [7, 30, 0], .null), (9, .ifCond .ne (7), 3, [16], .null), (12, .lconst 1, 1, [], .long 1), (13, .goto (22), 3, [35], .null), (16, .aload_n 0, 1, [], .null), (17, .getfield 250, 3, [7, 30, 0], .null), (20, .aload_n 0, 1, [], .null), (21, .getfield 250, 3, [7, 30, 0], .null), (24, .iload_n 1, 1, [], .null), (25, .isub, 1, [], .null), (26, .aload_n 0, 1, [], .null), (27, .getfield 250, 3, [7, 30, 0], .null), (30, .invokestatic 274, 3, [162, 2, 1], .null), (33, .idiv, 1, [], .null), (34, .i2l, 1, [], .null), (35, .lreturn, 1, [], .null)]
def F_Mo_lower  (h : Hp) : Res Hp :=
  bI (F_Mo_cutNow  h) fun v2 h1 =>
  if (hg h1 178 30) = (0 : Int32) then
  (retL (1 : Int64) h1)
  else
  (bI (F_Mo_divisor ((hg h1 178 30) - v2) (hg h1 178 30) h1) fun v4 h3 =>
  if v4 = 0 then none else
  retL ((hg h1 178 30) / v4).toInt64 h3)
def sF_Mo_lower : List Value → Hp → Res Hp := fun as h => match as with | [.ref f0] => (match Nat.beq f0 178 with | true => F_Mo_lower  h | false => none) | _ => none
theorem w_Mo_lower  (h : Hp) : sF_Mo_lower [.ref 178] h = F_Mo_lower  h := rfl
def S_Mo_lower : Sem Hp := [(148, sF_Mo_cutNow), (162, sF_Mo_divisor)]
set_option maxRecDepth 100000 in
theorem e_Mo_lower_0  (h : Hp) : F_Mo_lower  h = exec1 OI S_Mo_lower 3 k_Mo_lower 0 [some (.ref 178), none] [] h (runF OI S_Mo_lower [] 3 k_Mo_lower 400) :=
  (x_bI (f := sF_Mo_cutNow) rfl (w_Mo_cutNow  _) fun v2 h1 => (x_ite rfl (x_bI (f := sF_Mo_divisor) rfl (w_Mo_divisor _ _ _) fun v4 h3 => (x_if0 rfl))))
def k_Mo_tells : List Ent := [(0, .iconst 0, 1, [], .int (0)), (1, .istore_n 2, 1, [], .null), (2, .iconst 0, 1, [], .int (0)), (3, .istore_n 3, 1, [], .null), (4, .iload_n 3, 1, [], .null), (5, .bipush (7), 2, [], .int (7)), (7, .if_icmp .ge (127), 3, [134], .null), (10, .iload_n 2, 1, [], .null), (11, .iload_n 1, 1, [], .null), (12, .iconst 4, 1, [], .int (4)), (13, .if_icmp .ne (19), 3, [32], .null), (16, .iload_n 3, 1, [], .null), (17, .aload_n 0, 1, [], .null), (18, .getfield 140, 3, [7, 14, 0], .null), (21, .if_icmp .ge (11), 3, [32], .null), (24, .aload_n 0, 1, [], .null), (25, .iload_n 3, 1, [], .null), (26, .invokevirtual 159, 3, [107, 2, 2], .null), (29, .ifCond .ne (92), 3, [121], .null), (32, .iload_n 1, 1, [], .null), (33, .iconst 5, 1, [], .int (5)), (34, .if_icmp .ne (20), 3, [54], .null), (37, .iload_n 3, 1, [], .null), (38, .aload_n 0, 1, [], .null), (39, .getfield 131, 3, [7, 8, 0], .null), (42, .if_icmp .ge (12), 3, [54], .null), (45, .aload_n 0, 1, [], .null), (46, .iload_n 3, 1, [], .null), (47, .iconst 1, 1, [], .int (1)), (48, .invokevirtual 146, 3, [101, 3, 2], .null), (51, .ifCond .ne (70), 3, [121], .null), (54, .iload_n 1, 1, [], .null), (55, .bipush (6), 2, [], .int (6)), (57, .if_icmp .ne (18), 3, [75], .null), (60, .iload_n 3, 1, [], .null), (61, .bipush (6), 2, [], .int (6)), (63, .if_icmp .ge (12), 3, [75], .null), (66, .aload_n 0, 1, [], .null), (67, .getfield 13, 3, [7, 3, 1], .null), (70, .iload_n 3, 1, [], .null), (71, .iaload, 1, [], .null), (72, .ifCond .ge (49), 3, [121], .null), (75, .iload_n 1, 1, [], .null), (76, .bipush (7), 2, [], .int (7)), (78, .if_icmp .ne (17), 3, [95], .null), (81, .iload_n 3, 1, [], .null), (82, .iconst 4, 1, [], .int (4)), (83, .if_icmp .ge (12), 3, [95], .null), (86, .aload_n 0, 1, [], .null), (87, .getfield 22, 3, [7, 6, 1], .null), (90, .iload_n 3, 1, [], .null), (91, .iaload, 1, [], .null), (92, .ifCond .ge (29), 3, [121], .null), (95, .iload_n 1, 1, [], .null), (96, .bipush (8), 2, [], .int (8)), (98, .if_icmp .ne (27), 3, [125], .null), (101, .iload_n 3, 1, [], .null), (102, .iconst 3, 1, [], .int (3)), (103, .if_icmp .ge (22), 3, [125], .null), (106, .aload_n 0, 1, [], .null), (107, .getfield 49, 3, [7, 22, 1], .null), (110, .sipush (140), 3, [], .int (140)), (113, .iload_n 3, 1, [], .null), (114, .imul, 1, [], .null), (115, .iaload, 1, [], .null), (116, .bipush (-9), 2, [], .int (-9)), (118, .if_icmp .eq (7), 3, [125], .null), (121, .iconst 1, 1, [], .int (1)), (122, .goto (4), 3, [126], .null), (125, .iconst 0, 1, [], .int (0)), (126, .iadd, 1, [], .null), (127, .istore_n 2, 1, [], .null), (128, .iinc 3 (1), 3, [], .int (1)), (131, .goto (-127), 3, [4], .null), (134, .iload_n 1, 1, [], .null), (135, .tableswitch (49) 0 3 #[29, 34, 39, 44], 29, [184, 0, 164, 1, 169, 2, 174, 3, 179], .null), (164, .aload_n 0, 1, [], .null), (165, .getfield 131, 3, [7, 8, 0], .null), (168, .ireturn, 1, [], .null), (169, .aload_n 0, 1, [], .null), (170, .getfield 134, 3, [7, 11, 0], .null), (173, .ireturn, 1, [], .null), (174, .aload_n 0, 1, [], .null), (175, .getfield 137, 3, [7, 13, 0], .null), (178, .ireturn, 1, [], .null), (179, .aload_n 0, 1, [], .null), (180, .getfield 140, 3, [7, 14, 0], .null), (183, .ireturn, 1, [], .null), (184, .iload_n 2, 1, [], .null), (185, .ireturn, 1, [], .null)]
def Mo_tells_54 (κ4 : (Int32 × Int32 × Hp) → Res Hp) (x1 : Int32) (x3 : Int32) (s0 : Int32) (h : Hp) : Res Hp :=
  if x1 = (6 : Int32) then
  (if (6 : Int32) ≤ x3 then
  (if x1 = (7 : Int32) then
  (if (4 : Int32) ≤ x3 then
  (if x1 = (8 : Int32) then
  (if (3 : Int32) ≤ x3 then
  (κ4 ((s0 + (0 : Int32)), (x3 + (1 : Int32)), h))
  else
  (bif okA 192 100 ((140 : Int32) * x3) then
  if (hg h 192 ((140 : Int32) * x3).toNatClampNeg) = (-9 : Int32) then
  (κ4 ((s0 + (0 : Int32)), (x3 + (1 : Int32)), h))
  else
  (κ4 ((s0 + (1 : Int32)), (x3 + (1 : Int32)), h))
  else none))
  else
  (κ4 ((s0 + (0 : Int32)), (x3 + (1 : Int32)), h)))
  else
  (bif okA 183 100 x3 then
  if (0 : Int32) ≤ (hg h 183 x3.toNatClampNeg) then
  (κ4 ((s0 + (1 : Int32)), (x3 + (1 : Int32)), h))
  else
  (if x1 = (8 : Int32) then
  (if (3 : Int32) ≤ x3 then
  (κ4 ((s0 + (0 : Int32)), (x3 + (1 : Int32)), h))
  else
  (bif okA 192 100 ((140 : Int32) * x3) then
  if (hg h 192 ((140 : Int32) * x3).toNatClampNeg) = (-9 : Int32) then
  (κ4 ((s0 + (0 : Int32)), (x3 + (1 : Int32)), h))
  else
  (κ4 ((s0 + (1 : Int32)), (x3 + (1 : Int32)), h))
  else none))
  else
  (κ4 ((s0 + (0 : Int32)), (x3 + (1 : Int32)), h)))
  else none))
  else
  (if x1 = (8 : Int32) then
  (if (3 : Int32) ≤ x3 then
  (κ4 ((s0 + (0 : Int32)), (x3 + (1 : Int32)), h))
  else
  (bif okA 192 100 ((140 : Int32) * x3) then
  if (hg h 192 ((140 : Int32) * x3).toNatClampNeg) = (-9 : Int32) then
  (κ4 ((s0 + (0 : Int32)), (x3 + (1 : Int32)), h))
  else
  (κ4 ((s0 + (1 : Int32)), (x3 + (1 : Int32)), h))
  else none))
  else
  (κ4 ((s0 + (0 : Int32)), (x3 + (1 : Int32)), h))))
  else
  (bif okA 180 100 x3 then
  if (0 : Int32) ≤ (hg h 180 x3.toNatClampNeg) then
  (κ4 ((s0 + (1 : Int32)), (x3 + (1 : Int32)), h))
  else
  (if x1 = (7 : Int32) then
  (if (4 : Int32) ≤ x3 then
  (if x1 = (8 : Int32) then
  (if (3 : Int32) ≤ x3 then
  (κ4 ((s0 + (0 : Int32)), (x3 + (1 : Int32)), h))
  else
  (bif okA 192 100 ((140 : Int32) * x3) then
  if (hg h 192 ((140 : Int32) * x3).toNatClampNeg) = (-9 : Int32) then
  (κ4 ((s0 + (0 : Int32)), (x3 + (1 : Int32)), h))
  else
  (κ4 ((s0 + (1 : Int32)), (x3 + (1 : Int32)), h))
  else none))
  else
  (κ4 ((s0 + (0 : Int32)), (x3 + (1 : Int32)), h)))
  else
  (bif okA 183 100 x3 then
  if (0 : Int32) ≤ (hg h 183 x3.toNatClampNeg) then
  (κ4 ((s0 + (1 : Int32)), (x3 + (1 : Int32)), h))
  else
  (if x1 = (8 : Int32) then
  (if (3 : Int32) ≤ x3 then
  (κ4 ((s0 + (0 : Int32)), (x3 + (1 : Int32)), h))
  else
  (bif okA 192 100 ((140 : Int32) * x3) then
  if (hg h 192 ((140 : Int32) * x3).toNatClampNeg) = (-9 : Int32) then
  (κ4 ((s0 + (0 : Int32)), (x3 + (1 : Int32)), h))
  else
  (κ4 ((s0 + (1 : Int32)), (x3 + (1 : Int32)), h))
  else none))
  else
  (κ4 ((s0 + (0 : Int32)), (x3 + (1 : Int32)), h)))
  else none))
  else
  (if x1 = (8 : Int32) then
  (if (3 : Int32) ≤ x3 then
  (κ4 ((s0 + (0 : Int32)), (x3 + (1 : Int32)), h))
  else
  (bif okA 192 100 ((140 : Int32) * x3) then
  if (hg h 192 ((140 : Int32) * x3).toNatClampNeg) = (-9 : Int32) then
  (κ4 ((s0 + (0 : Int32)), (x3 + (1 : Int32)), h))
  else
  (κ4 ((s0 + (1 : Int32)), (x3 + (1 : Int32)), h))
  else none))
  else
  (κ4 ((s0 + (0 : Int32)), (x3 + (1 : Int32)), h))))
  else none))
  else
  (if x1 = (7 : Int32) then
  (if (4 : Int32) ≤ x3 then
  (if x1 = (8 : Int32) then
  (if (3 : Int32) ≤ x3 then
  (κ4 ((s0 + (0 : Int32)), (x3 + (1 : Int32)), h))
  else
  (bif okA 192 100 ((140 : Int32) * x3) then
  if (hg h 192 ((140 : Int32) * x3).toNatClampNeg) = (-9 : Int32) then
  (κ4 ((s0 + (0 : Int32)), (x3 + (1 : Int32)), h))
  else
  (κ4 ((s0 + (1 : Int32)), (x3 + (1 : Int32)), h))
  else none))
  else
  (κ4 ((s0 + (0 : Int32)), (x3 + (1 : Int32)), h)))
  else
  (bif okA 183 100 x3 then
  if (0 : Int32) ≤ (hg h 183 x3.toNatClampNeg) then
  (κ4 ((s0 + (1 : Int32)), (x3 + (1 : Int32)), h))
  else
  (if x1 = (8 : Int32) then
  (if (3 : Int32) ≤ x3 then
  (κ4 ((s0 + (0 : Int32)), (x3 + (1 : Int32)), h))
  else
  (bif okA 192 100 ((140 : Int32) * x3) then
  if (hg h 192 ((140 : Int32) * x3).toNatClampNeg) = (-9 : Int32) then
  (κ4 ((s0 + (0 : Int32)), (x3 + (1 : Int32)), h))
  else
  (κ4 ((s0 + (1 : Int32)), (x3 + (1 : Int32)), h))
  else none))
  else
  (κ4 ((s0 + (0 : Int32)), (x3 + (1 : Int32)), h)))
  else none))
  else
  (if x1 = (8 : Int32) then
  (if (3 : Int32) ≤ x3 then
  (κ4 ((s0 + (0 : Int32)), (x3 + (1 : Int32)), h))
  else
  (bif okA 192 100 ((140 : Int32) * x3) then
  if (hg h 192 ((140 : Int32) * x3).toNatClampNeg) = (-9 : Int32) then
  (κ4 ((s0 + (0 : Int32)), (x3 + (1 : Int32)), h))
  else
  (κ4 ((s0 + (1 : Int32)), (x3 + (1 : Int32)), h))
  else none))
  else
  (κ4 ((s0 + (0 : Int32)), (x3 + (1 : Int32)), h))))
def Mo_tells_32 (κ4 : (Int32 × Int32 × Hp) → Res Hp) (x1 : Int32) (x3 : Int32) (s0 : Int32) (h : Hp) : Res Hp :=
  if x1 = (5 : Int32) then
  (if (hg h 178 8) ≤ x3 then
  (Mo_tells_54 κ4 x1 x3 s0 h)
  else
  (bI (F_Mo_isA x3 (1 : Int32) h) fun v2 h1 =>
  if v2 = (0 : Int32) then
  (Mo_tells_54 κ4 x1 x3 s0 h1)
  else
  (κ4 ((s0 + (1 : Int32)), (x3 + (1 : Int32)), h1))))
  else
  (Mo_tells_54 κ4 x1 x3 s0 h)
def Mo_tells_4  (x1 : Int32)  : (Int32 × Int32 × Hp) → ((Int32 × Int32 × Hp) → Res Hp) → Res Hp := fun s κ4 => match s with
  | (x2, x3, h) =>
  if (7 : Int32) ≤ x3 then
  (if x1 = (0 : Int32) then
  (retI (hg h 178 8) h)
  else if x1 = (1 : Int32) then
  (retI (hg h 178 11) h)
  else if x1 = (2 : Int32) then
  (retI (hg h 178 13) h)
  else if x1 = (3 : Int32) then
  (retI (hg h 178 14) h)
  else 
  (retI x2 h))
  else
  (if x1 = (4 : Int32) then
  (if (hg h 178 14) ≤ x3 then
  (Mo_tells_32 κ4 x1 x3 x2 h)
  else
  (bI (F_Mo_isThere x3 h) fun v2 h1 =>
  if v2 = (0 : Int32) then
  (Mo_tells_32 κ4 x1 x3 x2 h1)
  else
  (κ4 ((x2 + (1 : Int32)), (x3 + (1 : Int32)), h1))))
  else
  (Mo_tells_32 κ4 x1 x3 x2 h))
def F_Mo_tells (x1 : Int32) (h : Hp) : Res Hp :=
  loopC (Mo_tells_4  x1 ) FU ((0 : Int32), (0 : Int32), h)
def sF_Mo_tells : List Value → Hp → Res Hp := fun as h => match as with | [.ref f0, .int x1] => (match Nat.beq f0 178 with | true => F_Mo_tells x1 h | false => none) | _ => none
theorem w_Mo_tells (x1 : Int32) (h : Hp) : sF_Mo_tells [.ref 178, .int x1] h = F_Mo_tells x1 h := rfl
def S_Mo_tells : Sem Hp := [(101, sF_Mo_isA), (107, sF_Mo_isThere)]
set_option maxRecDepth 100000 in
theorem e_Mo_tells_0 (x1 : Int32) (h : Hp) : F_Mo_tells x1 h = exec1 OI S_Mo_tells 1 k_Mo_tells 0 [some (.ref 178), some (.int x1), none, none] [] h (runF OI S_Mo_tells [(4, [0, 1, 2, 3], fun vs st h => match vs, st with | [.ref f0, .int x1, .int x2, .int x3], [] => (match Nat.beq f0 178 with | true => loopC (Mo_tells_4  x1 ) FU (x2, x3, h) | false => none) | _, _ => none)] 1 k_Mo_tells 400) :=
  rfl
set_option maxRecDepth 100000 in
theorem e_Mo_tells_4 (κ4 : (Int32 × Int32 × Hp) → Res Hp) (x1 : Int32) (x2 : Int32) (x3 : Int32)  (h : Hp) : Mo_tells_4  x1  (x2, x3, h) κ4 = exec1 OI S_Mo_tells 1 k_Mo_tells 4 [some (.ref 178), some (.int x1), some (.int x2), some (.int x3)] [] h (runF OI S_Mo_tells [(32, [0, 1, 3], fun vs st h => match vs, st with | [.ref f0, .int x1, .int x3], [.int s0] => (match Nat.beq f0 178 with | true => Mo_tells_32 κ4 x1 x3 s0 h | false => none) | _, _ => none), (4, [0, 1, 2, 3], fun vs st h => match vs, st with | [.ref f0, .int x1, .int x2, .int x3], [] => (match Nat.beq f0 178 with | true => κ4 (x2, x3, h) | false => none) | _, _ => none)] 1 k_Mo_tells 400) :=
  (x_ite (x_ite rfl (x_ite rfl (x_ite rfl (x_ite rfl rfl)))) (x_ite (x_ite rfl (x_bI (f := sF_Mo_isThere) rfl (w_Mo_isThere _ _) fun v2 h1 => (x_ite rfl rfl))) rfl))
set_option maxRecDepth 100000 in
theorem e_Mo_tells_32 (κ4 : (Int32 × Int32 × Hp) → Res Hp) (x1 : Int32) (x3 : Int32) (s0 : Int32) (h : Hp) : Mo_tells_32 κ4 x1 x3 s0 h = exec1 OI S_Mo_tells 1 k_Mo_tells 32 [some (.ref 178), some (.int x1), none, some (.int x3)] [.int s0] h (runF OI S_Mo_tells [(54, [0, 1, 3], fun vs st h => match vs, st with | [.ref f0, .int x1, .int x3], [.int s0] => (match Nat.beq f0 178 with | true => Mo_tells_54 κ4 x1 x3 s0 h | false => none) | _, _ => none), (4, [0, 1, 2, 3], fun vs st h => match vs, st with | [.ref f0, .int x1, .int x2, .int x3], [] => (match Nat.beq f0 178 with | true => κ4 (x2, x3, h) | false => none) | _, _ => none)] 1 k_Mo_tells 400) :=
  (x_ite (x_ite rfl (x_bI (f := sF_Mo_isA) rfl (w_Mo_isA _ _ _) fun v2 h1 => (x_ite rfl rfl))) rfl)
set_option maxRecDepth 100000 in
theorem e_Mo_tells_54 (κ4 : (Int32 × Int32 × Hp) → Res Hp) (x1 : Int32) (x3 : Int32) (s0 : Int32) (h : Hp) : Mo_tells_54 κ4 x1 x3 s0 h = exec1 OI S_Mo_tells 1 k_Mo_tells 54 [some (.ref 178), some (.int x1), none, some (.int x3)] [.int s0] h (runF OI S_Mo_tells [(4, [0, 1, 2, 3], fun vs st h => match vs, st with | [.ref f0, .int x1, .int x2, .int x3], [] => (match Nat.beq f0 178 with | true => κ4 (x2, x3, h) | false => none) | _, _ => none)] 1 k_Mo_tells 400) :=
  (x_ite (x_ite (x_ite (x_ite (x_ite (x_ite rfl (x_bif (x_ite rfl rfl))) rfl) (x_bif (x_ite rfl (x_ite (x_ite rfl (x_bif (x_ite rfl rfl))) rfl)))) (x_ite (x_ite rfl (x_bif (x_ite rfl rfl))) rfl)) (x_bif (x_ite rfl (x_ite (x_ite (x_ite (x_ite rfl (x_bif (x_ite rfl rfl))) rfl) (x_bif (x_ite rfl (x_ite (x_ite rfl (x_bif (x_ite rfl rfl))) rfl)))) (x_ite (x_ite rfl (x_bif (x_ite rfl rfl))) rfl))))) (x_ite (x_ite (x_ite (x_ite rfl (x_bif (x_ite rfl rfl))) rfl) (x_bif (x_ite rfl (x_ite (x_ite rfl (x_bif (x_ite rfl rfl))) rfl)))) (x_ite (x_ite rfl (x_bif (x_ite rfl rfl))) rfl)))
def k_Mo_count : List Ent := [(0, .iload_n 1, 1, [], .null), (1, .iconst 0, 1, [], .int (0)), (2, .bipush (8), 2, [], .int (8)), (4, .invokestatic 72, 3, [71, 3, 2], .null), (7, .ifCond .eq (11), 3, [18], .null), (10, .aload_n 0, 1, [], .null), (11, .iload_n 1, 1, [], .null), (12, .invokevirtual 277, 3, [165, 2, 1], .null), (15, .goto (4), 3, [19], .null), (18, .iconst (-1), 1, [], .int (-1)), (19, .ireturn, 1, [], .null)]
def F_Mo_count (x1 : Int32) (h : Hp) : Res Hp :=
  bI (F_Mo_in x1 (0 : Int32) (8 : Int32) h) fun v2 h1 =>
  if v2 = (0 : Int32) then
  (retI (-1 : Int32) h1)
  else
  (bI (F_Mo_tells x1 h1) fun v4 h3 =>
  retI v4 h3)
def sF_Mo_count : List Value → Hp → Res Hp := fun as h => match as with | [.ref f0, .int x1] => (match Nat.beq f0 178 with | true => F_Mo_count x1 h | false => none) | _ => none
theorem w_Mo_count (x1 : Int32) (h : Hp) : sF_Mo_count [.ref 178, .int x1] h = F_Mo_count x1 h := rfl
def S_Mo_count : Sem Hp := [(71, sF_Mo_in), (165, sF_Mo_tells)]
set_option maxRecDepth 100000 in
theorem e_Mo_count_0 (x1 : Int32) (h : Hp) : F_Mo_count x1 h = exec1 OI S_Mo_count 1 k_Mo_count 0 [some (.ref 178), some (.int x1)] [] h (runF OI S_Mo_count [] 1 k_Mo_count 400) :=
  (x_bI (f := sF_Mo_in) rfl (w_Mo_in _ _ _ _) fun v2 h1 => (x_ite rfl (x_bI (f := sF_Mo_tells) rfl (w_Mo_tells _ _) fun v4 h3 => rfl)))
def k_Mo_finding : List Ent := [(0, .aload_n 0, 1, [], .null), (1, .getfield 65, 3, [7, 0, 0], .null), (4, .ireturn, 1, [], .null)]
def F_Mo_finding  (h : Hp) : Res Hp :=
  retI (hg h 178 0) h
def sF_Mo_finding : List Value → Hp → Res Hp := fun as h => match as with | [.ref f0] => (match Nat.beq f0 178 with | true => F_Mo_finding  h | false => none) | _ => none
theorem w_Mo_finding  (h : Hp) : sF_Mo_finding [.ref 178] h = F_Mo_finding  h := rfl
def S_Mo_finding : Sem Hp := []
set_option maxRecDepth 100000 in
theorem e_Mo_finding_0  (h : Hp) : F_Mo_finding  h = exec1 OI S_Mo_finding 1 k_Mo_finding 0 [some (.ref 178)] [] h (runF OI S_Mo_finding [] 1 k_Mo_finding 400) :=
  rfl
def k_Mo_findings : List Ent := [(0, .iload_n 1, 1, [], .null), (1, .iconst 1, 1, [], .int (1)), (2, .iconst 5, 1, [], .int (5)), (3, .invokestatic 72, 3, [71, 3, 2], .null), (6, .ifCond .eq (12), 3, [18], .null), (9, .aload_n 0, 1, [], .null), (10, .getfield 7, 3, [7, 1, 1], .null), (13, .iload_n 1, 1, [], .null), (14, .iaload, 1, [], .null), (15, .goto (4), 3, [19], .null), (18, .iconst (-1), 1, [], .int (-1)), (19, .ireturn, 1, [], .null)]
def F_Mo_findings (x1 : Int32) (h : Hp) : Res Hp :=
  bI (F_Mo_in x1 (1 : Int32) (5 : Int32) h) fun v2 h1 =>
  if v2 = (0 : Int32) then
  (retI (-1 : Int32) h1)
  else
  (bif okA 179 100 x1 then
  retI (hg h1 179 x1.toNatClampNeg) h1
  else none)
def sF_Mo_findings : List Value → Hp → Res Hp := fun as h => match as with | [.ref f0, .int x1] => (match Nat.beq f0 178 with | true => F_Mo_findings x1 h | false => none) | _ => none
theorem w_Mo_findings (x1 : Int32) (h : Hp) : sF_Mo_findings [.ref 178, .int x1] h = F_Mo_findings x1 h := rfl
def S_Mo_findings : Sem Hp := [(71, sF_Mo_in)]
set_option maxRecDepth 100000 in
theorem e_Mo_findings_0 (x1 : Int32) (h : Hp) : F_Mo_findings x1 h = exec1 OI S_Mo_findings 1 k_Mo_findings 0 [some (.ref 178), some (.int x1)] [] h (runF OI S_Mo_findings [] 1 k_Mo_findings 400) :=
  (x_bI (f := sF_Mo_in) rfl (w_Mo_in _ _ _ _) fun v2 h1 => (x_ite rfl (x_bif rfl)))
def k_Mo_mix : List Ent := [(0, .aload_n 0, 1, [], .null), (1, .ldc2_w 280, 3, [], .long 31), (4, .aload_n 0, 1, [], .null), (5, .getfield 282, 3, [7, 32, 2], .null), (8, .lmul, 1, [], .null), (9, .iload_n 1, 1, [], .null), (10, .i2l, 1, [], .null), (11, .ladd, 1, [], .null), (12, .putfield 282, 3, [7, 32, 2], .null), (15, .return_, 1, [], .null)]
def F_Mo_mix (x1 : Int32) (h : Hp) : Res Hp :=
  bH (hsl h (((31 : Int64) * (hl h)) + x1.toInt64)) fun h1 =>
  retV h1
def sF_Mo_mix : List Value → Hp → Res Hp := fun as h => match as with | [.ref f0, .int x1] => (match Nat.beq f0 178 with | true => F_Mo_mix x1 h | false => none) | _ => none
theorem w_Mo_mix (x1 : Int32) (h : Hp) : sF_Mo_mix [.ref 178, .int x1] h = F_Mo_mix x1 h := rfl
def S_Mo_mix : Sem Hp := []
set_option maxRecDepth 100000 in
theorem e_Mo_mix_0 (x1 : Int32) (h : Hp) : F_Mo_mix x1 h = exec1 OI S_Mo_mix 0 k_Mo_mix 0 [some (.ref 178), some (.int x1)] [] h (runF OI S_Mo_mix [] 0 k_Mo_mix 400) :=
  (x_bH fun h1 => rfl)
end
end
section
noncomputable section
def k_Mo_mixLand : List Ent := [(0, .iconst 0, 1, [], .int (0)), (1, .istore_n 1, 1, [], .null), (2, .iload_n 1, 1, [], .null), (3, .aload_n 0, 1, [], .null), (4, .getfield 131, 3, [7, 8, 0], .null), (7, .if_icmp .ge (32), 3, [39], .null), (10, .iconst 0, 1, [], .int (0)), (11, .istore_n 2, 1, [], .null), (12, .iload_n 2, 1, [], .null), (13, .iconst 3, 1, [], .int (3)), (14, .if_icmp .gt (19), 3, [33], .null), (17, .aload_n 0, 1, [], .null), (18, .aload_n 0, 1, [], .null), (19, .iload_n 1, 1, [], .null), (20, .iload_n 2, 1, [], .null), (21, .invokevirtual 162, 3, [108, 3, 1], .null), (24, .invokevirtual 286, 3, [169, 2, 0], .null), (27, .iinc 2 (1), 3, [], .int (1)), (30, .goto (-18), 3, [12], .null), (33, .iinc 1 (1), 3, [], .int (1)), (36, .goto (-34), 3, [2], .null), (39, .iconst 0, 1, [], .int (0)), (40, .istore_n 1, 1, [], .null), (41, .iload_n 1, 1, [], .null), (42, .iconst 3, 1, [], .int (3)), (43, .aload_n 0, 1, [], .null), (44, .getfield 134, 3, [7, 11, 0], .null), (47, .imul, 1, [], .null), (48, .if_icmp .ge (19), 3, [67], .null), (51, .aload_n 0, 1, [], .null), (52, .aload_n 0, 1, [], .null), (53, .getfield 34, 3, [7, 12, 1], .null), (56, .iload_n 1, 1, [], .null), (57, .iaload, 1, [], .null), (58, .invokevirtual 286, 3, [169, 2, 0], .null), (61, .iinc 1 (1), 3, [], .int (1)), (64, .goto (-23), 3, [41], .null), (67, .iconst 0, 1, [], .int (0)), (68, .istore_n 1, 1, [], .null), (69, .iload_n 1, 1, [], .null), (70, .aload_n 0, 1, [], .null), (71, .getfield 140, 3, [7, 14, 0], .null), (74, .if_icmp .ge (59), 3, [133], .null), (77, .aload_n 0, 1, [], .null), (78, .aload_n 0, 1, [], .null), (79, .iload_n 1, 1, [], .null), (80, .iconst 0, 1, [], .int (0)), (81, .invokevirtual 153, 3, [105, 3, 1], .null), (84, .invokevirtual 286, 3, [169, 2, 0], .null), (87, .aload_n 0, 1, [], .null), (88, .aload_n 0, 1, [], .null), (89, .iload_n 1, 1, [], .null), (90, .iconst 1, 1, [], .int (1)), (91, .invokevirtual 153, 3, [105, 3, 1], .null), (94, .invokevirtual 286, 3, [169, 2, 0], .null), (97, .iconst 0, 1, [], .int (0)), (98, .istore_n 2, 1, [], .null), (99, .iload_n 2, 1, [], .null), (100, .aload_n 0, 1, [], .null), (101, .iload_n 1, 1, [], .null), (102, .iconst 2, 1, [], .int (2)), (103, .invokevirtual 153, 3, [105, 3, 1], .null), (106, .if_icmp .ge (21), 3, [127], .null), (109, .aload_n 0, 1, [], .null), (110, .aload_n 0, 1, [], .null), (111, .iload_n 1, 1, [], .null), (112, .iconst 3, 1, [], .int (3)), (113, .iload_n 2, 1, [], .null), (114, .iadd, 1, [], .null), (115, .invokevirtual 153, 3, [105, 3, 1], .null), (118, .invokevirtual 286, 3, [169, 2, 0], .null), (121, .iinc 2 (1), 3, [], .int (1)), (124, .goto (-25), 3, [99], .null), (127, .iinc 1 (1), 3, [], .int (1)), (130, .goto (-61), 3, [69], .null), (133, .iconst 0, 1, [], .int (0)), (134, .istore_n 1, 1, [], .null), (135, .iload_n 1, 1, [], .null), (136, .iconst 3, 1, [], .int (3)), (137, .if_icmp .ge (42), 3, [179], .null), (140, .aload_n 0, 1, [], .null), (141, .aload_n 0, 1, [], .null), (142, .getfield 49, 3, [7, 22, 1], .null), (145, .sipush (140), 3, [], .int (140)), (148, .iload_n 1, 1, [], .null), (149, .imul, 1, [], .null), (150, .iaload, 1, [], .null), (151, .bipush (-9), 2, [], .int (-9)), (153, .if_icmp .ne (7), 3, [160], .null), (156, .iconst (-1), 1, [], .int (-1)), (157, .goto (13), 3, [170], .null), (160, .aload_n 0, 1, [], .null), (161, .getfield 49, 3, [7, 22, 1], .null), (164, .sipush (140), 3, [], .int (140)), (167, .iload_n 1, 1, [], .null), (168, .imul, 1, [], .null), (169, .iaload, 1, [], .null), (170, .invokevirtual 286, 3, [169, 2, 0], .null), (173, .iinc 1 (1), 3, [], .int (1)), (176, .goto (-41), 3, [135], .null), (179, .return_, 1, [], .null)]
def Mo_mixLand_135    : (Int32 × Hp) → ((Int32 × Hp) → Res Hp) → Res Hp := fun s κ135 => match s with
  | (x1, h) =>
  if (3 : Int32) ≤ x1 then
  (retV h)
  else
  (bif okA 192 100 ((140 : Int32) * x1) then
  if (hg h 192 ((140 : Int32) * x1).toNatClampNeg) = (-9 : Int32) then
  (bV (F_Mo_mix (-1 : Int32) h) fun h2 =>
  κ135 ((x1 + (1 : Int32)), h2))
  else
  (bif okA 192 100 ((140 : Int32) * x1) then
  bV (F_Mo_mix (hg h 192 ((140 : Int32) * x1).toNatClampNeg) h) fun h1 =>
  κ135 ((x1 + (1 : Int32)), h1)
  else none)
  else none)
def Mo_mixLand_99 (κ69 : (Int32 × Hp) → Res Hp) (x1 : Int32)  : (Int32 × Hp) → ((Int32 × Hp) → Res Hp) → Res Hp := fun s κ99 => match s with
  | (x2, h) =>
  bI (F_Mo_letterOf x1 (2 : Int32) h) fun v2 h1 =>
  if v2 ≤ x2 then
  (κ69 ((x1 + (1 : Int32)), h1))
  else
  (bI (F_Mo_letterOf x1 ((3 : Int32) + x2) h1) fun v4 h3 =>
  bV (F_Mo_mix v4 h3) fun h5 =>
  κ99 ((x2 + (1 : Int32)), h5))
def Mo_mixLand_69    : (Int32 × Hp) → ((Int32 × Hp) → Res Hp) → Res Hp := fun s κ69 => match s with
  | (x1, h) =>
  if (hg h 178 14) ≤ x1 then
  (loopC (Mo_mixLand_135   ) FU ((0 : Int32), h))
  else
  (bI (F_Mo_letterOf x1 (0 : Int32) h) fun v2 h1 =>
  bV (F_Mo_mix v2 h1) fun h3 =>
  bI (F_Mo_letterOf x1 (1 : Int32) h3) fun v5 h4 =>
  bV (F_Mo_mix v5 h4) fun h6 =>
  loopC (Mo_mixLand_99 κ69 x1 ) FU ((0 : Int32), h6))
def Mo_mixLand_41    : (Int32 × Hp) → ((Int32 × Hp) → Res Hp) → Res Hp := fun s κ41 => match s with
  | (x1, h) =>
  if ((3 : Int32) * (hg h 178 11)) ≤ x1 then
  (loopC (Mo_mixLand_69   ) FU ((0 : Int32), h))
  else
  (bif okA 187 100 x1 then
  bV (F_Mo_mix (hg h 187 x1.toNatClampNeg) h) fun h1 =>
  κ41 ((x1 + (1 : Int32)), h1)
  else none)
def Mo_mixLand_12 (κ2 : (Int32 × Hp) → Res Hp) (x1 : Int32)  : (Int32 × Hp) → ((Int32 × Hp) → Res Hp) → Res Hp := fun s κ12 => match s with
  | (x2, h) =>
  if (3 : Int32) < x2 then
  (κ2 ((x1 + (1 : Int32)), h))
  else
  (bI (F_Mo_handOf x1 x2 h) fun v2 h1 =>
  bV (F_Mo_mix v2 h1) fun h3 =>
  κ12 ((x2 + (1 : Int32)), h3))
def Mo_mixLand_2    : (Int32 × Hp) → ((Int32 × Hp) → Res Hp) → Res Hp := fun s κ2 => match s with
  | (x1, h) =>
  if (hg h 178 8) ≤ x1 then
  (loopC (Mo_mixLand_41   ) FU ((0 : Int32), h))
  else
  (loopC (Mo_mixLand_12 κ2 x1 ) FU ((0 : Int32), h))
def F_Mo_mixLand  (h : Hp) : Res Hp :=
  loopC (Mo_mixLand_2   ) FU ((0 : Int32), h)
def sF_Mo_mixLand : List Value → Hp → Res Hp := fun as h => match as with | [.ref f0] => (match Nat.beq f0 178 with | true => F_Mo_mixLand  h | false => none) | _ => none
theorem w_Mo_mixLand  (h : Hp) : sF_Mo_mixLand [.ref 178] h = F_Mo_mixLand  h := rfl
def S_Mo_mixLand : Sem Hp := [(169, sF_Mo_mix), (105, sF_Mo_letterOf), (108, sF_Mo_handOf)]
set_option maxRecDepth 100000 in
theorem e_Mo_mixLand_0  (h : Hp) : F_Mo_mixLand  h = exec1 OI S_Mo_mixLand 0 k_Mo_mixLand 0 [some (.ref 178), none, none] [] h (runF OI S_Mo_mixLand [(2, [0, 1], fun vs st h => match vs, st with | [.ref f0, .int x1], [] => (match Nat.beq f0 178 with | true => loopC (Mo_mixLand_2   ) FU (x1, h) | false => none) | _, _ => none)] 0 k_Mo_mixLand 400) :=
  rfl
set_option maxRecDepth 100000 in
theorem e_Mo_mixLand_2 (κ2 : (Int32 × Hp) → Res Hp) (x1 : Int32)  (h : Hp) : Mo_mixLand_2    (x1, h) κ2 = exec1 OI S_Mo_mixLand 0 k_Mo_mixLand 2 [some (.ref 178), some (.int x1), none] [] h (runF OI S_Mo_mixLand [(41, [0, 1], fun vs st h => match vs, st with | [.ref f0, .int x1], [] => (match Nat.beq f0 178 with | true => loopC (Mo_mixLand_41   ) FU (x1, h) | false => none) | _, _ => none), (12, [0, 1, 2], fun vs st h => match vs, st with | [.ref f0, .int x1, .int x2], [] => (match Nat.beq f0 178 with | true => loopC (Mo_mixLand_12 κ2 x1 ) FU (x2, h) | false => none) | _, _ => none)] 0 k_Mo_mixLand 400) :=
  (x_ite rfl rfl)
set_option maxRecDepth 100000 in
theorem e_Mo_mixLand_41 (κ41 : (Int32 × Hp) → Res Hp) (x1 : Int32)  (h : Hp) : Mo_mixLand_41    (x1, h) κ41 = exec1 OI S_Mo_mixLand 0 k_Mo_mixLand 41 [some (.ref 178), some (.int x1), none] [] h (runF OI S_Mo_mixLand [(69, [0, 1], fun vs st h => match vs, st with | [.ref f0, .int x1], [] => (match Nat.beq f0 178 with | true => loopC (Mo_mixLand_69   ) FU (x1, h) | false => none) | _, _ => none), (41, [0, 1], fun vs st h => match vs, st with | [.ref f0, .int x1], [] => (match Nat.beq f0 178 with | true => κ41 (x1, h) | false => none) | _, _ => none)] 0 k_Mo_mixLand 400) :=
  (x_ite rfl (x_bif (x_bV (f := sF_Mo_mix) rfl (w_Mo_mix _ _) fun h1 => rfl)))
set_option maxRecDepth 100000 in
theorem e_Mo_mixLand_69 (κ69 : (Int32 × Hp) → Res Hp) (x1 : Int32)  (h : Hp) : Mo_mixLand_69    (x1, h) κ69 = exec1 OI S_Mo_mixLand 0 k_Mo_mixLand 69 [some (.ref 178), some (.int x1), none] [] h (runF OI S_Mo_mixLand [(135, [0, 1], fun vs st h => match vs, st with | [.ref f0, .int x1], [] => (match Nat.beq f0 178 with | true => loopC (Mo_mixLand_135   ) FU (x1, h) | false => none) | _, _ => none), (99, [0, 1, 2], fun vs st h => match vs, st with | [.ref f0, .int x1, .int x2], [] => (match Nat.beq f0 178 with | true => loopC (Mo_mixLand_99 κ69 x1 ) FU (x2, h) | false => none) | _, _ => none)] 0 k_Mo_mixLand 400) :=
  (x_ite rfl (x_bI (f := sF_Mo_letterOf) rfl (w_Mo_letterOf _ _ _) fun v2 h1 => (x_bV (f := sF_Mo_mix) rfl (w_Mo_mix _ _) fun h3 => (x_bI (f := sF_Mo_letterOf) rfl (w_Mo_letterOf _ _ _) fun v5 h4 => (x_bV (f := sF_Mo_mix) rfl (w_Mo_mix _ _) fun h6 => rfl)))))
set_option maxRecDepth 100000 in
theorem e_Mo_mixLand_135 (κ135 : (Int32 × Hp) → Res Hp) (x1 : Int32)  (h : Hp) : Mo_mixLand_135    (x1, h) κ135 = exec1 OI S_Mo_mixLand 0 k_Mo_mixLand 135 [some (.ref 178), some (.int x1), none] [] h (runF OI S_Mo_mixLand [(135, [0, 1], fun vs st h => match vs, st with | [.ref f0, .int x1], [] => (match Nat.beq f0 178 with | true => κ135 (x1, h) | false => none) | _, _ => none)] 0 k_Mo_mixLand 400) :=
  (x_ite rfl (x_bif (x_ite (x_bV (f := sF_Mo_mix) rfl (w_Mo_mix _ _) fun h2 => rfl) (x_bif (x_bV (f := sF_Mo_mix) rfl (w_Mo_mix _ _) fun h1 => rfl)))))
set_option maxRecDepth 100000 in
theorem e_Mo_mixLand_99 (κ69 : (Int32 × Hp) → Res Hp) (κ99 : (Int32 × Hp) → Res Hp) (x1 : Int32) (x2 : Int32)  (h : Hp) : Mo_mixLand_99 κ69 x1  (x2, h) κ99 = exec1 OI S_Mo_mixLand 0 k_Mo_mixLand 99 [some (.ref 178), some (.int x1), some (.int x2)] [] h (runF OI S_Mo_mixLand [(69, [0, 1], fun vs st h => match vs, st with | [.ref f0, .int x1], [] => (match Nat.beq f0 178 with | true => κ69 (x1, h) | false => none) | _, _ => none), (99, [0, 1, 2], fun vs st h => match vs, st with | [.ref f0, .int x1, .int x2], [] => (match Nat.beq f0 178 with | true => κ99 (x2, h) | false => none) | _, _ => none)] 0 k_Mo_mixLand 400) :=
  (x_bI (f := sF_Mo_letterOf) rfl (w_Mo_letterOf _ _ _) fun v2 h1 => (x_ite rfl (x_bI (f := sF_Mo_letterOf) rfl (w_Mo_letterOf _ _ _) fun v4 h3 => (x_bV (f := sF_Mo_mix) rfl (w_Mo_mix _ _) fun h5 => rfl))))
set_option maxRecDepth 100000 in
theorem e_Mo_mixLand_12 (κ2 : (Int32 × Hp) → Res Hp) (κ12 : (Int32 × Hp) → Res Hp) (x1 : Int32) (x2 : Int32)  (h : Hp) : Mo_mixLand_12 κ2 x1  (x2, h) κ12 = exec1 OI S_Mo_mixLand 0 k_Mo_mixLand 12 [some (.ref 178), some (.int x1), some (.int x2)] [] h (runF OI S_Mo_mixLand [(2, [0, 1], fun vs st h => match vs, st with | [.ref f0, .int x1], [] => (match Nat.beq f0 178 with | true => κ2 (x1, h) | false => none) | _, _ => none), (12, [0, 1, 2], fun vs st h => match vs, st with | [.ref f0, .int x1, .int x2], [] => (match Nat.beq f0 178 with | true => κ12 (x2, h) | false => none) | _, _ => none)] 0 k_Mo_mixLand 400) :=
  (x_ite rfl (x_bI (f := sF_Mo_handOf) rfl (w_Mo_handOf _ _ _) fun v2 h1 => (x_bV (f := sF_Mo_mix) rfl (w_Mo_mix _ _) fun h3 => rfl)))
def k_Mo_digest : List Ent := [(0, .aload_n 0, 1, [], .null), (1, .ldc2_w 290, 3, [], .long 17), (4, .putfield 282, 3, [7, 32, 2], .null), (7, .iconst 0, 1, [], .int (0)), (8, .istore_n 1, 1, [], .null), (9, .iload_n 1, 1, [], .null), (10, .bipush (8), 2, [], .int (8)), (12, .if_icmp .gt (18), 3, [30], .null), (15, .aload_n 0, 1, [], .null), (16, .aload_n 0, 1, [], .null), (17, .iload_n 1, 1, [], .null), (18, .invokevirtual 277, 3, [165, 2, 1], .null), (21, .invokevirtual 286, 3, [169, 2, 0], .null), (24, .iinc 1 (1), 3, [], .int (1)), (27, .goto (-18), 3, [9], .null), (30, .aload_n 0, 1, [], .null), (31, .invokevirtual 292, 3, [170, 1, 0], .null), (34, .iconst 0, 1, [], .int (0)), (35, .istore_n 1, 1, [], .null), (36, .iload_n 1, 1, [], .null), (37, .bipush (6), 2, [], .int (6)), (39, .if_icmp .ge (60), 3, [99], .null), (42, .aload_n 0, 1, [], .null), (43, .aload_n 0, 1, [], .null), (44, .getfield 13, 3, [7, 3, 1], .null), (47, .iload_n 1, 1, [], .null), (48, .iaload, 1, [], .null), (49, .ifCond .ge (7), 3, [56], .null), (52, .iconst (-1), 1, [], .int (-1)), (53, .goto (9), 3, [62], .null), (56, .aload_n 0, 1, [], .null), (57, .getfield 13, 3, [7, 3, 1], .null), (60, .iload_n 1, 1, [], .null), (61, .iaload, 1, [], .null), (62, .invokevirtual 286, 3, [169, 2, 0], .null), (65, .iconst 0, 1, [], .int (0)), (66, .istore_n 2, 1, [], .null), (67, .iload_n 2, 1, [], .null), (68, .aload_n 0, 1, [], .null), (69, .getfield 13, 3, [7, 3, 1], .null), (72, .iload_n 1, 1, [], .null), (73, .iaload, 1, [], .null), (74, .if_icmp .ge (19), 3, [93], .null), (77, .aload_n 0, 1, [], .null), (78, .aload_n 0, 1, [], .null), (79, .iload_n 1, 1, [], .null), (80, .iload_n 2, 1, [], .null), (81, .invokevirtual 94, 3, [80, 3, 1], .null), (84, .invokevirtual 286, 3, [169, 2, 0], .null), (87, .iinc 2 (1), 3, [], .int (1)), (90, .goto (-23), 3, [67], .null), (93, .iinc 1 (1), 3, [], .int (1)), (96, .goto (-60), 3, [36], .null), (99, .iconst 0, 1, [], .int (0)), (100, .istore_n 1, 1, [], .null), (101, .iload_n 1, 1, [], .null), (102, .iconst 4, 1, [], .int (4)), (103, .if_icmp .ge (65), 3, [168], .null), (106, .aload_n 0, 1, [], .null), (107, .aload_n 0, 1, [], .null), (108, .getfield 22, 3, [7, 6, 1], .null), (111, .iload_n 1, 1, [], .null), (112, .iaload, 1, [], .null), (113, .ifCond .ge (7), 3, [120], .null), (116, .iconst (-1), 1, [], .int (-1)), (117, .goto (9), 3, [126], .null), (120, .aload_n 0, 1, [], .null), (121, .getfield 22, 3, [7, 6, 1], .null), (124, .iload_n 1, 1, [], .null), (125, .iaload, 1, [], .null), (126, .invokevirtual 286, 3, [169, 2, 0], .null), (129, .iconst 0, 1, [], .int (0)), (130, .istore_n 2, 1, [], .null), (131, .iload_n 2, 1, [], .null), (132, .aload_n 0, 1, [], .null), (133, .getfield 22, 3, [7, 6, 1], .null), (136, .iload_n 1, 1, [], .null), (137, .iaload, 1, [], .null), (138, .if_icmp .ge (24), 3, [162], .null), (141, .aload_n 0, 1, [], .null), (142, .aload_n 0, 1, [], .null), (143, .getfield 25, 3, [7, 7, 1], .null), (146, .bipush (80), 2, [], .int (80)), (148, .iload_n 1, 1, [], .null), (149, .imul, 1, [], .null), (150, .iload_n 2, 1, [], .null), (151, .iadd, 1, [], .null), (152, .iaload, 1, [], .null), (153, .invokevirtual 286, 3, [169, 2, 0], .null), (156, .iinc 2 (1), 3, [], .int (1)), (159, .goto (-28), 3, [131], .null), (162, .iinc 1 (1), 3, [], .int (1)), (165, .goto (-64), 3, [101], .null), (168, .aload_n 0, 1, [], .null), (169, .getfield 282, 3, [7, 32, 2], .null), (172, .lreturn, 1, [], .null)]
def Mo_digest_131 (κ101 : (Int32 × Hp) → Res Hp) (x1 : Int32)  : (Int32 × Hp) → ((Int32 × Hp) → Res Hp) → Res Hp := fun s κ131 => match s with
  | (x2, h) =>
  bif okA 183 100 x1 then
  if (hg h 183 x1.toNatClampNeg) ≤ x2 then
  (κ101 ((x1 + (1 : Int32)), h))
  else
  (bif okA 184 100 (((80 : Int32) * x1) + x2) then
  bV (F_Mo_mix (hg h 184 (((80 : Int32) * x1) + x2).toNatClampNeg) h) fun h1 =>
  κ131 ((x2 + (1 : Int32)), h1)
  else none)
  else none
def Mo_digest_101    : (Int32 × Hp) → ((Int32 × Hp) → Res Hp) → Res Hp := fun s κ101 => match s with
  | (x1, h) =>
  if (4 : Int32) ≤ x1 then
  (retL (hl h) h)
  else
  (bif okA 183 100 x1 then
  if (0 : Int32) ≤ (hg h 183 x1.toNatClampNeg) then
  (bif okA 183 100 x1 then
  bV (F_Mo_mix (hg h 183 x1.toNatClampNeg) h) fun h1 =>
  loopC (Mo_digest_131 κ101 x1 ) FU ((0 : Int32), h1)
  else none)
  else
  (bV (F_Mo_mix (-1 : Int32) h) fun h2 =>
  loopC (Mo_digest_131 κ101 x1 ) FU ((0 : Int32), h2))
  else none)
def Mo_digest_67 (κ36 : (Int32 × Hp) → Res Hp) (x1 : Int32)  : (Int32 × Hp) → ((Int32 × Hp) → Res Hp) → Res Hp := fun s κ67 => match s with
  | (x2, h) =>
  bif okA 180 100 x1 then
  if (hg h 180 x1.toNatClampNeg) ≤ x2 then
  (κ36 ((x1 + (1 : Int32)), h))
  else
  (bI (F_Mo_rowAt x1 x2 h) fun v2 h1 =>
  bV (F_Mo_mix v2 h1) fun h3 =>
  κ67 ((x2 + (1 : Int32)), h3))
  else none
def Mo_digest_36    : (Int32 × Hp) → ((Int32 × Hp) → Res Hp) → Res Hp := fun s κ36 => match s with
  | (x1, h) =>
  if (6 : Int32) ≤ x1 then
  (loopC (Mo_digest_101   ) FU ((0 : Int32), h))
  else
  (bif okA 180 100 x1 then
  if (0 : Int32) ≤ (hg h 180 x1.toNatClampNeg) then
  (bif okA 180 100 x1 then
  bV (F_Mo_mix (hg h 180 x1.toNatClampNeg) h) fun h1 =>
  loopC (Mo_digest_67 κ36 x1 ) FU ((0 : Int32), h1)
  else none)
  else
  (bV (F_Mo_mix (-1 : Int32) h) fun h2 =>
  loopC (Mo_digest_67 κ36 x1 ) FU ((0 : Int32), h2))
  else none)
def Mo_digest_9    : (Int32 × Hp) → ((Int32 × Hp) → Res Hp) → Res Hp := fun s κ9 => match s with
  | (x1, h) =>
  if (8 : Int32) < x1 then
  (bV (F_Mo_mixLand  h) fun h1 =>
  loopC (Mo_digest_36   ) FU ((0 : Int32), h1))
  else
  (bI (F_Mo_tells x1 h) fun v3 h2 =>
  bV (F_Mo_mix v3 h2) fun h4 =>
  κ9 ((x1 + (1 : Int32)), h4))
def F_Mo_digest  (h : Hp) : Res Hp :=
  bH (hsl h (17 : Int64)) fun h1 =>
  loopC (Mo_digest_9   ) FU ((0 : Int32), h1)
def sF_Mo_digest : List Value → Hp → Res Hp := fun as h => match as with | [.ref f0] => (match Nat.beq f0 178 with | true => F_Mo_digest  h | false => none) | _ => none
theorem w_Mo_digest  (h : Hp) : sF_Mo_digest [.ref 178] h = F_Mo_digest  h := rfl
def S_Mo_digest : Sem Hp := [(170, sF_Mo_mixLand), (169, sF_Mo_mix), (80, sF_Mo_rowAt), (165, sF_Mo_tells)]
set_option maxRecDepth 100000 in
theorem e_Mo_digest_0  (h : Hp) : F_Mo_digest  h = exec1 OI S_Mo_digest 3 k_Mo_digest 0 [some (.ref 178), none, none] [] h (runF OI S_Mo_digest [(9, [0, 1], fun vs st h => match vs, st with | [.ref f0, .int x1], [] => (match Nat.beq f0 178 with | true => loopC (Mo_digest_9   ) FU (x1, h) | false => none) | _, _ => none)] 3 k_Mo_digest 400) :=
  (x_bH fun h1 => rfl)
set_option maxRecDepth 100000 in
theorem e_Mo_digest_9 (κ9 : (Int32 × Hp) → Res Hp) (x1 : Int32)  (h : Hp) : Mo_digest_9    (x1, h) κ9 = exec1 OI S_Mo_digest 3 k_Mo_digest 9 [some (.ref 178), some (.int x1), none] [] h (runF OI S_Mo_digest [(36, [0, 1], fun vs st h => match vs, st with | [.ref f0, .int x1], [] => (match Nat.beq f0 178 with | true => loopC (Mo_digest_36   ) FU (x1, h) | false => none) | _, _ => none), (9, [0, 1], fun vs st h => match vs, st with | [.ref f0, .int x1], [] => (match Nat.beq f0 178 with | true => κ9 (x1, h) | false => none) | _, _ => none)] 3 k_Mo_digest 400) :=
  (x_ite (x_bV (f := sF_Mo_mixLand) rfl (w_Mo_mixLand  _) fun h1 => rfl) (x_bI (f := sF_Mo_tells) rfl (w_Mo_tells _ _) fun v3 h2 => (x_bV (f := sF_Mo_mix) rfl (w_Mo_mix _ _) fun h4 => rfl)))
set_option maxRecDepth 100000 in
theorem e_Mo_digest_36 (κ36 : (Int32 × Hp) → Res Hp) (x1 : Int32)  (h : Hp) : Mo_digest_36    (x1, h) κ36 = exec1 OI S_Mo_digest 3 k_Mo_digest 36 [some (.ref 178), some (.int x1), none] [] h (runF OI S_Mo_digest [(101, [0, 1], fun vs st h => match vs, st with | [.ref f0, .int x1], [] => (match Nat.beq f0 178 with | true => loopC (Mo_digest_101   ) FU (x1, h) | false => none) | _, _ => none), (67, [0, 1, 2], fun vs st h => match vs, st with | [.ref f0, .int x1, .int x2], [] => (match Nat.beq f0 178 with | true => loopC (Mo_digest_67 κ36 x1 ) FU (x2, h) | false => none) | _, _ => none)] 3 k_Mo_digest 400) :=
  (x_ite rfl (x_bif (x_ite (x_bif (x_bV (f := sF_Mo_mix) rfl (w_Mo_mix _ _) fun h1 => rfl)) (x_bV (f := sF_Mo_mix) rfl (w_Mo_mix _ _) fun h2 => rfl))))
set_option maxRecDepth 100000 in
theorem e_Mo_digest_101 (κ101 : (Int32 × Hp) → Res Hp) (x1 : Int32)  (h : Hp) : Mo_digest_101    (x1, h) κ101 = exec1 OI S_Mo_digest 3 k_Mo_digest 101 [some (.ref 178), some (.int x1), none] [] h (runF OI S_Mo_digest [(131, [0, 1, 2], fun vs st h => match vs, st with | [.ref f0, .int x1, .int x2], [] => (match Nat.beq f0 178 with | true => loopC (Mo_digest_131 κ101 x1 ) FU (x2, h) | false => none) | _, _ => none)] 3 k_Mo_digest 400) :=
  (x_ite rfl (x_bif (x_ite (x_bif (x_bV (f := sF_Mo_mix) rfl (w_Mo_mix _ _) fun h1 => rfl)) (x_bV (f := sF_Mo_mix) rfl (w_Mo_mix _ _) fun h2 => rfl))))
set_option maxRecDepth 100000 in
theorem e_Mo_digest_131 (κ101 : (Int32 × Hp) → Res Hp) (κ131 : (Int32 × Hp) → Res Hp) (x1 : Int32) (x2 : Int32)  (h : Hp) : Mo_digest_131 κ101 x1  (x2, h) κ131 = exec1 OI S_Mo_digest 3 k_Mo_digest 131 [some (.ref 178), some (.int x1), some (.int x2)] [] h (runF OI S_Mo_digest [(101, [0, 1], fun vs st h => match vs, st with | [.ref f0, .int x1], [] => (match Nat.beq f0 178 with | true => κ101 (x1, h) | false => none) | _, _ => none), (131, [0, 1, 2], fun vs st h => match vs, st with | [.ref f0, .int x1, .int x2], [] => (match Nat.beq f0 178 with | true => κ131 (x2, h) | false => none) | _, _ => none)] 3 k_Mo_digest 400) :=
  (x_bif (x_ite rfl (x_bif (x_bV (f := sF_Mo_mix) rfl (w_Mo_mix _ _) fun h1 => rfl))))
set_option maxRecDepth 100000 in
theorem e_Mo_digest_67 (κ36 : (Int32 × Hp) → Res Hp) (κ67 : (Int32 × Hp) → Res Hp) (x1 : Int32) (x2 : Int32)  (h : Hp) : Mo_digest_67 κ36 x1  (x2, h) κ67 = exec1 OI S_Mo_digest 3 k_Mo_digest 67 [some (.ref 178), some (.int x1), some (.int x2)] [] h (runF OI S_Mo_digest [(36, [0, 1], fun vs st h => match vs, st with | [.ref f0, .int x1], [] => (match Nat.beq f0 178 with | true => κ36 (x1, h) | false => none) | _, _ => none), (67, [0, 1, 2], fun vs st h => match vs, st with | [.ref f0, .int x1, .int x2], [] => (match Nat.beq f0 178 with | true => κ67 (x2, h) | false => none) | _, _ => none)] 3 k_Mo_digest 400) :=
  (x_bif (x_ite rfl (x_bI (f := sF_Mo_rowAt) rfl (w_Mo_rowAt _ _ _) fun v2 h1 => (x_bV (f := sF_Mo_mix) rfl (w_Mo_mix _ _) fun h3 => rfl))))
end
end
section
set_option maxRecDepth 100000 in
theorem i_X0 : ∀ w ∈ u_ws RX0 TX0 12, w ∈ lw_tbl := by
  intro w hw
  have hq : u_ws RX0 TX0 12 = [u_lay RX0 TX0 0, u_lay RX0 TX0 1, u_lay RX0 TX0 2, u_lay RX0 TX0 3, u_lay RX0 TX0 4, u_lay RX0 TX0 5, u_lay RX0 TX0 6, u_lay RX0 TX0 7, u_lay RX0 TX0 8, u_lay RX0 TX0 9, u_lay RX0 TX0 10, u_lay RX0 TX0 11] := rfl
  rw [hq] at hw
  simp only [List.mem_cons, List.not_mem_nil, or_false] at hw
  rcases hw with rfl | rfl | rfl | rfl | rfl | rfl | rfl | rfl | rfl | rfl | rfl | rfl
  · exact List.mem_of_getElem? (i := 158) (by decide +kernel)
  · exact List.mem_of_getElem? (i := 160) (by decide +kernel)
  · exact List.mem_of_getElem? (i := 162) (by decide +kernel)
  · exact List.mem_of_getElem? (i := 164) (by decide +kernel)
  · exact List.mem_of_getElem? (i := 166) (by decide +kernel)
  · exact List.mem_of_getElem? (i := 168) (by decide +kernel)
  · exact List.mem_of_getElem? (i := 170) (by decide +kernel)
  · exact List.mem_of_getElem? (i := 172) (by decide +kernel)
  · exact List.mem_of_getElem? (i := 174) (by decide +kernel)
  · exact List.mem_of_getElem? (i := 176) (by decide +kernel)
  · exact List.mem_of_getElem? (i := 178) (by decide +kernel)
  · exact List.mem_of_getElem? (i := 180) (by decide +kernel)
set_option maxRecDepth 100000 in
theorem i_X1 : ∀ w ∈ u_ws RX1 TX1 5, w ∈ lw_tbl := by
  intro w hw
  have hq : u_ws RX1 TX1 5 = [u_lay RX1 TX1 0, u_lay RX1 TX1 1, u_lay RX1 TX1 2, u_lay RX1 TX1 3, u_lay RX1 TX1 4] := rfl
  rw [hq] at hw
  simp only [List.mem_cons, List.not_mem_nil, or_false] at hw
  rcases hw with rfl | rfl | rfl | rfl | rfl
  · exact List.mem_of_getElem? (i := 118) (by decide +kernel)
  · exact List.mem_of_getElem? (i := 120) (by decide +kernel)
  · exact List.mem_of_getElem? (i := 122) (by decide +kernel)
  · exact List.mem_of_getElem? (i := 124) (by decide +kernel)
  · exact List.mem_of_getElem? (i := 126) (by decide +kernel)
set_option maxRecDepth 100000 in
theorem i_X2 : ∀ w ∈ u_ws RX2 TX2 5, w ∈ lw_tbl := by
  intro w hw
  have hq : u_ws RX2 TX2 5 = [u_lay RX2 TX2 0, u_lay RX2 TX2 1, u_lay RX2 TX2 2, u_lay RX2 TX2 3, u_lay RX2 TX2 4] := rfl
  rw [hq] at hw
  simp only [List.mem_cons, List.not_mem_nil, or_false] at hw
  rcases hw with rfl | rfl | rfl | rfl | rfl
  · exact List.mem_of_getElem? (i := 247) (by decide +kernel)
  · exact List.mem_of_getElem? (i := 249) (by decide +kernel)
  · exact List.mem_of_getElem? (i := 251) (by decide +kernel)
  · exact List.mem_of_getElem? (i := 253) (by decide +kernel)
  · exact List.mem_of_getElem? (i := 255) (by decide +kernel)
set_option maxRecDepth 100000 in
theorem i_X3 : ∀ w ∈ u_ws RX3 TX3 5, w ∈ lw_tbl := by
  intro w hw
  have hq : u_ws RX3 TX3 5 = [u_lay RX3 TX3 0, u_lay RX3 TX3 1, u_lay RX3 TX3 2, u_lay RX3 TX3 3, u_lay RX3 TX3 4] := rfl
  rw [hq] at hw
  simp only [List.mem_cons, List.not_mem_nil, or_false] at hw
  rcases hw with rfl | rfl | rfl | rfl | rfl
  · exact List.mem_of_getElem? (i := 195) (by decide +kernel)
  · exact List.mem_of_getElem? (i := 197) (by decide +kernel)
  · exact List.mem_of_getElem? (i := 199) (by decide +kernel)
  · exact List.mem_of_getElem? (i := 201) (by decide +kernel)
  · exact List.mem_of_getElem? (i := 203) (by decide +kernel)
set_option maxRecDepth 100000 in
theorem i_X4 : ∀ w ∈ u_ws RX4 TX4 2, w ∈ lw_tbl := by
  intro w hw
  have hq : u_ws RX4 TX4 2 = [u_lay RX4 TX4 0, u_lay RX4 TX4 1] := rfl
  rw [hq] at hw
  simp only [List.mem_cons, List.not_mem_nil, or_false] at hw
  rcases hw with rfl | rfl
  · exact List.mem_of_getElem? (i := 269) (by decide +kernel)
  · exact List.mem_of_getElem? (i := 271) (by decide +kernel)
set_option maxRecDepth 100000 in
theorem i_X5 : ∀ w ∈ u_ws RX5 TX5 6, w ∈ lw_tbl := by
  intro w hw
  have hq : u_ws RX5 TX5 6 = [u_lay RX5 TX5 0, u_lay RX5 TX5 1, u_lay RX5 TX5 2, u_lay RX5 TX5 3, u_lay RX5 TX5 4, u_lay RX5 TX5 5] := rfl
  rw [hq] at hw
  simp only [List.mem_cons, List.not_mem_nil, or_false] at hw
  rcases hw with rfl | rfl | rfl | rfl | rfl | rfl
  · exact List.mem_of_getElem? (i := 221) (by decide +kernel)
  · exact List.mem_of_getElem? (i := 223) (by decide +kernel)
  · exact List.mem_of_getElem? (i := 225) (by decide +kernel)
  · exact List.mem_of_getElem? (i := 227) (by decide +kernel)
  · exact List.mem_of_getElem? (i := 229) (by decide +kernel)
  · exact List.mem_of_getElem? (i := 231) (by decide +kernel)
set_option maxRecDepth 100000 in
theorem i_X6 : ∀ w ∈ u_ws RX6 TX6 12, w ∈ lw_tbl := by
  intro w hw
  have hq : u_ws RX6 TX6 12 = [u_lay RX6 TX6 0, u_lay RX6 TX6 1, u_lay RX6 TX6 2, u_lay RX6 TX6 3, u_lay RX6 TX6 4, u_lay RX6 TX6 5, u_lay RX6 TX6 6, u_lay RX6 TX6 7, u_lay RX6 TX6 8, u_lay RX6 TX6 9, u_lay RX6 TX6 10, u_lay RX6 TX6 11] := rfl
  rw [hq] at hw
  simp only [List.mem_cons, List.not_mem_nil, or_false] at hw
  rcases hw with rfl | rfl | rfl | rfl | rfl | rfl | rfl | rfl | rfl | rfl | rfl | rfl
  · exact List.mem_of_getElem? (i := 286) (by decide +kernel)
  · exact List.mem_of_getElem? (i := 288) (by decide +kernel)
  · exact List.mem_of_getElem? (i := 290) (by decide +kernel)
  · exact List.mem_of_getElem? (i := 292) (by decide +kernel)
  · exact List.mem_of_getElem? (i := 294) (by decide +kernel)
  · exact List.mem_of_getElem? (i := 296) (by decide +kernel)
  · exact List.mem_of_getElem? (i := 298) (by decide +kernel)
  · exact List.mem_of_getElem? (i := 300) (by decide +kernel)
  · exact List.mem_of_getElem? (i := 302) (by decide +kernel)
  · exact List.mem_of_getElem? (i := 304) (by decide +kernel)
  · exact List.mem_of_getElem? (i := 306) (by decide +kernel)
  · exact List.mem_of_getElem? (i := 308) (by decide +kernel)
set_option maxRecDepth 100000 in
theorem i_X7 : ∀ w ∈ u_ws RX7 TX7 33, w ∈ lw_tbl := by
  intro w hw
  have hq : u_ws RX7 TX7 33 = [u_lay RX7 TX7 0, u_lay RX7 TX7 1, u_lay RX7 TX7 2, u_lay RX7 TX7 3, u_lay RX7 TX7 4, u_lay RX7 TX7 5, u_lay RX7 TX7 6, u_lay RX7 TX7 7, u_lay RX7 TX7 8, u_lay RX7 TX7 9, u_lay RX7 TX7 10, u_lay RX7 TX7 11, u_lay RX7 TX7 12, u_lay RX7 TX7 13, u_lay RX7 TX7 14, u_lay RX7 TX7 15, u_lay RX7 TX7 16, u_lay RX7 TX7 17, u_lay RX7 TX7 18, u_lay RX7 TX7 19, u_lay RX7 TX7 20, u_lay RX7 TX7 21, u_lay RX7 TX7 22, u_lay RX7 TX7 23, u_lay RX7 TX7 24, u_lay RX7 TX7 25, u_lay RX7 TX7 26, u_lay RX7 TX7 27, u_lay RX7 TX7 28, u_lay RX7 TX7 29, u_lay RX7 TX7 30, u_lay RX7 TX7 31, u_lay RX7 TX7 32] := rfl
  rw [hq] at hw
  simp only [List.mem_cons, List.not_mem_nil, or_false] at hw
  rcases hw with rfl | rfl | rfl | rfl | rfl | rfl | rfl | rfl | rfl | rfl | rfl | rfl | rfl | rfl | rfl | rfl | rfl | rfl | rfl | rfl | rfl | rfl | rfl | rfl | rfl | rfl | rfl | rfl | rfl | rfl | rfl | rfl | rfl
  · exact List.mem_of_getElem? (i := 954) (by decide +kernel)
  · exact List.mem_of_getElem? (i := 956) (by decide +kernel)
  · exact List.mem_of_getElem? (i := 958) (by decide +kernel)
  · exact List.mem_of_getElem? (i := 960) (by decide +kernel)
  · exact List.mem_of_getElem? (i := 962) (by decide +kernel)
  · exact List.mem_of_getElem? (i := 964) (by decide +kernel)
  · exact List.mem_of_getElem? (i := 966) (by decide +kernel)
  · exact List.mem_of_getElem? (i := 968) (by decide +kernel)
  · exact List.mem_of_getElem? (i := 970) (by decide +kernel)
  · exact List.mem_of_getElem? (i := 972) (by decide +kernel)
  · exact List.mem_of_getElem? (i := 974) (by decide +kernel)
  · exact List.mem_of_getElem? (i := 976) (by decide +kernel)
  · exact List.mem_of_getElem? (i := 978) (by decide +kernel)
  · exact List.mem_of_getElem? (i := 980) (by decide +kernel)
  · exact List.mem_of_getElem? (i := 982) (by decide +kernel)
  · exact List.mem_of_getElem? (i := 984) (by decide +kernel)
  · exact List.mem_of_getElem? (i := 986) (by decide +kernel)
  · exact List.mem_of_getElem? (i := 988) (by decide +kernel)
  · exact List.mem_of_getElem? (i := 990) (by decide +kernel)
  · exact List.mem_of_getElem? (i := 992) (by decide +kernel)
  · exact List.mem_of_getElem? (i := 994) (by decide +kernel)
  · exact List.mem_of_getElem? (i := 996) (by decide +kernel)
  · exact List.mem_of_getElem? (i := 998) (by decide +kernel)
  · exact List.mem_of_getElem? (i := 1000) (by decide +kernel)
  · exact List.mem_of_getElem? (i := 1002) (by decide +kernel)
  · exact List.mem_of_getElem? (i := 1004) (by decide +kernel)
  · exact List.mem_of_getElem? (i := 1006) (by decide +kernel)
  · exact List.mem_of_getElem? (i := 1008) (by decide +kernel)
  · exact List.mem_of_getElem? (i := 1010) (by decide +kernel)
  · exact List.mem_of_getElem? (i := 1012) (by decide +kernel)
  · exact List.mem_of_getElem? (i := 1014) (by decide +kernel)
  · exact List.mem_of_getElem? (i := 1016) (by decide +kernel)
  · exact List.mem_of_getElem? (i := 1018) (by decide +kernel)
def ownN : Nat → String
  | 0 => "BlindPost$Land"
  | 1 => "BlindPost$Letter"
  | 2 => "BlindPost$Pairs"
  | 3 => "BlindPost$Reading"
  | 4 => "BlindPost$Sheet"
  | 5 => "BlindPost$Ways"
  | 6 => "BlindPost"
  | 7 => "BlindPostModel"
  | 8 => "BlindPostLaw"
  | 9 => "java/lang/Integer"
  | 10 => "java/lang/Math"
  | 11 => "java/util/Arrays"
  | _ => ""
/-- a field link: of the owner, at a pool place, to the field k of the class ci -/
def FldOK (q : Nat × Nat × Nat × Nat) : Prop := ∃ (C : String) (T : u_T) (N : Nat), vwCl[q.2.2.1]? = some (C, T, N) ∧ q.2.2.2 < N ∧ Jvm.Cond.fieldLink (ownN q.1) q.2.1 (T q.2.2.2).1 (T q.2.2.2).2.1 (T q.2.2.2).2.2.1 ∈ lw_tbl
def fldL : List (Nat × Nat × Nat × Nat) := [(0, 9, 0, 0), (0, 15, 0, 1), (0, 18, 0, 2), (0, 21, 0, 3), (0, 24, 0, 4), (0, 29, 0, 5), (0, 32, 0, 6), (0, 37, 0, 7), (0, 41, 0, 8), (0, 45, 0, 9), (0, 48, 0, 10), (0, 51, 0, 11), (0, 111, 1, 3), (0, 118, 1, 4), (0, 168, 1, 2), (0, 171, 1, 0), (1, 9, 1, 0), (1, 15, 1, 1), (1, 18, 1, 2), (1, 22, 1, 3), (1, 25, 1, 4), (2, 9, 2, 2), (2, 15, 2, 3), (2, 19, 2, 4), (2, 22, 2, 0), (2, 26, 2, 1), (2, 30, 0, 1), (2, 58, 0, 8), (3, 11, 3, 1), (3, 15, 3, 2), (3, 18, 3, 3), (3, 21, 3, 4), (3, 24, 3, 0), (3, 33, 4, 1), (3, 38, 4, 0), (3, 61, 0, 9), (3, 68, 0, 8), (3, 78, 0, 1), (4, 11, 4, 1), (4, 15, 4, 0), (5, 9, 5, 1), (5, 15, 5, 2), (5, 18, 5, 3), (5, 22, 5, 4), (5, 25, 5, 5), (5, 28, 5, 0), (5, 32, 0, 8), (5, 48, 0, 6), (5, 61, 0, 5), (6, 11, 6, 0), (6, 15, 6, 1), (6, 21, 6, 2), (6, 25, 6, 3), (6, 28, 6, 4), (6, 32, 6, 5), (6, 41, 6, 6), (6, 48, 6, 7), (6, 57, 6, 8), (6, 61, 6, 9), (6, 65, 6, 10), (6, 69, 6, 11), (6, 90, 4, 0), (6, 100, 4, 1), (6, 127, 0, 8), (6, 137, 0, 0), (6, 149, 0, 1), (6, 158, 0, 9), (6, 177, 0, 5), (6, 181, 0, 10), (6, 184, 0, 7), (6, 188, 0, 11), (6, 215, 1, 0), (6, 218, 1, 2), (6, 238, 5, 4), (6, 239, 5, 5), (6, 270, 2, 3), (6, 273, 2, 4), (7, 7, 7, 1), (7, 13, 7, 3), (7, 16, 7, 4), (7, 19, 7, 5), (7, 22, 7, 6), (7, 25, 7, 7), (7, 28, 7, 9), (7, 31, 7, 10), (7, 34, 7, 12), (7, 37, 7, 15), (7, 40, 7, 19), (7, 43, 7, 20), (7, 46, 7, 21), (7, 49, 7, 22), (7, 52, 7, 23), (7, 55, 7, 24), (7, 58, 7, 29), (7, 62, 7, 31), (7, 65, 7, 0), (7, 69, 7, 2), (7, 107, 7, 16), (7, 116, 7, 18), (7, 119, 7, 17), (7, 131, 7, 8), (7, 134, 7, 11), (7, 137, 7, 13), (7, 140, 7, 14), (7, 217, 7, 27), (7, 220, 7, 28), (7, 223, 7, 26), (7, 227, 7, 25), (7, 250, 7, 30), (7, 282, 7, 32)]
set_option maxRecDepth 100000 in
theorem fldL_ok : ∀ q ∈ fldL, FldOK q := by
  unfold fldL
  refine List.forall_mem_cons.mpr ⟨⟨RX0, TX0, 12, rfl, by decide, List.mem_of_getElem? (i := 130) (by decide +kernel)⟩, ?_⟩
  refine List.forall_mem_cons.mpr ⟨⟨RX0, TX0, 12, rfl, by decide, List.mem_of_getElem? (i := 132) (by decide +kernel)⟩, ?_⟩
  refine List.forall_mem_cons.mpr ⟨⟨RX0, TX0, 12, rfl, by decide, List.mem_of_getElem? (i := 136) (by decide +kernel)⟩, ?_⟩
  refine List.forall_mem_cons.mpr ⟨⟨RX0, TX0, 12, rfl, by decide, List.mem_of_getElem? (i := 137) (by decide +kernel)⟩, ?_⟩
  refine List.forall_mem_cons.mpr ⟨⟨RX0, TX0, 12, rfl, by decide, List.mem_of_getElem? (i := 138) (by decide +kernel)⟩, ?_⟩
  refine List.forall_mem_cons.mpr ⟨⟨RX0, TX0, 12, rfl, by decide, List.mem_of_getElem? (i := 139) (by decide +kernel)⟩, ?_⟩
  refine List.forall_mem_cons.mpr ⟨⟨RX0, TX0, 12, rfl, by decide, List.mem_of_getElem? (i := 142) (by decide +kernel)⟩, ?_⟩
  refine List.forall_mem_cons.mpr ⟨⟨RX0, TX0, 12, rfl, by decide, List.mem_of_getElem? (i := 144) (by decide +kernel)⟩, ?_⟩
  refine List.forall_mem_cons.mpr ⟨⟨RX0, TX0, 12, rfl, by decide, List.mem_of_getElem? (i := 146) (by decide +kernel)⟩, ?_⟩
  refine List.forall_mem_cons.mpr ⟨⟨RX0, TX0, 12, rfl, by decide, List.mem_of_getElem? (i := 151) (by decide +kernel)⟩, ?_⟩
  refine List.forall_mem_cons.mpr ⟨⟨RX0, TX0, 12, rfl, by decide, List.mem_of_getElem? (i := 154) (by decide +kernel)⟩, ?_⟩
  refine List.forall_mem_cons.mpr ⟨⟨RX0, TX0, 12, rfl, by decide, List.mem_of_getElem? (i := 156) (by decide +kernel)⟩, ?_⟩
  refine List.forall_mem_cons.mpr ⟨⟨RX1, TX1, 5, rfl, by decide, List.mem_of_getElem? (i := 115) (by decide +kernel)⟩, ?_⟩
  refine List.forall_mem_cons.mpr ⟨⟨RX1, TX1, 5, rfl, by decide, List.mem_of_getElem? (i := 117) (by decide +kernel)⟩, ?_⟩
  refine List.forall_mem_cons.mpr ⟨⟨RX1, TX1, 5, rfl, by decide, List.mem_of_getElem? (i := 113) (by decide +kernel)⟩, ?_⟩
  refine List.forall_mem_cons.mpr ⟨⟨RX1, TX1, 5, rfl, by decide, List.mem_of_getElem? (i := 109) (by decide +kernel)⟩, ?_⟩
  refine List.forall_mem_cons.mpr ⟨⟨RX1, TX1, 5, rfl, by decide, List.mem_of_getElem? (i := 107) (by decide +kernel)⟩, ?_⟩
  refine List.forall_mem_cons.mpr ⟨⟨RX1, TX1, 5, rfl, by decide, List.mem_of_getElem? (i := 110) (by decide +kernel)⟩, ?_⟩
  refine List.forall_mem_cons.mpr ⟨⟨RX1, TX1, 5, rfl, by decide, List.mem_of_getElem? (i := 111) (by decide +kernel)⟩, ?_⟩
  refine List.forall_mem_cons.mpr ⟨⟨RX1, TX1, 5, rfl, by decide, List.mem_of_getElem? (i := 114) (by decide +kernel)⟩, ?_⟩
  refine List.forall_mem_cons.mpr ⟨⟨RX1, TX1, 5, rfl, by decide, List.mem_of_getElem? (i := 116) (by decide +kernel)⟩, ?_⟩
  refine List.forall_mem_cons.mpr ⟨⟨RX2, TX2, 5, rfl, by decide, List.mem_of_getElem? (i := 242) (by decide +kernel)⟩, ?_⟩
  refine List.forall_mem_cons.mpr ⟨⟨RX2, TX2, 5, rfl, by decide, List.mem_of_getElem? (i := 243) (by decide +kernel)⟩, ?_⟩
  refine List.forall_mem_cons.mpr ⟨⟨RX2, TX2, 5, rfl, by decide, List.mem_of_getElem? (i := 245) (by decide +kernel)⟩, ?_⟩
  refine List.forall_mem_cons.mpr ⟨⟨RX2, TX2, 5, rfl, by decide, List.mem_of_getElem? (i := 240) (by decide +kernel)⟩, ?_⟩
  refine List.forall_mem_cons.mpr ⟨⟨RX2, TX2, 5, rfl, by decide, List.mem_of_getElem? (i := 241) (by decide +kernel)⟩, ?_⟩
  refine List.forall_mem_cons.mpr ⟨⟨RX0, TX0, 12, rfl, by decide, List.mem_of_getElem? (i := 133) (by decide +kernel)⟩, ?_⟩
  refine List.forall_mem_cons.mpr ⟨⟨RX0, TX0, 12, rfl, by decide, List.mem_of_getElem? (i := 148) (by decide +kernel)⟩, ?_⟩
  refine List.forall_mem_cons.mpr ⟨⟨RX3, TX3, 5, rfl, by decide, List.mem_of_getElem? (i := 191) (by decide +kernel)⟩, ?_⟩
  refine List.forall_mem_cons.mpr ⟨⟨RX3, TX3, 5, rfl, by decide, List.mem_of_getElem? (i := 192) (by decide +kernel)⟩, ?_⟩
  refine List.forall_mem_cons.mpr ⟨⟨RX3, TX3, 5, rfl, by decide, List.mem_of_getElem? (i := 193) (by decide +kernel)⟩, ?_⟩
  refine List.forall_mem_cons.mpr ⟨⟨RX3, TX3, 5, rfl, by decide, List.mem_of_getElem? (i := 194) (by decide +kernel)⟩, ?_⟩
  refine List.forall_mem_cons.mpr ⟨⟨RX3, TX3, 5, rfl, by decide, List.mem_of_getElem? (i := 190) (by decide +kernel)⟩, ?_⟩
  refine List.forall_mem_cons.mpr ⟨⟨RX4, TX4, 2, rfl, by decide, List.mem_of_getElem? (i := 267) (by decide +kernel)⟩, ?_⟩
  refine List.forall_mem_cons.mpr ⟨⟨RX4, TX4, 2, rfl, by decide, List.mem_of_getElem? (i := 264) (by decide +kernel)⟩, ?_⟩
  refine List.forall_mem_cons.mpr ⟨⟨RX0, TX0, 12, rfl, by decide, List.mem_of_getElem? (i := 152) (by decide +kernel)⟩, ?_⟩
  refine List.forall_mem_cons.mpr ⟨⟨RX0, TX0, 12, rfl, by decide, List.mem_of_getElem? (i := 149) (by decide +kernel)⟩, ?_⟩
  refine List.forall_mem_cons.mpr ⟨⟨RX0, TX0, 12, rfl, by decide, List.mem_of_getElem? (i := 134) (by decide +kernel)⟩, ?_⟩
  refine List.forall_mem_cons.mpr ⟨⟨RX4, TX4, 2, rfl, by decide, List.mem_of_getElem? (i := 266) (by decide +kernel)⟩, ?_⟩
  refine List.forall_mem_cons.mpr ⟨⟨RX4, TX4, 2, rfl, by decide, List.mem_of_getElem? (i := 263) (by decide +kernel)⟩, ?_⟩
  refine List.forall_mem_cons.mpr ⟨⟨RX5, TX5, 6, rfl, by decide, List.mem_of_getElem? (i := 214) (by decide +kernel)⟩, ?_⟩
  refine List.forall_mem_cons.mpr ⟨⟨RX5, TX5, 6, rfl, by decide, List.mem_of_getElem? (i := 215) (by decide +kernel)⟩, ?_⟩
  refine List.forall_mem_cons.mpr ⟨⟨RX5, TX5, 6, rfl, by decide, List.mem_of_getElem? (i := 216) (by decide +kernel)⟩, ?_⟩
  refine List.forall_mem_cons.mpr ⟨⟨RX5, TX5, 6, rfl, by decide, List.mem_of_getElem? (i := 217) (by decide +kernel)⟩, ?_⟩
  refine List.forall_mem_cons.mpr ⟨⟨RX5, TX5, 6, rfl, by decide, List.mem_of_getElem? (i := 219) (by decide +kernel)⟩, ?_⟩
  refine List.forall_mem_cons.mpr ⟨⟨RX5, TX5, 6, rfl, by decide, List.mem_of_getElem? (i := 213) (by decide +kernel)⟩, ?_⟩
  refine List.forall_mem_cons.mpr ⟨⟨RX0, TX0, 12, rfl, by decide, List.mem_of_getElem? (i := 147) (by decide +kernel)⟩, ?_⟩
  refine List.forall_mem_cons.mpr ⟨⟨RX0, TX0, 12, rfl, by decide, List.mem_of_getElem? (i := 143) (by decide +kernel)⟩, ?_⟩
  refine List.forall_mem_cons.mpr ⟨⟨RX0, TX0, 12, rfl, by decide, List.mem_of_getElem? (i := 140) (by decide +kernel)⟩, ?_⟩
  refine List.forall_mem_cons.mpr ⟨⟨RX6, TX6, 12, rfl, by decide, List.mem_of_getElem? (i := 274) (by decide +kernel)⟩, ?_⟩
  refine List.forall_mem_cons.mpr ⟨⟨RX6, TX6, 12, rfl, by decide, List.mem_of_getElem? (i := 275) (by decide +kernel)⟩, ?_⟩
  refine List.forall_mem_cons.mpr ⟨⟨RX6, TX6, 12, rfl, by decide, List.mem_of_getElem? (i := 276) (by decide +kernel)⟩, ?_⟩
  refine List.forall_mem_cons.mpr ⟨⟨RX6, TX6, 12, rfl, by decide, List.mem_of_getElem? (i := 277) (by decide +kernel)⟩, ?_⟩
  refine List.forall_mem_cons.mpr ⟨⟨RX6, TX6, 12, rfl, by decide, List.mem_of_getElem? (i := 278) (by decide +kernel)⟩, ?_⟩
  refine List.forall_mem_cons.mpr ⟨⟨RX6, TX6, 12, rfl, by decide, List.mem_of_getElem? (i := 279) (by decide +kernel)⟩, ?_⟩
  refine List.forall_mem_cons.mpr ⟨⟨RX6, TX6, 12, rfl, by decide, List.mem_of_getElem? (i := 280) (by decide +kernel)⟩, ?_⟩
  refine List.forall_mem_cons.mpr ⟨⟨RX6, TX6, 12, rfl, by decide, List.mem_of_getElem? (i := 281) (by decide +kernel)⟩, ?_⟩
  refine List.forall_mem_cons.mpr ⟨⟨RX6, TX6, 12, rfl, by decide, List.mem_of_getElem? (i := 282) (by decide +kernel)⟩, ?_⟩
  refine List.forall_mem_cons.mpr ⟨⟨RX6, TX6, 12, rfl, by decide, List.mem_of_getElem? (i := 283) (by decide +kernel)⟩, ?_⟩
  refine List.forall_mem_cons.mpr ⟨⟨RX6, TX6, 12, rfl, by decide, List.mem_of_getElem? (i := 284) (by decide +kernel)⟩, ?_⟩
  refine List.forall_mem_cons.mpr ⟨⟨RX6, TX6, 12, rfl, by decide, List.mem_of_getElem? (i := 285) (by decide +kernel)⟩, ?_⟩
  refine List.forall_mem_cons.mpr ⟨⟨RX4, TX4, 2, rfl, by decide, List.mem_of_getElem? (i := 265) (by decide +kernel)⟩, ?_⟩
  refine List.forall_mem_cons.mpr ⟨⟨RX4, TX4, 2, rfl, by decide, List.mem_of_getElem? (i := 268) (by decide +kernel)⟩, ?_⟩
  refine List.forall_mem_cons.mpr ⟨⟨RX0, TX0, 12, rfl, by decide, List.mem_of_getElem? (i := 150) (by decide +kernel)⟩, ?_⟩
  refine List.forall_mem_cons.mpr ⟨⟨RX0, TX0, 12, rfl, by decide, List.mem_of_getElem? (i := 131) (by decide +kernel)⟩, ?_⟩
  refine List.forall_mem_cons.mpr ⟨⟨RX0, TX0, 12, rfl, by decide, List.mem_of_getElem? (i := 135) (by decide +kernel)⟩, ?_⟩
  refine List.forall_mem_cons.mpr ⟨⟨RX0, TX0, 12, rfl, by decide, List.mem_of_getElem? (i := 153) (by decide +kernel)⟩, ?_⟩
  refine List.forall_mem_cons.mpr ⟨⟨RX0, TX0, 12, rfl, by decide, List.mem_of_getElem? (i := 141) (by decide +kernel)⟩, ?_⟩
  refine List.forall_mem_cons.mpr ⟨⟨RX0, TX0, 12, rfl, by decide, List.mem_of_getElem? (i := 155) (by decide +kernel)⟩, ?_⟩
  refine List.forall_mem_cons.mpr ⟨⟨RX0, TX0, 12, rfl, by decide, List.mem_of_getElem? (i := 145) (by decide +kernel)⟩, ?_⟩
  refine List.forall_mem_cons.mpr ⟨⟨RX0, TX0, 12, rfl, by decide, List.mem_of_getElem? (i := 157) (by decide +kernel)⟩, ?_⟩
  refine List.forall_mem_cons.mpr ⟨⟨RX1, TX1, 5, rfl, by decide, List.mem_of_getElem? (i := 108) (by decide +kernel)⟩, ?_⟩
  refine List.forall_mem_cons.mpr ⟨⟨RX1, TX1, 5, rfl, by decide, List.mem_of_getElem? (i := 112) (by decide +kernel)⟩, ?_⟩
  refine List.forall_mem_cons.mpr ⟨⟨RX5, TX5, 6, rfl, by decide, List.mem_of_getElem? (i := 218) (by decide +kernel)⟩, ?_⟩
  refine List.forall_mem_cons.mpr ⟨⟨RX5, TX5, 6, rfl, by decide, List.mem_of_getElem? (i := 220) (by decide +kernel)⟩, ?_⟩
  refine List.forall_mem_cons.mpr ⟨⟨RX2, TX2, 5, rfl, by decide, List.mem_of_getElem? (i := 244) (by decide +kernel)⟩, ?_⟩
  refine List.forall_mem_cons.mpr ⟨⟨RX2, TX2, 5, rfl, by decide, List.mem_of_getElem? (i := 246) (by decide +kernel)⟩, ?_⟩
  refine List.forall_mem_cons.mpr ⟨⟨RX7, TX7, 33, rfl, by decide, List.mem_of_getElem? (i := 922) (by decide +kernel)⟩, ?_⟩
  refine List.forall_mem_cons.mpr ⟨⟨RX7, TX7, 33, rfl, by decide, List.mem_of_getElem? (i := 924) (by decide +kernel)⟩, ?_⟩
  refine List.forall_mem_cons.mpr ⟨⟨RX7, TX7, 33, rfl, by decide, List.mem_of_getElem? (i := 925) (by decide +kernel)⟩, ?_⟩
  refine List.forall_mem_cons.mpr ⟨⟨RX7, TX7, 33, rfl, by decide, List.mem_of_getElem? (i := 926) (by decide +kernel)⟩, ?_⟩
  refine List.forall_mem_cons.mpr ⟨⟨RX7, TX7, 33, rfl, by decide, List.mem_of_getElem? (i := 927) (by decide +kernel)⟩, ?_⟩
  refine List.forall_mem_cons.mpr ⟨⟨RX7, TX7, 33, rfl, by decide, List.mem_of_getElem? (i := 928) (by decide +kernel)⟩, ?_⟩
  refine List.forall_mem_cons.mpr ⟨⟨RX7, TX7, 33, rfl, by decide, List.mem_of_getElem? (i := 930) (by decide +kernel)⟩, ?_⟩
  refine List.forall_mem_cons.mpr ⟨⟨RX7, TX7, 33, rfl, by decide, List.mem_of_getElem? (i := 931) (by decide +kernel)⟩, ?_⟩
  refine List.forall_mem_cons.mpr ⟨⟨RX7, TX7, 33, rfl, by decide, List.mem_of_getElem? (i := 933) (by decide +kernel)⟩, ?_⟩
  refine List.forall_mem_cons.mpr ⟨⟨RX7, TX7, 33, rfl, by decide, List.mem_of_getElem? (i := 936) (by decide +kernel)⟩, ?_⟩
  refine List.forall_mem_cons.mpr ⟨⟨RX7, TX7, 33, rfl, by decide, List.mem_of_getElem? (i := 940) (by decide +kernel)⟩, ?_⟩
  refine List.forall_mem_cons.mpr ⟨⟨RX7, TX7, 33, rfl, by decide, List.mem_of_getElem? (i := 941) (by decide +kernel)⟩, ?_⟩
  refine List.forall_mem_cons.mpr ⟨⟨RX7, TX7, 33, rfl, by decide, List.mem_of_getElem? (i := 942) (by decide +kernel)⟩, ?_⟩
  refine List.forall_mem_cons.mpr ⟨⟨RX7, TX7, 33, rfl, by decide, List.mem_of_getElem? (i := 943) (by decide +kernel)⟩, ?_⟩
  refine List.forall_mem_cons.mpr ⟨⟨RX7, TX7, 33, rfl, by decide, List.mem_of_getElem? (i := 944) (by decide +kernel)⟩, ?_⟩
  refine List.forall_mem_cons.mpr ⟨⟨RX7, TX7, 33, rfl, by decide, List.mem_of_getElem? (i := 945) (by decide +kernel)⟩, ?_⟩
  refine List.forall_mem_cons.mpr ⟨⟨RX7, TX7, 33, rfl, by decide, List.mem_of_getElem? (i := 950) (by decide +kernel)⟩, ?_⟩
  refine List.forall_mem_cons.mpr ⟨⟨RX7, TX7, 33, rfl, by decide, List.mem_of_getElem? (i := 952) (by decide +kernel)⟩, ?_⟩
  refine List.forall_mem_cons.mpr ⟨⟨RX7, TX7, 33, rfl, by decide, List.mem_of_getElem? (i := 921) (by decide +kernel)⟩, ?_⟩
  refine List.forall_mem_cons.mpr ⟨⟨RX7, TX7, 33, rfl, by decide, List.mem_of_getElem? (i := 923) (by decide +kernel)⟩, ?_⟩
  refine List.forall_mem_cons.mpr ⟨⟨RX7, TX7, 33, rfl, by decide, List.mem_of_getElem? (i := 937) (by decide +kernel)⟩, ?_⟩
  refine List.forall_mem_cons.mpr ⟨⟨RX7, TX7, 33, rfl, by decide, List.mem_of_getElem? (i := 939) (by decide +kernel)⟩, ?_⟩
  refine List.forall_mem_cons.mpr ⟨⟨RX7, TX7, 33, rfl, by decide, List.mem_of_getElem? (i := 938) (by decide +kernel)⟩, ?_⟩
  refine List.forall_mem_cons.mpr ⟨⟨RX7, TX7, 33, rfl, by decide, List.mem_of_getElem? (i := 929) (by decide +kernel)⟩, ?_⟩
  refine List.forall_mem_cons.mpr ⟨⟨RX7, TX7, 33, rfl, by decide, List.mem_of_getElem? (i := 932) (by decide +kernel)⟩, ?_⟩
  refine List.forall_mem_cons.mpr ⟨⟨RX7, TX7, 33, rfl, by decide, List.mem_of_getElem? (i := 934) (by decide +kernel)⟩, ?_⟩
  refine List.forall_mem_cons.mpr ⟨⟨RX7, TX7, 33, rfl, by decide, List.mem_of_getElem? (i := 935) (by decide +kernel)⟩, ?_⟩
  refine List.forall_mem_cons.mpr ⟨⟨RX7, TX7, 33, rfl, by decide, List.mem_of_getElem? (i := 948) (by decide +kernel)⟩, ?_⟩
  refine List.forall_mem_cons.mpr ⟨⟨RX7, TX7, 33, rfl, by decide, List.mem_of_getElem? (i := 949) (by decide +kernel)⟩, ?_⟩
  refine List.forall_mem_cons.mpr ⟨⟨RX7, TX7, 33, rfl, by decide, List.mem_of_getElem? (i := 947) (by decide +kernel)⟩, ?_⟩
  refine List.forall_mem_cons.mpr ⟨⟨RX7, TX7, 33, rfl, by decide, List.mem_of_getElem? (i := 946) (by decide +kernel)⟩, ?_⟩
  refine List.forall_mem_cons.mpr ⟨⟨RX7, TX7, 33, rfl, by decide, List.mem_of_getElem? (i := 951) (by decide +kernel)⟩, ?_⟩
  refine List.forall_mem_cons.mpr ⟨⟨RX7, TX7, 33, rfl, by decide, List.mem_of_getElem? (i := 953) (by decide +kernel)⟩, ?_⟩
  exact fun _ h => absurd h List.not_mem_nil
def cstL : List (Nat × Nat × Int32) := [(5, 81, 1000000), (6, 297, 2147483647), (7, 226, 1048576), (7, 269, 2147483646), (9, 265, 1431655765), (9, 266, 858993459), (9, 267, 252645135)]
theorem cstL_ok : ∀ q ∈ cstL, Jvm.Cond.constant (ownN q.1) q.2.1 q.2.2 ∈ lw_tbl := by
  unfold cstL
  refine List.forall_mem_cons.mpr ⟨List.mem_of_getElem? (i := 684) (by decide +kernel), ?_⟩
  refine List.forall_mem_cons.mpr ⟨List.mem_of_getElem? (i := 845) (by decide +kernel), ?_⟩
  refine List.forall_mem_cons.mpr ⟨List.mem_of_getElem? (i := 1275) (by decide +kernel), ?_⟩
  refine List.forall_mem_cons.mpr ⟨List.mem_of_getElem? (i := 1376) (by decide +kernel), ?_⟩
  refine List.forall_mem_cons.mpr ⟨List.mem_of_getElem? (i := 507) (by decide +kernel), ?_⟩
  refine List.forall_mem_cons.mpr ⟨List.mem_of_getElem? (i := 508) (by decide +kernel), ?_⟩
  refine List.forall_mem_cons.mpr ⟨List.mem_of_getElem? (i := 509) (by decide +kernel), ?_⟩
  exact fun _ h => absurd h List.not_mem_nil
def cstJ : List (Nat × Nat × Int64) := [(0, 140, 48271), (0, 142, 2147483647), (0, 163, 31), (4, 29, 31), (6, 317, 17), (6, 319, 31), (7, 270, 48271), (7, 272, 2147483647), (7, 280, 31), (7, 290, 17)]
theorem cstJ_ok : ∀ q ∈ cstJ, Jvm.Cond.constantLong (ownN q.1) q.2.1 q.2.2 ∈ lw_tbl := by
  unfold cstJ
  refine List.forall_mem_cons.mpr ⟨List.mem_of_getElem? (i := 851) (by decide +kernel), ?_⟩
  refine List.forall_mem_cons.mpr ⟨List.mem_of_getElem? (i := 852) (by decide +kernel), ?_⟩
  refine List.forall_mem_cons.mpr ⟨List.mem_of_getElem? (i := 908) (by decide +kernel), ?_⟩
  refine List.forall_mem_cons.mpr ⟨List.mem_of_getElem? (i := 914) (by decide +kernel), ?_⟩
  refine List.forall_mem_cons.mpr ⟨List.mem_of_getElem? (i := 901) (by decide +kernel), ?_⟩
  refine List.forall_mem_cons.mpr ⟨List.mem_of_getElem? (i := 902) (by decide +kernel), ?_⟩
  refine List.forall_mem_cons.mpr ⟨List.mem_of_getElem? (i := 1377) (by decide +kernel), ?_⟩
  refine List.forall_mem_cons.mpr ⟨List.mem_of_getElem? (i := 1378) (by decide +kernel), ?_⟩
  refine List.forall_mem_cons.mpr ⟨List.mem_of_getElem? (i := 1419) (by decide +kernel), ?_⟩
  refine List.forall_mem_cons.mpr ⟨List.mem_of_getElem? (i := 1414) (by decide +kernel), ?_⟩
  exact fun _ h => absurd h List.not_mem_nil
end
section
/-! SOUNDNESS of the reflected machine, one instruction at a time -/
/-- the locals as the machine has them -/
def al_has (B : Nat) (ls : Array Slot) (nL : Nat) (L : Loca) : Prop := L.length = nL ∧ ls.size = nL ∧ lv_wf ls ∧ ∀ i v, lget L i = some v → ls[i]? = some (.val (cv B v))
theorem cv_cat (B : Nat) (v : Value) : (cv B v).category = v.category := by cases v <;> rfl
theorem lget_none {L : Loca} {i : Nat} (h : L.length ≤ i) : lget L i = none := by
  induction L generalizing i with
  | nil => rfl
  | cons a t ih =>
    cases i with
    | zero => simp at h
    | succ i => exact ih (by simpa using h)
theorem lset_len (L : Loca) (i : Nat) (v : Option Value) : (lset L i v).length = L.length := by
  induction L generalizing i with
  | nil => rfl
  | cons a t ih =>
    cases i with
    | zero => rfl
    | succ i => simp [lset, ih]
theorem lget_lset_eq {L : Loca} {i : Nat} (v : Option Value) (h : i < L.length) : lget (lset L i v) i = v := by
  induction L generalizing i with
  | nil => simp at h
  | cons a t ih =>
    cases i with
    | zero => rfl
    | succ i => exact ih (by simpa using h)
theorem lget_lset_ne {L : Loca} {i j : Nat} (v : Option Value) (h : j ≠ i) : lget (lset L i v) j = lget L j := by
  induction L generalizing i j with
  | nil => rfl
  | cons a t ih =>
    cases i with
    | zero =>
      cases j with
      | zero => exact absurd rfl h
      | succ j => rfl
    | succ i =>
      cases j with
      | zero => rfl
      | succ j => exact ih (fun e => h (by rw [e]))
/-- the list of what is known, as the kit has it -/
def al_l (B : Nat) (L : Loca) : List (Nat × Value) := (List.range L.length).filterMap fun i => (lget L i).map fun v => (i, cv B v)
theorem al_mem {B : Nat} {L : Loca} {i : Nat} {v : Value} : (i, v) ∈ al_l B L ↔ ∃ u, lget L i = some u ∧ v = cv B u := by
  unfold al_l
  rw [List.mem_filterMap]
  constructor
  · rintro ⟨j, -, hj⟩
    cases hl : lget L j with
    | none => rw [hl] at hj; cases hj
    | some u =>
      rw [hl] at hj
      cases hj
      exact ⟨u, hl, rfl⟩
  · rintro ⟨u, hu, rfl⟩
    refine ⟨i, ?_, by rw [hu]; rfl⟩
    rw [List.mem_range]
    rcases Nat.lt_or_ge i L.length with h | h
    · exact h
    · rw [lget_none h] at hu; cases hu
theorem al_lv {B : Nat} {ls : Array Slot} {nL : Nat} {L : Loca} (h : al_has B ls nL L) : lv_has ls nL (al_l B L) := by
  refine ⟨h.2.1, h.2.2.1, fun q hq => ?_⟩
  obtain ⟨i, v⟩ := q
  obtain ⟨u, hu, rfl⟩ := al_mem.mp hq
  exact h.2.2.2 i u hu
theorem al_sto1 {B : Nat} {ls' : Array Slot} {nL : Nat} {L : Loca} {i : Nat} {v : Value} (hL : L.length = nL) (hf : lfree L i = true)
    (h : lv_has ls' nL ((i, cv B v) :: (al_l B L).filter (fun q => !(q.1 == i) && !(q.1 + 1 == i && q.2.category == 2)))) : al_has B ls' nL (lsto1 L i v) := by
  refine ⟨by rw [lsto1, lset_len]; exact hL, h.1, h.2.1, fun j u hj => ?_⟩
  by_cases e : j = i
  · subst e
    unfold lsto1 at hj
    by_cases hl : j < L.length
    · rw [lget_lset_eq _ hl] at hj
      cases hj
      exact h.2.2 _ List.mem_cons_self
    · rw [lget_none (by rw [lset_len]; omega)] at hj
      cases hj
  · unfold lsto1 at hj
    rw [lget_lset_ne _ e] at hj
    refine h.2.2 (j, cv B u) (List.mem_cons_of_mem _ (List.mem_filter.mpr ⟨al_mem.mpr ⟨u, hj, rfl⟩, ?_⟩))
    simp only [Bool.and_eq_true, Bool.not_eq_true', beq_eq_false_iff_ne, ne_eq, Bool.and_eq_false_iff]
    refine ⟨e, ?_⟩
    by_cases e2 : j + 1 = i
    · right
      subst e2
      rw [lfree, hj] at hf
      rw [cv_cat]
      cases u <;> simp_all [Value.category]
    · exact Or.inl e2
theorem al_sto2 {B : Nat} {ls' : Array Slot} {nL : Nat} {L : Loca} {i : Nat} {v : Value} (hL : L.length = nL) (hf : lfree L i = true)
    (h : lv_has ls' nL ((i, cv B v) :: (al_l B L).filter (fun q => !(q.1 == i) && (!(q.1 == i + 1) && !(q.1 + 1 == i && q.2.category == 2))))) : al_has B ls' nL (lsto2 L i v) := by
  refine ⟨by rw [lsto2, lset_len, lset_len]; exact hL, h.1, h.2.1, fun j u hj => ?_⟩
  by_cases e : j = i
  · subst e
    unfold lsto2 at hj
    by_cases hl : j < L.length
    · rw [lget_lset_eq _ (by rw [lset_len]; exact hl)] at hj
      cases hj
      exact h.2.2 _ List.mem_cons_self
    · rw [lget_none (by rw [lset_len, lset_len]; omega)] at hj
      cases hj
  · unfold lsto2 at hj
    rw [lget_lset_ne _ e] at hj
    have e3 : j ≠ i + 1 := by
      intro q
      subst q
      by_cases hl : i + 1 < L.length
      · rw [lget_lset_eq _ hl] at hj; cases hj
      · rw [lget_none (by rw [lset_len]; omega)] at hj; cases hj
    rw [lget_lset_ne _ e3] at hj
    refine h.2.2 (j, cv B u) (List.mem_cons_of_mem _ (List.mem_filter.mpr ⟨al_mem.mpr ⟨u, hj, rfl⟩, ?_⟩))
    simp only [Bool.and_eq_true, Bool.not_eq_true', beq_eq_false_iff_ne, ne_eq, Bool.and_eq_false_iff]
    refine ⟨e, e3, ?_⟩
    by_cases e2 : j + 1 = i
    · right
      subst e2
      rw [lfree, hj] at hf
      rw [cv_cat]
      cases u <;> simp_all [Value.category]
    · exact Or.inl e2
section AT
variable (p : Program) (l : Launch) (e : Env) (R : Room) (s : State) (m : MethodId) (args : Array Value) (below : List Frame) (meth : Method) (c : Code) (B nL : Nat) (H0 : Heap) (cells slots : Nat) (Q : State → Prop)
/-- from here, over every heap of the world X, the machine comes to Q -/
def At (X : Heap → Prop) (pc : Nat) (L : Loca) (st : List Value) : Prop := ∀ (H : Heap) (locs : List Loc) (ls : Array Slot), X H → va_S (fun q => B ≤ q) H0 H locs → al_has B ls nL L → W p l e R s m args below meth c H locs cells slots Q (F0 m pc ls (st.map (cv B)))
end AT
theorem At.mono {p : Program} {l : Launch} {e : Env} {R : Room} {s : State} {m : MethodId} {args : Array Value} {below : List Frame} {meth : Method} {c : Code} {B nL : Nat} {H0 : Heap} {cells slots : Nat} {Q : State → Prop} {X : Heap → Prop} {pc : Nat} {L L' : Loca} {st : List Value}
    (h : At p l e R s m args below meth c B nL H0 cells slots Q X pc L st) (hL : L.length = nL) (hl : ∀ i v, lget L i = some v → lget L' i = some v) : At p l e R s m args below meth c B nL H0 cells slots Q X pc L' st :=
  fun H locs ls hX hS ha => h H locs ls hX hS ⟨hL, ha.2.1, ha.2.2.1, fun i v hv => ha.2.2.2 i v (hl i v hv)⟩
end
section
section INV
variable {Hp : Type}
theorem un1_inv {st : List Value} {κ : Int32 → List Value → Res Hp} {z : Option Value × Hp} (e : un1 st κ = some z) : ∃ x r, st = .int x :: r ∧ κ x r = some z := by
  unfold un1 at e
  split at e
  · exact ⟨_, _, rfl, e⟩
  · cases e
theorem un2_inv {st : List Value} {κ : Int32 → Int32 → List Value → Res Hp} {z : Option Value × Hp} (e : un2 st κ = some z) : ∃ x y r, st = .int y :: .int x :: r ∧ κ x y r = some z := by
  unfold un2 at e
  split at e
  · exact ⟨_, _, _, rfl, e⟩
  · cases e
theorem ul1_inv {st : List Value} {κ : Int64 → List Value → Res Hp} {z : Option Value × Hp} (e : ul1 st κ = some z) : ∃ x r, st = .long x :: r ∧ κ x r = some z := by
  unfold ul1 at e
  split at e
  · exact ⟨_, _, rfl, e⟩
  · cases e
theorem ul2_inv {st : List Value} {κ : Int64 → Int64 → List Value → Res Hp} {z : Option Value × Hp} (e : ul2 st κ = some z) : ∃ x y r, st = .long y :: .long x :: r ∧ κ x y r = some z := by
  unfold ul2 at e
  split at e
  · exact ⟨_, _, _, rfl, e⟩
  · cases e
theorem ua1_inv {st : List Value} {κ : Nat → List Value → Res Hp} {z : Option Value × Hp} (e : ua1 st κ = some z) : ∃ x r, st = .ref x :: r ∧ κ x r = some z := by
  unfold ua1 at e
  split at e
  · exact ⟨_, _, rfl, e⟩
  · cases e
theorem ldI_inv {L : Loca} {i : Nat} {κ : Int32 → Res Hp} {z : Option Value × Hp} (e : ldI L i κ = some z) : ∃ x, lget L i = some (.int x) ∧ κ x = some z := by
  unfold ldI at e
  split at e
  · next h => exact ⟨_, h, e⟩
  · cases e
theorem ldL_inv {L : Loca} {i : Nat} {κ : Int64 → Res Hp} {z : Option Value × Hp} (e : ldL L i κ = some z) : ∃ x, lget L i = some (.long x) ∧ κ x = some z := by
  unfold ldL at e
  split at e
  · next h => exact ⟨_, h, e⟩
  · cases e
theorem ldA_inv {L : Loca} {i : Nat} {κ : Nat → Res Hp} {z : Option Value × Hp} (e : ldA L i κ = some z) : ∃ x, lget L i = some (.ref x) ∧ κ x = some z := by
  unfold ldA at e
  split at e
  · next h => exact ⟨_, h, e⟩
  · cases e
theorem on1_inv {L : Loca} {i : Nat} {v : Value} {κ : Loca → Res Hp} {z : Option Value × Hp} (e : on1 L i v κ = some z) : lfree L i = true ∧ i < L.length ∧ κ (lsto1 L i v) = some z := by
  unfold on1 at e
  split at e
  · next h =>
    rw [Bool.and_eq_true] at h
    exact ⟨h.1, Nat.le_of_ble_eq_true h.2, e⟩
  · cases e
theorem on2_inv {L : Loca} {i : Nat} {v : Value} {κ : Loca → Res Hp} {z : Option Value × Hp} (e : on2 L i v κ = some z) : lfree L i = true ∧ i + 1 < L.length ∧ κ (lsto2 L i v) = some z := by
  unfold on2 at e
  split at e
  · next h =>
    rw [Bool.and_eq_true] at h
    exact ⟨h.1, Nat.le_of_ble_eq_true h.2, e⟩
  · cases e
end INV
section PURE
variable {p : Program} {l : Launch} {e : Env} {R : Room} {s : State} {m : MethodId} {args : Array Value} {below : List Frame} {meth : Method} {c : Code} {B nL : Nat} {H0 : Heap} {cells slots : Nat} {Q : State → Prop} {X : Heap → Prop} {cc : ByteArray} {pc : Nat} {L : Loca} {st : List Value}
/-- a store of one slot -/
theorem sto1_go {ls : Array Slot} {i : Nat} {v : Value} (ha : al_has B ls nL L) (hf : lfree L i = true) (hi : i < L.length) (hc : v.category = 1) {g : JFrame} {Wg : JFrame → Prop} (hg : ∀ ls', al_has B ls' nL (lsto1 L i v) → Wg { g with locals := ls' }) :
    ∀ ls', lv_has ls' nL ((i, cv B v) :: (al_l B L).filter (fun q => !(q.1 == i) && !(q.1 + 1 == i && q.2.category == 2))) → Wg { g with locals := ls' } := fun ls' h => hg ls' (al_sto1 ha.1 hf h)
theorem p_iconst (hx : p.tables.exec = Jvm.exec) (hb : c.code = cc) {n : Int} {v : Int32} (hd : decode cc pc = .ok (.iconst n, 1)) (hv : Int32.ofInt n = v) (k : At p l e R s m args below meth c B nL H0 cells slots Q X (pc + 1) L (.int v :: st)) : At p l e R s m args below meth c B nL H0 cells slots Q X pc L st :=
  fun H locs ls hX hS ha => lv_iconst hx hb hd hv (k H locs ls hX hS ha)
theorem p_bipush (hx : p.tables.exec = Jvm.exec) (hb : c.code = cc) {n : Int} {v : Int32} (hd : decode cc pc = .ok (.bipush n, 2)) (hv : (Int8.ofInt n).toInt32 = v) (k : At p l e R s m args below meth c B nL H0 cells slots Q X (pc + 2) L (.int v :: st)) : At p l e R s m args below meth c B nL H0 cells slots Q X pc L st :=
  fun H locs ls hX hS ha => lv_bipush hx hb hd hv (k H locs ls hX hS ha)
theorem p_sipush (hx : p.tables.exec = Jvm.exec) (hb : c.code = cc) {n : Int} {v : Int32} (hd : decode cc pc = .ok (.sipush n, 3)) (hv : (Int16.ofInt n).toInt32 = v) (k : At p l e R s m args below meth c B nL H0 cells slots Q X (pc + 3) L (.int v :: st)) : At p l e R s m args below meth c B nL H0 cells slots Q X pc L st :=
  fun H locs ls hX hS ha => lv_sipush hx hb hd hv (k H locs ls hX hS ha)
theorem p_lconst (hx : p.tables.exec = Jvm.exec) (hb : c.code = cc) {n : Fin 2} {v : Int64} (hd : decode cc pc = .ok (.lconst n, 1)) (hv : Int64.ofNat (n : Nat) = v) (k : At p l e R s m args below meth c B nL H0 cells slots Q X (pc + 1) L (.long v :: st)) : At p l e R s m args below meth c B nL H0 cells slots Q X pc L st :=
  fun H locs ls hX hS ha => lv_lconst hx hb hd hv (k H locs ls hX hS ha)
theorem p_iload_n (hx : p.tables.exec = Jvm.exec) (hb : c.code = cc) {j : Fin 4} {x : Int32} (hd : decode cc pc = .ok (.iload_n j, 1)) (hl : lget L j.val = some (.int x)) (k : At p l e R s m args below meth c B nL H0 cells slots Q X (pc + 1) L (.int x :: st)) : At p l e R s m args below meth c B nL H0 cells slots Q X pc L st :=
  fun H locs ls hX hS ha => lv_iload_n hx hb hd rfl (ha.2.2.2 _ _ hl) (k H locs ls hX hS ha)
theorem p_iload (hx : p.tables.exec = Jvm.exec) (hb : c.code = cc) {j : Nat} {x : Int32} (hd : decode cc pc = .ok (.iload j, 2)) (hl : lget L j = some (.int x)) (k : At p l e R s m args below meth c B nL H0 cells slots Q X (pc + 2) L (.int x :: st)) : At p l e R s m args below meth c B nL H0 cells slots Q X pc L st :=
  fun H locs ls hX hS ha => lv_iload hx hb hd (ha.2.2.2 _ _ hl) (k H locs ls hX hS ha)
theorem p_lload_n (hx : p.tables.exec = Jvm.exec) (hb : c.code = cc) {j : Fin 4} {x : Int64} (hd : decode cc pc = .ok (.lload_n j, 1)) (hl : lget L j.val = some (.long x)) (k : At p l e R s m args below meth c B nL H0 cells slots Q X (pc + 1) L (.long x :: st)) : At p l e R s m args below meth c B nL H0 cells slots Q X pc L st :=
  fun H locs ls hX hS ha => lv_lload_n hx hb hd rfl (ha.2.2.2 _ _ hl) (k H locs ls hX hS ha)
theorem p_lload (hx : p.tables.exec = Jvm.exec) (hb : c.code = cc) {j : Nat} {x : Int64} (hd : decode cc pc = .ok (.lload j, 2)) (hl : lget L j = some (.long x)) (k : At p l e R s m args below meth c B nL H0 cells slots Q X (pc + 2) L (.long x :: st)) : At p l e R s m args below meth c B nL H0 cells slots Q X pc L st :=
  fun H locs ls hX hS ha => lv_lload hx hb hd (ha.2.2.2 _ _ hl) (k H locs ls hX hS ha)
theorem p_aload_n (hx : p.tables.exec = Jvm.exec) (hb : c.code = cc) {j : Fin 4} {x : Nat} (hd : decode cc pc = .ok (.aload_n j, 1)) (hl : lget L j.val = some (.ref x)) (k : At p l e R s m args below meth c B nL H0 cells slots Q X (pc + 1) L (.ref x :: st)) : At p l e R s m args below meth c B nL H0 cells slots Q X pc L st :=
  fun H locs ls hX hS ha => lv_aload_n hx hb hd rfl (ha.2.2.2 _ _ hl) (k H locs ls hX hS ha)
theorem p_aload (hx : p.tables.exec = Jvm.exec) (hb : c.code = cc) {j : Nat} {x : Nat} (hd : decode cc pc = .ok (.aload j, 2)) (hl : lget L j = some (.ref x)) (k : At p l e R s m args below meth c B nL H0 cells slots Q X (pc + 2) L (.ref x :: st)) : At p l e R s m args below meth c B nL H0 cells slots Q X pc L st :=
  fun H locs ls hX hS ha => lv_aload hx hb hd (ha.2.2.2 _ _ hl) (k H locs ls hX hS ha)
theorem p_istore_n (hx : p.tables.exec = Jvm.exec) (hb : c.code = cc) {j : Fin 4} {x : Int32} (hd : decode cc pc = .ok (.istore_n j, 1)) (hf : lfree L j.val = true) (hi : j.val < L.length) (k : At p l e R s m args below meth c B nL H0 cells slots Q X (pc + 1) (lsto1 L j.val (.int x)) st) : At p l e R s m args below meth c B nL H0 cells slots Q X pc L (.int x :: st) :=
  fun H locs ls hX hS ha => lv_istore_n hx hb hd rfl (al_lv ha) (ha.1 ▸ hi) rfl fun ls' h => k H locs ls' hX hS (al_sto1 (v := .int x) ha.1 hf h)
theorem p_istore (hx : p.tables.exec = Jvm.exec) (hb : c.code = cc) {j : Nat} {x : Int32} (hd : decode cc pc = .ok (.istore j, 2)) (hf : lfree L j = true) (hi : j < L.length) (k : At p l e R s m args below meth c B nL H0 cells slots Q X (pc + 2) (lsto1 L j (.int x)) st) : At p l e R s m args below meth c B nL H0 cells slots Q X pc L (.int x :: st) :=
  fun H locs ls hX hS ha => lv_istore hx hb hd (al_lv ha) (ha.1 ▸ hi) rfl fun ls' h => k H locs ls' hX hS (al_sto1 (v := .int x) ha.1 hf h)
theorem p_lstore_n (hx : p.tables.exec = Jvm.exec) (hb : c.code = cc) {j : Fin 4} {x : Int64} (hd : decode cc pc = .ok (.lstore_n j, 1)) (hf : lfree L j.val = true) (hi : j.val + 1 < L.length) (k : At p l e R s m args below meth c B nL H0 cells slots Q X (pc + 1) (lsto2 L j.val (.long x)) st) : At p l e R s m args below meth c B nL H0 cells slots Q X pc L (.long x :: st) :=
  fun H locs ls hX hS ha => lv_lstore_n hx hb hd rfl (al_lv ha) (ha.1 ▸ hi) rfl fun ls' h => k H locs ls' hX hS (al_sto2 (v := .long x) ha.1 hf h)
theorem p_lstore (hx : p.tables.exec = Jvm.exec) (hb : c.code = cc) {j : Nat} {x : Int64} (hd : decode cc pc = .ok (.lstore j, 2)) (hf : lfree L j = true) (hi : j + 1 < L.length) (k : At p l e R s m args below meth c B nL H0 cells slots Q X (pc + 2) (lsto2 L j (.long x)) st) : At p l e R s m args below meth c B nL H0 cells slots Q X pc L (.long x :: st) :=
  fun H locs ls hX hS ha => lv_lstore hx hb hd (al_lv ha) (ha.1 ▸ hi) rfl fun ls' h => k H locs ls' hX hS (al_sto2 (v := .long x) ha.1 hf h)
theorem p_astore_n (hx : p.tables.exec = Jvm.exec) (hb : c.code = cc) {j : Fin 4} {x : Nat} (hd : decode cc pc = .ok (.astore_n j, 1)) (hf : lfree L j.val = true) (hi : j.val < L.length) (k : At p l e R s m args below meth c B nL H0 cells slots Q X (pc + 1) (lsto1 L j.val (.ref x)) st) : At p l e R s m args below meth c B nL H0 cells slots Q X pc L (.ref x :: st) :=
  fun H locs ls hX hS ha => lv_astore_n hx hb hd rfl (al_lv ha) (ha.1 ▸ hi) rfl fun ls' h => k H locs ls' hX hS (al_sto1 (v := .ref x) ha.1 hf h)
theorem p_astore (hx : p.tables.exec = Jvm.exec) (hb : c.code = cc) {j : Nat} {x : Nat} (hd : decode cc pc = .ok (.astore j, 2)) (hf : lfree L j = true) (hi : j < L.length) (k : At p l e R s m args below meth c B nL H0 cells slots Q X (pc + 2) (lsto1 L j (.ref x)) st) : At p l e R s m args below meth c B nL H0 cells slots Q X pc L (.ref x :: st) :=
  fun H locs ls hX hS ha => lv_astore hx hb hd (al_lv ha) (ha.1 ▸ hi) rfl fun ls' h => k H locs ls' hX hS (al_sto1 (v := .ref x) ha.1 hf h)
theorem p_iinc (hx : p.tables.exec = Jvm.exec) (hb : c.code = cc) {j : Nat} {n : Int} {x v : Int32} (hd : decode cc pc = .ok (.iinc j n, 3)) (hl : lget L j = some (.int x)) (hv : Int32.ofInt n = v) (hf : lfree L j = true) (hi : j < L.length) (k : At p l e R s m args below meth c B nL H0 cells slots Q X (pc + 3) (lsto1 L j (.int (x + v))) st) : At p l e R s m args below meth c B nL H0 cells slots Q X pc L st := by
  intro H locs ls hX hS ha
  obtain ⟨q, hq⟩ := List.getElem?_of_mem (al_mem.mpr ⟨_, hl, rfl⟩ : (j, cv B (.int x)) ∈ al_l B L)
  exact lv_iinc (v := x + v) hx hb hd (al_lv ha) hq (by rw [hv]) (ha.1 ▸ hi) rfl fun ls' h => k H locs ls' hX hS (al_sto1 (v := .int (x + v)) ha.1 hf h)
end PURE
end
section
/-! the world: the cells as the machine has them -/
def conA (B : Nat) : vp_A → vp_A
  | (n, .inr (.inr (.inr (.inr f)))) => (n, .inr (.inr (.inr (.inr (fun i => (f i).map fun a => B + a)))))
  | (n, .inl f) => (n, .inl f)
  | (n, .inr (.inl f)) => (n, .inr (.inl f))
  | (n, .inr (.inr (.inl f))) => (n, .inr (.inr (.inl f)))
  | (n, .inr (.inr (.inr (.inl f)))) => (n, .inr (.inr (.inr (.inl f))))
def conc (B : Nat) (cA : ClassId) : GC → va_E
  | .inl (_, x) => .inl (cA, conA B x)
  | .inr (ci, fs) => .inr (ci, fs.map (cv B))
def toW (B : Nat) (kc : Nat → ClassId) (G : List GC) : va_W := G.mapIdx fun k c => (B + k, conc B (kc k) c)
theorem toW_get {B : Nat} {kc : Nat → ClassId} {G : List GC} {k : Nat} {c : GC} (h : G[k]? = some c) : (toW B kc G)[k]? = some (B + k, conc B (kc k) c) := by
  unfold toW
  rw [List.getElem?_mapIdx, h]
  rfl
theorem toW_inv {B : Nat} {kc : Nat → ClassId} {G : List GC} {k : Nat} {q : Nat × va_E} (h : (toW B kc G)[k]? = some q) : ∃ c, G[k]? = some c ∧ q = (B + k, conc B (kc k) c) := by
  unfold toW at h
  rw [List.getElem?_mapIdx] at h
  cases hg : G[k]? with
  | none => rw [hg] at h; cases h
  | some c =>
    rw [hg] at h
    exact ⟨c, rfl, (Option.some.inj h).symm⟩
theorem toW_set {B : Nat} {kc : Nat → ClassId} {G : List GC} {k : Nat} {c : GC} : (toW B kc G).set k (B + k, conc B (kc k) c) = toW B kc (G.set k c) := by
  apply List.ext_getElem?
  intro i
  unfold toW
  rw [List.getElem?_mapIdx, List.getElem?_set, List.getElem?_set]
  by_cases e : k = i
  · subst e
    simp only [if_true, List.length_mapIdx]
    by_cases hl : k < G.length
    · simp [hl]
    · simp [hl]
  · simp [e, List.getElem?_mapIdx]
theorem toW_D (B : Nat) (kc : Nat → ClassId) (G : List GC) : va_D (fun q => B ≤ q) (toW B kc G) := by
  refine ⟨fun i j x y hi hj hxy => ?_, fun k q hk => ?_⟩
  · obtain ⟨c, -, rfl⟩ := toW_inv hi
    obtain ⟨d, -, rfl⟩ := toW_inv hj
    have h : B + i = B + j := hxy
    omega
  · obtain ⟨c, -, rfl⟩ := toW_inv hk
    exact Nat.le_add_right _ _
/-- the heap holds the cells G from B on; array classes are of their types -/
def Wd (D : va_G) (s : State) (B : Nat) (G : List GC) (H : Heap) : Prop := ∃ kc : Nat → ClassId, va_P D vwCl (toW B kc G) H ∧ ∀ (k : Nat) (ty : FieldType) (x : vp_A), G[k]? = some (.inl (ty, x)) → ArrOfT s (kc k) ty ∧ va_RA s (kc k) ty
theorem Wd_K {D : va_G} {s : State} (hK : va_K D vwCl [] s) {cA : ClassId} {ty : FieldType} (h : ArrOfT s cA ty ∧ va_RA s cA ty) : va_K D vwCl [(cA, ty)] s := by
  refine ⟨hK.1, fun k q hk => ?_⟩
  have h0 : k < 1 := (List.getElem?_eq_some_iff.mp hk).1
  rw [show k = 0 by omega] at hk
  cases hk
  exact h
theorem Wd_setT {s : State} {kc : Nat → ClassId} {G : List GC} {a : Nat} {c0 c1 : GC} (h : ∀ (k : Nat) (ty : FieldType) (x : vp_A), G[k]? = some (.inl (ty, x)) → ArrOfT s (kc k) ty ∧ va_RA s (kc k) ty) (h0 : G[a]? = some c0) (ht : ∀ ty x, c1 = .inl (ty, x) → ∃ x0, c0 = .inl (ty, x0)) : ∀ (k : Nat) (ty : FieldType) (x : vp_A), (G.set a c1)[k]? = some (.inl (ty, x)) → ArrOfT s (kc k) ty ∧ va_RA s (kc k) ty := by
  intro k ty x hk
  have hl := (List.getElem?_eq_some_iff.mp h0).1
  by_cases e : a = k
  · subst e
    rw [List.getElem?_set_self hl] at hk
    obtain ⟨x0, hx0⟩ := ht ty x (Option.some.inj hk)
    rw [hx0] at h0
    exact h a ty x0 h0
  · rw [List.getElem?_set_ne e] at hk
    exact h k ty x hk
/-- what the classes' tables say -/
theorem cl_ok : ∀ (ci : Nat) (q : vw_C), vwCl[ci]? = some q → (∀ w ∈ u_ws q.1 q.2.1 q.2.2, w ∈ lw_tbl) ∧ ∃ ty0 : Nat → FieldType, (∀ k, k < q.2.2 → parseFieldDescriptor (q.2.1 k).2.2.1 = some (ty0 k)) ∧ ∀ a, a < q.2.2 → ∀ b, b < q.2.2 → a ≠ b → (q.2.1 a).2.1 ≠ (q.2.1 b).2.1 := by
  intro ci q h
  match ci, h with
  | 0, h => cases h; exact ⟨i_X0, tyX0, tyX0_ok, nmX0⟩
  | 1, h => cases h; exact ⟨i_X1, tyX1, tyX1_ok, nmX1⟩
  | 2, h => cases h; exact ⟨i_X2, tyX2, tyX2_ok, nmX2⟩
  | 3, h => cases h; exact ⟨i_X3, tyX3, tyX3_ok, nmX3⟩
  | 4, h => cases h; exact ⟨i_X4, tyX4, tyX4_ok, nmX4⟩
  | 5, h => cases h; exact ⟨i_X5, tyX5, tyX5_ok, nmX5⟩
  | 6, h => cases h; exact ⟨i_X6, tyX6, tyX6_ok, nmX6⟩
  | 7, h => cases h; exact ⟨i_X7, tyX7, tyX7_ok, nmX7⟩
  | n + 8, h => simp [vwCl] at h
section HEAP
variable {p : Program} {l : Launch} {e : Env} {R : Room} {s : State} {m : MethodId} {args : Array Value} {below : List Frame} {meth : Method} {c : Code} {B nL : Nat} {H0 : Heap} {cells slots : Nat} {Q : State → Prop} {cc : ByteArray} {pc : Nat} {L : Loca} {st : List Value} {D : va_G} {G : List GC}
theorem p_getf (hx : p.tables.exec = Jvm.exec) (hb : c.code = cc) (hts : ∀ w ∈ lw_tbl, w.before args s = true) {own idx : Nat} (hown : s.vm.findClass (ownN own) = some m.cls) (hK : va_K D vwCl [] s) {a ci f : Nat} {fs : List Value} {v : Value} (hF : FldOK (own, idx, ci, f)) (hG : G[a]? = some (.inr (ci, fs))) (hv : fs[f]? = some v) (hd : decode cc pc = .ok (.getfield idx, 3))
    (k : At p l e R s m args below meth c B nL H0 cells slots Q (Wd D s B G) (pc + 3) L (v :: st)) : At p l e R s m args below meth c B nL H0 cells slots Q (Wd D s B G) pc L (.ref a :: st) := by
  intro H locs ls hX hS ha
  obtain ⟨kc, hP, hT⟩ := hX
  obtain ⟨C, T, N, h1, h2, h3⟩ := hF
  obtain ⟨h4, -⟩ := cl_ok _ _ h1
  exact va_get hx hb hts h4 hown hK hP a (toW_get hG) h1 f h2 (hts _ h3) (fun _ h9 => h9) (show (fs.map (cv B))[f]? = some (cv B v) by rw [List.getElem?_map, hv]; rfl) hd (k H locs ls ⟨kc, hP, hT⟩ hS ha)
theorem p_putf (hx : p.tables.exec = Jvm.exec) (hb : c.code = cc) (hts : ∀ w ∈ lw_tbl, w.before args s = true) {own idx : Nat} (hown : s.vm.findClass (ownN own) = some m.cls) (hK : va_K D vwCl [] s) {a ci f : Nat} {fs : List Value} {v : Value} (hF : FldOK (own, idx, ci, f)) (hnf : ∀ C T N, vwCl[ci]? = some (C, T, N) → (T f).2.2.2 = false ∧ ∃ ty, parseFieldDescriptor (T f).2.2.1 = some ty ∧ narrow ty v = v ∧ fits ty v = true) (hcv : cv B v = v) (hG : G[a]? = some (.inr (ci, fs))) (hl : f < fs.length) (hd : decode cc pc = .ok (.putfield idx, 3))
    (k : At p l e R s m args below meth c B nL H0 cells slots Q (Wd D s B (G.set a (.inr (ci, fs.set f v)))) (pc + 3) L st) : At p l e R s m args below meth c B nL H0 cells slots Q (Wd D s B G) pc L (v :: .ref a :: st) := by
  intro H locs ls hX hS ha
  obtain ⟨kc, hP, hT⟩ := hX
  obtain ⟨C, T, N, h1, h2, h3⟩ := hF
  obtain ⟨h4, ty0, h5, h6⟩ := cl_ok _ _ h1
  obtain ⟨h7, ty, h8, h9, h10⟩ := hnf _ _ _ h1
  refine va_put hx hb hts h4 ty0 h5 h6 hown hK hP (toW_D B kc G) hS a (toW_get hG) h1 f h2 (hts _ h3) (fun _ h9 => h9) h7 h8 (by rw [hcv]; exact h9) (by rw [hcv]; exact h10) (by rw [List.length_map]; exact hl) hd fun H1 locs1 hP1 _ hS1 => ?_
  refine k H1 locs1 ls ⟨kc, ?_, Wd_setT hT hG (fun ty x h => by cases h)⟩ hS1 ha
  have e1 : ((fs.map (cv B)).set f (cv B v)) = (fs.set f v).map (cv B) := by rw [List.map_set]
  rw [e1] at hP1
  rw [← toW_set]
  exact hP1
theorem p_iald (hx : p.tables.exec = Jvm.exec) (hb : c.code = cc) (hK : va_K D vwCl [] s) {a n : Nat} {f : Nat → Int32} {i : Int32} (hG : G[a]? = some (.inl (.int, n, .inl f))) (hi : vp_in i n) (hd : decode cc pc = .ok (.iaload, 1))
    (k : At p l e R s m args below meth c B nL H0 cells slots Q (Wd D s B G) (pc + 1) L (.int (f i.toNatClampNeg) :: st)) : At p l e R s m args below meth c B nL H0 cells slots Q (Wd D s B G) pc L (.int i :: .ref a :: st) := by
  intro H locs ls hX hS ha
  obtain ⟨kc, hP, hT⟩ := hX
  exact va_iald hx hb (Wd_K hK (hT a _ _ hG)) hP a 0 (toW_get hG) rfl hi hd (k H locs ls ⟨kc, hP, hT⟩ hS ha)
theorem p_zald (hx : p.tables.exec = Jvm.exec) (hb : c.code = cc) (hK : va_K D vwCl [] s) {a n : Nat} {f : Nat → Int32} {i : Int32} (hG : G[a]? = some (.inl (.boolean, n, .inl f))) (hi : vp_in i n) (hd : decode cc pc = .ok (.baload, 1))
    (k : At p l e R s m args below meth c B nL H0 cells slots Q (Wd D s B G) (pc + 1) L (.int (f i.toNatClampNeg) :: st)) : At p l e R s m args below meth c B nL H0 cells slots Q (Wd D s B G) pc L (.int i :: .ref a :: st) := by
  intro H locs ls hX hS ha
  obtain ⟨kc, hP, hT⟩ := hX
  exact va_zald hx hb (Wd_K hK (hT a _ _ hG)) hP a 0 (toW_get hG) rfl hi hd (k H locs ls ⟨kc, hP, hT⟩ hS ha)
theorem p_aald (hx : p.tables.exec = Jvm.exec) (hb : c.code = cc) {a n b : Nat} {ty : FieldType} {f : Nat → Option Nat} {i : Int32} (hty : ty.isReference = true) (hG : G[a]? = some (.inl (ty, n, .inr (.inr (.inr (.inr f)))))) (hi : vp_in i n) (hf : f i.toNatClampNeg = some b) (hd : decode cc pc = .ok (.aaload, 1))
    (k : At p l e R s m args below meth c B nL H0 cells slots Q (Wd D s B G) (pc + 1) L (.ref b :: st)) : At p l e R s m args below meth c B nL H0 cells slots Q (Wd D s B G) pc L (.int i :: .ref a :: st) := by
  intro H locs ls hX hS ha
  obtain ⟨kc, hP, hT⟩ := hX
  have hlt : i.toNatClampNeg < n := Nat.not_le.mp fun q => hi (Or.inr q)
  have hP1 : H[B + a]? = some (vp_cell (kc a) (n, .inr (.inr (.inr (.inr (fun i => (f i).map fun a => B + a)))))) := hP a _ (toW_get hG)
  refine W.aald (v := .ref (B + b)) (ty := ty) hx hb hP1 ((hT a _ _ hG).1 n (fun j => va_rf ((f j).map fun a => B + a))) hty (fun q => by cases q) (by show ¬ (i < 0 ∨ (arrV _ _ _).slots.size ≤ _); rw [arrV_size]; exact hi) (by show (arrV _ _ _).slots[_]? = _; rw [arrV_read _ _ hlt]; show some (va_rf ((f i.toNatClampNeg).map fun a => B + a)) = _; rw [hf]; rfl) rfl rfl hd (k H locs ls ⟨kc, hP, hT⟩ hS ha)
theorem p_alen (hx : p.tables.exec = Jvm.exec) (hb : c.code = cc) (hK : va_K D vwCl [] s) {a : Nat} {ty : FieldType} {x : vp_A} (hG : G[a]? = some (.inl (ty, x))) (hd : decode cc pc = .ok (.arraylength, 1))
    (k : At p l e R s m args below meth c B nL H0 cells slots Q (Wd D s B G) (pc + 1) L (.int (Int32.ofNat x.1) :: st)) : At p l e R s m args below meth c B nL H0 cells slots Q (Wd D s B G) pc L (.ref a :: st) := by
  intro H locs ls hX hS ha
  obtain ⟨kc, hP, hT⟩ := hX
  have e1 : (conA B x).1 = x.1 := by
    obtain ⟨n, f | f | f | f | f⟩ := x <;> rfl
  exact va_alen hx hb (Wd_K hK (hT a _ _ hG)) hP a 0 (toW_get hG) rfl (v := Int32.ofNat x.1) (by rw [e1]) hd (k H locs ls ⟨kc, hP, hT⟩ hS ha)
theorem p_iast (hx : p.tables.exec = Jvm.exec) (hb : c.code = cc) (hK : va_K D vwCl [] s) {a n : Nat} {f : Nat → Int32} {i x : Int32} (hG : G[a]? = some (.inl (.int, n, .inl f))) (hi : vp_in i n) (hd : decode cc pc = .ok (.iastore, 1))
    (k : At p l e R s m args below meth c B nL H0 cells slots Q (Wd D s B (G.set a (.inl (.int, n, .inl (upd f i.toNatClampNeg x))))) (pc + 1) L st) : At p l e R s m args below meth c B nL H0 cells slots Q (Wd D s B G) pc L (.int x :: .int i :: .ref a :: st) := by
  intro H locs ls hX hS ha
  obtain ⟨kc, hP, hT⟩ := hX
  refine va_iast hx hb (Wd_K hK (hT a _ _ hG)) hP (toW_D B kc G) hS a 0 (toW_get hG) rfl hi hd fun H1 locs1 hP1 _ hS1 => ?_
  refine k H1 locs1 ls ⟨kc, ?_, Wd_setT hT hG (fun ty x h => by cases h; exact ⟨_, rfl⟩)⟩ hS1 ha
  rw [← toW_set]
  exact hP1
theorem p_zast (hx : p.tables.exec = Jvm.exec) (hb : c.code = cc) (hK : va_K D vwCl [] s) {a n : Nat} {f : Nat → Int32} {i x : Int32} (hG : G[a]? = some (.inl (.boolean, n, .inl f))) (hi : vp_in i n) (hd : decode cc pc = .ok (.bastore, 1))
    (k : At p l e R s m args below meth c B nL H0 cells slots Q (Wd D s B (G.set a (.inl (.boolean, n, .inl (upd f i.toNatClampNeg (vp_nar .boolean x)))))) (pc + 1) L st) : At p l e R s m args below meth c B nL H0 cells slots Q (Wd D s B G) pc L (.int x :: .int i :: .ref a :: st) := by
  intro H locs ls hX hS ha
  obtain ⟨kc, hP, hT⟩ := hX
  refine va_zast hx hb (Wd_K hK (hT a _ _ hG)) hP (toW_D B kc G) hS a 0 (toW_get hG) rfl hi hd fun H1 locs1 hP1 _ hS1 => ?_
  refine k H1 locs1 ls ⟨kc, ?_, Wd_setT hT hG (fun ty x h => by cases h; exact ⟨_, rfl⟩)⟩ hS1 ha
  rw [← toW_set]
  exact hP1
end HEAP
end
section
/-- what the heap's operations must give -/
def OpsOK {Hp : Type} (O : Ops Hp) (toG : Hp → List GC) : Prop :=
  (∀ h a ci k κ z, oGI O h a ci k κ = some z → ∃ v fs, (toG h)[a]? = some (.inr (ci, fs)) ∧ fs[k]? = some (.int v) ∧ κ v = some z) ∧
  (∀ h a ci k κ z, oGR O h a ci k κ = some z → ∃ v fs, (toG h)[a]? = some (.inr (ci, fs)) ∧ fs[k]? = some (.ref v) ∧ κ v = some z) ∧
  (∀ h a ci k κ z, oGL O h a ci k κ = some z → ∃ v fs, (toG h)[a]? = some (.inr (ci, fs)) ∧ fs[k]? = some (.long v) ∧ κ v = some z) ∧
  (∀ h a ci k v κ z, oPI O h a ci k v κ = some z → ∃ fs h', (toG h)[a]? = some (.inr (ci, fs)) ∧ k < fs.length ∧ toG h' = (toG h).set a (.inr (ci, fs.set k (.int v))) ∧ κ h' = some z) ∧
  (∀ h a ci k v κ z, oPL O h a ci k v κ = some z → ∃ fs h', (toG h)[a]? = some (.inr (ci, fs)) ∧ k < fs.length ∧ toG h' = (toG h).set a (.inr (ci, fs.set k (.long v))) ∧ κ h' = some z) ∧
  (∀ h a κ z, oLN O h a κ = some z → ∃ ty x, (toG h)[a]? = some (.inl (ty, x)) ∧ κ x.1 = some z) ∧
  (∀ h a i κ z, oAI O h a i κ = some z → ∃ n f, (toG h)[a]? = some (.inl (.int, n, .inl f)) ∧ vp_in i n ∧ κ (f i.toNatClampNeg) = some z) ∧
  (∀ h a i κ z, oAZ O h a i κ = some z → ∃ n f, (toG h)[a]? = some (.inl (.boolean, n, .inl f)) ∧ vp_in i n ∧ κ (f i.toNatClampNeg) = some z) ∧
  (∀ h a i κ z, oAR O h a i κ = some z → ∃ ty n f b, ty.isReference = true ∧ (toG h)[a]? = some (.inl (ty, n, .inr (.inr (.inr (.inr f))))) ∧ vp_in i n ∧ f i.toNatClampNeg = some b ∧ κ b = some z) ∧
  (∀ h a i v κ z, oSI O h a i v κ = some z → ∃ n f h', (toG h)[a]? = some (.inl (.int, n, .inl f)) ∧ vp_in i n ∧ toG h' = (toG h).set a (.inl (.int, n, .inl (upd f i.toNatClampNeg v))) ∧ κ h' = some z) ∧
  (∀ h a i v κ z, oSZ O h a i v κ = some z → ∃ n f h', (toG h)[a]? = some (.inl (.boolean, n, .inl f)) ∧ vp_in i n ∧ toG h' = (toG h).set a (.inl (.boolean, n, .inl (upd f i.toNatClampNeg (vp_nar .boolean v)))) ∧ κ h' = some z) ∧
  (∀ h a i b j n κ z, oCP O h a i b j n κ = some z → ∃ n0 n1 f g h', (toG h)[a]? = some (.inl (.int, n0, .inl f)) ∧ (toG h)[b]? = some (.inl (.int, n1, .inl g)) ∧ ¬ i < 0 ∧ ¬ j < 0 ∧ ¬ n < 0 ∧ i.toNatClampNeg + n.toNatClampNeg ≤ n0 ∧ j.toNatClampNeg + n.toNatClampNeg ≤ n1 ∧ toG h' = (toG h).set b (.inl (.int, n1, .inl (va_cpy f g i.toNatClampNeg j.toNatClampNeg n.toNatClampNeg))) ∧ κ h' = some z) ∧
  (∀ h a ci k v κ, oPR O h a ci k v κ = none) ∧ (∀ h a i v κ, oSR O h a i v κ = none)
/-- pairs of a switch, in the order of the table from lo on -/
def swTab (pc : Nat) : Nat → List Int → List Nat → Bool
  | _, [], [] => true
  | k, o :: os, k' :: t :: r => Nat.beq k k' && decide ((pc : Int) + o = (t : Int)) && swTab pc (k + 1) os r
  | _, _, _ => false
def swLook (pc : Nat) : List (Int × Int) → List Nat → Bool
  | [], [] => true
  | (a, o) :: os, k' :: t :: r => decide (a = (k' : Int)) && decide (k' < 2 ^ 31) && decide ((pc : Int) + o = (t : Int)) && swLook pc os r
  | _, _ => false
def chkP (ci f kd : Nat) : Bool := match vwCl[ci]? with
  | some q => !(q.2.1 f).2.2.2 && ((Nat.beq kd 0 && decide (parseFieldDescriptor (q.2.1 f).2.2.1 = some .int)) || (Nat.beq kd 2 && decide (parseFieldDescriptor (q.2.1 f).2.2.1 = some .long)))
  | none => false
/-- an entry is as the bytes and the tables have it -/
def chkL (own pc : Nat) (i : Instr) (len : Nat) (aux : List Nat) (val : Value) : Bool := match i with
  | .iconst n => decide (val = .int (Int32.ofInt n)) && Nat.beq len 1
  | .bipush n => decide (val = .int (Int8.ofInt n).toInt32) && Nat.beq len 2
  | .sipush n => decide (val = .int (Int16.ofInt n).toInt32) && Nat.beq len 3
  | .lconst n => decide (val = .long (Int64.ofNat n.val)) && Nat.beq len 1
  | .ldc j => Nat.beq len 2 && (match val with | .int v => decide ((own, j, v) ∈ cstL) | _ => false)
  | .ldc_w j => Nat.beq len 3 && (match val with | .int v => decide ((own, j, v) ∈ cstL) | _ => false)
  | .ldc2_w j => Nat.beq len 3 && (match val with | .long v => decide ((own, j, v) ∈ cstJ) | _ => false)
  | .iinc _ n => decide (val = .int (Int32.ofInt n)) && Nat.beq len 3
  | .iload _ => Nat.beq len 2
  | .lload _ => Nat.beq len 2
  | .aload _ => Nat.beq len 2
  | .istore _ => Nat.beq len 2
  | .lstore _ => Nat.beq len 2
  | .astore _ => Nat.beq len 2
  | .goto o => Nat.beq len 3 && (match aux with | [t] => decide ((pc : Int) + o = (t : Int)) | _ => false)
  | .ifCond _ o => Nat.beq len 3 && (match aux with | [t] => decide ((pc : Int) + o = (t : Int)) | _ => false)
  | .if_icmp _ o => Nat.beq len 3 && (match aux with | [t] => decide ((pc : Int) + o = (t : Int)) | _ => false)
  | .tableswitch d lo hi os => match aux with
    | t :: ps => decide ((pc : Int) + d = (t : Int)) && swTab pc lo.toNat os.toList ps && decide (0 ≤ lo) && decide (hi = lo + os.size - 1) && decide (hi < 1000)
    | [] => false
  | .lookupswitch d os => match aux with
    | t :: ps => decide ((pc : Int) + d = (t : Int)) && swLook pc os.toList ps && (os.toList.zip (os.toList.drop 1)).all (fun (a, next) => a.1 < next.1)
    | [] => false
  | .getfield j => Nat.beq len 3 && (match aux with | [ci, f, _] => decide ((own, j, ci, f) ∈ fldL) | _ => false)
  | .putfield j => Nat.beq len 3 && (match aux with
    | [ci, f, kd] => decide ((own, j, ci, f) ∈ fldL) && chkP ci f kd
    | _ => false)
  | .invokevirtual _ => Nat.beq len 3
  | .invokestatic _ => Nat.beq len 3
  | _ => Nat.beq len 1
theorem swTab_ok {Hp : Type} {pc : Nat} {z : Option Value × Hp} {x : Int32} {d : Nat} {κ : Nat → Res Hp} : ∀ (os : List Int) (k : Nat) (ps : List Nat), swTab pc k os ps = true → k + os.length ≤ 1000 → swc x ps d κ = some z → (∃ (j : Nat) (o : Int) (t : Nat), os[j]? = some o ∧ (pc : Int) + o = (t : Int) ∧ x.toInt = ((k + j : Nat) : Int) ∧ κ t = some z) ∨ ((x.toInt < (k : Int) ∨ ((k + os.length : Nat) : Int) ≤ x.toInt) ∧ κ d = some z)
  | [], k, [], _, _, e => Or.inr ⟨by simp only [List.length_nil]; omega, e⟩
  | [], k, _ :: _, h, _, _ => by simp [swTab] at h
  | o :: os, k, [], h, _, _ => by simp [swTab] at h
  | o :: os, k, [_], h, _, _ => by simp [swTab] at h
  | o :: os, k, k' :: t :: r, h, hk, e => by
    simp only [swTab, Bool.and_eq_true, decide_eq_true_eq] at h
    obtain ⟨⟨h1, h2⟩, h3⟩ := h
    have hkk : k = k' := Nat.eq_of_beq_eq_true h1
    subst hkk
    simp only [List.length_cons] at hk
    have hki : (Int32.ofNat k).toInt = (k : Int) := nI_toInt (n := k) (by omega)
    unfold swc at e
    split at e
    · next hxk =>
      exact Or.inl ⟨0, o, t, rfl, h2, by rw [hxk, hki]; rfl, e⟩
    · next hxk =>
      have hne : x.toInt ≠ (k : Int) := fun q => hxk (Int32.toInt_inj.mp (by rw [q, hki]))
      rcases swTab_ok os (k + 1) r h3 (by omega) e with ⟨j, o', t', a1, a2, a3, a4⟩ | ⟨a1, a2⟩
      · exact Or.inl ⟨j + 1, o', t', by simpa using a1, a2, by rw [a3]; omega, a4⟩
      · right
        refine ⟨?_, a2⟩
        simp only [List.length_cons]
        omega
theorem swLook_ok {Hp : Type} {pc : Nat} {z : Option Value × Hp} {x : Int32} {d : Nat} {dd : Int} (hdd : (pc : Int) + dd = (d : Int)) {κ : Nat → Res Hp} : ∀ (os : List (Int × Int)) (ps : List Nat), swLook pc os ps = true → swc x ps d κ = some z → ∃ t : Nat, (pc : Int) + Op.lookupswitch.offset os dd x.toInt = (t : Int) ∧ κ t = some z
  | [], [], _, e => ⟨d, by simpa [Op.lookupswitch.offset] using hdd, e⟩
  | [], _ :: _, h, _ => by simp [swLook] at h
  | _ :: os, [], h, _ => by simp [swLook] at h
  | _ :: os, [_], h, _ => by simp [swLook] at h
  | (a, o) :: os, k' :: t :: r, h, e => by
    simp only [swLook, Bool.and_eq_true, decide_eq_true_eq] at h
    obtain ⟨⟨⟨h0, h1⟩, h2⟩, h3⟩ := h
    have hki : (Int32.ofNat k').toInt = (k' : Int) := nI_toInt (n := k') h1
    unfold swc at e
    split at e
    · next hxk =>
      refine ⟨t, ?_, e⟩
      rw [Op.lookupswitch.offset_cons, if_pos (by rw [hxk, hki, h0])]
      exact h2
    · next hxk =>
      obtain ⟨t', a1, a2⟩ := swLook_ok hdd os r h3 e
      refine ⟨t', ?_, a2⟩
      rw [lv_osw hxk (by rw [hki, h0])]
      exact a1
end
section
section STEPS
variable {p : Program} {l : Launch} {e : Env} {R : Room} {s : State} {m : MethodId} {args : Array Value} {below : List Frame} {meth : Method} {c : Code} {B nL : Nat} {H0 : Heap} {cells slots : Nat} {Q : State → Prop} {cc : ByteArray} {pc : Nat} {L : Loca} {st : List Value} {D : va_G} {Hp : Type} {O : Ops Hp} {toG : Hp → List GC} {rk own : Nat} {z : Option Value × Hp}
/-- the returns: with z the machine comes to Q -/
def RetOK (p : Program) (l : Launch) (e : Env) (R : Room) (s : State) (m : MethodId) (args : Array Value) (below : List Frame) (meth : Method) (c : Code) (B nL : Nat) (H0 : Heap) (cells slots : Nat) (Q : State → Prop) (cc : ByteArray) (D : va_G) {Hp : Type} (toG : Hp → List GC) (rk : Nat) (z : Option Value × Hp) : Prop :=
  (∀ (v : Int32) (h : Hp) (pc : Nat) (L : Loca), rk = 1 → z = (some (.int v), h) → decode cc pc = .ok (.ireturn, 1) → At p l e R s m args below meth c B nL H0 cells slots Q (Wd D s B (toG h)) pc L [.int v]) ∧
  (∀ (v : Int32) (h : Hp) (pc : Nat) (L : Loca), rk = 2 → (v = 0 ∨ v = 1) → z = (some (.int v), h) → decode cc pc = .ok (.ireturn, 1) → At p l e R s m args below meth c B nL H0 cells slots Q (Wd D s B (toG h)) pc L [.int v]) ∧
  (∀ (v : Int64) (h : Hp) (pc : Nat) (L : Loca), rk = 3 → z = (some (.long v), h) → decode cc pc = .ok (.lreturn, 1) → At p l e R s m args below meth c B nL H0 cells slots Q (Wd D s B (toG h)) pc L [.long v]) ∧
  (∀ (h : Hp) (pc : Nat) (L : Loca), rk = 0 → z = (none, h) → decode cc pc = .ok (.return_, 1) → At p l e R s m args below meth c B nL H0 cells slots Q (Wd D s B (toG h)) pc L [])
set_option maxHeartbeats 4000000 in
set_option maxRecDepth 100000 in
theorem step_sound (hO : OpsOK O toG) (hx : p.tables.exec = Jvm.exec) (hb : c.code = cc) (hts : ∀ w ∈ lw_tbl, w.before args s = true) (hown : s.vm.findClass (ownN own) = some m.cls) (hK : va_K D vwCl [] s) {i : Instr} {len : Nat} {aux : List Nat} {val : Value} {h : Hp} {k : Kt Hp} (hd : decode cc pc = .ok (i, len)) (hc : chkL own pc i len aux val = true)
    (hk : ∀ pc' L' st' h', k pc' L' st' h' = some z → At p l e R s m args below meth c B nL H0 cells slots Q (Wd D s B (toG h')) pc' L' st') (hr : RetOK p l e R s m args below meth c B nL H0 cells slots Q cc D toG rk z) (ez : step O rk i aux val pc L st h k = some z) : At p l e R s m args below meth c B nL H0 cells slots Q (Wd D s B (toG h)) pc L st := by
  obtain ⟨oGI, oGR, oGL, oPI, oPL, oLN, oAI, oAZ, oAR, oSI, oSZ, oCP, oPR, oSR⟩ := hO
  unfold step at ez
  split at ez
  · -- iconst
    simp only [chkL, Bool.and_eq_true, decide_eq_true_eq] at hc
    obtain ⟨hv, hl⟩ := hc
    have hl := Nat.eq_of_beq_eq_true hl
    subst hl
    subst hv
    exact p_iconst hx hb hd rfl (hk _ _ _ _ ez)
  · -- bipush
    simp only [chkL, Bool.and_eq_true, decide_eq_true_eq] at hc
    obtain ⟨hv, hl⟩ := hc
    have hl := Nat.eq_of_beq_eq_true hl
    subst hl
    subst hv
    exact p_bipush hx hb hd rfl (hk _ _ _ _ ez)
  · -- sipush
    simp only [chkL, Bool.and_eq_true, decide_eq_true_eq] at hc
    obtain ⟨hv, hl⟩ := hc
    have hl := Nat.eq_of_beq_eq_true hl
    subst hl
    subst hv
    exact p_sipush hx hb hd rfl (hk _ _ _ _ ez)
  · -- lconst
    simp only [chkL, Bool.and_eq_true, decide_eq_true_eq] at hc
    obtain ⟨hv, hl⟩ := hc
    have hl := Nat.eq_of_beq_eq_true hl
    subst hl
    subst hv
    exact p_lconst hx hb hd rfl (hk _ _ _ _ ez)
  · -- ldc
    simp only [chkL, Bool.and_eq_true] at hc
    obtain ⟨hl, hv⟩ := hc
    have hl := Nat.eq_of_beq_eq_true hl
    subst hl
    split at hv
    · next v =>
      rw [decide_eq_true_eq] at hv
      exact fun H locs ls hX hS ha => lv_ldc hx hb hown (hts _ (cstL_ok _ hv)) hd (hk _ _ _ _ ez H locs ls hX hS ha)
    · cases hv
  · -- ldc_w
    simp only [chkL, Bool.and_eq_true] at hc
    obtain ⟨hl, hv⟩ := hc
    have hl := Nat.eq_of_beq_eq_true hl
    subst hl
    split at hv
    · next v =>
      rw [decide_eq_true_eq] at hv
      exact fun H locs ls hX hS ha => lv_ldcw hx hb hown (hts _ (cstL_ok _ hv)) hd (hk _ _ _ _ ez H locs ls hX hS ha)
    · cases hv
  · -- ldc2_w
    simp only [chkL, Bool.and_eq_true] at hc
    obtain ⟨hl, hv⟩ := hc
    have hl := Nat.eq_of_beq_eq_true hl
    subst hl
    split at hv
    · next v =>
      rw [decide_eq_true_eq] at hv
      exact fun H locs ls hX hS ha => lv_ldc2 hx hb hown (hts _ (cstJ_ok _ hv)) hd (hk _ _ _ _ ez H locs ls hX hS ha)
    · cases hv
  · -- iload_n
    have hl : len = 1 := Nat.eq_of_beq_eq_true hc
    subst hl
    obtain ⟨x, h1, ez⟩ := ldI_inv ez
    exact p_iload_n hx hb hd h1 (hk _ _ _ _ ez)
  · -- iload
    have hl : len = 2 := Nat.eq_of_beq_eq_true hc
    subst hl
    obtain ⟨x, h1, ez⟩ := ldI_inv ez
    exact p_iload hx hb hd h1 (hk _ _ _ _ ez)
  · -- lload_n
    have hl : len = 1 := Nat.eq_of_beq_eq_true hc
    subst hl
    obtain ⟨x, h1, ez⟩ := ldL_inv ez
    exact p_lload_n hx hb hd h1 (hk _ _ _ _ ez)
  · -- lload
    have hl : len = 2 := Nat.eq_of_beq_eq_true hc
    subst hl
    obtain ⟨x, h1, ez⟩ := ldL_inv ez
    exact p_lload hx hb hd h1 (hk _ _ _ _ ez)
  · -- aload_n
    have hl : len = 1 := Nat.eq_of_beq_eq_true hc
    subst hl
    obtain ⟨x, h1, ez⟩ := ldA_inv ez
    exact p_aload_n hx hb hd h1 (hk _ _ _ _ ez)
  · -- aload
    have hl : len = 2 := Nat.eq_of_beq_eq_true hc
    subst hl
    obtain ⟨x, h1, ez⟩ := ldA_inv ez
    exact p_aload hx hb hd h1 (hk _ _ _ _ ez)
  · -- istore_n
    have hl : len = 1 := Nat.eq_of_beq_eq_true hc
    subst hl
    obtain ⟨x, r, hq8, e8⟩ := un1_inv ez
    subst hq8
    clear ez
    have ez := e8
    clear e8
    obtain ⟨h1, h2, ez⟩ := on1_inv ez
    exact p_istore_n hx hb hd h1 h2 (hk _ _ _ _ ez)
  · -- istore
    have hl : len = 2 := Nat.eq_of_beq_eq_true hc
    subst hl
    obtain ⟨x, r, hq8, e8⟩ := un1_inv ez
    subst hq8
    clear ez
    have ez := e8
    clear e8
    obtain ⟨h1, h2, ez⟩ := on1_inv ez
    exact p_istore hx hb hd h1 h2 (hk _ _ _ _ ez)
  · -- lstore_n
    have hl : len = 1 := Nat.eq_of_beq_eq_true hc
    subst hl
    obtain ⟨x, r, hq8, e8⟩ := ul1_inv ez
    subst hq8
    clear ez
    have ez := e8
    clear e8
    obtain ⟨h1, h2, ez⟩ := on2_inv ez
    exact p_lstore_n hx hb hd h1 h2 (hk _ _ _ _ ez)
  · -- lstore
    have hl : len = 2 := Nat.eq_of_beq_eq_true hc
    subst hl
    obtain ⟨x, r, hq8, e8⟩ := ul1_inv ez
    subst hq8
    clear ez
    have ez := e8
    clear e8
    obtain ⟨h1, h2, ez⟩ := on2_inv ez
    exact p_lstore hx hb hd h1 h2 (hk _ _ _ _ ez)
  · -- astore_n
    have hl : len = 1 := Nat.eq_of_beq_eq_true hc
    subst hl
    obtain ⟨x, r, hq8, e8⟩ := ua1_inv ez
    subst hq8
    clear ez
    have ez := e8
    clear e8
    obtain ⟨h1, h2, ez⟩ := on1_inv ez
    exact p_astore_n hx hb hd h1 h2 (hk _ _ _ _ ez)
  · -- astore
    have hl : len = 2 := Nat.eq_of_beq_eq_true hc
    subst hl
    obtain ⟨x, r, hq8, e8⟩ := ua1_inv ez
    subst hq8
    clear ez
    have ez := e8
    clear e8
    obtain ⟨h1, h2, ez⟩ := on1_inv ez
    exact p_astore hx hb hd h1 h2 (hk _ _ _ _ ez)
  · -- iinc
    simp only [chkL, Bool.and_eq_true, decide_eq_true_eq] at hc
    obtain ⟨hv, hl⟩ := hc
    have hl := Nat.eq_of_beq_eq_true hl
    subst hl
    subst hv
    obtain ⟨x, h1, ez⟩ := ldI_inv ez
    obtain ⟨h2, h3, ez⟩ := on1_inv ez
    exact p_iinc hx hb hd h1 rfl h2 h3 (hk _ _ _ _ ez)
  · -- iadd
    have hl : len = 1 := Nat.eq_of_beq_eq_true hc
    subst hl
    obtain ⟨x, y, r, hq8, e8⟩ := un2_inv ez
    subst hq8
    clear ez
    have ez := e8
    clear e8
    exact fun H locs ls hX hS ha => lv_iadd hx hb hd (hk _ _ _ _ ez H locs ls hX hS ha)
  · -- isub
    have hl : len = 1 := Nat.eq_of_beq_eq_true hc
    subst hl
    obtain ⟨x, y, r, hq8, e8⟩ := un2_inv ez
    subst hq8
    clear ez
    have ez := e8
    clear e8
    exact fun H locs ls hX hS ha => lv_isub hx hb hd (hk _ _ _ _ ez H locs ls hX hS ha)
  · -- imul
    have hl : len = 1 := Nat.eq_of_beq_eq_true hc
    subst hl
    obtain ⟨x, y, r, hq8, e8⟩ := un2_inv ez
    subst hq8
    clear ez
    have ez := e8
    clear e8
    exact fun H locs ls hX hS ha => lv_imul hx hb hd (hk _ _ _ _ ez H locs ls hX hS ha)
  · -- iand
    have hl : len = 1 := Nat.eq_of_beq_eq_true hc
    subst hl
    obtain ⟨x, y, r, hq8, e8⟩ := un2_inv ez
    subst hq8
    clear ez
    have ez := e8
    clear e8
    exact fun H locs ls hX hS ha => lv_iand hx hb hd (hk _ _ _ _ ez H locs ls hX hS ha)
  · -- ior
    have hl : len = 1 := Nat.eq_of_beq_eq_true hc
    subst hl
    obtain ⟨x, y, r, hq8, e8⟩ := un2_inv ez
    subst hq8
    clear ez
    have ez := e8
    clear e8
    exact fun H locs ls hX hS ha => lv_ior hx hb hd (hk _ _ _ _ ez H locs ls hX hS ha)
  · -- ixor
    have hl : len = 1 := Nat.eq_of_beq_eq_true hc
    subst hl
    obtain ⟨x, y, r, hq8, e8⟩ := un2_inv ez
    subst hq8
    clear ez
    have ez := e8
    clear e8
    exact fun H locs ls hX hS ha => lv_ixor hx hb hd (hk _ _ _ _ ez H locs ls hX hS ha)
  · -- ishl
    have hl : len = 1 := Nat.eq_of_beq_eq_true hc
    subst hl
    obtain ⟨x, y, r, hq8, e8⟩ := un2_inv ez
    subst hq8
    clear ez
    have ez := e8
    clear e8
    exact fun H locs ls hX hS ha => lv_ishl hx hb hd (hk _ _ _ _ ez H locs ls hX hS ha)
  · -- ishr
    have hl : len = 1 := Nat.eq_of_beq_eq_true hc
    subst hl
    obtain ⟨x, y, r, hq8, e8⟩ := un2_inv ez
    subst hq8
    clear ez
    have ez := e8
    clear e8
    exact fun H locs ls hX hS ha => lv_ishr hx hb hd (hk _ _ _ _ ez H locs ls hX hS ha)
  · -- iushr
    have hl : len = 1 := Nat.eq_of_beq_eq_true hc
    subst hl
    obtain ⟨x, y, r, hq8, e8⟩ := un2_inv ez
    subst hq8
    clear ez
    have ez := e8
    clear e8
    exact fun H locs ls hX hS ha => lv_iushr hx hb hd rfl (hk _ _ _ _ ez H locs ls hX hS ha)
  · -- idiv
    have hl : len = 1 := Nat.eq_of_beq_eq_true hc
    subst hl
    obtain ⟨x, y, r, hq8, e8⟩ := un2_inv ez
    subst hq8
    clear ez
    have ez := e8
    clear e8
    split at ez
    · cases ez
    · next hne => exact fun H locs ls hX hS ha => lv_idiv hx hb hd hne (hk _ _ _ _ ez H locs ls hX hS ha)
  · -- irem
    have hl : len = 1 := Nat.eq_of_beq_eq_true hc
    subst hl
    obtain ⟨x, y, r, hq8, e8⟩ := un2_inv ez
    subst hq8
    clear ez
    have ez := e8
    clear e8
    split at ez
    · cases ez
    · next hne => exact fun H locs ls hX hS ha => lv_irem hx hb hd hne (hk _ _ _ _ ez H locs ls hX hS ha)
  · -- ladd
    have hl : len = 1 := Nat.eq_of_beq_eq_true hc
    subst hl
    obtain ⟨x, y, r, hq8, e8⟩ := ul2_inv ez
    subst hq8
    clear ez
    have ez := e8
    clear e8
    exact fun H locs ls hX hS ha => lv_ladd hx hb hd (hk _ _ _ _ ez H locs ls hX hS ha)
  · -- lsub
    have hl : len = 1 := Nat.eq_of_beq_eq_true hc
    subst hl
    obtain ⟨x, y, r, hq8, e8⟩ := ul2_inv ez
    subst hq8
    clear ez
    have ez := e8
    clear e8
    exact fun H locs ls hX hS ha => lv_lsub hx hb hd (hk _ _ _ _ ez H locs ls hX hS ha)
  · -- lmul
    have hl : len = 1 := Nat.eq_of_beq_eq_true hc
    subst hl
    obtain ⟨x, y, r, hq8, e8⟩ := ul2_inv ez
    subst hq8
    clear ez
    have ez := e8
    clear e8
    exact fun H locs ls hX hS ha => lv_lmul hx hb hd (hk _ _ _ _ ez H locs ls hX hS ha)
  · -- ldiv
    have hl : len = 1 := Nat.eq_of_beq_eq_true hc
    subst hl
    obtain ⟨x, y, r, hq8, e8⟩ := ul2_inv ez
    subst hq8
    clear ez
    have ez := e8
    clear e8
    split at ez
    · cases ez
    · next hne => exact fun H locs ls hX hS ha => lv_ldiv hx hb hd hne (hk _ _ _ _ ez H locs ls hX hS ha)
  · -- lrem
    have hl : len = 1 := Nat.eq_of_beq_eq_true hc
    subst hl
    obtain ⟨x, y, r, hq8, e8⟩ := ul2_inv ez
    subst hq8
    clear ez
    have ez := e8
    clear e8
    split at ez
    · cases ez
    · next hne => exact fun H locs ls hX hS ha => lv_lrem hx hb hd hne (hk _ _ _ _ ez H locs ls hX hS ha)
  · -- lcmp
    have hl : len = 1 := Nat.eq_of_beq_eq_true hc
    subst hl
    obtain ⟨x, y, r, hq8, e8⟩ := ul2_inv ez
    subst hq8
    clear ez
    have ez := e8
    clear e8
    exact fun H locs ls hX hS ha => W.lcmp hx hb hd (hk _ _ _ _ ez H locs ls hX hS ha)
  · -- i2l
    have hl : len = 1 := Nat.eq_of_beq_eq_true hc
    subst hl
    obtain ⟨x, r, hq8, e8⟩ := un1_inv ez
    subst hq8
    clear ez
    have ez := e8
    clear e8
    exact fun H locs ls hX hS ha => lv_i2l hx hb hd rfl (hk _ _ _ _ ez H locs ls hX hS ha)
  · -- l2i
    have hl : len = 1 := Nat.eq_of_beq_eq_true hc
    subst hl
    obtain ⟨x, r, hq8, e8⟩ := ul1_inv ez
    subst hq8
    clear ez
    have ez := e8
    clear e8
    exact fun H locs ls hX hS ha => lv_l2i hx hb hd rfl (hk _ _ _ _ ez H locs ls hX hS ha)
  · -- i2b
    have hl : len = 1 := Nat.eq_of_beq_eq_true hc
    subst hl
    obtain ⟨x, r, hq8, e8⟩ := un1_inv ez
    subst hq8
    clear ez
    have ez := e8
    clear e8
    exact fun H locs ls hX hS ha => lv_i2b hx hb hd rfl (hk _ _ _ _ ez H locs ls hX hS ha)
  · -- dup
    have hl : len = 1 := Nat.eq_of_beq_eq_true hc
    subst hl
    split at ez
    · exact fun H locs ls hX hS ha => lv_dup hx hb hd rfl (hk _ _ _ _ ez H locs ls hX hS ha)
    · exact fun H locs ls hX hS ha => lv_dup hx hb hd rfl (hk _ _ _ _ ez H locs ls hX hS ha)
    · cases ez
  · -- dup2
    have hl : len = 1 := Nat.eq_of_beq_eq_true hc
    subst hl
    split at ez
    · exact fun H locs ls hX hS ha => lv_dup2_11 hx hb hd rfl rfl (hk _ _ _ _ ez H locs ls hX hS ha)
    · cases ez
  · -- pop
    have hl : len = 1 := Nat.eq_of_beq_eq_true hc
    subst hl
    split at ez
    · exact fun H locs ls hX hS ha => lv_pop hx hb hd rfl (hk _ _ _ _ ez H locs ls hX hS ha)
    · cases ez
  · -- goto
    simp only [chkL, Bool.and_eq_true] at hc
    obtain ⟨hl, hv⟩ := hc
    have hl := Nat.eq_of_beq_eq_true hl
    subst hl
    split at ez
    · next t ts =>
      split at hv
      · next t2 h9 =>
        cases h9
        rw [decide_eq_true_eq] at hv
        exact fun H locs ls hX hS ha => lv_goto hx hb hd hv (hk _ _ _ _ ez H locs ls hX hS ha)
      · cases hv
    · cases ez
  · -- ifCond
    simp only [chkL, Bool.and_eq_true] at hc
    obtain ⟨hl, hv⟩ := hc
    have hl := Nat.eq_of_beq_eq_true hl
    subst hl
    split at ez
    · next t ts =>
      split at hv
      · next t2 h9 =>
        cases h9
        rw [decide_eq_true_eq] at hv
        obtain ⟨x, r, hq8, e8⟩ := un1_inv ez
        subst hq8
        clear ez
        have ez := e8
        clear e8
        unfold stIf at ez
        split at ez
        · exact fun H locs ls hX hS ha => lv_if_eq hx hb hd hv (fun q => hk _ _ _ _ (by rw [if_pos q] at ez; exact ez) H locs ls hX hS ha) (fun q => hk _ _ _ _ (by rw [if_neg q] at ez; exact ez) H locs ls hX hS ha)
        · exact fun H locs ls hX hS ha => lv_if_ne hx hb hd hv (fun q => hk _ _ _ _ (by rw [if_neg q] at ez; exact ez) H locs ls hX hS ha) (fun q => hk _ _ _ _ (by rw [if_pos q] at ez; exact ez) H locs ls hX hS ha)
        · exact fun H locs ls hX hS ha => lv_if_lt hx hb hd hv (fun q => hk _ _ _ _ (by rw [if_pos q] at ez; exact ez) H locs ls hX hS ha) (fun q => hk _ _ _ _ (by rw [if_neg q] at ez; exact ez) H locs ls hX hS ha)
        · exact fun H locs ls hX hS ha => lv_if_ge hx hb hd hv (fun q => hk _ _ _ _ (by rw [if_pos q] at ez; exact ez) H locs ls hX hS ha) (fun q => hk _ _ _ _ (by rw [if_neg q] at ez; exact ez) H locs ls hX hS ha)
        · exact fun H locs ls hX hS ha => lv_if_gt hx hb hd hv (fun q => hk _ _ _ _ (by rw [if_pos q] at ez; exact ez) H locs ls hX hS ha) (fun q => hk _ _ _ _ (by rw [if_neg q] at ez; exact ez) H locs ls hX hS ha)
        · exact fun H locs ls hX hS ha => lv_if_le hx hb hd hv (fun q => hk _ _ _ _ (by rw [if_pos q] at ez; exact ez) H locs ls hX hS ha) (fun q => hk _ _ _ _ (by rw [if_neg q] at ez; exact ez) H locs ls hX hS ha)
      · cases hv
    · cases ez
  · -- if_icmp
    simp only [chkL, Bool.and_eq_true] at hc
    obtain ⟨hl, hv⟩ := hc
    have hl := Nat.eq_of_beq_eq_true hl
    subst hl
    split at ez
    · next t ts =>
      split at hv
      · next t2 h9 =>
        cases h9
        rw [decide_eq_true_eq] at hv
        obtain ⟨x, y, r, hq8, e8⟩ := un2_inv ez
        subst hq8
        clear ez
        have ez := e8
        clear e8
        unfold stIf at ez
        split at ez
        · exact fun H locs ls hX hS ha => lv_icmp_eq hx hb hd hv (fun q => hk _ _ _ _ (by rw [if_pos q] at ez; exact ez) H locs ls hX hS ha) (fun q => hk _ _ _ _ (by rw [if_neg q] at ez; exact ez) H locs ls hX hS ha)
        · exact fun H locs ls hX hS ha => lv_icmp_ne hx hb hd hv (fun q => hk _ _ _ _ (by rw [if_neg q] at ez; exact ez) H locs ls hX hS ha) (fun q => hk _ _ _ _ (by rw [if_pos q] at ez; exact ez) H locs ls hX hS ha)
        · exact fun H locs ls hX hS ha => lv_icmp_lt hx hb hd hv (fun q => hk _ _ _ _ (by rw [if_pos q] at ez; exact ez) H locs ls hX hS ha) (fun q => hk _ _ _ _ (by rw [if_neg q] at ez; exact ez) H locs ls hX hS ha)
        · exact fun H locs ls hX hS ha => lv_icmp_ge hx hb hd hv (fun q => hk _ _ _ _ (by rw [if_pos q] at ez; exact ez) H locs ls hX hS ha) (fun q => hk _ _ _ _ (by rw [if_neg q] at ez; exact ez) H locs ls hX hS ha)
        · exact fun H locs ls hX hS ha => lv_icmp_gt hx hb hd hv (fun q => hk _ _ _ _ (by rw [if_pos q] at ez; exact ez) H locs ls hX hS ha) (fun q => hk _ _ _ _ (by rw [if_neg q] at ez; exact ez) H locs ls hX hS ha)
        · exact fun H locs ls hX hS ha => lv_icmp_le hx hb hd hv (fun q => hk _ _ _ _ (by rw [if_pos q] at ez; exact ez) H locs ls hX hS ha) (fun q => hk _ _ _ _ (by rw [if_neg q] at ez; exact ez) H locs ls hX hS ha)
      · cases hv
    · cases ez
  · -- tableswitch
    split at ez
    · next t ts =>
      simp only [chkL, Bool.and_eq_true, decide_eq_true_eq] at hc
      obtain ⟨⟨⟨⟨h1, h2⟩, h3⟩, h4⟩, h5⟩ := hc
      obtain ⟨x, r, hq8, e8⟩ := un1_inv ez
      subst hq8
      clear ez
      have ez := e8
      clear e8
      have hlo : ((_ : Int).toNat : Int) = _ := Int.toNat_of_nonneg h3
      rcases swTab_ok _ _ _ h2 (by rw [Array.length_toList]; omega) ez with ⟨j, o, t', a1, a2, a3, a4⟩ | ⟨a1, a2⟩
      · exact fun H locs ls hX hS ha => lv_tableIn hx hb hd (by omega) (by have := (List.getElem?_eq_some_iff.mp a1).1; rw [Array.length_toList] at this; omega) (by rw [show (x.toInt - _).toNat = j by omega]; simpa using a1) a2 (hk _ _ _ _ a4 H locs ls hX hS ha)
      · exact fun H locs ls hX hS ha => lv_tableOut hx hb hd (by rw [Array.length_toList] at a1; omega) h1 (hk _ _ _ _ a2 H locs ls hX hS ha)
    · cases ez
  · -- lookupswitch
    split at ez
    · next t ts =>
      simp only [chkL, Bool.and_eq_true, decide_eq_true_eq] at hc
      obtain ⟨⟨h1, h2⟩, h3⟩ := hc
      obtain ⟨x, r, hq8, e8⟩ := un1_inv ez
      subst hq8
      clear ez
      have ez := e8
      clear e8
      obtain ⟨t', a1, a2⟩ := swLook_ok h1 _ _ h2 ez
      exact fun H locs ls hX hS ha => lv_lookup hx hb hd h3 rfl a1 (hk _ _ _ _ a2 H locs ls hX hS ha)
    · cases ez
  · -- getfield
    simp only [chkL, Bool.and_eq_true] at hc
    obtain ⟨hl, hv⟩ := hc
    have hl := Nat.eq_of_beq_eq_true hl
    subst hl
    split at ez
    · next ci f =>
      have hv := of_decide_eq_true hv
      obtain ⟨a, r, hq8, e8⟩ := ua1_inv ez
      subst hq8
      clear ez
      have ez := e8
      clear e8
      obtain ⟨v, fs, g1, g2, ez⟩ := oGI _ _ _ _ _ _ ez
      exact p_getf hx hb hts hown hK (fldL_ok _ hv) g1 g2 hd (hk _ _ _ _ ez)
    · next ci f =>
      have hv := of_decide_eq_true hv
      obtain ⟨a, r, hq8, e8⟩ := ua1_inv ez
      subst hq8
      clear ez
      have ez := e8
      clear e8
      obtain ⟨v, fs, g1, g2, ez⟩ := oGR _ _ _ _ _ _ ez
      exact p_getf hx hb hts hown hK (fldL_ok _ hv) g1 g2 hd (hk _ _ _ _ ez)
    · next ci f =>
      have hv := of_decide_eq_true hv
      obtain ⟨a, r, hq8, e8⟩ := ua1_inv ez
      subst hq8
      clear ez
      have ez := e8
      clear e8
      obtain ⟨v, fs, g1, g2, ez⟩ := oGL _ _ _ _ _ _ ez
      exact p_getf hx hb hts hown hK (fldL_ok _ hv) g1 g2 hd (hk _ _ _ _ ez)
    · cases ez
  · -- putfield
    simp only [chkL, Bool.and_eq_true] at hc
    obtain ⟨hl, hv⟩ := hc
    have hl := Nat.eq_of_beq_eq_true hl
    subst hl
    split at ez
    · next ci f =>
      have hv := Bool.and_eq_true_iff.mp hv
      have hv1 := of_decide_eq_true hv.1
      obtain ⟨v, r, hq8, e8⟩ := un1_inv ez
      subst hq8
      clear ez
      have ez := e8
      clear e8
      obtain ⟨a, r, hq8, e8⟩ := ua1_inv ez
      subst hq8
      clear ez
      have ez := e8
      clear e8
      obtain ⟨fs, h', g1, g2, g3, ez⟩ := oPI _ _ _ _ _ _ _ ez
      refine p_putf hx hb hts hown hK (fldL_ok _ hv1) (fun C T N hq => ?_) rfl g1 g2 hd (by rw [← g3]; exact hk _ _ _ _ ez)
      have hv2 := hv.2
      unfold chkP at hv2
      rw [hq] at hv2
      simp only [Bool.and_eq_true, Bool.not_eq_true', Bool.or_eq_true, decide_eq_true_eq] at hv2
      refine ⟨hv2.1, .int, ?_, rfl, rfl⟩
      rcases hv2.2 with hv3 | hv3
      · exact hv3.2
      · exact absurd (Nat.eq_of_beq_eq_true hv3.1) (by decide)
    · next ci f =>
      obtain ⟨v, r, hq8, e8⟩ := ua1_inv ez
      subst hq8
      clear ez
      have ez := e8
      clear e8
      obtain ⟨a, r, hq8, e8⟩ := ua1_inv ez
      subst hq8
      clear ez
      have ez := e8
      clear e8
      rw [oPR] at ez
      cases ez
    · next ci f =>
      have hv := Bool.and_eq_true_iff.mp hv
      have hv1 := of_decide_eq_true hv.1
      obtain ⟨v, r, hq8, e8⟩ := ul1_inv ez
      subst hq8
      clear ez
      have ez := e8
      clear e8
      obtain ⟨a, r, hq8, e8⟩ := ua1_inv ez
      subst hq8
      clear ez
      have ez := e8
      clear e8
      obtain ⟨fs, h', g1, g2, g3, ez⟩ := oPL _ _ _ _ _ _ _ ez
      refine p_putf hx hb hts hown hK (fldL_ok _ hv1) (fun C T N hq => ?_) rfl g1 g2 hd (by rw [← g3]; exact hk _ _ _ _ ez)
      have hv2 := hv.2
      unfold chkP at hv2
      rw [hq] at hv2
      simp only [Bool.and_eq_true, Bool.not_eq_true', Bool.or_eq_true, decide_eq_true_eq] at hv2
      refine ⟨hv2.1, .long, ?_, rfl, rfl⟩
      rcases hv2.2 with hv3 | hv3
      · exact absurd (Nat.eq_of_beq_eq_true hv3.1) (by decide)
      · exact hv3.2
    · cases ez
  · -- arraylength
    have hl : len = 1 := Nat.eq_of_beq_eq_true hc
    subst hl
    obtain ⟨a, r, hq8, e8⟩ := ua1_inv ez
    subst hq8
    clear ez
    have ez := e8
    clear e8
    obtain ⟨ty, x, g1, ez⟩ := oLN _ _ _ _ ez
    exact p_alen hx hb hK g1 hd (hk _ _ _ _ ez)
  · -- iaload
    have hl : len = 1 := Nat.eq_of_beq_eq_true hc
    subst hl
    obtain ⟨j, r, hq8, e8⟩ := un1_inv ez
    subst hq8
    clear ez
    have ez := e8
    clear e8
    obtain ⟨a, r, hq8, e8⟩ := ua1_inv ez
    subst hq8
    clear ez
    have ez := e8
    clear e8
    obtain ⟨n, f, g1, g2, ez⟩ := oAI _ _ _ _ _ ez
    exact p_iald hx hb hK g1 g2 hd (hk _ _ _ _ ez)
  · -- baload
    have hl : len = 1 := Nat.eq_of_beq_eq_true hc
    subst hl
    obtain ⟨j, r, hq8, e8⟩ := un1_inv ez
    subst hq8
    clear ez
    have ez := e8
    clear e8
    obtain ⟨a, r, hq8, e8⟩ := ua1_inv ez
    subst hq8
    clear ez
    have ez := e8
    clear e8
    obtain ⟨n, f, g1, g2, ez⟩ := oAZ _ _ _ _ _ ez
    exact p_zald hx hb hK g1 g2 hd (hk _ _ _ _ ez)
  · -- aaload
    have hl : len = 1 := Nat.eq_of_beq_eq_true hc
    subst hl
    obtain ⟨j, r, hq8, e8⟩ := un1_inv ez
    subst hq8
    clear ez
    have ez := e8
    clear e8
    obtain ⟨a, r, hq8, e8⟩ := ua1_inv ez
    subst hq8
    clear ez
    have ez := e8
    clear e8
    obtain ⟨ty, n, f, b, g0, g1, g2, g3, ez⟩ := oAR _ _ _ _ _ ez
    exact p_aald hx hb g0 g1 g2 g3 hd (hk _ _ _ _ ez)
  · -- iastore
    have hl : len = 1 := Nat.eq_of_beq_eq_true hc
    subst hl
    obtain ⟨j, v, r, hq8, e8⟩ := un2_inv ez
    subst hq8
    clear ez
    have ez := e8
    clear e8
    obtain ⟨a, r, hq8, e8⟩ := ua1_inv ez
    subst hq8
    clear ez
    have ez := e8
    clear e8
    obtain ⟨n, f, h', g1, g2, g3, ez⟩ := oSI _ _ _ _ _ _ ez
    exact p_iast hx hb hK g1 g2 hd (by rw [← g3]; exact hk _ _ _ _ ez)
  · -- bastore
    have hl : len = 1 := Nat.eq_of_beq_eq_true hc
    subst hl
    obtain ⟨j, v, r, hq8, e8⟩ := un2_inv ez
    subst hq8
    clear ez
    have ez := e8
    clear e8
    obtain ⟨a, r, hq8, e8⟩ := ua1_inv ez
    subst hq8
    clear ez
    have ez := e8
    clear e8
    obtain ⟨n, f, h', g1, g2, g3, ez⟩ := oSZ _ _ _ _ _ _ ez
    exact p_zast hx hb hK g1 g2 hd (by rw [← g3]; exact hk _ _ _ _ ez)
  · -- aastore
    have hl : len = 1 := Nat.eq_of_beq_eq_true hc
    subst hl
    obtain ⟨v, r, hq8, e8⟩ := ua1_inv ez
    subst hq8
    clear ez
    have ez := e8
    clear e8
    obtain ⟨j, r, hq8, e8⟩ := un1_inv ez
    subst hq8
    clear ez
    have ez := e8
    clear e8
    obtain ⟨a, r, hq8, e8⟩ := ua1_inv ez
    subst hq8
    clear ez
    have ez := e8
    clear e8
    rw [oSR] at ez
    cases ez
  · -- ireturn
    have hl : len = 1 := Nat.eq_of_beq_eq_true hc
    subst hl
    split at ez
    · split at ez
      · exact hr.1 _ _ _ _ rfl (Option.some.inj ez).symm hd
      · unfold retZ at ez
        split at ez
        · next q => subst q; exact hr.2.1 _ _ _ _ rfl (Or.inl rfl) (Option.some.inj ez).symm hd
        · split at ez
          · next q => subst q; exact hr.2.1 _ _ _ _ rfl (Or.inr rfl) (Option.some.inj ez).symm hd
          · cases ez
      · cases ez
    · cases ez
  · -- lreturn
    have hl : len = 1 := Nat.eq_of_beq_eq_true hc
    subst hl
    split at ez
    · split at ez
      · exact hr.2.2.1 _ _ _ _ rfl (Option.some.inj ez).symm hd
      · cases ez
    · cases ez
  · -- return
    have hl : len = 1 := Nat.eq_of_beq_eq_true hc
    subst hl
    split at ez
    · split at ez
      · exact hr.2.2.2 _ _ _ rfl (Option.some.inj ez).symm hd
      · cases ez
    · cases ez
  · cases ez
end STEPS
end
