section
-- ===== PART A: goes FIRST, ahead of the names: the tables' words, and 'selects' of the private methods out of them =====
/-- a private method of a class that the tables say can be made, by its rows of tables_1 -/
def lw_okq (q : MethodName × Nat) : Prop := (q.1.cls ≠ "java/lang/invoke/MethodHandle" ∧ q.1.cls ≠ "java/lang/invoke/VarHandle") ∧ Cond.instantiable q.1.cls q.2 ∈ tables_1 ∧ Cond.privateMethod q.1 ∈ tables_1 ∧ Cond.instanceMethod q.1 ∈ tables_1
theorem lw_p0 : lw_okq (⟨"BlindPost", "found", "(I)I"⟩, 12) := ⟨⟨by decide +kernel, by decide +kernel⟩, List.mem_of_getElem? (i := 14) (by decide +kernel), List.mem_of_getElem? (i := 250) (by decide +kernel), List.mem_of_getElem? (i := 251) (by decide +kernel)⟩
theorem lw_p1 : lw_okq (⟨"BlindPost", "tell", "(I)I"⟩, 12) := ⟨⟨by decide +kernel, by decide +kernel⟩, List.mem_of_getElem? (i := 14) (by decide +kernel), List.mem_of_getElem? (i := 273) (by decide +kernel), List.mem_of_getElem? (i := 274) (by decide +kernel)⟩
theorem lw_p2 : lw_okq (⟨"BlindPost$Land", "tie", "(III)V"⟩, 12) := ⟨⟨by decide +kernel, by decide +kernel⟩, List.mem_of_getElem? (i := 24) (by decide +kernel), List.mem_of_getElem? (i := 335) (by decide +kernel), List.mem_of_getElem? (i := 336) (by decide +kernel)⟩
theorem lw_p3 : lw_okq (⟨"BlindPost$Reading", "takes", "(I)Z"⟩, 5) := ⟨⟨by decide +kernel, by decide +kernel⟩, List.mem_of_getElem? (i := 116) (by decide +kernel), List.mem_of_getElem? (i := 342) (by decide +kernel), List.mem_of_getElem? (i := 343) (by decide +kernel)⟩
theorem lw_p4 : lw_okq (⟨"BlindPost$Reading", "takesTongue", "(I)Z"⟩, 5) := ⟨⟨by decide +kernel, by decide +kernel⟩, List.mem_of_getElem? (i := 116) (by decide +kernel), List.mem_of_getElem? (i := 346) (by decide +kernel), List.mem_of_getElem? (i := 347) (by decide +kernel)⟩
theorem lw_p5 : lw_okq (⟨"BlindPost$Reading", "takesStart", "(I)Z"⟩, 5) := ⟨⟨by decide +kernel, by decide +kernel⟩, List.mem_of_getElem? (i := 116) (by decide +kernel), List.mem_of_getElem? (i := 354) (by decide +kernel), List.mem_of_getElem? (i := 355) (by decide +kernel)⟩
theorem lw_p6 : lw_okq (⟨"BlindPost$Reading", "takesOne", "(I)Z"⟩, 5) := ⟨⟨by decide +kernel, by decide +kernel⟩, List.mem_of_getElem? (i := 116) (by decide +kernel), List.mem_of_getElem? (i := 365) (by decide +kernel), List.mem_of_getElem? (i := 366) (by decide +kernel)⟩
theorem lw_p7 : lw_okq (⟨"BlindPost$Reading", "takesOther", "(I)Z"⟩, 5) := ⟨⟨by decide +kernel, by decide +kernel⟩, List.mem_of_getElem? (i := 116) (by decide +kernel), List.mem_of_getElem? (i := 373) (by decide +kernel), List.mem_of_getElem? (i := 374) (by decide +kernel)⟩
theorem lw_p8 : lw_okq (⟨"BlindPost$Reading", "takesTime", "(I)Z"⟩, 5) := ⟨⟨by decide +kernel, by decide +kernel⟩, List.mem_of_getElem? (i := 116) (by decide +kernel), List.mem_of_getElem? (i := 377) (by decide +kernel), List.mem_of_getElem? (i := 378) (by decide +kernel)⟩
theorem lw_p9 : lw_okq (⟨"BlindPost$Land", "meetingsOf", "(I)I"⟩, 12) := ⟨⟨by decide +kernel, by decide +kernel⟩, List.mem_of_getElem? (i := 24) (by decide +kernel), List.mem_of_getElem? (i := 408) (by decide +kernel), List.mem_of_getElem? (i := 409) (by decide +kernel)⟩
theorem lw_p10 : lw_okq (⟨"BlindPost$Land", "lettersWith", "(I)I"⟩, 12) := ⟨⟨by decide +kernel, by decide +kernel⟩, List.mem_of_getElem? (i := 24) (by decide +kernel), List.mem_of_getElem? (i := 412) (by decide +kernel), List.mem_of_getElem? (i := 413) (by decide +kernel)⟩
theorem lw_p11 : lw_okq (⟨"BlindPost$Land", "lettersGivenOnBy", "(I)I"⟩, 12) := ⟨⟨by decide +kernel, by decide +kernel⟩, List.mem_of_getElem? (i := 24) (by decide +kernel), List.mem_of_getElem? (i := 445) (by decide +kernel), List.mem_of_getElem? (i := 446) (by decide +kernel)⟩
theorem lw_p12 : lw_okq (⟨"BlindPost", "noPair", "(II)Z"⟩, 12) := ⟨⟨by decide +kernel, by decide +kernel⟩, List.mem_of_getElem? (i := 14) (by decide +kernel), List.mem_of_getElem? (i := 463) (by decide +kernel), List.mem_of_getElem? (i := 464) (by decide +kernel)⟩
theorem lw_p13 : lw_okq (⟨"BlindPost$Land", "takesBetween", "(ILBlindPost$Letter;)Z"⟩, 12) := ⟨⟨by decide +kernel, by decide +kernel⟩, List.mem_of_getElem? (i := 24) (by decide +kernel), List.mem_of_getElem? (i := 531) (by decide +kernel), List.mem_of_getElem? (i := 532) (by decide +kernel)⟩
theorem lw_p14 : lw_okq (⟨"BlindPost$Ways", "weighAhead", "(II)V"⟩, 6) := ⟨⟨by decide +kernel, by decide +kernel⟩, List.mem_of_getElem? (i := 139) (by decide +kernel), List.mem_of_getElem? (i := 612) (by decide +kernel), List.mem_of_getElem? (i := 613) (by decide +kernel)⟩
theorem lw_p15 : lw_okq (⟨"BlindPost$Ways", "leadsOn", "(III)Z"⟩, 6) := ⟨⟨by decide +kernel, by decide +kernel⟩, List.mem_of_getElem? (i := 139) (by decide +kernel), List.mem_of_getElem? (i := 617) (by decide +kernel), List.mem_of_getElem? (i := 618) (by decide +kernel)⟩
def lw_privs_1 : List (MethodName × Nat) := [(⟨"BlindPost", "found", "(I)I"⟩, 12), (⟨"BlindPost", "tell", "(I)I"⟩, 12), (⟨"BlindPost$Land", "tie", "(III)V"⟩, 12), (⟨"BlindPost$Reading", "takes", "(I)Z"⟩, 5), (⟨"BlindPost$Reading", "takesTongue", "(I)Z"⟩, 5), (⟨"BlindPost$Reading", "takesStart", "(I)Z"⟩, 5), (⟨"BlindPost$Reading", "takesOne", "(I)Z"⟩, 5), (⟨"BlindPost$Reading", "takesOther", "(I)Z"⟩, 5), (⟨"BlindPost$Reading", "takesTime", "(I)Z"⟩, 5), (⟨"BlindPost$Land", "meetingsOf", "(I)I"⟩, 12), (⟨"BlindPost$Land", "lettersWith", "(I)I"⟩, 12), (⟨"BlindPost$Land", "lettersGivenOnBy", "(I)I"⟩, 12), (⟨"BlindPost", "noPair", "(II)Z"⟩, 12), (⟨"BlindPost$Land", "takesBetween", "(ILBlindPost$Letter;)Z"⟩, 12), (⟨"BlindPost$Ways", "weighAhead", "(II)V"⟩, 6), (⟨"BlindPost$Ways", "leadsOn", "(III)Z"⟩, 6)]
theorem lw_r1 : ∀ q ∈ lw_privs_1, lw_okq q := List.forall_mem_cons.mpr ⟨lw_p0, List.forall_mem_cons.mpr ⟨lw_p1, List.forall_mem_cons.mpr ⟨lw_p2, List.forall_mem_cons.mpr ⟨lw_p3, List.forall_mem_cons.mpr ⟨lw_p4, List.forall_mem_cons.mpr ⟨lw_p5, List.forall_mem_cons.mpr ⟨lw_p6, List.forall_mem_cons.mpr ⟨lw_p7, List.forall_mem_cons.mpr ⟨lw_p8, List.forall_mem_cons.mpr ⟨lw_p9, List.forall_mem_cons.mpr ⟨lw_p10, List.forall_mem_cons.mpr ⟨lw_p11, List.forall_mem_cons.mpr ⟨lw_p12, List.forall_mem_cons.mpr ⟨lw_p13, List.forall_mem_cons.mpr ⟨lw_p14, List.forall_mem_cons.mpr ⟨lw_p15, fun _ h => absurd h List.not_mem_nil⟩⟩⟩⟩⟩⟩⟩⟩⟩⟩⟩⟩⟩⟩⟩⟩
theorem lw_p16 : lw_okq (⟨"BlindPost$Ways", "weightBy", "(I)I"⟩, 6) := ⟨⟨by decide +kernel, by decide +kernel⟩, List.mem_of_getElem? (i := 139) (by decide +kernel), List.mem_of_getElem? (i := 621) (by decide +kernel), List.mem_of_getElem? (i := 622) (by decide +kernel)⟩
theorem lw_p17 : lw_okq (⟨"BlindPost$Ways", "nextOn", "(III)I"⟩, 6) := ⟨⟨by decide +kernel, by decide +kernel⟩, List.mem_of_getElem? (i := 139) (by decide +kernel), List.mem_of_getElem? (i := 626) (by decide +kernel), List.mem_of_getElem? (i := 627) (by decide +kernel)⟩
theorem lw_p18 : lw_okq (⟨"BlindPost$Ways", "leadsOver", "(III)Z"⟩, 6) := ⟨⟨by decide +kernel, by decide +kernel⟩, List.mem_of_getElem? (i := 139) (by decide +kernel), List.mem_of_getElem? (i := 650) (by decide +kernel), List.mem_of_getElem? (i := 651) (by decide +kernel)⟩
theorem lw_p19 : lw_okq (⟨"BlindPost$Ways", "metByAny", "(I)I"⟩, 6) := ⟨⟨by decide +kernel, by decide +kernel⟩, List.mem_of_getElem? (i := 139) (by decide +kernel), List.mem_of_getElem? (i := 654) (by decide +kernel), List.mem_of_getElem? (i := 655) (by decide +kernel)⟩
theorem lw_p20 : lw_okq (⟨"BlindPost$Pairs", "writtenBy", "(II)I"⟩, 5) := ⟨⟨by decide +kernel, by decide +kernel⟩, List.mem_of_getElem? (i := 166) (by decide +kernel), List.mem_of_getElem? (i := 691) (by decide +kernel), List.mem_of_getElem? (i := 692) (by decide +kernel)⟩
theorem lw_p21 : lw_okq (⟨"BlindPost$Pairs", "choicesOfPairs", "()I"⟩, 5) := ⟨⟨by decide +kernel, by decide +kernel⟩, List.mem_of_getElem? (i := 166) (by decide +kernel), List.mem_of_getElem? (i := 742) (by decide +kernel), List.mem_of_getElem? (i := 743) (by decide +kernel)⟩
theorem lw_p22 : lw_okq (⟨"BlindPost$Pairs", "tonguesTo", "(I)I"⟩, 5) := ⟨⟨by decide +kernel, by decide +kernel⟩, List.mem_of_getElem? (i := 166) (by decide +kernel), List.mem_of_getElem? (i := 746) (by decide +kernel), List.mem_of_getElem? (i := 747) (by decide +kernel)⟩
theorem lw_p23 : lw_okq (⟨"BlindPost", "refusedPairs", "(I)I"⟩, 12) := ⟨⟨by decide +kernel, by decide +kernel⟩, List.mem_of_getElem? (i := 14) (by decide +kernel), List.mem_of_getElem? (i := 758) (by decide +kernel), List.mem_of_getElem? (i := 759) (by decide +kernel)⟩
theorem lw_p24 : lw_okq (⟨"BlindPost", "sheetsThere", "([LBlindPost$Sheet;)I"⟩, 12) := ⟨⟨by decide +kernel, by decide +kernel⟩, List.mem_of_getElem? (i := 14) (by decide +kernel), List.mem_of_getElem? (i := 813) (by decide +kernel), List.mem_of_getElem? (i := 814) (by decide +kernel)⟩
theorem lw_p25 : lw_okq (⟨"BlindPost", "landsKept", "()I"⟩, 12) := ⟨⟨by decide +kernel, by decide +kernel⟩, List.mem_of_getElem? (i := 14) (by decide +kernel), List.mem_of_getElem? (i := 817) (by decide +kernel), List.mem_of_getElem? (i := 818) (by decide +kernel)⟩
theorem lw_p26 : lw_okq (⟨"BlindPostModel", "meetWith", "(I)I"⟩, 33) := ⟨⟨by decide +kernel, by decide +kernel⟩, List.mem_of_getElem? (i := 847) (by decide +kernel), List.mem_of_getElem? (i := 963) (by decide +kernel), List.mem_of_getElem? (i := 964) (by decide +kernel)⟩
theorem lw_p27 : lw_okq (⟨"BlindPostModel", "setRow", "(III)V"⟩, 33) := ⟨⟨by decide +kernel, by decide +kernel⟩, List.mem_of_getElem? (i := 847) (by decide +kernel), List.mem_of_getElem? (i := 967) (by decide +kernel), List.mem_of_getElem? (i := 968) (by decide +kernel)⟩
theorem lw_p28 : lw_okq (⟨"BlindPostModel", "askedRow", "(I)I"⟩, 33) := ⟨⟨by decide +kernel, by decide +kernel⟩, List.mem_of_getElem? (i := 847) (by decide +kernel), List.mem_of_getElem? (i := 975) (by decide +kernel), List.mem_of_getElem? (i := 976) (by decide +kernel)⟩
theorem lw_p29 : lw_okq (⟨"BlindPostModel", "rowAt", "(II)I"⟩, 33) := ⟨⟨by decide +kernel, by decide +kernel⟩, List.mem_of_getElem? (i := 847) (by decide +kernel), List.mem_of_getElem? (i := 979) (by decide +kernel), List.mem_of_getElem? (i := 980) (by decide +kernel)⟩
theorem lw_p30 : lw_okq (⟨"BlindPostModel", "ask", "(II)I"⟩, 33) := ⟨⟨by decide +kernel, by decide +kernel⟩, List.mem_of_getElem? (i := 847) (by decide +kernel), List.mem_of_getElem? (i := 983) (by decide +kernel), List.mem_of_getElem? (i := 984) (by decide +kernel)⟩
theorem lw_p31 : lw_okq (⟨"BlindPostModel", "askedText", "(I)I"⟩, 33) := ⟨⟨by decide +kernel, by decide +kernel⟩, List.mem_of_getElem? (i := 847) (by decide +kernel), List.mem_of_getElem? (i := 1015) (by decide +kernel), List.mem_of_getElem? (i := 1016) (by decide +kernel)⟩
def lw_privs_2 : List (MethodName × Nat) := [(⟨"BlindPost$Ways", "weightBy", "(I)I"⟩, 6), (⟨"BlindPost$Ways", "nextOn", "(III)I"⟩, 6), (⟨"BlindPost$Ways", "leadsOver", "(III)Z"⟩, 6), (⟨"BlindPost$Ways", "metByAny", "(I)I"⟩, 6), (⟨"BlindPost$Pairs", "writtenBy", "(II)I"⟩, 5), (⟨"BlindPost$Pairs", "choicesOfPairs", "()I"⟩, 5), (⟨"BlindPost$Pairs", "tonguesTo", "(I)I"⟩, 5), (⟨"BlindPost", "refusedPairs", "(I)I"⟩, 12), (⟨"BlindPost", "sheetsThere", "([LBlindPost$Sheet;)I"⟩, 12), (⟨"BlindPost", "landsKept", "()I"⟩, 12), (⟨"BlindPostModel", "meetWith", "(I)I"⟩, 33), (⟨"BlindPostModel", "setRow", "(III)V"⟩, 33), (⟨"BlindPostModel", "askedRow", "(I)I"⟩, 33), (⟨"BlindPostModel", "rowAt", "(II)I"⟩, 33), (⟨"BlindPostModel", "ask", "(II)I"⟩, 33), (⟨"BlindPostModel", "askedText", "(I)I"⟩, 33)]
theorem lw_r2 : ∀ q ∈ lw_privs_2, lw_okq q := List.forall_mem_cons.mpr ⟨lw_p16, List.forall_mem_cons.mpr ⟨lw_p17, List.forall_mem_cons.mpr ⟨lw_p18, List.forall_mem_cons.mpr ⟨lw_p19, List.forall_mem_cons.mpr ⟨lw_p20, List.forall_mem_cons.mpr ⟨lw_p21, List.forall_mem_cons.mpr ⟨lw_p22, List.forall_mem_cons.mpr ⟨lw_p23, List.forall_mem_cons.mpr ⟨lw_p24, List.forall_mem_cons.mpr ⟨lw_p25, List.forall_mem_cons.mpr ⟨lw_p26, List.forall_mem_cons.mpr ⟨lw_p27, List.forall_mem_cons.mpr ⟨lw_p28, List.forall_mem_cons.mpr ⟨lw_p29, List.forall_mem_cons.mpr ⟨lw_p30, List.forall_mem_cons.mpr ⟨lw_p31, fun _ h => absurd h List.not_mem_nil⟩⟩⟩⟩⟩⟩⟩⟩⟩⟩⟩⟩⟩⟩⟩⟩
theorem lw_p32 : lw_okq (⟨"BlindPostModel", "goesOn", "(I)I"⟩, 33) := ⟨⟨by decide +kernel, by decide +kernel⟩, List.mem_of_getElem? (i := 847) (by decide +kernel), List.mem_of_getElem? (i := 1023) (by decide +kernel), List.mem_of_getElem? (i := 1024) (by decide +kernel)⟩
theorem lw_p33 : lw_okq (⟨"BlindPostModel", "here", "(I)I"⟩, 33) := ⟨⟨by decide +kernel, by decide +kernel⟩, List.mem_of_getElem? (i := 847) (by decide +kernel), List.mem_of_getElem? (i := 1027) (by decide +kernel), List.mem_of_getElem? (i := 1028) (by decide +kernel)⟩
theorem lw_p34 : lw_okq (⟨"BlindPostModel", "readsMeeting", "(I)Z"⟩, 33) := ⟨⟨by decide +kernel, by decide +kernel⟩, List.mem_of_getElem? (i := 847) (by decide +kernel), List.mem_of_getElem? (i := 1031) (by decide +kernel), List.mem_of_getElem? (i := 1032) (by decide +kernel)⟩
theorem lw_p35 : lw_okq (⟨"BlindPostModel", "readsHand", "(I)Z"⟩, 33) := ⟨⟨by decide +kernel, by decide +kernel⟩, List.mem_of_getElem? (i := 847) (by decide +kernel), List.mem_of_getElem? (i := 1035) (by decide +kernel), List.mem_of_getElem? (i := 1036) (by decide +kernel)⟩
theorem lw_p36 : lw_okq (⟨"BlindPostModel", "isOne", "(I)Z"⟩, 33) := ⟨⟨by decide +kernel, by decide +kernel⟩, List.mem_of_getElem? (i := 847) (by decide +kernel), List.mem_of_getElem? (i := 1050) (by decide +kernel), List.mem_of_getElem? (i := 1051) (by decide +kernel)⟩
theorem lw_p37 : lw_okq (⟨"BlindPostModel", "handOf", "(II)I"⟩, 33) := ⟨⟨by decide +kernel, by decide +kernel⟩, List.mem_of_getElem? (i := 847) (by decide +kernel), List.mem_of_getElem? (i := 1054) (by decide +kernel), List.mem_of_getElem? (i := 1055) (by decide +kernel)⟩
theorem lw_p38 : lw_okq (⟨"BlindPostModel", "holderOf", "(I)I"⟩, 33) := ⟨⟨by decide +kernel, by decide +kernel⟩, List.mem_of_getElem? (i := 847) (by decide +kernel), List.mem_of_getElem? (i := 1058) (by decide +kernel), List.mem_of_getElem? (i := 1059) (by decide +kernel)⟩
theorem lw_p39 : lw_okq (⟨"BlindPostModel", "letterOf", "(II)I"⟩, 33) := ⟨⟨by decide +kernel, by decide +kernel⟩, List.mem_of_getElem? (i := 847) (by decide +kernel), List.mem_of_getElem? (i := 1062) (by decide +kernel), List.mem_of_getElem? (i := 1063) (by decide +kernel)⟩
theorem lw_p40 : lw_okq (⟨"BlindPostModel", "isThere", "(I)Z"⟩, 33) := ⟨⟨by decide +kernel, by decide +kernel⟩, List.mem_of_getElem? (i := 847) (by decide +kernel), List.mem_of_getElem? (i := 1066) (by decide +kernel), List.mem_of_getElem? (i := 1067) (by decide +kernel)⟩
theorem lw_p41 : lw_okq (⟨"BlindPostModel", "isA", "(II)Z"⟩, 33) := ⟨⟨by decide +kernel, by decide +kernel⟩, List.mem_of_getElem? (i := 847) (by decide +kernel), List.mem_of_getElem? (i := 1074) (by decide +kernel), List.mem_of_getElem? (i := 1075) (by decide +kernel)⟩
theorem lw_p42 : lw_okq (⟨"BlindPostModel", "barsOf", "(I)I"⟩, 33) := ⟨⟨by decide +kernel, by decide +kernel⟩, List.mem_of_getElem? (i := 847) (by decide +kernel), List.mem_of_getElem? (i := 1081) (by decide +kernel), List.mem_of_getElem? (i := 1082) (by decide +kernel)⟩
theorem lw_p43 : lw_okq (⟨"BlindPostModel", "givenOn", "(I)I"⟩, 33) := ⟨⟨by decide +kernel, by decide +kernel⟩, List.mem_of_getElem? (i := 847) (by decide +kernel), List.mem_of_getElem? (i := 1085) (by decide +kernel), List.mem_of_getElem? (i := 1086) (by decide +kernel)⟩
theorem lw_p44 : lw_okq (⟨"BlindPostModel", "metBy", "(II)I"⟩, 33) := ⟨⟨by decide +kernel, by decide +kernel⟩, List.mem_of_getElem? (i := 847) (by decide +kernel), List.mem_of_getElem? (i := 1089) (by decide +kernel), List.mem_of_getElem? (i := 1090) (by decide +kernel)⟩
theorem lw_p45 : lw_okq (⟨"BlindPostModel", "areTwo", "(II)Z"⟩, 33) := ⟨⟨by decide +kernel, by decide +kernel⟩, List.mem_of_getElem? (i := 847) (by decide +kernel), List.mem_of_getElem? (i := 1104) (by decide +kernel), List.mem_of_getElem? (i := 1105) (by decide +kernel)⟩
theorem lw_p46 : lw_okq (⟨"BlindPostModel", "mayCarry", "(II)Z"⟩, 33) := ⟨⟨by decide +kernel, by decide +kernel⟩, List.mem_of_getElem? (i := 847) (by decide +kernel), List.mem_of_getElem? (i := 1119) (by decide +kernel), List.mem_of_getElem? (i := 1120) (by decide +kernel)⟩
theorem lw_p47 : lw_okq (⟨"BlindPostModel", "writes", "(III)Z"⟩, 33) := ⟨⟨by decide +kernel, by decide +kernel⟩, List.mem_of_getElem? (i := 847) (by decide +kernel), List.mem_of_getElem? (i := 1131) (by decide +kernel), List.mem_of_getElem? (i := 1132) (by decide +kernel)⟩
def lw_privs_3 : List (MethodName × Nat) := [(⟨"BlindPostModel", "goesOn", "(I)I"⟩, 33), (⟨"BlindPostModel", "here", "(I)I"⟩, 33), (⟨"BlindPostModel", "readsMeeting", "(I)Z"⟩, 33), (⟨"BlindPostModel", "readsHand", "(I)Z"⟩, 33), (⟨"BlindPostModel", "isOne", "(I)Z"⟩, 33), (⟨"BlindPostModel", "handOf", "(II)I"⟩, 33), (⟨"BlindPostModel", "holderOf", "(I)I"⟩, 33), (⟨"BlindPostModel", "letterOf", "(II)I"⟩, 33), (⟨"BlindPostModel", "isThere", "(I)Z"⟩, 33), (⟨"BlindPostModel", "isA", "(II)Z"⟩, 33), (⟨"BlindPostModel", "barsOf", "(I)I"⟩, 33), (⟨"BlindPostModel", "givenOn", "(I)I"⟩, 33), (⟨"BlindPostModel", "metBy", "(II)I"⟩, 33), (⟨"BlindPostModel", "areTwo", "(II)Z"⟩, 33), (⟨"BlindPostModel", "mayCarry", "(II)Z"⟩, 33), (⟨"BlindPostModel", "writes", "(III)Z"⟩, 33)]
theorem lw_r3 : ∀ q ∈ lw_privs_3, lw_okq q := List.forall_mem_cons.mpr ⟨lw_p32, List.forall_mem_cons.mpr ⟨lw_p33, List.forall_mem_cons.mpr ⟨lw_p34, List.forall_mem_cons.mpr ⟨lw_p35, List.forall_mem_cons.mpr ⟨lw_p36, List.forall_mem_cons.mpr ⟨lw_p37, List.forall_mem_cons.mpr ⟨lw_p38, List.forall_mem_cons.mpr ⟨lw_p39, List.forall_mem_cons.mpr ⟨lw_p40, List.forall_mem_cons.mpr ⟨lw_p41, List.forall_mem_cons.mpr ⟨lw_p42, List.forall_mem_cons.mpr ⟨lw_p43, List.forall_mem_cons.mpr ⟨lw_p44, List.forall_mem_cons.mpr ⟨lw_p45, List.forall_mem_cons.mpr ⟨lw_p46, List.forall_mem_cons.mpr ⟨lw_p47, fun _ h => absurd h List.not_mem_nil⟩⟩⟩⟩⟩⟩⟩⟩⟩⟩⟩⟩⟩⟩⟩⟩
theorem lw_p48 : lw_okq (⟨"BlindPostModel", "askedLetter", "(I)I"⟩, 33) := ⟨⟨by decide +kernel, by decide +kernel⟩, List.mem_of_getElem? (i := 847) (by decide +kernel), List.mem_of_getElem? (i := 1139) (by decide +kernel), List.mem_of_getElem? (i := 1140) (by decide +kernel)⟩
theorem lw_p49 : lw_okq (⟨"BlindPostModel", "givable", "(I)I"⟩, 33) := ⟨⟨by decide +kernel, by decide +kernel⟩, List.mem_of_getElem? (i := 847) (by decide +kernel), List.mem_of_getElem? (i := 1143) (by decide +kernel), List.mem_of_getElem? (i := 1144) (by decide +kernel)⟩
theorem lw_p50 : lw_okq (⟨"BlindPostModel", "hadBy", "(I)I"⟩, 33) := ⟨⟨by decide +kernel, by decide +kernel⟩, List.mem_of_getElem? (i := 847) (by decide +kernel), List.mem_of_getElem? (i := 1147) (by decide +kernel), List.mem_of_getElem? (i := 1148) (by decide +kernel)⟩
theorem lw_p51 : lw_okq (⟨"BlindPostModel", "takes", "(III)Z"⟩, 33) := ⟨⟨by decide +kernel, by decide +kernel⟩, List.mem_of_getElem? (i := 847) (by decide +kernel), List.mem_of_getElem? (i := 1151) (by decide +kernel), List.mem_of_getElem? (i := 1152) (by decide +kernel)⟩
theorem lw_p52 : lw_okq (⟨"BlindPostModel", "giveTo", "(II)I"⟩, 33) := ⟨⟨by decide +kernel, by decide +kernel⟩, List.mem_of_getElem? (i := 847) (by decide +kernel), List.mem_of_getElem? (i := 1158) (by decide +kernel), List.mem_of_getElem? (i := 1159) (by decide +kernel)⟩
theorem lw_p53 : lw_okq (⟨"BlindPostModel", "isAsk", "(III)Z"⟩, 33) := ⟨⟨by decide +kernel, by decide +kernel⟩, List.mem_of_getElem? (i := 847) (by decide +kernel), List.mem_of_getElem? (i := 1191) (by decide +kernel), List.mem_of_getElem? (i := 1192) (by decide +kernel)⟩
theorem lw_p54 : lw_okq (⟨"BlindPostModel", "soonOf", "(IIII)I"⟩, 33) := ⟨⟨by decide +kernel, by decide +kernel⟩, List.mem_of_getElem? (i := 847) (by decide +kernel), List.mem_of_getElem? (i := 1195) (by decide +kernel), List.mem_of_getElem? (i := 1196) (by decide +kernel)⟩
theorem lw_p55 : lw_okq (⟨"BlindPostModel", "setWays", "(IIIZ)V"⟩, 33) := ⟨⟨by decide +kernel, by decide +kernel⟩, List.mem_of_getElem? (i := 847) (by decide +kernel), List.mem_of_getElem? (i := 1203) (by decide +kernel), List.mem_of_getElem? (i := 1204) (by decide +kernel)⟩
theorem lw_p56 : lw_okq (⟨"BlindPostModel", "wayOn", "(IIIIIZ)V"⟩, 33) := ⟨⟨by decide +kernel, by decide +kernel⟩, List.mem_of_getElem? (i := 847) (by decide +kernel), List.mem_of_getElem? (i := 1208) (by decide +kernel), List.mem_of_getElem? (i := 1209) (by decide +kernel)⟩
theorem lw_p57 : lw_okq (⟨"BlindPostModel", "meetWay", "(III)V"⟩, 33) := ⟨⟨by decide +kernel, by decide +kernel⟩, List.mem_of_getElem? (i := 847) (by decide +kernel), List.mem_of_getElem? (i := 1212) (by decide +kernel), List.mem_of_getElem? (i := 1213) (by decide +kernel)⟩
theorem lw_p58 : lw_okq (⟨"BlindPostModel", "costOf", "(II)I"⟩, 33) := ⟨⟨by decide +kernel, by decide +kernel⟩, List.mem_of_getElem? (i := 847) (by decide +kernel), List.mem_of_getElem? (i := 1216) (by decide +kernel), List.mem_of_getElem? (i := 1217) (by decide +kernel)⟩
theorem lw_p59 : lw_okq (⟨"BlindPostModel", "packOn", "(II)I"⟩, 33) := ⟨⟨by decide +kernel, by decide +kernel⟩, List.mem_of_getElem? (i := 847) (by decide +kernel), List.mem_of_getElem? (i := 1232) (by decide +kernel), List.mem_of_getElem? (i := 1233) (by decide +kernel)⟩
theorem lw_p60 : lw_okq (⟨"BlindPostModel", "isWayIn", "(III)Z"⟩, 33) := ⟨⟨by decide +kernel, by decide +kernel⟩, List.mem_of_getElem? (i := 847) (by decide +kernel), List.mem_of_getElem? (i := 1248) (by decide +kernel), List.mem_of_getElem? (i := 1249) (by decide +kernel)⟩
theorem lw_p61 : lw_okq (⟨"BlindPostModel", "cutNow", "()I"⟩, 33) := ⟨⟨by decide +kernel, by decide +kernel⟩, List.mem_of_getElem? (i := 847) (by decide +kernel), List.mem_of_getElem? (i := 1256) (by decide +kernel), List.mem_of_getElem? (i := 1257) (by decide +kernel)⟩
theorem lw_p62 : lw_okq (⟨"BlindPostModel", "tonguesOf", "(II)I"⟩, 33) := ⟨⟨by decide +kernel, by decide +kernel⟩, List.mem_of_getElem? (i := 847) (by decide +kernel), List.mem_of_getElem? (i := 1260) (by decide +kernel), List.mem_of_getElem? (i := 1261) (by decide +kernel)⟩
theorem lw_p63 : lw_okq (⟨"BlindPostModel", "cutIf", "(II)I"⟩, 33) := ⟨⟨by decide +kernel, by decide +kernel⟩, List.mem_of_getElem? (i := 847) (by decide +kernel), List.mem_of_getElem? (i := 1268) (by decide +kernel), List.mem_of_getElem? (i := 1269) (by decide +kernel)⟩
def lw_privs_4 : List (MethodName × Nat) := [(⟨"BlindPostModel", "askedLetter", "(I)I"⟩, 33), (⟨"BlindPostModel", "givable", "(I)I"⟩, 33), (⟨"BlindPostModel", "hadBy", "(I)I"⟩, 33), (⟨"BlindPostModel", "takes", "(III)Z"⟩, 33), (⟨"BlindPostModel", "giveTo", "(II)I"⟩, 33), (⟨"BlindPostModel", "isAsk", "(III)Z"⟩, 33), (⟨"BlindPostModel", "soonOf", "(IIII)I"⟩, 33), (⟨"BlindPostModel", "setWays", "(IIIZ)V"⟩, 33), (⟨"BlindPostModel", "wayOn", "(IIIIIZ)V"⟩, 33), (⟨"BlindPostModel", "meetWay", "(III)V"⟩, 33), (⟨"BlindPostModel", "costOf", "(II)I"⟩, 33), (⟨"BlindPostModel", "packOn", "(II)I"⟩, 33), (⟨"BlindPostModel", "isWayIn", "(III)Z"⟩, 33), (⟨"BlindPostModel", "cutNow", "()I"⟩, 33), (⟨"BlindPostModel", "tonguesOf", "(II)I"⟩, 33), (⟨"BlindPostModel", "cutIf", "(II)I"⟩, 33)]
theorem lw_r4 : ∀ q ∈ lw_privs_4, lw_okq q := List.forall_mem_cons.mpr ⟨lw_p48, List.forall_mem_cons.mpr ⟨lw_p49, List.forall_mem_cons.mpr ⟨lw_p50, List.forall_mem_cons.mpr ⟨lw_p51, List.forall_mem_cons.mpr ⟨lw_p52, List.forall_mem_cons.mpr ⟨lw_p53, List.forall_mem_cons.mpr ⟨lw_p54, List.forall_mem_cons.mpr ⟨lw_p55, List.forall_mem_cons.mpr ⟨lw_p56, List.forall_mem_cons.mpr ⟨lw_p57, List.forall_mem_cons.mpr ⟨lw_p58, List.forall_mem_cons.mpr ⟨lw_p59, List.forall_mem_cons.mpr ⟨lw_p60, List.forall_mem_cons.mpr ⟨lw_p61, List.forall_mem_cons.mpr ⟨lw_p62, List.forall_mem_cons.mpr ⟨lw_p63, fun _ h => absurd h List.not_mem_nil⟩⟩⟩⟩⟩⟩⟩⟩⟩⟩⟩⟩⟩⟩⟩⟩
theorem lw_p64 : lw_okq (⟨"BlindPostModel", "askedPairs", "(I)I"⟩, 33) := ⟨⟨by decide +kernel, by decide +kernel⟩, List.mem_of_getElem? (i := 847) (by decide +kernel), List.mem_of_getElem? (i := 1288) (by decide +kernel), List.mem_of_getElem? (i := 1289) (by decide +kernel)⟩
theorem lw_p65 : lw_okq (⟨"BlindPostModel", "isRead", "(II)Z"⟩, 33) := ⟨⟨by decide +kernel, by decide +kernel⟩, List.mem_of_getElem? (i := 847) (by decide +kernel), List.mem_of_getElem? (i := 1292) (by decide +kernel), List.mem_of_getElem? (i := 1293) (by decide +kernel)⟩
theorem lw_p66 : lw_okq (⟨"BlindPostModel", "tells", "(I)I"⟩, 33) := ⟨⟨by decide +kernel, by decide +kernel⟩, List.mem_of_getElem? (i := 847) (by decide +kernel), List.mem_of_getElem? (i := 1330) (by decide +kernel), List.mem_of_getElem? (i := 1331) (by decide +kernel)⟩
theorem lw_p67 : lw_okq (⟨"BlindPostModel", "mix", "(I)V"⟩, 33) := ⟨⟨by decide +kernel, by decide +kernel⟩, List.mem_of_getElem? (i := 847) (by decide +kernel), List.mem_of_getElem? (i := 1347) (by decide +kernel), List.mem_of_getElem? (i := 1348) (by decide +kernel)⟩
theorem lw_p68 : lw_okq (⟨"BlindPostModel", "mixLand", "()V"⟩, 33) := ⟨⟨by decide +kernel, by decide +kernel⟩, List.mem_of_getElem? (i := 847) (by decide +kernel), List.mem_of_getElem? (i := 1352) (by decide +kernel), List.mem_of_getElem? (i := 1353) (by decide +kernel)⟩
def lw_privs_5 : List (MethodName × Nat) := [(⟨"BlindPostModel", "askedPairs", "(I)I"⟩, 33), (⟨"BlindPostModel", "isRead", "(II)Z"⟩, 33), (⟨"BlindPostModel", "tells", "(I)I"⟩, 33), (⟨"BlindPostModel", "mix", "(I)V"⟩, 33), (⟨"BlindPostModel", "mixLand", "()V"⟩, 33)]
theorem lw_r5 : ∀ q ∈ lw_privs_5, lw_okq q := List.forall_mem_cons.mpr ⟨lw_p64, List.forall_mem_cons.mpr ⟨lw_p65, List.forall_mem_cons.mpr ⟨lw_p66, List.forall_mem_cons.mpr ⟨lw_p67, List.forall_mem_cons.mpr ⟨lw_p68, fun _ h => absurd h List.not_mem_nil⟩⟩⟩⟩⟩
def lw_privs : List (MethodName × Nat) := lw_privs_1 ++ (lw_privs_2 ++ (lw_privs_3 ++ (lw_privs_4 ++ (lw_privs_5))))
def lw_tbl : List Cond := k2_sels lw_privs ++ tables_1
theorem lw_privs_ok : ∀ q ∈ lw_privs, lw_okq q := by
  show ∀ q ∈ lw_privs_1 ++ (lw_privs_2 ++ (lw_privs_3 ++ (lw_privs_4 ++ (lw_privs_5)))), lw_okq q
  exact List.forall_mem_append.mpr ⟨lw_r1, List.forall_mem_append.mpr ⟨lw_r2, List.forall_mem_append.mpr ⟨lw_r3, List.forall_mem_append.mpr ⟨lw_r4, lw_r5⟩⟩⟩⟩
end
section
def RX0 : String := "BlindPost$Land"
def TX0 : u_T := fun k => match k with
  | 0 => ("BlindPost$Land", "kinds", "[I", true)
  | 1 => ("BlindPost$Land", "known", "[I", true)
  | 2 => ("BlindPost$Land", "ones", "[I", true)
  | 3 => ("BlindPost$Land", "others", "[I", true)
  | 4 => ("BlindPost$Land", "times", "[I", true)
  | 5 => ("BlindPost$Land", "metIn", "[[I", true)
  | 6 => ("BlindPost$Land", "metEver", "[I", true)
  | 7 => ("BlindPost$Land", "letters", "[LBlindPost$Letter;", true)
  | 8 => ("BlindPost$Land", "handCount", "I", false)
  | 9 => ("BlindPost$Land", "meetingCount", "I", false)
  | 10 => ("BlindPost$Land", "letterCount", "I", false)
  | _ => ("BlindPost$Land", "hour", "I", false)
def tyX0 : Nat → FieldType := fun k => match k with
  | 0 => .array .int
  | 1 => .array .int
  | 2 => .array .int
  | 3 => .array .int
  | 4 => .array .int
  | 5 => .array (.array .int)
  | 6 => .array .int
  | 7 => .array (.object "BlindPost$Letter")
  | 8 => .int
  | 9 => .int
  | 10 => .int
  | _ => .int
abbrev wsX00 : List Cond := u_ws RX0 TX0 12
theorem nmX0 : ∀ a, a < 12 → ∀ b, b < 12 → a ≠ b → (TX0 a).2.1 ≠ (TX0 b).2.1 := by decide +kernel
theorem tyX0_ok : ∀ k, k < 12 → parseFieldDescriptor (TX0 k).2.2.1 = some (tyX0 k) := by decide +kernel
def RX1 : String := "BlindPost$Letter"
def TX1 : u_T := fun k => match k with
  | 0 => ("BlindPost$Letter", "through", "[I", true)
  | 1 => ("BlindPost$Letter", "came", "[I", true)
  | 2 => ("BlindPost$Letter", "length", "I", false)
  | 3 => ("BlindPost$Letter", "to", "I", false)
  | _ => ("BlindPost$Letter", "tongues", "I", false)
def tyX1 : Nat → FieldType := fun k => match k with
  | 0 => .array .int
  | 1 => .array .int
  | 2 => .int
  | 3 => .int
  | _ => .int
abbrev wsX10 : List Cond := u_ws RX1 TX1 5
theorem nmX1 : ∀ a, a < 5 → ∀ b, b < 5 → a ≠ b → (TX1 a).2.1 ≠ (TX1 b).2.1 := by decide +kernel
theorem tyX1_ok : ∀ k, k < 5 → parseFieldDescriptor (TX1 k).2.2.1 = some (tyX1 k) := by decide +kernel
def RX2 : String := "BlindPost$Pairs"
def TX2 : u_T := fun k => match k with
  | 0 => ("BlindPost$Pairs", "land", "LBlindPost$Land;", true)
  | 1 => ("BlindPost$Pairs", "ways", "LBlindPost$Ways;", true)
  | 2 => ("BlindPost$Pairs", "reached", "[I", true)
  | 3 => ("BlindPost$Pairs", "all", "I", false)
  | _ => ("BlindPost$Pairs", "cut", "I", false)
def tyX2 : Nat → FieldType := fun k => match k with
  | 0 => .object "BlindPost$Land"
  | 1 => .object "BlindPost$Ways"
  | 2 => .array .int
  | 3 => .int
  | _ => .int
abbrev wsX20 : List Cond := u_ws RX2 TX2 5
theorem nmX2 : ∀ a, a < 5 → ∀ b, b < 5 → a ≠ b → (TX2 a).2.1 ≠ (TX2 b).2.1 := by decide +kernel
theorem tyX2_ok : ∀ k, k < 5 → parseFieldDescriptor (TX2 k).2.2.1 = some (tyX2 k) := by decide +kernel
def RX3 : String := "BlindPost$Reading"
def TX3 : u_T := fun k => match k with
  | 0 => ("BlindPost$Reading", "drawn", "LBlindPost$Land;", true)
  | 1 => ("BlindPost$Reading", "stage", "I", false)
  | 2 => ("BlindPost$Reading", "lastFigure", "I", false)
  | 3 => ("BlindPost$Reading", "one", "I", false)
  | _ => ("BlindPost$Reading", "other", "I", false)
def tyX3 : Nat → FieldType := fun k => match k with
  | 0 => .object "BlindPost$Land"
  | 1 => .int
  | 2 => .int
  | 3 => .int
  | _ => .int
abbrev wsX30 : List Cond := u_ws RX3 TX3 5
theorem nmX3 : ∀ a, a < 5 → ∀ b, b < 5 → a ≠ b → (TX3 a).2.1 ≠ (TX3 b).2.1 := by decide +kernel
theorem tyX3_ok : ∀ k, k < 5 → parseFieldDescriptor (TX3 k).2.2.1 = some (tyX3 k) := by decide +kernel
def RX4 : String := "BlindPost$Sheet"
def TX4 : u_T := fun k => match k with
  | 0 => ("BlindPost$Sheet", "places", "[I", true)
  | _ => ("BlindPost$Sheet", "size", "I", false)
def tyX4 : Nat → FieldType := fun k => match k with
  | 0 => .array .int
  | _ => .int
abbrev wsX40 : List Cond := u_ws RX4 TX4 2
theorem nmX4 : ∀ a, a < 2 → ∀ b, b < 2 → a ≠ b → (TX4 a).2.1 ≠ (TX4 b).2.1 := by decide +kernel
theorem tyX4_ok : ∀ k, k < 2 → parseFieldDescriptor (TX4 k).2.2.1 = some (tyX4 k) := by decide +kernel
def RX5 : String := "BlindPost$Ways"
def TX5 : u_T := fun k => match k with
  | 0 => ("BlindPost$Ways", "land", "LBlindPost$Land;", true)
  | 1 => ("BlindPost$Ways", "prices", "[I", true)
  | 2 => ("BlindPost$Ways", "ahead", "[I", true)
  | 3 => ("BlindPost$Ways", "mutes", "I", false)
  | 4 => ("BlindPost$Ways", "through", "[I", true)
  | _ => ("BlindPost$Ways", "length", "I", false)
def tyX5 : Nat → FieldType := fun k => match k with
  | 0 => .object "BlindPost$Land"
  | 1 => .array .int
  | 2 => .array .int
  | 3 => .int
  | 4 => .array .int
  | _ => .int
abbrev wsX50 : List Cond := u_ws RX5 TX5 6
theorem nmX5 : ∀ a, a < 6 → ∀ b, b < 6 → a ≠ b → (TX5 a).2.1 ≠ (TX5 b).2.1 := by decide +kernel
theorem tyX5_ok : ∀ k, k < 6 → parseFieldDescriptor (TX5 k).2.2.1 = some (tyX5 k) := by decide +kernel
def RX6 : String := "BlindPost"
def TX6 : u_T := fun k => match k with
  | 0 => ("BlindPost", "rows", "[LBlindPost$Sheet;", true)
  | 1 => ("BlindPost", "texts", "[LBlindPost$Sheet;", true)
  | 2 => ("BlindPost", "land", "LBlindPost$Land;", true)
  | 3 => ("BlindPost", "drawn", "LBlindPost$Land;", true)
  | 4 => ("BlindPost", "kept", "[LBlindPost$Land;", true)
  | 5 => ("BlindPost", "isKept", "[Z", true)
  | 6 => ("BlindPost", "reading", "LBlindPost$Reading;", true)
  | 7 => ("BlindPost", "ways", "LBlindPost$Ways;", true)
  | 8 => ("BlindPost", "pairs", "LBlindPost$Pairs;", true)
  | 9 => ("BlindPost", "timesFound", "[I", true)
  | 10 => ("BlindPost", "lastFound", "I", false)
  | _ => ("BlindPost", "told", "I", false)
def tyX6 : Nat → FieldType := fun k => match k with
  | 0 => .array (.object "BlindPost$Sheet")
  | 1 => .array (.object "BlindPost$Sheet")
  | 2 => .object "BlindPost$Land"
  | 3 => .object "BlindPost$Land"
  | 4 => .array (.object "BlindPost$Land")
  | 5 => .array .boolean
  | 6 => .object "BlindPost$Reading"
  | 7 => .object "BlindPost$Ways"
  | 8 => .object "BlindPost$Pairs"
  | 9 => .array .int
  | 10 => .int
  | _ => .int
abbrev wsX60 : List Cond := u_ws RX6 TX6 12
theorem nmX6 : ∀ a, a < 12 → ∀ b, b < 12 → a ≠ b → (TX6 a).2.1 ≠ (TX6 b).2.1 := by decide +kernel
theorem tyX6_ok : ∀ k, k < 12 → parseFieldDescriptor (TX6 k).2.2.1 = some (tyX6 k) := by decide +kernel
def RX7 : String := "BlindPostModel"
def TX7 : u_T := fun k => match k with
  | 0 => ("BlindPostModel", "finding", "I", false)
  | 1 => ("BlindPostModel", "findings", "[I", true)
  | 2 => ("BlindPostModel", "asked", "I", false)
  | 3 => ("BlindPostModel", "sizes", "[I", true)
  | 4 => ("BlindPostModel", "rows", "[I", true)
  | 5 => ("BlindPostModel", "moving", "[I", true)
  | 6 => ("BlindPostModel", "lengths", "[I", true)
  | 7 => ("BlindPostModel", "texts", "[I", true)
  | 8 => ("BlindPostModel", "many", "I", false)
  | 9 => ("BlindPostModel", "kinds", "[I", true)
  | 10 => ("BlindPostModel", "known", "[I", true)
  | 11 => ("BlindPostModel", "meetMany", "I", false)
  | 12 => ("BlindPostModel", "meetings", "[I", true)
  | 13 => ("BlindPostModel", "hour", "I", false)
  | 14 => ("BlindPostModel", "letterMany", "I", false)
  | 15 => ("BlindPostModel", "letters", "[I", true)
  | 16 => ("BlindPostModel", "readAt", "I", false)
  | 17 => ("BlindPostModel", "readMany", "I", false)
  | 18 => ("BlindPostModel", "readMeets", "I", false)
  | 19 => ("BlindPostModel", "readKinds", "[I", true)
  | 20 => ("BlindPostModel", "readKnown", "[I", true)
  | 21 => ("BlindPostModel", "readMeetings", "[I", true)
  | 22 => ("BlindPostModel", "kept", "[I", true)
  | 23 => ("BlindPostModel", "way", "[I", true)
  | 24 => ("BlindPostModel", "bestWay", "[I", true)
  | 25 => ("BlindPostModel", "bestMany", "I", false)
  | 26 => ("BlindPostModel", "bestCost", "I", false)
  | 27 => ("BlindPostModel", "wayMany", "I", false)
  | 28 => ("BlindPostModel", "eachSet", "I", false)
  | 29 => ("BlindPostModel", "isWay", "[Z", true)
  | 30 => ("BlindPostModel", "pairMany", "I", false)
  | 31 => ("BlindPostModel", "pairTongues", "[I", true)
  | _ => ("BlindPostModel", "h0", "J", false)
def tyX7 : Nat → FieldType := fun k => match k with
  | 0 => .int
  | 1 => .array .int
  | 2 => .int
  | 3 => .array .int
  | 4 => .array .int
  | 5 => .array .int
  | 6 => .array .int
  | 7 => .array .int
  | 8 => .int
  | 9 => .array .int
  | 10 => .array .int
  | 11 => .int
  | 12 => .array .int
  | 13 => .int
  | 14 => .int
  | 15 => .array .int
  | 16 => .int
  | 17 => .int
  | 18 => .int
  | 19 => .array .int
  | 20 => .array .int
  | 21 => .array .int
  | 22 => .array .int
  | 23 => .array .int
  | 24 => .array .int
  | 25 => .int
  | 26 => .int
  | 27 => .int
  | 28 => .int
  | 29 => .array .boolean
  | 30 => .int
  | 31 => .array .int
  | _ => .long
abbrev wsX70 : List Cond := u_ws RX7 TX7 33
theorem nmX7 : ∀ a, a < 33 → ∀ b, b < 33 → a ≠ b → (TX7 a).2.1 ≠ (TX7 b).2.1 := by decide +kernel
theorem tyX7_ok : ∀ k, k < 33 → parseFieldDescriptor (TX7 k).2.2.1 = some (tyX7 k) := by decide +kernel
def RL : String := "BlindPostLaw"
abbrev vwCl : List vw_C := [(RX0, TX0, 12), (RX1, TX1, 5), (RX2, TX2, 5), (RX3, TX3, 5), (RX4, TX4, 2), (RX5, TX5, 6), (RX6, TX6, 12), (RX7, TX7, 33)]
end
section
/-! THE REFLECTED MACHINE: cells numbered from a base address; one instruction in CPS over abstract locals, stack and heap; answers are Option-valued. -/
/-- a cell with relative references: an array (its component type, length, contents) or an object (its class's number, fields) -/
abbrev GC : Type := (FieldType × vp_A) ⊕ (Nat × List Value)
def cv (B : Nat) : Value → Value
  | .ref a => .ref (B + a)
  | .int x => .int x
  | .long x => .long x
  | .float x => .float x
  | .double x => .double x
  | .null => .null
  | .retAddr x => .retAddr x
abbrev Res (Hp : Type) : Type := Option (Option Value × Hp)
/-- the heap's own operations -/
abbrev Ops (Hp : Type) : Type :=
  (Hp → Nat → Nat → Nat → (Int32 → Res Hp) → Res Hp) ×
  (Hp → Nat → Nat → Nat → (Nat → Res Hp) → Res Hp) ×
  (Hp → Nat → Nat → Nat → (Int64 → Res Hp) → Res Hp) ×
  (Hp → Nat → Nat → Nat → Int32 → (Hp → Res Hp) → Res Hp) ×
  (Hp → Nat → Nat → Nat → Int64 → (Hp → Res Hp) → Res Hp) ×
  (Hp → Nat → Nat → Nat → Nat → (Hp → Res Hp) → Res Hp) ×
  (Hp → Nat → (Nat → Res Hp) → Res Hp) ×
  (Hp → Nat → Int32 → (Int32 → Res Hp) → Res Hp) ×
  (Hp → Nat → Int32 → (Int32 → Res Hp) → Res Hp) ×
  (Hp → Nat → Int32 → (Nat → Res Hp) → Res Hp) ×
  (Hp → Nat → Int32 → Int32 → (Hp → Res Hp) → Res Hp) ×
  (Hp → Nat → Int32 → Int32 → (Hp → Res Hp) → Res Hp) ×
  (Hp → Nat → Int32 → Nat → (Hp → Res Hp) → Res Hp) ×
  (Hp → Nat → Int32 → Nat → Int32 → Int32 → (Hp → Res Hp) → Res Hp)
section OPS
variable {Hp : Type}
abbrev oGI (O : Ops Hp) := O.1
abbrev oGR (O : Ops Hp) := O.2.1
abbrev oGL (O : Ops Hp) := O.2.2.1
abbrev oPI (O : Ops Hp) := O.2.2.2.1
abbrev oPL (O : Ops Hp) := O.2.2.2.2.1
abbrev oPR (O : Ops Hp) := O.2.2.2.2.2.1
abbrev oLN (O : Ops Hp) := O.2.2.2.2.2.2.1
abbrev oAI (O : Ops Hp) := O.2.2.2.2.2.2.2.1
abbrev oAZ (O : Ops Hp) := O.2.2.2.2.2.2.2.2.1
abbrev oAR (O : Ops Hp) := O.2.2.2.2.2.2.2.2.2.1
abbrev oSI (O : Ops Hp) := O.2.2.2.2.2.2.2.2.2.2.1
abbrev oSZ (O : Ops Hp) := O.2.2.2.2.2.2.2.2.2.2.2.1
abbrev oSR (O : Ops Hp) := O.2.2.2.2.2.2.2.2.2.2.2.2.1
abbrev oCP (O : Ops Hp) := O.2.2.2.2.2.2.2.2.2.2.2.2.2
end OPS
/-- abstract locals: what is known at each place -/
abbrev Loca : Type := List (Option Value)
def lget : Loca → Nat → Option Value
  | [], _ => none
  | a :: _, 0 => a
  | _ :: t, i + 1 => lget t i
def lset : Loca → Nat → Option Value → Loca
  | [], _, _ => []
  | _ :: t, 0, v => v :: t
  | a :: t, i + 1, v => a :: lset t i v
/-- the place ahead holds no long: then a store here leaves it alone -/
def lfree : Loca → Nat → Bool
  | _, 0 => true
  | L, i + 1 => match lget L i with
    | some (.long _) => false
    | some (.double _) => false
    | _ => true
def lsto1 (L : Loca) (i : Nat) (v : Value) : Loca := lset L i (some v)
def lsto2 (L : Loca) (i : Nat) (v : Value) : Loca := lset (lset L (i + 1) none) i (some v)
abbrev Ent : Type := Nat × Instr × Nat × List Nat
def fetch : List Ent → Nat → Option (Instr × Nat × List Nat)
  | [], _ => none
  | e :: t, pc => bif Nat.beq e.1 pc then some e.2 else fetch t pc
/-- a call's answer, by its kind -/
def bI {Hp ρ : Type} (r : Res Hp) (k : Int32 → Hp → Option ρ) : Option ρ := match r with
  | some (some (.int v), h) => k v h
  | _ => none
def bL {Hp ρ : Type} (r : Res Hp) (k : Int64 → Hp → Option ρ) : Option ρ := match r with
  | some (some (.long v), h) => k v h
  | _ => none
def bV {Hp ρ : Type} (r : Res Hp) (k : Hp → Option ρ) : Option ρ := match r with
  | some (none, h) => k h
  | _ => none
def retI {Hp : Type} (v : Int32) (h : Hp) : Res Hp := some (some (.int v), h)
def retL {Hp : Type} (v : Int64) (h : Hp) : Res Hp := some (some (.long v), h)
def retV {Hp : Type} (h : Hp) : Res Hp := some (none, h)
def retZ {Hp : Type} (v : Int32) (h : Hp) : Res Hp := if v = 0 then some (some (.int 0), h) else if v = 1 then some (some (.int 1), h) else none
/-- the arguments of a call: the top n of the stack, the first one lowest -/
def topn : Nat → List Value → List Value → Option (List Value × List Value)
  | 0, acc, st => some (acc, st)
  | n + 1, acc, v :: st => topn n (v :: acc) st
  | _ + 1, _, [] => none
def cats : List Value → Nat
  | [] => 0
  | v :: t => v.category + cats t
def fewc (st : List Value) : Bool := Nat.ble (cats st) 8
/-- a switch: pairs of key and target, the rest -/
def swc {Hp : Type} (x : Int32) : List Nat → Nat → (Nat → Res Hp) → Res Hp
  | k :: t :: r, d, κ => if x = Int32.ofNat k then κ t else swc x r d κ
  | _, d, κ => κ d
section STEP
variable {Hp : Type}
abbrev Kt (Hp : Type) : Type := Nat → Loca → List Value → Hp → Res Hp
def ldI (L : Loca) (i : Nat) (κ : Int32 → Res Hp) : Res Hp := match lget L i with
  | some (.int x) => κ x
  | _ => none
def ldL (L : Loca) (i : Nat) (κ : Int64 → Res Hp) : Res Hp := match lget L i with
  | some (.long x) => κ x
  | _ => none
def ldA (L : Loca) (i : Nat) (κ : Nat → Res Hp) : Res Hp := match lget L i with
  | some (.ref x) => κ x
  | _ => none
def on1 (L : Loca) (i : Nat) (v : Value) (κ : Loca → Res Hp) : Res Hp := bif lfree L i && Nat.ble (i + 1) L.length then κ (lsto1 L i v) else none
def on2 (L : Loca) (i : Nat) (v : Value) (κ : Loca → Res Hp) : Res Hp := bif lfree L i && Nat.ble (i + 2) L.length then κ (lsto2 L i v) else none
def stIf (c : ClassFile.Cond) (x y : Int32) (a b : Res Hp) : Res Hp := match c with
  | .eq => if x = y then a else b
  | .ne => if x = y then b else a
  | .lt => if x < y then a else b
  | .ge => if y ≤ x then a else b
  | .gt => if y < x then a else b
  | .le => if x ≤ y then a else b
def un1 (st : List Value) (κ : Int32 → List Value → Res Hp) : Res Hp := match st with
  | .int x :: r => κ x r
  | _ => none
def un2 (st : List Value) (κ : Int32 → Int32 → List Value → Res Hp) : Res Hp := match st with
  | .int y :: .int x :: r => κ x y r
  | _ => none
def ul1 (st : List Value) (κ : Int64 → List Value → Res Hp) : Res Hp := match st with
  | .long x :: r => κ x r
  | _ => none
def ul2 (st : List Value) (κ : Int64 → Int64 → List Value → Res Hp) : Res Hp := match st with
  | .long y :: .long x :: r => κ x y r
  | _ => none
def ua1 (st : List Value) (κ : Nat → List Value → Res Hp) : Res Hp := match st with
  | .ref x :: r => κ x r
  | _ => none
/-- one instruction that makes no cell and calls nothing; rk: what kind the method returns (0 void, 1 int, 2 boolean, 3 long) -/
def step (O : Ops Hp) (rk : Nat) (i : Instr) (len : Nat) (aux : List Nat) (pc : Nat) (L : Loca) (st : List Value) (h : Hp) (k : Kt Hp) : Res Hp := match i with
  | .iconst n => k (pc + 1) L (.int (Int32.ofInt n) :: st) h
  | .bipush n => k (pc + 2) L (.int (Int8.ofInt n).toInt32 :: st) h
  | .sipush n => k (pc + 3) L (.int (Int16.ofInt n).toInt32 :: st) h
  | .lconst n => k (pc + 1) L (.long (Int64.ofNat n.val) :: st) h
  | .ldc _ => match aux with
    | v :: _ => k (pc + 2) L (.int (Int32.ofNat v) :: st) h
    | [] => none
  | .ldc_w _ => match aux with
    | v :: _ => k (pc + 3) L (.int (Int32.ofNat v) :: st) h
    | [] => none
  | .ldc2_w _ => match aux with
    | v :: _ => k (pc + 3) L (.long (Int64.ofNat v) :: st) h
    | [] => none
  | .iload_n j => ldI L j.val fun x => k (pc + 1) L (.int x :: st) h
  | .iload j => ldI L j fun x => k (pc + 2) L (.int x :: st) h
  | .lload_n j => ldL L j.val fun x => k (pc + 1) L (.long x :: st) h
  | .lload j => ldL L j fun x => k (pc + 2) L (.long x :: st) h
  | .aload_n j => ldA L j.val fun x => k (pc + 1) L (.ref x :: st) h
  | .aload j => ldA L j fun x => k (pc + 2) L (.ref x :: st) h
  | .istore_n j => un1 st fun x r => on1 L j.val (.int x) fun L' => k (pc + 1) L' r h
  | .istore j => un1 st fun x r => on1 L j (.int x) fun L' => k (pc + 2) L' r h
  | .lstore_n j => ul1 st fun x r => on2 L j.val (.long x) fun L' => k (pc + 1) L' r h
  | .lstore j => ul1 st fun x r => on2 L j (.long x) fun L' => k (pc + 2) L' r h
  | .astore_n j => ua1 st fun x r => on1 L j.val (.ref x) fun L' => k (pc + 1) L' r h
  | .astore j => ua1 st fun x r => on1 L j (.ref x) fun L' => k (pc + 2) L' r h
  | .iinc j n => ldI L j fun x => on1 L j (.int (x + Int32.ofInt n)) fun L' => k (pc + 3) L' st h
  | .iadd => un2 st fun x y r => k (pc + 1) L (.int (x + y) :: r) h
  | .isub => un2 st fun x y r => k (pc + 1) L (.int (x - y) :: r) h
  | .imul => un2 st fun x y r => k (pc + 1) L (.int (x * y) :: r) h
  | .iand => un2 st fun x y r => k (pc + 1) L (.int (x &&& y) :: r) h
  | .ior => un2 st fun x y r => k (pc + 1) L (.int (x ||| y) :: r) h
  | .ixor => un2 st fun x y r => k (pc + 1) L (.int (x ^^^ y) :: r) h
  | .ishl => un2 st fun x y r => k (pc + 1) L (.int (x <<< (y &&& 31)) :: r) h
  | .ishr => un2 st fun x y r => k (pc + 1) L (.int (x >>> (y &&& 31)) :: r) h
  | .iushr => un2 st fun x y r => k (pc + 1) L (.int (x.toUInt32 >>> (y.toUInt32 &&& Int32.toUInt32 31)).toInt32 :: r) h
  | .idiv => un2 st fun x y r => if y = 0 then none else k (pc + 1) L (.int (x / y) :: r) h
  | .irem => un2 st fun x y r => if y = 0 then none else k (pc + 1) L (.int (x - x / y * y) :: r) h
  | .ladd => ul2 st fun x y r => k (pc + 1) L (.long (x + y) :: r) h
  | .lsub => ul2 st fun x y r => k (pc + 1) L (.long (x - y) :: r) h
  | .lmul => ul2 st fun x y r => k (pc + 1) L (.long (x * y) :: r) h
  | .ldiv => ul2 st fun x y r => if y = 0 then none else k (pc + 1) L (.long (x / y) :: r) h
  | .lrem => ul2 st fun x y r => if y = 0 then none else k (pc + 1) L (.long (x - x / y * y) :: r) h
  | .lcmp => ul2 st fun x y r => k (pc + 1) L (.int (lg_cmp x y) :: r) h
  | .i2l => un1 st fun x r => k (pc + 1) L (.long x.toInt64 :: r) h
  | .l2i => ul1 st fun x r => k (pc + 1) L (.int x.toInt32 :: r) h
  | .i2b => un1 st fun x r => k (pc + 1) L (.int x.toInt8.toInt32 :: r) h
  | .dup => match st with
    | .int x :: r => k (pc + 1) L (.int x :: .int x :: r) h
    | .ref x :: r => k (pc + 1) L (.ref x :: .ref x :: r) h
    | _ => none
  | .dup2 => match st with
    | .int y :: .ref x :: r => k (pc + 1) L (.int y :: .ref x :: .int y :: .ref x :: r) h
    | _ => none
  | .pop => match st with
    | .int _ :: r => k (pc + 1) L r h
    | _ => none
  | .goto _ => match aux with
    | t :: _ => k t L st h
    | [] => none
  | .ifCond c _ => match aux with
    | t :: _ => un1 st fun x r => stIf c x 0 (k t L r h) (k (pc + 3) L r h)
    | [] => none
  | .if_icmp c _ => match aux with
    | t :: _ => un2 st fun x y r => stIf c x y (k t L r h) (k (pc + 3) L r h)
    | [] => none
  | .tableswitch _ _ _ _ => match aux with
    | d :: ps => un1 st fun x r => swc x ps d fun t => k t L r h
    | [] => none
  | .lookupswitch _ _ => match aux with
    | d :: ps => un1 st fun x r => swc x ps d fun t => k t L r h
    | [] => none
  | .getfield _ => match aux with
    | [ci, f, 0] => ua1 st fun a r => oGI O h a ci f fun v => k (pc + 3) L (.int v :: r) h
    | [ci, f, 1] => ua1 st fun a r => oGR O h a ci f fun v => k (pc + 3) L (.ref v :: r) h
    | [ci, f, 2] => ua1 st fun a r => oGL O h a ci f fun v => k (pc + 3) L (.long v :: r) h
    | _ => none
  | .putfield _ => match aux with
    | [ci, f, 0] => un1 st fun v r => ua1 r fun a r => oPI O h a ci f v fun h' => k (pc + 3) L r h'
    | [ci, f, 1] => ua1 st fun v r => ua1 r fun a r => oPR O h a ci f v fun h' => k (pc + 3) L r h'
    | [ci, f, 2] => ul1 st fun v r => ua1 r fun a r => oPL O h a ci f v fun h' => k (pc + 3) L r h'
    | _ => none
  | .arraylength => ua1 st fun a r => oLN O h a fun n => k (pc + 1) L (.int (Int32.ofNat n) :: r) h
  | .iaload => un1 st fun i r => ua1 r fun a r => oAI O h a i fun v => k (pc + 1) L (.int v :: r) h
  | .baload => un1 st fun i r => ua1 r fun a r => oAZ O h a i fun v => k (pc + 1) L (.int v :: r) h
  | .aaload => un1 st fun i r => ua1 r fun a r => oAR O h a i fun v => k (pc + 1) L (.ref v :: r) h
  | .iastore => un2 st fun i v r => ua1 r fun a r => oSI O h a i v fun h' => k (pc + 1) L r h'
  | .bastore => un2 st fun i v r => ua1 r fun a r => oSZ O h a i v fun h' => k (pc + 1) L r h'
  | .aastore => ua1 st fun v r => un1 r fun i r => ua1 r fun a r => oSR O h a i v fun h' => k (pc + 1) L r h'
  | .ireturn => match st with
    | [.int v] => match rk with
      | 1 => retI v h
      | 2 => retZ v h
      | _ => none
    | _ => none
  | .lreturn => match st with
    | [.long v] => match rk with
      | 3 => retL v h
      | _ => none
    | _ => none
  | .return_ => match st with
    | [] => match rk with
      | 0 => retV h
      | _ => none
    | _ => none
  | _ => none
abbrev Sem (Hp : Type) : Type := List (Nat × (List Value → Hp → Res Hp))
def semOf : Sem Hp → Nat → List Value → Hp → Res Hp
  | [], _ => fun _ _ => none
  | e :: t, mi => bif Nat.beq e.1 mi then e.2 else semOf t mi
/-- a call: aux = the method's number, how many values it takes, what kind it returns -/
def callF (S : Sem Hp) (aux : List Nat) (pc : Nat) (L : Loca) (st : List Value) (h : Hp) (k : Kt Hp) : Res Hp := match aux with
  | [mi, n, rk] => match topn n [] st with
    | none => none
    | some (as, r) => bif fewc r then (match rk with
      | 0 => bV (semOf S mi as h) fun h' => k (pc + 3) L r h'
      | 3 => bL (semOf S mi as h) fun v h' => k (pc + 3) L (.long v :: r) h'
      | _ => bI (semOf S mi as h) fun v h' => k (pc + 3) L (.int v :: r) h') else none
  | _ => none
/-- System.arraycopy over ints -/
def copyF (O : Ops Hp) (pc : Nat) (L : Loca) (st : List Value) (h : Hp) (k : Kt Hp) : Res Hp := match st with
  | .int n :: .int j :: .ref b :: .int i :: .ref a :: r => bif fewc r then oCP O h a i b j n fun h' => k (pc + 3) L r h' else none
  | _ => none
/-- the instructions of a method that makes no cell -/
def exec1 (O : Ops Hp) (S : Sem Hp) (rk : Nat) (code : List Ent) (pc : Nat) (L : Loca) (st : List Value) (h : Hp) (k : Kt Hp) : Res Hp := match fetch code pc with
  | none => none
  | some (i, len, aux) => match i with
    | .invokevirtual _ => callF S aux pc L st h k
    | .invokestatic _ => match aux with
      | [] => copyF O pc L st h k
      | _ => callF S aux pc L st h k
    | _ => step O rk i len aux pc L st h k
abbrev Stop (Hp : Type) : Type := List (Nat × List Nat × (List Value → List Value → Hp → Res Hp))
def pickL (L : Loca) : List Nat → Option (List Value)
  | [] => some []
  | i :: is => match lget L i with
    | none => none
    | some v => match pickL L is with
      | none => none
      | some vs => some (v :: vs)
def stopOf : Stop Hp → Nat → Option (List Nat × (List Value → List Value → Hp → Res Hp))
  | [], _ => none
  | e :: t, pc => bif Nat.beq e.1 pc then some e.2 else stopOf t pc
def runF (O : Ops Hp) (S : Sem Hp) (Z : Stop Hp) (rk : Nat) (code : List Ent) (n : Nat) : Kt Hp :=
  Nat.rec (fun _ _ _ _ => none) (fun _ ih pc L st h => match stopOf Z pc with
    | some z => match pickL L z.1 with
      | some vs => z.2 vs st h
      | none => none
    | none => exec1 O S rk code pc L st h ih) n
end STEP
/-- a loop in CPS -/
def loopC {S ρ : Type} (b : S → (S → Option ρ) → Option ρ) (n : Nat) : S → Option ρ :=
  Nat.rec (fun _ => none) (fun _ ih s => b s ih) n
end
