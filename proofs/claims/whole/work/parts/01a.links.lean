set_option maxRecDepth 100000 in
theorem i_X0 : ∀ w ∈ u_ws RX0 TX0 12, w ∈ lw_tbl := by
  intro w hw
  have hq : u_ws RX0 TX0 12 = [u_lay RX0 TX0 0, u_lay RX0 TX0 1, u_lay RX0 TX0 2, u_lay RX0 TX0 3, u_lay RX0 TX0 4, u_lay RX0 TX0 5, u_lay RX0 TX0 6, u_lay RX0 TX0 7, u_lay RX0 TX0 8, u_lay RX0 TX0 9, u_lay RX0 TX0 10, u_lay RX0 TX0 11] := rfl
  rw [hq] at hw
  simp only [List.mem_cons, List.not_mem_nil, or_false] at hw
  rcases hw with rfl | rfl | rfl | rfl | rfl | rfl | rfl | rfl | rfl | rfl | rfl | rfl
  · exact List.mem_of_getElem? (i := 158) (by decide +kernel)
  · exact List.mem_of_getElem? (i := 160) (by decide +kernel)
  · exact List.mem_of_getElem? (i := 162) (by decide +kernel)
  · exact List.mem_of_getElem? (i := 164) (by decide +kernel)
  · exact List.mem_of_getElem? (i := 166) (by decide +kernel)
  · exact List.mem_of_getElem? (i := 168) (by decide +kernel)
  · exact List.mem_of_getElem? (i := 170) (by decide +kernel)
  · exact List.mem_of_getElem? (i := 172) (by decide +kernel)
  · exact List.mem_of_getElem? (i := 174) (by decide +kernel)
  · exact List.mem_of_getElem? (i := 176) (by decide +kernel)
  · exact List.mem_of_getElem? (i := 178) (by decide +kernel)
  · exact List.mem_of_getElem? (i := 180) (by decide +kernel)
set_option maxRecDepth 100000 in
theorem i_X1 : ∀ w ∈ u_ws RX1 TX1 5, w ∈ lw_tbl := by
  intro w hw
  have hq : u_ws RX1 TX1 5 = [u_lay RX1 TX1 0, u_lay RX1 TX1 1, u_lay RX1 TX1 2, u_lay RX1 TX1 3, u_lay RX1 TX1 4] := rfl
  rw [hq] at hw
  simp only [List.mem_cons, List.not_mem_nil, or_false] at hw
  rcases hw with rfl | rfl | rfl | rfl | rfl
  · exact List.mem_of_getElem? (i := 118) (by decide +kernel)
  · exact List.mem_of_getElem? (i := 120) (by decide +kernel)
  · exact List.mem_of_getElem? (i := 122) (by decide +kernel)
  · exact List.mem_of_getElem? (i := 124) (by decide +kernel)
  · exact List.mem_of_getElem? (i := 126) (by decide +kernel)
set_option maxRecDepth 100000 in
theorem i_X2 : ∀ w ∈ u_ws RX2 TX2 5, w ∈ lw_tbl := by
  intro w hw
  have hq : u_ws RX2 TX2 5 = [u_lay RX2 TX2 0, u_lay RX2 TX2 1, u_lay RX2 TX2 2, u_lay RX2 TX2 3, u_lay RX2 TX2 4] := rfl
  rw [hq] at hw
  simp only [List.mem_cons, List.not_mem_nil, or_false] at hw
  rcases hw with rfl | rfl | rfl | rfl | rfl
  · exact List.mem_of_getElem? (i := 247) (by decide +kernel)
  · exact List.mem_of_getElem? (i := 249) (by decide +kernel)
  · exact List.mem_of_getElem? (i := 251) (by decide +kernel)
  · exact List.mem_of_getElem? (i := 253) (by decide +kernel)
  · exact List.mem_of_getElem? (i := 255) (by decide +kernel)
set_option maxRecDepth 100000 in
theorem i_X3 : ∀ w ∈ u_ws RX3 TX3 5, w ∈ lw_tbl := by
  intro w hw
  have hq : u_ws RX3 TX3 5 = [u_lay RX3 TX3 0, u_lay RX3 TX3 1, u_lay RX3 TX3 2, u_lay RX3 TX3 3, u_lay RX3 TX3 4] := rfl
  rw [hq] at hw
  simp only [List.mem_cons, List.not_mem_nil, or_false] at hw
  rcases hw with rfl | rfl | rfl | rfl | rfl
  · exact List.mem_of_getElem? (i := 195) (by decide +kernel)
  · exact List.mem_of_getElem? (i := 197) (by decide +kernel)
  · exact List.mem_of_getElem? (i := 199) (by decide +kernel)
  · exact List.mem_of_getElem? (i := 201) (by decide +kernel)
  · exact List.mem_of_getElem? (i := 203) (by decide +kernel)
set_option maxRecDepth 100000 in
theorem i_X4 : ∀ w ∈ u_ws RX4 TX4 2, w ∈ lw_tbl := by
  intro w hw
  have hq : u_ws RX4 TX4 2 = [u_lay RX4 TX4 0, u_lay RX4 TX4 1] := rfl
  rw [hq] at hw
  simp only [List.mem_cons, List.not_mem_nil, or_false] at hw
  rcases hw with rfl | rfl
  · exact List.mem_of_getElem? (i := 269) (by decide +kernel)
  · exact List.mem_of_getElem? (i := 271) (by decide +kernel)
set_option maxRecDepth 100000 in
theorem i_X5 : ∀ w ∈ u_ws RX5 TX5 6, w ∈ lw_tbl := by
  intro w hw
  have hq : u_ws RX5 TX5 6 = [u_lay RX5 TX5 0, u_lay RX5 TX5 1, u_lay RX5 TX5 2, u_lay RX5 TX5 3, u_lay RX5 TX5 4, u_lay RX5 TX5 5] := rfl
  rw [hq] at hw
  simp only [List.mem_cons, List.not_mem_nil, or_false] at hw
  rcases hw with rfl | rfl | rfl | rfl | rfl | rfl
  · exact List.mem_of_getElem? (i := 221) (by decide +kernel)
  · exact List.mem_of_getElem? (i := 223) (by decide +kernel)
  · exact List.mem_of_getElem? (i := 225) (by decide +kernel)
  · exact List.mem_of_getElem? (i := 227) (by decide +kernel)
  · exact List.mem_of_getElem? (i := 229) (by decide +kernel)
  · exact List.mem_of_getElem? (i := 231) (by decide +kernel)
set_option maxRecDepth 100000 in
theorem i_X6 : ∀ w ∈ u_ws RX6 TX6 12, w ∈ lw_tbl := by
  intro w hw
  have hq : u_ws RX6 TX6 12 = [u_lay RX6 TX6 0, u_lay RX6 TX6 1, u_lay RX6 TX6 2, u_lay RX6 TX6 3, u_lay RX6 TX6 4, u_lay RX6 TX6 5, u_lay RX6 TX6 6, u_lay RX6 TX6 7, u_lay RX6 TX6 8, u_lay RX6 TX6 9, u_lay RX6 TX6 10, u_lay RX6 TX6 11] := rfl
  rw [hq] at hw
  simp only [List.mem_cons, List.not_mem_nil, or_false] at hw
  rcases hw with rfl | rfl | rfl | rfl | rfl | rfl | rfl | rfl | rfl | rfl | rfl | rfl
  · exact List.mem_of_getElem? (i := 286) (by decide +kernel)
  · exact List.mem_of_getElem? (i := 288) (by decide +kernel)
  · exact List.mem_of_getElem? (i := 290) (by decide +kernel)
  · exact List.mem_of_getElem? (i := 292) (by decide +kernel)
  · exact List.mem_of_getElem? (i := 294) (by decide +kernel)
  · exact List.mem_of_getElem? (i := 296) (by decide +kernel)
  · exact List.mem_of_getElem? (i := 298) (by decide +kernel)
  · exact List.mem_of_getElem? (i := 300) (by decide +kernel)
  · exact List.mem_of_getElem? (i := 302) (by decide +kernel)
  · exact List.mem_of_getElem? (i := 304) (by decide +kernel)
  · exact List.mem_of_getElem? (i := 306) (by decide +kernel)
  · exact List.mem_of_getElem? (i := 308) (by decide +kernel)
set_option maxRecDepth 100000 in
theorem i_X7 : ∀ w ∈ u_ws RX7 TX7 33, w ∈ lw_tbl := by
  intro w hw
  have hq : u_ws RX7 TX7 33 = [u_lay RX7 TX7 0, u_lay RX7 TX7 1, u_lay RX7 TX7 2, u_lay RX7 TX7 3, u_lay RX7 TX7 4, u_lay RX7 TX7 5, u_lay RX7 TX7 6, u_lay RX7 TX7 7, u_lay RX7 TX7 8, u_lay RX7 TX7 9, u_lay RX7 TX7 10, u_lay RX7 TX7 11, u_lay RX7 TX7 12, u_lay RX7 TX7 13, u_lay RX7 TX7 14, u_lay RX7 TX7 15, u_lay RX7 TX7 16, u_lay RX7 TX7 17, u_lay RX7 TX7 18, u_lay RX7 TX7 19, u_lay RX7 TX7 20, u_lay RX7 TX7 21, u_lay RX7 TX7 22, u_lay RX7 TX7 23, u_lay RX7 TX7 24, u_lay RX7 TX7 25, u_lay RX7 TX7 26, u_lay RX7 TX7 27, u_lay RX7 TX7 28, u_lay RX7 TX7 29, u_lay RX7 TX7 30, u_lay RX7 TX7 31, u_lay RX7 TX7 32] := rfl
  rw [hq] at hw
  simp only [List.mem_cons, List.not_mem_nil, or_false] at hw
  rcases hw with rfl | rfl | rfl | rfl | rfl | rfl | rfl | rfl | rfl | rfl | rfl | rfl | rfl | rfl | rfl | rfl | rfl | rfl | rfl | rfl | rfl | rfl | rfl | rfl | rfl | rfl | rfl | rfl | rfl | rfl | rfl | rfl | rfl
  · exact List.mem_of_getElem? (i := 954) (by decide +kernel)
  · exact List.mem_of_getElem? (i := 956) (by decide +kernel)
  · exact List.mem_of_getElem? (i := 958) (by decide +kernel)
  · exact List.mem_of_getElem? (i := 960) (by decide +kernel)
  · exact List.mem_of_getElem? (i := 962) (by decide +kernel)
  · exact List.mem_of_getElem? (i := 964) (by decide +kernel)
  · exact List.mem_of_getElem? (i := 966) (by decide +kernel)
  · exact List.mem_of_getElem? (i := 968) (by decide +kernel)
  · exact List.mem_of_getElem? (i := 970) (by decide +kernel)
  · exact List.mem_of_getElem? (i := 972) (by decide +kernel)
  · exact List.mem_of_getElem? (i := 974) (by decide +kernel)
  · exact List.mem_of_getElem? (i := 976) (by decide +kernel)
  · exact List.mem_of_getElem? (i := 978) (by decide +kernel)
  · exact List.mem_of_getElem? (i := 980) (by decide +kernel)
  · exact List.mem_of_getElem? (i := 982) (by decide +kernel)
  · exact List.mem_of_getElem? (i := 984) (by decide +kernel)
  · exact List.mem_of_getElem? (i := 986) (by decide +kernel)
  · exact List.mem_of_getElem? (i := 988) (by decide +kernel)
  · exact List.mem_of_getElem? (i := 990) (by decide +kernel)
  · exact List.mem_of_getElem? (i := 992) (by decide +kernel)
  · exact List.mem_of_getElem? (i := 994) (by decide +kernel)
  · exact List.mem_of_getElem? (i := 996) (by decide +kernel)
  · exact List.mem_of_getElem? (i := 998) (by decide +kernel)
  · exact List.mem_of_getElem? (i := 1000) (by decide +kernel)
  · exact List.mem_of_getElem? (i := 1002) (by decide +kernel)
  · exact List.mem_of_getElem? (i := 1004) (by decide +kernel)
  · exact List.mem_of_getElem? (i := 1006) (by decide +kernel)
  · exact List.mem_of_getElem? (i := 1008) (by decide +kernel)
  · exact List.mem_of_getElem? (i := 1010) (by decide +kernel)
  · exact List.mem_of_getElem? (i := 1012) (by decide +kernel)
  · exact List.mem_of_getElem? (i := 1014) (by decide +kernel)
  · exact List.mem_of_getElem? (i := 1016) (by decide +kernel)
  · exact List.mem_of_getElem? (i := 1018) (by decide +kernel)
def ownN : Nat → String
  | 0 => "BlindPost$Land"
  | 1 => "BlindPost$Letter"
  | 2 => "BlindPost$Pairs"
  | 3 => "BlindPost$Reading"
  | 4 => "BlindPost$Sheet"
  | 5 => "BlindPost$Ways"
  | 6 => "BlindPost"
  | 7 => "BlindPostModel"
  | 8 => "BlindPostLaw"
  | 9 => "java/lang/Integer"
  | 10 => "java/lang/Math"
  | 11 => "java/util/Arrays"
  | _ => ""
/-- a field link: of the owner, at a pool place, to the field k of the class ci -/
def FldOK (q : Nat × Nat × Nat × Nat) : Prop := ∃ (C : String) (T : u_T) (N : Nat), vwCl[q.2.2.1]? = some (C, T, N) ∧ q.2.2.2 < N ∧ Jvm.Cond.fieldLink (ownN q.1) q.2.1 (T q.2.2.2).1 (T q.2.2.2).2.1 (T q.2.2.2).2.2.1 ∈ lw_tbl
def fldL : List (Nat × Nat × Nat × Nat) := [(0, 9, 0, 0), (0, 15, 0, 1), (0, 18, 0, 2), (0, 21, 0, 3), (0, 24, 0, 4), (0, 29, 0, 5), (0, 32, 0, 6), (0, 37, 0, 7), (0, 41, 0, 8), (0, 45, 0, 9), (0, 48, 0, 10), (0, 51, 0, 11), (0, 111, 1, 3), (0, 118, 1, 4), (0, 168, 1, 2), (0, 171, 1, 0), (1, 9, 1, 0), (1, 15, 1, 1), (1, 18, 1, 2), (1, 22, 1, 3), (1, 25, 1, 4), (2, 9, 2, 2), (2, 15, 2, 3), (2, 19, 2, 4), (2, 22, 2, 0), (2, 26, 2, 1), (2, 30, 0, 1), (2, 58, 0, 8), (3, 11, 3, 1), (3, 15, 3, 2), (3, 18, 3, 3), (3, 21, 3, 4), (3, 24, 3, 0), (3, 33, 4, 1), (3, 38, 4, 0), (3, 61, 0, 9), (3, 68, 0, 8), (3, 78, 0, 1), (4, 11, 4, 1), (4, 15, 4, 0), (5, 9, 5, 1), (5, 15, 5, 2), (5, 18, 5, 3), (5, 22, 5, 4), (5, 25, 5, 5), (5, 28, 5, 0), (5, 32, 0, 8), (5, 48, 0, 6), (5, 61, 0, 5), (6, 11, 6, 0), (6, 15, 6, 1), (6, 21, 6, 2), (6, 25, 6, 3), (6, 28, 6, 4), (6, 32, 6, 5), (6, 41, 6, 6), (6, 48, 6, 7), (6, 57, 6, 8), (6, 61, 6, 9), (6, 65, 6, 10), (6, 69, 6, 11), (6, 90, 4, 0), (6, 100, 4, 1), (6, 127, 0, 8), (6, 137, 0, 0), (6, 149, 0, 1), (6, 158, 0, 9), (6, 177, 0, 5), (6, 181, 0, 10), (6, 184, 0, 7), (6, 188, 0, 11), (6, 215, 1, 0), (6, 218, 1, 2), (6, 238, 5, 4), (6, 239, 5, 5), (6, 270, 2, 3), (6, 273, 2, 4), (7, 7, 7, 1), (7, 13, 7, 3), (7, 16, 7, 4), (7, 19, 7, 5), (7, 22, 7, 6), (7, 25, 7, 7), (7, 28, 7, 9), (7, 31, 7, 10), (7, 34, 7, 12), (7, 37, 7, 15), (7, 40, 7, 19), (7, 43, 7, 20), (7, 46, 7, 21), (7, 49, 7, 22), (7, 52, 7, 23), (7, 55, 7, 24), (7, 58, 7, 29), (7, 62, 7, 31), (7, 65, 7, 0), (7, 69, 7, 2), (7, 107, 7, 16), (7, 116, 7, 18), (7, 119, 7, 17), (7, 131, 7, 8), (7, 134, 7, 11), (7, 137, 7, 13), (7, 140, 7, 14), (7, 217, 7, 27), (7, 220, 7, 28), (7, 223, 7, 26), (7, 227, 7, 25), (7, 250, 7, 30), (7, 282, 7, 32)]
set_option maxRecDepth 100000 in
theorem fldL_ok : ∀ q ∈ fldL, FldOK q := by
  unfold fldL
  refine List.forall_mem_cons.mpr ⟨⟨RX0, TX0, 12, rfl, by decide, List.mem_of_getElem? (i := 130) (by decide +kernel)⟩, ?_⟩
  refine List.forall_mem_cons.mpr ⟨⟨RX0, TX0, 12, rfl, by decide, List.mem_of_getElem? (i := 132) (by decide +kernel)⟩, ?_⟩
  refine List.forall_mem_cons.mpr ⟨⟨RX0, TX0, 12, rfl, by decide, List.mem_of_getElem? (i := 136) (by decide +kernel)⟩, ?_⟩
  refine List.forall_mem_cons.mpr ⟨⟨RX0, TX0, 12, rfl, by decide, List.mem_of_getElem? (i := 137) (by decide +kernel)⟩, ?_⟩
  refine List.forall_mem_cons.mpr ⟨⟨RX0, TX0, 12, rfl, by decide, List.mem_of_getElem? (i := 138) (by decide +kernel)⟩, ?_⟩
  refine List.forall_mem_cons.mpr ⟨⟨RX0, TX0, 12, rfl, by decide, List.mem_of_getElem? (i := 139) (by decide +kernel)⟩, ?_⟩
  refine List.forall_mem_cons.mpr ⟨⟨RX0, TX0, 12, rfl, by decide, List.mem_of_getElem? (i := 142) (by decide +kernel)⟩, ?_⟩
  refine List.forall_mem_cons.mpr ⟨⟨RX0, TX0, 12, rfl, by decide, List.mem_of_getElem? (i := 144) (by decide +kernel)⟩, ?_⟩
  refine List.forall_mem_cons.mpr ⟨⟨RX0, TX0, 12, rfl, by decide, List.mem_of_getElem? (i := 146) (by decide +kernel)⟩, ?_⟩
  refine List.forall_mem_cons.mpr ⟨⟨RX0, TX0, 12, rfl, by decide, List.mem_of_getElem? (i := 151) (by decide +kernel)⟩, ?_⟩
  refine List.forall_mem_cons.mpr ⟨⟨RX0, TX0, 12, rfl, by decide, List.mem_of_getElem? (i := 154) (by decide +kernel)⟩, ?_⟩
  refine List.forall_mem_cons.mpr ⟨⟨RX0, TX0, 12, rfl, by decide, List.mem_of_getElem? (i := 156) (by decide +kernel)⟩, ?_⟩
  refine List.forall_mem_cons.mpr ⟨⟨RX1, TX1, 5, rfl, by decide, List.mem_of_getElem? (i := 115) (by decide +kernel)⟩, ?_⟩
  refine List.forall_mem_cons.mpr ⟨⟨RX1, TX1, 5, rfl, by decide, List.mem_of_getElem? (i := 117) (by decide +kernel)⟩, ?_⟩
  refine List.forall_mem_cons.mpr ⟨⟨RX1, TX1, 5, rfl, by decide, List.mem_of_getElem? (i := 113) (by decide +kernel)⟩, ?_⟩
  refine List.forall_mem_cons.mpr ⟨⟨RX1, TX1, 5, rfl, by decide, List.mem_of_getElem? (i := 109) (by decide +kernel)⟩, ?_⟩
  refine List.forall_mem_cons.mpr ⟨⟨RX1, TX1, 5, rfl, by decide, List.mem_of_getElem? (i := 107) (by decide +kernel)⟩, ?_⟩
  refine List.forall_mem_cons.mpr ⟨⟨RX1, TX1, 5, rfl, by decide, List.mem_of_getElem? (i := 110) (by decide +kernel)⟩, ?_⟩
  refine List.forall_mem_cons.mpr ⟨⟨RX1, TX1, 5, rfl, by decide, List.mem_of_getElem? (i := 111) (by decide +kernel)⟩, ?_⟩
  refine List.forall_mem_cons.mpr ⟨⟨RX1, TX1, 5, rfl, by decide, List.mem_of_getElem? (i := 114) (by decide +kernel)⟩, ?_⟩
  refine List.forall_mem_cons.mpr ⟨⟨RX1, TX1, 5, rfl, by decide, List.mem_of_getElem? (i := 116) (by decide +kernel)⟩, ?_⟩
  refine List.forall_mem_cons.mpr ⟨⟨RX2, TX2, 5, rfl, by decide, List.mem_of_getElem? (i := 242) (by decide +kernel)⟩, ?_⟩
  refine List.forall_mem_cons.mpr ⟨⟨RX2, TX2, 5, rfl, by decide, List.mem_of_getElem? (i := 243) (by decide +kernel)⟩, ?_⟩
  refine List.forall_mem_cons.mpr ⟨⟨RX2, TX2, 5, rfl, by decide, List.mem_of_getElem? (i := 245) (by decide +kernel)⟩, ?_⟩
  refine List.forall_mem_cons.mpr ⟨⟨RX2, TX2, 5, rfl, by decide, List.mem_of_getElem? (i := 240) (by decide +kernel)⟩, ?_⟩
  refine List.forall_mem_cons.mpr ⟨⟨RX2, TX2, 5, rfl, by decide, List.mem_of_getElem? (i := 241) (by decide +kernel)⟩, ?_⟩
  refine List.forall_mem_cons.mpr ⟨⟨RX0, TX0, 12, rfl, by decide, List.mem_of_getElem? (i := 133) (by decide +kernel)⟩, ?_⟩
  refine List.forall_mem_cons.mpr ⟨⟨RX0, TX0, 12, rfl, by decide, List.mem_of_getElem? (i := 148) (by decide +kernel)⟩, ?_⟩
  refine List.forall_mem_cons.mpr ⟨⟨RX3, TX3, 5, rfl, by decide, List.mem_of_getElem? (i := 191) (by decide +kernel)⟩, ?_⟩
  refine List.forall_mem_cons.mpr ⟨⟨RX3, TX3, 5, rfl, by decide, List.mem_of_getElem? (i := 192) (by decide +kernel)⟩, ?_⟩
  refine List.forall_mem_cons.mpr ⟨⟨RX3, TX3, 5, rfl, by decide, List.mem_of_getElem? (i := 193) (by decide +kernel)⟩, ?_⟩
  refine List.forall_mem_cons.mpr ⟨⟨RX3, TX3, 5, rfl, by decide, List.mem_of_getElem? (i := 194) (by decide +kernel)⟩, ?_⟩
  refine List.forall_mem_cons.mpr ⟨⟨RX3, TX3, 5, rfl, by decide, List.mem_of_getElem? (i := 190) (by decide +kernel)⟩, ?_⟩
  refine List.forall_mem_cons.mpr ⟨⟨RX4, TX4, 2, rfl, by decide, List.mem_of_getElem? (i := 267) (by decide +kernel)⟩, ?_⟩
  refine List.forall_mem_cons.mpr ⟨⟨RX4, TX4, 2, rfl, by decide, List.mem_of_getElem? (i := 264) (by decide +kernel)⟩, ?_⟩
  refine List.forall_mem_cons.mpr ⟨⟨RX0, TX0, 12, rfl, by decide, List.mem_of_getElem? (i := 152) (by decide +kernel)⟩, ?_⟩
  refine List.forall_mem_cons.mpr ⟨⟨RX0, TX0, 12, rfl, by decide, List.mem_of_getElem? (i := 149) (by decide +kernel)⟩, ?_⟩
  refine List.forall_mem_cons.mpr ⟨⟨RX0, TX0, 12, rfl, by decide, List.mem_of_getElem? (i := 134) (by decide +kernel)⟩, ?_⟩
  refine List.forall_mem_cons.mpr ⟨⟨RX4, TX4, 2, rfl, by decide, List.mem_of_getElem? (i := 266) (by decide +kernel)⟩, ?_⟩
  refine List.forall_mem_cons.mpr ⟨⟨RX4, TX4, 2, rfl, by decide, List.mem_of_getElem? (i := 263) (by decide +kernel)⟩, ?_⟩
  refine List.forall_mem_cons.mpr ⟨⟨RX5, TX5, 6, rfl, by decide, List.mem_of_getElem? (i := 214) (by decide +kernel)⟩, ?_⟩
  refine List.forall_mem_cons.mpr ⟨⟨RX5, TX5, 6, rfl, by decide, List.mem_of_getElem? (i := 215) (by decide +kernel)⟩, ?_⟩
  refine List.forall_mem_cons.mpr ⟨⟨RX5, TX5, 6, rfl, by decide, List.mem_of_getElem? (i := 216) (by decide +kernel)⟩, ?_⟩
  refine List.forall_mem_cons.mpr ⟨⟨RX5, TX5, 6, rfl, by decide, List.mem_of_getElem? (i := 217) (by decide +kernel)⟩, ?_⟩
  refine List.forall_mem_cons.mpr ⟨⟨RX5, TX5, 6, rfl, by decide, List.mem_of_getElem? (i := 219) (by decide +kernel)⟩, ?_⟩
  refine List.forall_mem_cons.mpr ⟨⟨RX5, TX5, 6, rfl, by decide, List.mem_of_getElem? (i := 213) (by decide +kernel)⟩, ?_⟩
  refine List.forall_mem_cons.mpr ⟨⟨RX0, TX0, 12, rfl, by decide, List.mem_of_getElem? (i := 147) (by decide +kernel)⟩, ?_⟩
  refine List.forall_mem_cons.mpr ⟨⟨RX0, TX0, 12, rfl, by decide, List.mem_of_getElem? (i := 143) (by decide +kernel)⟩, ?_⟩
  refine List.forall_mem_cons.mpr ⟨⟨RX0, TX0, 12, rfl, by decide, List.mem_of_getElem? (i := 140) (by decide +kernel)⟩, ?_⟩
  refine List.forall_mem_cons.mpr ⟨⟨RX6, TX6, 12, rfl, by decide, List.mem_of_getElem? (i := 274) (by decide +kernel)⟩, ?_⟩
  refine List.forall_mem_cons.mpr ⟨⟨RX6, TX6, 12, rfl, by decide, List.mem_of_getElem? (i := 275) (by decide +kernel)⟩, ?_⟩
  refine List.forall_mem_cons.mpr ⟨⟨RX6, TX6, 12, rfl, by decide, List.mem_of_getElem? (i := 276) (by decide +kernel)⟩, ?_⟩
  refine List.forall_mem_cons.mpr ⟨⟨RX6, TX6, 12, rfl, by decide, List.mem_of_getElem? (i := 277) (by decide +kernel)⟩, ?_⟩
  refine List.forall_mem_cons.mpr ⟨⟨RX6, TX6, 12, rfl, by decide, List.mem_of_getElem? (i := 278) (by decide +kernel)⟩, ?_⟩
  refine List.forall_mem_cons.mpr ⟨⟨RX6, TX6, 12, rfl, by decide, List.mem_of_getElem? (i := 279) (by decide +kernel)⟩, ?_⟩
  refine List.forall_mem_cons.mpr ⟨⟨RX6, TX6, 12, rfl, by decide, List.mem_of_getElem? (i := 280) (by decide +kernel)⟩, ?_⟩
  refine List.forall_mem_cons.mpr ⟨⟨RX6, TX6, 12, rfl, by decide, List.mem_of_getElem? (i := 281) (by decide +kernel)⟩, ?_⟩
  refine List.forall_mem_cons.mpr ⟨⟨RX6, TX6, 12, rfl, by decide, List.mem_of_getElem? (i := 282) (by decide +kernel)⟩, ?_⟩
  refine List.forall_mem_cons.mpr ⟨⟨RX6, TX6, 12, rfl, by decide, List.mem_of_getElem? (i := 283) (by decide +kernel)⟩, ?_⟩
  refine List.forall_mem_cons.mpr ⟨⟨RX6, TX6, 12, rfl, by decide, List.mem_of_getElem? (i := 284) (by decide +kernel)⟩, ?_⟩
  refine List.forall_mem_cons.mpr ⟨⟨RX6, TX6, 12, rfl, by decide, List.mem_of_getElem? (i := 285) (by decide +kernel)⟩, ?_⟩
  refine List.forall_mem_cons.mpr ⟨⟨RX4, TX4, 2, rfl, by decide, List.mem_of_getElem? (i := 265) (by decide +kernel)⟩, ?_⟩
  refine List.forall_mem_cons.mpr ⟨⟨RX4, TX4, 2, rfl, by decide, List.mem_of_getElem? (i := 268) (by decide +kernel)⟩, ?_⟩
  refine List.forall_mem_cons.mpr ⟨⟨RX0, TX0, 12, rfl, by decide, List.mem_of_getElem? (i := 150) (by decide +kernel)⟩, ?_⟩
  refine List.forall_mem_cons.mpr ⟨⟨RX0, TX0, 12, rfl, by decide, List.mem_of_getElem? (i := 131) (by decide +kernel)⟩, ?_⟩
  refine List.forall_mem_cons.mpr ⟨⟨RX0, TX0, 12, rfl, by decide, List.mem_of_getElem? (i := 135) (by decide +kernel)⟩, ?_⟩
  refine List.forall_mem_cons.mpr ⟨⟨RX0, TX0, 12, rfl, by decide, List.mem_of_getElem? (i := 153) (by decide +kernel)⟩, ?_⟩
  refine List.forall_mem_cons.mpr ⟨⟨RX0, TX0, 12, rfl, by decide, List.mem_of_getElem? (i := 141) (by decide +kernel)⟩, ?_⟩
  refine List.forall_mem_cons.mpr ⟨⟨RX0, TX0, 12, rfl, by decide, List.mem_of_getElem? (i := 155) (by decide +kernel)⟩, ?_⟩
  refine List.forall_mem_cons.mpr ⟨⟨RX0, TX0, 12, rfl, by decide, List.mem_of_getElem? (i := 145) (by decide +kernel)⟩, ?_⟩
  refine List.forall_mem_cons.mpr ⟨⟨RX0, TX0, 12, rfl, by decide, List.mem_of_getElem? (i := 157) (by decide +kernel)⟩, ?_⟩
  refine List.forall_mem_cons.mpr ⟨⟨RX1, TX1, 5, rfl, by decide, List.mem_of_getElem? (i := 108) (by decide +kernel)⟩, ?_⟩
  refine List.forall_mem_cons.mpr ⟨⟨RX1, TX1, 5, rfl, by decide, List.mem_of_getElem? (i := 112) (by decide +kernel)⟩, ?_⟩
  refine List.forall_mem_cons.mpr ⟨⟨RX5, TX5, 6, rfl, by decide, List.mem_of_getElem? (i := 218) (by decide +kernel)⟩, ?_⟩
  refine List.forall_mem_cons.mpr ⟨⟨RX5, TX5, 6, rfl, by decide, List.mem_of_getElem? (i := 220) (by decide +kernel)⟩, ?_⟩
  refine List.forall_mem_cons.mpr ⟨⟨RX2, TX2, 5, rfl, by decide, List.mem_of_getElem? (i := 244) (by decide +kernel)⟩, ?_⟩
  refine List.forall_mem_cons.mpr ⟨⟨RX2, TX2, 5, rfl, by decide, List.mem_of_getElem? (i := 246) (by decide +kernel)⟩, ?_⟩
  refine List.forall_mem_cons.mpr ⟨⟨RX7, TX7, 33, rfl, by decide, List.mem_of_getElem? (i := 922) (by decide +kernel)⟩, ?_⟩
  refine List.forall_mem_cons.mpr ⟨⟨RX7, TX7, 33, rfl, by decide, List.mem_of_getElem? (i := 924) (by decide +kernel)⟩, ?_⟩
  refine List.forall_mem_cons.mpr ⟨⟨RX7, TX7, 33, rfl, by decide, List.mem_of_getElem? (i := 925) (by decide +kernel)⟩, ?_⟩
  refine List.forall_mem_cons.mpr ⟨⟨RX7, TX7, 33, rfl, by decide, List.mem_of_getElem? (i := 926) (by decide +kernel)⟩, ?_⟩
  refine List.forall_mem_cons.mpr ⟨⟨RX7, TX7, 33, rfl, by decide, List.mem_of_getElem? (i := 927) (by decide +kernel)⟩, ?_⟩
  refine List.forall_mem_cons.mpr ⟨⟨RX7, TX7, 33, rfl, by decide, List.mem_of_getElem? (i := 928) (by decide +kernel)⟩, ?_⟩
  refine List.forall_mem_cons.mpr ⟨⟨RX7, TX7, 33, rfl, by decide, List.mem_of_getElem? (i := 930) (by decide +kernel)⟩, ?_⟩
  refine List.forall_mem_cons.mpr ⟨⟨RX7, TX7, 33, rfl, by decide, List.mem_of_getElem? (i := 931) (by decide +kernel)⟩, ?_⟩
  refine List.forall_mem_cons.mpr ⟨⟨RX7, TX7, 33, rfl, by decide, List.mem_of_getElem? (i := 933) (by decide +kernel)⟩, ?_⟩
  refine List.forall_mem_cons.mpr ⟨⟨RX7, TX7, 33, rfl, by decide, List.mem_of_getElem? (i := 936) (by decide +kernel)⟩, ?_⟩
  refine List.forall_mem_cons.mpr ⟨⟨RX7, TX7, 33, rfl, by decide, List.mem_of_getElem? (i := 940) (by decide +kernel)⟩, ?_⟩
  refine List.forall_mem_cons.mpr ⟨⟨RX7, TX7, 33, rfl, by decide, List.mem_of_getElem? (i := 941) (by decide +kernel)⟩, ?_⟩
  refine List.forall_mem_cons.mpr ⟨⟨RX7, TX7, 33, rfl, by decide, List.mem_of_getElem? (i := 942) (by decide +kernel)⟩, ?_⟩
  refine List.forall_mem_cons.mpr ⟨⟨RX7, TX7, 33, rfl, by decide, List.mem_of_getElem? (i := 943) (by decide +kernel)⟩, ?_⟩
  refine List.forall_mem_cons.mpr ⟨⟨RX7, TX7, 33, rfl, by decide, List.mem_of_getElem? (i := 944) (by decide +kernel)⟩, ?_⟩
  refine List.forall_mem_cons.mpr ⟨⟨RX7, TX7, 33, rfl, by decide, List.mem_of_getElem? (i := 945) (by decide +kernel)⟩, ?_⟩
  refine List.forall_mem_cons.mpr ⟨⟨RX7, TX7, 33, rfl, by decide, List.mem_of_getElem? (i := 950) (by decide +kernel)⟩, ?_⟩
  refine List.forall_mem_cons.mpr ⟨⟨RX7, TX7, 33, rfl, by decide, List.mem_of_getElem? (i := 952) (by decide +kernel)⟩, ?_⟩
  refine List.forall_mem_cons.mpr ⟨⟨RX7, TX7, 33, rfl, by decide, List.mem_of_getElem? (i := 921) (by decide +kernel)⟩, ?_⟩
  refine List.forall_mem_cons.mpr ⟨⟨RX7, TX7, 33, rfl, by decide, List.mem_of_getElem? (i := 923) (by decide +kernel)⟩, ?_⟩
  refine List.forall_mem_cons.mpr ⟨⟨RX7, TX7, 33, rfl, by decide, List.mem_of_getElem? (i := 937) (by decide +kernel)⟩, ?_⟩
  refine List.forall_mem_cons.mpr ⟨⟨RX7, TX7, 33, rfl, by decide, List.mem_of_getElem? (i := 939) (by decide +kernel)⟩, ?_⟩
  refine List.forall_mem_cons.mpr ⟨⟨RX7, TX7, 33, rfl, by decide, List.mem_of_getElem? (i := 938) (by decide +kernel)⟩, ?_⟩
  refine List.forall_mem_cons.mpr ⟨⟨RX7, TX7, 33, rfl, by decide, List.mem_of_getElem? (i := 929) (by decide +kernel)⟩, ?_⟩
  refine List.forall_mem_cons.mpr ⟨⟨RX7, TX7, 33, rfl, by decide, List.mem_of_getElem? (i := 932) (by decide +kernel)⟩, ?_⟩
  refine List.forall_mem_cons.mpr ⟨⟨RX7, TX7, 33, rfl, by decide, List.mem_of_getElem? (i := 934) (by decide +kernel)⟩, ?_⟩
  refine List.forall_mem_cons.mpr ⟨⟨RX7, TX7, 33, rfl, by decide, List.mem_of_getElem? (i := 935) (by decide +kernel)⟩, ?_⟩
  refine List.forall_mem_cons.mpr ⟨⟨RX7, TX7, 33, rfl, by decide, List.mem_of_getElem? (i := 948) (by decide +kernel)⟩, ?_⟩
  refine List.forall_mem_cons.mpr ⟨⟨RX7, TX7, 33, rfl, by decide, List.mem_of_getElem? (i := 949) (by decide +kernel)⟩, ?_⟩
  refine List.forall_mem_cons.mpr ⟨⟨RX7, TX7, 33, rfl, by decide, List.mem_of_getElem? (i := 947) (by decide +kernel)⟩, ?_⟩
  refine List.forall_mem_cons.mpr ⟨⟨RX7, TX7, 33, rfl, by decide, List.mem_of_getElem? (i := 946) (by decide +kernel)⟩, ?_⟩
  refine List.forall_mem_cons.mpr ⟨⟨RX7, TX7, 33, rfl, by decide, List.mem_of_getElem? (i := 951) (by decide +kernel)⟩, ?_⟩
  refine List.forall_mem_cons.mpr ⟨⟨RX7, TX7, 33, rfl, by decide, List.mem_of_getElem? (i := 953) (by decide +kernel)⟩, ?_⟩
  exact fun _ h => absurd h List.not_mem_nil
def cstL : List (Nat × Nat × Int32) := [(5, 81, 1000000), (6, 297, 2147483647), (7, 226, 1048576), (7, 269, 2147483646), (9, 265, 1431655765), (9, 266, 858993459), (9, 267, 252645135)]
theorem cstL_ok : ∀ q ∈ cstL, Jvm.Cond.constant (ownN q.1) q.2.1 q.2.2 ∈ lw_tbl := by
  unfold cstL
  refine List.forall_mem_cons.mpr ⟨List.mem_of_getElem? (i := 684) (by decide +kernel), ?_⟩
  refine List.forall_mem_cons.mpr ⟨List.mem_of_getElem? (i := 845) (by decide +kernel), ?_⟩
  refine List.forall_mem_cons.mpr ⟨List.mem_of_getElem? (i := 1275) (by decide +kernel), ?_⟩
  refine List.forall_mem_cons.mpr ⟨List.mem_of_getElem? (i := 1376) (by decide +kernel), ?_⟩
  refine List.forall_mem_cons.mpr ⟨List.mem_of_getElem? (i := 507) (by decide +kernel), ?_⟩
  refine List.forall_mem_cons.mpr ⟨List.mem_of_getElem? (i := 508) (by decide +kernel), ?_⟩
  refine List.forall_mem_cons.mpr ⟨List.mem_of_getElem? (i := 509) (by decide +kernel), ?_⟩
  exact fun _ h => absurd h List.not_mem_nil
def cstJ : List (Nat × Nat × Int64) := [(0, 140, 48271), (0, 142, 2147483647), (0, 163, 31), (4, 29, 31), (6, 317, 17), (6, 319, 31), (7, 270, 48271), (7, 272, 2147483647), (7, 280, 31), (7, 290, 17)]
theorem cstJ_ok : ∀ q ∈ cstJ, Jvm.Cond.constantLong (ownN q.1) q.2.1 q.2.2 ∈ lw_tbl := by
  unfold cstJ
  refine List.forall_mem_cons.mpr ⟨List.mem_of_getElem? (i := 851) (by decide +kernel), ?_⟩
  refine List.forall_mem_cons.mpr ⟨List.mem_of_getElem? (i := 852) (by decide +kernel), ?_⟩
  refine List.forall_mem_cons.mpr ⟨List.mem_of_getElem? (i := 908) (by decide +kernel), ?_⟩
  refine List.forall_mem_cons.mpr ⟨List.mem_of_getElem? (i := 914) (by decide +kernel), ?_⟩
  refine List.forall_mem_cons.mpr ⟨List.mem_of_getElem? (i := 901) (by decide +kernel), ?_⟩
  refine List.forall_mem_cons.mpr ⟨List.mem_of_getElem? (i := 902) (by decide +kernel), ?_⟩
  refine List.forall_mem_cons.mpr ⟨List.mem_of_getElem? (i := 1377) (by decide +kernel), ?_⟩
  refine List.forall_mem_cons.mpr ⟨List.mem_of_getElem? (i := 1378) (by decide +kernel), ?_⟩
  refine List.forall_mem_cons.mpr ⟨List.mem_of_getElem? (i := 1419) (by decide +kernel), ?_⟩
  refine List.forall_mem_cons.mpr ⟨List.mem_of_getElem? (i := 1414) (by decide +kernel), ?_⟩
  exact fun _ h => absurd h List.not_mem_nil
