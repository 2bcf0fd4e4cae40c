/-! the law's code, operation by operation -/
def rdChk : Nat → Nat → Nat → Bool
  | _, _, 0 => true
  | q, k, n + 1 => decide (decode code q = .ok (.aload_n 0, 1)) && decide (decode code (q + 1) = .ok (.iload_n 3, 1)) && decide (decode code (q + 2) = .ok (.iconst (k : Int), 1)) && decide (decode code (q + 3) = .ok (.iadd, 1)) && decide (decode code (q + 4) = .ok (.iaload, 1)) && rdChk (q + 5) (k + 1) n
def clB (cl : String) (mi : Nat) : Bool := decide ((mtY mi).cls = cl)
def opChk (q : LwR) : Bool := decide (decode code q.1 = .ok (.aload_n 1, 1)) && rdChk (q.1 + 1) 1 q.2.1 && decide (decode code (q.1 + 1 + 5 * q.2.1) = .ok (.invokevirtual q.2.2.1, 3)) && decide (decode code (q.1 + 1 + 5 * q.2.1 + 3) = .ok (.aload_n 2, 1)) && rdChk (q.1 + 1 + 5 * q.2.1 + 4) 1 q.2.1 && decide (decode code (q.1 + 1 + 5 * q.2.1 + 4 + 5 * q.2.1) = .ok (.invokevirtual q.2.2.2.2.1, 3)) &&
  (match q.2.2.2.2.2.2 with
  | 0 => decide (decode code (q.1 + 1 + 5 * q.2.1 + 4 + 5 * q.2.1 + 3) = .ok (.if_icmp .eq (1724 - ((q.1 + 1 + 5 * q.2.1 + 4 + 5 * q.2.1 + 3 : Nat) : Int)), 3))
  | _ => decide (decode code (q.1 + 1 + 5 * q.2.1 + 4 + 5 * q.2.1 + 3) = .ok (.lcmp, 1)) && decide (decode code (q.1 + 1 + 5 * q.2.1 + 4 + 5 * q.2.1 + 3 + 1) = .ok (.ifCond .eq (1724 - ((q.1 + 1 + 5 * q.2.1 + 4 + 5 * q.2.1 + 3 + 1 : Nat) : Int)), 3))) &&
  (decide ((8, q.2.2.1, q.2.2.2.1, 0) ∈ mthL) && decide ((8, q.2.2.2.2.1, q.2.2.2.2.2.1, 0) ∈ mthL) && Nat.beq (mtN q.2.2.2.1) q.2.1 && Nat.beq (mtN q.2.2.2.2.2.1) q.2.1 && clB "BlindPost" q.2.2.2.1 && clB "BlindPostModel" q.2.2.2.2.2.1)
set_option maxRecDepth 1000000 in
theorem oc_0 : opChk (244, 2, 13, 1, 17, 82, 0) = true := by decide +kernel
set_option maxRecDepth 1000000 in
theorem oc_1 : opChk (277, 3, 18, 2, 22, 84, 0) = true := by decide +kernel
set_option maxRecDepth 1000000 in
theorem oc_2 : opChk (320, 2, 23, 3, 26, 83, 0) = true := by decide +kernel
set_option maxRecDepth 1000000 in
theorem oc_3 : opChk (353, 1, 27, 4, 31, 85, 0) = true := by decide +kernel
set_option maxRecDepth 1000000 in
theorem oc_4 : opChk (376, 5, 32, 5, 36, 86, 0) = true := by decide +kernel
set_option maxRecDepth 1000000 in
theorem oc_5 : opChk (439, 1, 37, 6, 40, 87, 0) = true := by decide +kernel
set_option maxRecDepth 1000000 in
theorem oc_6 : opChk (462, 2, 41, 7, 44, 88, 0) = true := by decide +kernel
set_option maxRecDepth 1000000 in
theorem oc_7 : opChk (495, 3, 45, 8, 48, 89, 0) = true := by decide +kernel
set_option maxRecDepth 1000000 in
theorem oc_8 : opChk (538, 1, 49, 9, 52, 95, 0) = true := by decide +kernel
set_option maxRecDepth 1000000 in
theorem oc_9 : opChk (561, 1, 53, 10, 56, 96, 0) = true := by decide +kernel
set_option maxRecDepth 1000000 in
theorem oc_10 : opChk (584, 2, 57, 11, 60, 109, 0) = true := by decide +kernel
set_option maxRecDepth 1000000 in
theorem oc_11 : opChk (617, 2, 61, 12, 64, 111, 0) = true := by decide +kernel
set_option maxRecDepth 1000000 in
theorem oc_12 : opChk (650, 3, 65, 13, 68, 112, 0) = true := by decide +kernel
set_option maxRecDepth 1000000 in
theorem oc_13 : opChk (693, 3, 69, 14, 72, 113, 0) = true := by decide +kernel
set_option maxRecDepth 1000000 in
theorem oc_14 : opChk (736, 1, 73, 15, 76, 114, 0) = true := by decide +kernel
set_option maxRecDepth 1000000 in
theorem oc_15 : opChk (759, 2, 77, 16, 80, 115, 0) = true := by decide +kernel
set_option maxRecDepth 1000000 in
theorem oc_16 : opChk (792, 2, 81, 17, 84, 116, 0) = true := by decide +kernel
set_option maxRecDepth 1000000 in
theorem oc_17 : opChk (825, 3, 85, 18, 88, 118, 0) = true := by decide +kernel
set_option maxRecDepth 1000000 in
theorem oc_18 : opChk (868, 2, 89, 19, 92, 124, 0) = true := by decide +kernel
set_option maxRecDepth 1000000 in
theorem oc_19 : opChk (901, 1, 93, 20, 96, 125, 0) = true := by decide +kernel
set_option maxRecDepth 1000000 in
theorem oc_20 : opChk (924, 1, 97, 21, 100, 126, 0) = true := by decide +kernel
set_option maxRecDepth 1000000 in
theorem oc_21 : opChk (947, 2, 101, 22, 104, 127, 0) = true := by decide +kernel
set_option maxRecDepth 1000000 in
theorem oc_22 : opChk (980, 1, 105, 23, 108, 128, 0) = true := by decide +kernel
set_option maxRecDepth 1000000 in
theorem oc_23 : opChk (1003, 1, 109, 24, 112, 129, 0) = true := by decide +kernel
set_option maxRecDepth 1000000 in
theorem oc_24 : opChk (1026, 1, 113, 25, 116, 130, 0) = true := by decide +kernel
set_option maxRecDepth 1000000 in
theorem oc_25 : opChk (1049, 4, 117, 26, 121, 133, 0) = true := by decide +kernel
set_option maxRecDepth 1000000 in
theorem oc_26 : opChk (1102, 4, 122, 27, 125, 138, 0) = true := by decide +kernel
set_option maxRecDepth 1000000 in
theorem oc_27 : opChk (1155, 3, 126, 28, 129, 139, 0) = true := by decide +kernel
set_option maxRecDepth 1000000 in
theorem oc_28 : opChk (1198, 4, 130, 29, 133, 140, 0) = true := by decide +kernel
set_option maxRecDepth 1000000 in
theorem oc_29 : opChk (1251, 3, 134, 30, 137, 142, 0) = true := by decide +kernel
set_option maxRecDepth 1000000 in
theorem oc_30 : opChk (1294, 3, 138, 31, 141, 143, 0) = true := by decide +kernel
set_option maxRecDepth 1000000 in
theorem oc_31 : opChk (1337, 3, 142, 32, 145, 144, 0) = true := by decide +kernel
set_option maxRecDepth 1000000 in
theorem oc_32 : opChk (1380, 2, 146, 33, 149, 146, 0) = true := by decide +kernel
set_option maxRecDepth 1000000 in
theorem oc_33 : opChk (1413, 0, 150, 34, 154, 149, 0) = true := by decide +kernel
set_option maxRecDepth 1000000 in
theorem oc_34 : opChk (1426, 2, 155, 35, 158, 151, 0) = true := by decide +kernel
set_option maxRecDepth 1000000 in
theorem oc_35 : opChk (1459, 0, 159, 36, 162, 152, 0) = true := by decide +kernel
set_option maxRecDepth 1000000 in
theorem oc_36 : opChk (1472, 1, 163, 37, 166, 153, 0) = true := by decide +kernel
set_option maxRecDepth 1000000 in
theorem oc_37 : opChk (1495, 0, 167, 38, 170, 154, 0) = true := by decide +kernel
set_option maxRecDepth 1000000 in
theorem oc_38 : opChk (1508, 1, 171, 39, 174, 157, 0) = true := by decide +kernel
set_option maxRecDepth 1000000 in
theorem oc_39 : opChk (1531, 1, 175, 40, 178, 158, 0) = true := by decide +kernel
set_option maxRecDepth 1000000 in
theorem oc_40 : opChk (1554, 1, 179, 41, 182, 159, 0) = true := by decide +kernel
set_option maxRecDepth 1000000 in
theorem oc_41 : opChk (1577, 2, 183, 42, 186, 160, 0) = true := by decide +kernel
set_option maxRecDepth 1000000 in
theorem oc_42 : opChk (1610, 0, 187, 43, 190, 161, 0) = true := by decide +kernel
set_option maxRecDepth 1000000 in
theorem oc_43 : opChk (1623, 0, 191, 44, 195, 163, 1) = true := by decide +kernel
set_option maxRecDepth 1000000 in
theorem oc_44 : opChk (1637, 0, 196, 45, 199, 164, 1) = true := by decide +kernel
set_option maxRecDepth 1000000 in
theorem oc_45 : opChk (1651, 1, 200, 46, 203, 166, 0) = true := by decide +kernel
set_option maxRecDepth 1000000 in
theorem oc_46 : opChk (1674, 0, 204, 47, 207, 167, 0) = true := by decide +kernel
set_option maxRecDepth 1000000 in
theorem oc_47 : opChk (1687, 1, 208, 48, 211, 168, 0) = true := by decide +kernel
set_option maxRecDepth 1000000 in
theorem oc_48 : opChk (1710, 0, 212, 49, 215, 171, 1) = true := by decide +kernel
theorem opL_chk : ∀ q ∈ opL, opChk q = true := List.forall_mem_cons.mpr ⟨oc_0, List.forall_mem_cons.mpr ⟨oc_1, List.forall_mem_cons.mpr ⟨oc_2, List.forall_mem_cons.mpr ⟨oc_3, List.forall_mem_cons.mpr ⟨oc_4, List.forall_mem_cons.mpr ⟨oc_5, List.forall_mem_cons.mpr ⟨oc_6, List.forall_mem_cons.mpr ⟨oc_7, List.forall_mem_cons.mpr ⟨oc_8, List.forall_mem_cons.mpr ⟨oc_9, List.forall_mem_cons.mpr ⟨oc_10, List.forall_mem_cons.mpr ⟨oc_11, List.forall_mem_cons.mpr ⟨oc_12, List.forall_mem_cons.mpr ⟨oc_13, List.forall_mem_cons.mpr ⟨oc_14, List.forall_mem_cons.mpr ⟨oc_15, List.forall_mem_cons.mpr ⟨oc_16, List.forall_mem_cons.mpr ⟨oc_17, List.forall_mem_cons.mpr ⟨oc_18, List.forall_mem_cons.mpr ⟨oc_19, List.forall_mem_cons.mpr ⟨oc_20, List.forall_mem_cons.mpr ⟨oc_21, List.forall_mem_cons.mpr ⟨oc_22, List.forall_mem_cons.mpr ⟨oc_23, List.forall_mem_cons.mpr ⟨oc_24, List.forall_mem_cons.mpr ⟨oc_25, List.forall_mem_cons.mpr ⟨oc_26, List.forall_mem_cons.mpr ⟨oc_27, List.forall_mem_cons.mpr ⟨oc_28, List.forall_mem_cons.mpr ⟨oc_29, List.forall_mem_cons.mpr ⟨oc_30, List.forall_mem_cons.mpr ⟨oc_31, List.forall_mem_cons.mpr ⟨oc_32, List.forall_mem_cons.mpr ⟨oc_33, List.forall_mem_cons.mpr ⟨oc_34, List.forall_mem_cons.mpr ⟨oc_35, List.forall_mem_cons.mpr ⟨oc_36, List.forall_mem_cons.mpr ⟨oc_37, List.forall_mem_cons.mpr ⟨oc_38, List.forall_mem_cons.mpr ⟨oc_39, List.forall_mem_cons.mpr ⟨oc_40, List.forall_mem_cons.mpr ⟨oc_41, List.forall_mem_cons.mpr ⟨oc_42, List.forall_mem_cons.mpr ⟨oc_43, List.forall_mem_cons.mpr ⟨oc_44, List.forall_mem_cons.mpr ⟨oc_45, List.forall_mem_cons.mpr ⟨oc_46, List.forall_mem_cons.mpr ⟨oc_47, List.forall_mem_cons.mpr ⟨oc_48, fun _ h => absurd h List.not_mem_nil⟩⟩⟩⟩⟩⟩⟩⟩⟩⟩⟩⟩⟩⟩⟩⟩⟩⟩⟩⟩⟩⟩⟩⟩⟩⟩⟩⟩⟩⟩⟩⟩⟩⟩⟩⟩⟩⟩⟩⟩⟩⟩⟩⟩⟩⟩⟩⟩⟩
