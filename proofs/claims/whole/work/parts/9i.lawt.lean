/-! the law's operations: place, arguments, index and method of the one and of the other, kind of answer -/
abbrev LwR : Type := Nat × Nat × Nat × Nat × Nat × Nat × Nat
def opL : List LwR := [(244, 2, 13, 1, 17, 82, 0), (277, 3, 18, 2, 22, 84, 0), (320, 2, 23, 3, 26, 83, 0), (353, 1, 27, 4, 31, 85, 0), (376, 5, 32, 5, 36, 86, 0), (439, 1, 37, 6, 40, 87, 0), (462, 2, 41, 7, 44, 88, 0), (495, 3, 45, 8, 48, 89, 0), (538, 1, 49, 9, 52, 95, 0), (561, 1, 53, 10, 56, 96, 0), (584, 2, 57, 11, 60, 109, 0), (617, 2, 61, 12, 64, 111, 0), (650, 3, 65, 13, 68, 112, 0), (693, 3, 69, 14, 72, 113, 0), (736, 1, 73, 15, 76, 114, 0), (759, 2, 77, 16, 80, 115, 0), (792, 2, 81, 17, 84, 116, 0), (825, 3, 85, 18, 88, 118, 0), (868, 2, 89, 19, 92, 124, 0), (901, 1, 93, 20, 96, 125, 0), (924, 1, 97, 21, 100, 126, 0), (947, 2, 101, 22, 104, 127, 0), (980, 1, 105, 23, 108, 128, 0), (1003, 1, 109, 24, 112, 129, 0), (1026, 1, 113, 25, 116, 130, 0), (1049, 4, 117, 26, 121, 133, 0), (1102, 4, 122, 27, 125, 138, 0), (1155, 3, 126, 28, 129, 139, 0), (1198, 4, 130, 29, 133, 140, 0), (1251, 3, 134, 30, 137, 142, 0), (1294, 3, 138, 31, 141, 143, 0), (1337, 3, 142, 32, 145, 144, 0), (1380, 2, 146, 33, 149, 146, 0), (1413, 0, 150, 34, 154, 149, 0), (1426, 2, 155, 35, 158, 151, 0), (1459, 0, 159, 36, 162, 152, 0), (1472, 1, 163, 37, 166, 153, 0), (1495, 0, 167, 38, 170, 154, 0), (1508, 1, 171, 39, 174, 157, 0), (1531, 1, 175, 40, 178, 158, 0), (1554, 1, 179, 41, 182, 159, 0), (1577, 2, 183, 42, 186, 160, 0), (1610, 0, 187, 43, 190, 161, 0), (1623, 0, 191, 44, 195, 163, 1), (1637, 0, 196, 45, 199, 164, 1), (1651, 1, 200, 46, 203, 166, 0), (1674, 0, 204, 47, 207, 167, 0), (1687, 1, 208, 48, 211, 168, 0), (1710, 0, 212, 49, 215, 171, 1)]
def swI : Instr := .tableswitch (1691) 0 48 #[211, 244, 287, 320, 343, 406, 429, 462, 505, 528, 551, 584, 617, 660, 703, 726, 759, 792, 835, 868, 891, 914, 947, 970, 993, 1016, 1069, 1122, 1165, 1218, 1261, 1304, 1347, 1380, 1393, 1426, 1439, 1462, 1475, 1498, 1521, 1544, 1577, 1590, 1604, 1618, 1641, 1654, 1677]
def swO : Array Int := #[211, 244, 287, 320, 343, 406, 429, 462, 505, 528, 551, 584, 617, 660, 703, 726, 759, 792, 835, 868, 891, 914, 947, 970, 993, 1016, 1069, 1122, 1165, 1218, 1261, 1304, 1347, 1380, 1393, 1426, 1439, 1462, 1475, 1498, 1521, 1544, 1577, 1590, 1604, 1618, 1641, 1654, 1677]
def swN : Nat := 211
/-- the operation answers alike on both sides -/
def agL (f : Nat → Int32) : Nat → Nat → List Value
  | _, 0 => []
  | k, n + 1 => .int (f k) :: agL f (k + 1) n
def isKd (kind : Nat) (v : Value) : Prop := match kind with
  | 0 => ∃ r, v = .int r
  | _ => ∃ r, v = .long r
def OpSem (q : LwR) : Prop := MtOK q.2.2.2.1 ∧ MtOK q.2.2.2.2.2.1 ∧ ∀ (h : Hp) (f : Nat → Int32), Inv h → ∃ (v : Value) (h1 h2 : Hp) (d1 d2 : Nat), isKd q.2.2.2.2.2.2 v ∧ d1 < 100 ∧ d2 < 100 ∧ Okm toGI q.2.2.2.1 d1 (.ref 0 :: agL f 1 q.2.1) h (some v, h1) ∧ Okm toGI q.2.2.2.2.2.1 d2 (.ref 178 :: agL f 1 q.2.1) h1 (some v, h2) ∧ Inv h2
theorem os_0 : OpSem (244, 2, 13, 1, 17, 82, 0) := ⟨mt_1, mt_82, fun h f I => by
  obtain ⟨r, h1, h2, e1, e2, I2⟩ := g_row (f 1) (f 2) I
  exact ⟨_, h1, h2, _, _, ⟨r, rfl⟩, by omega, by omega, ok_Bp_row (.ref 0 :: agL f 1 2) h _ e1, ok_Mo_row (.ref 178 :: agL f 1 2) h1 _ e2, I2⟩⟩
theorem os_1 : OpSem (277, 3, 18, 2, 22, 84, 0) := ⟨mt_2, mt_84, fun h f I => by
  obtain ⟨r, h1, h2, e1, e2, I2⟩ := g_lay (f 1) (f 2) (f 3) I
  exact ⟨_, h1, h2, _, _, ⟨r, rfl⟩, by omega, by omega, ok_Bp_lay (.ref 0 :: agL f 1 3) h _ e1, ok_Mo_lay (.ref 178 :: agL f 1 3) h1 _ e2, I2⟩⟩
theorem os_2 : OpSem (320, 2, 23, 3, 26, 83, 0) := ⟨mt_3, mt_83, fun h f I => by
  obtain ⟨r, h1, h2, e1, e2, I2⟩ := g_at (f 1) (f 2) I
  exact ⟨_, h1, h2, _, _, ⟨r, rfl⟩, by omega, by omega, ok_Bp_at (.ref 0 :: agL f 1 2) h _ e1, ok_Mo_at (.ref 178 :: agL f 1 2) h1 _ e2, I2⟩⟩
theorem os_3 : OpSem (353, 1, 27, 4, 31, 85, 0) := ⟨mt_4, mt_85, fun h f I => by
  obtain ⟨r, h1, h2, e1, e2, I2⟩ := g_tear (f 1) I
  exact ⟨_, h1, h2, _, _, ⟨r, rfl⟩, by omega, by omega, ok_Bp_tear (.ref 0 :: agL f 1 1) h _ e1, ok_Mo_tear (.ref 178 :: agL f 1 1) h1 _ e2, I2⟩⟩
theorem os_4 : OpSem (376, 5, 32, 5, 36, 86, 0) := ⟨mt_5, mt_86, fun h f I => by
  obtain ⟨r, h1, h2, e1, e2, I2⟩ := g_copy (f 1) (f 2) (f 3) (f 4) (f 5) I
  exact ⟨_, h1, h2, _, _, ⟨r, rfl⟩, by omega, by omega, ok_Bp_copy (.ref 0 :: agL f 1 5) h _ e1, ok_Mo_copy (.ref 178 :: agL f 1 5) h1 _ e2, I2⟩⟩
theorem os_5 : OpSem (439, 1, 37, 6, 40, 87, 0) := ⟨mt_6, mt_87, fun h f I => by
  obtain ⟨r, h1, h2, e1, e2, I2⟩ := g_mean (f 1) I
  exact ⟨_, h1, h2, _, _, ⟨r, rfl⟩, by omega, by omega, ok_Bp_mean (.ref 0 :: agL f 1 1) h _ e1, ok_Mo_mean (.ref 178 :: agL f 1 1) h1 _ e2, I2⟩⟩
theorem os_6 : OpSem (462, 2, 41, 7, 44, 88, 0) := ⟨mt_7, mt_88, fun h f I => by
  obtain ⟨r, h1, h2, e1, e2, I2⟩ := g_text (f 1) (f 2) I
  exact ⟨_, h1, h2, _, _, ⟨r, rfl⟩, by omega, by omega, ok_Bp_text (.ref 0 :: agL f 1 2) h _ e1, ok_Mo_text (.ref 178 :: agL f 1 2) h1 _ e2, I2⟩⟩
theorem os_7 : OpSem (495, 3, 45, 8, 48, 89, 0) := ⟨mt_8, mt_89, fun h f I => by
  obtain ⟨r, h1, h2, e1, e2, I2⟩ := g_put (f 1) (f 2) (f 3) I
  exact ⟨_, h1, h2, _, _, ⟨r, rfl⟩, by omega, by omega, ok_Bp_put (.ref 0 :: agL f 1 3) h _ e1, ok_Mo_put (.ref 178 :: agL f 1 3) h1 _ e2, I2⟩⟩
theorem os_8 : OpSem (538, 1, 49, 9, 52, 95, 0) := ⟨mt_9, mt_95, fun h f I => by
  obtain ⟨r, h1, h2, e1, e2, I2⟩ := g_fault (f 1) I
  exact ⟨_, h1, h2, _, _, ⟨r, rfl⟩, by omega, by omega, ok_Bp_fault (.ref 0 :: agL f 1 1) h _ e1, ok_Mo_fault (.ref 178 :: agL f 1 1) h1 _ e2, I2⟩⟩
theorem os_9 : OpSem (561, 1, 53, 10, 56, 96, 0) := ⟨mt_10, mt_96, fun h f I => by
  obtain ⟨r, h1, h2, e1, e2, I2⟩ := g_land (f 1) I
  exact ⟨_, h1, h2, _, _, ⟨r, rfl⟩, by omega, by omega, ok_Bp_land (.ref 0 :: agL f 1 1) h _ e1, ok_Mo_land (.ref 178 :: agL f 1 1) h1 _ e2, I2⟩⟩
theorem os_10 : OpSem (584, 2, 57, 11, 60, 109, 0) := ⟨mt_11, mt_109, fun h f I => by
  obtain ⟨r, h1, h2, e1, e2, I2⟩ := g_hand (f 1) (f 2) I
  exact ⟨_, h1, h2, _, _, ⟨r, rfl⟩, by omega, by omega, ok_Bp_hand (.ref 0 :: agL f 1 2) h _ e1, ok_Mo_hand (.ref 178 :: agL f 1 2) h1 _ e2, I2⟩⟩
theorem os_11 : OpSem (617, 2, 61, 12, 64, 111, 0) := ⟨mt_12, mt_111, fun h f I => by
  obtain ⟨r, h1, h2, e1, e2, I2⟩ := g_mark (f 1) (f 2) I
  exact ⟨_, h1, h2, _, _, ⟨r, rfl⟩, by omega, by omega, ok_Bp_mark (.ref 0 :: agL f 1 2) h _ e1, ok_Mo_mark (.ref 178 :: agL f 1 2) h1 _ e2, I2⟩⟩
theorem os_12 : OpSem (650, 3, 65, 13, 68, 112, 0) := ⟨mt_13, mt_112, fun h f I => by
  obtain ⟨r, h1, h2, e1, e2, I2⟩ := g_teach (f 1) (f 2) (f 3) I
  exact ⟨_, h1, h2, _, _, ⟨r, rfl⟩, by omega, by omega, ok_Bp_teach (.ref 0 :: agL f 1 3) h _ e1, ok_Mo_teach (.ref 178 :: agL f 1 3) h1 _ e2, I2⟩⟩
theorem os_13 : OpSem (693, 3, 69, 14, 72, 113, 0) := ⟨mt_14, mt_113, fun h f I => by
  obtain ⟨r, h1, h2, e1, e2, I2⟩ := g_meet (f 1) (f 2) (f 3) I
  exact ⟨_, h1, h2, _, _, ⟨r, rfl⟩, by omega, by omega, ok_Bp_meet (.ref 0 :: agL f 1 3) h _ e1, ok_Mo_meet (.ref 178 :: agL f 1 3) h1 _ e2, I2⟩⟩
theorem os_14 : OpSem (736, 1, 73, 15, 76, 114, 0) := ⟨mt_15, mt_114, fun h f I => by
  obtain ⟨r, h1, h2, e1, e2, I2⟩ := g_off (f 1) I
  exact ⟨_, h1, h2, _, _, ⟨r, rfl⟩, by omega, by omega, ok_Bp_off (.ref 0 :: agL f 1 1) h _ e1, ok_Mo_off (.ref 178 :: agL f 1 1) h1 _ e2, I2⟩⟩
theorem os_15 : OpSem (759, 2, 77, 16, 80, 115, 0) := ⟨mt_16, mt_115, fun h f I => by
  obtain ⟨r, h1, h2, e1, e2, I2⟩ := g_may (f 1) (f 2) I
  exact ⟨_, h1, h2, _, _, ⟨r, rfl⟩, by omega, by omega, ok_Bp_may (.ref 0 :: agL f 1 2) h _ e1, ok_Mo_may (.ref 178 :: agL f 1 2) h1 _ e2, I2⟩⟩
theorem os_16 : OpSem (792, 2, 81, 17, 84, 116, 0) := ⟨mt_17, mt_116, fun h f I => by
  obtain ⟨r, h1, h2, e1, e2, I2⟩ := g_meets (f 1) (f 2) I
  exact ⟨_, h1, h2, _, _, ⟨r, rfl⟩, by omega, by omega, ok_Bp_meets (.ref 0 :: agL f 1 2) h _ e1, ok_Mo_meets (.ref 178 :: agL f 1 2) h1 _ e2, I2⟩⟩
theorem os_17 : OpSem (825, 3, 85, 18, 88, 118, 0) := ⟨mt_18, mt_118, fun h f I => by
  obtain ⟨r, h1, h2, e1, e2, I2⟩ := g_send (f 1) (f 2) (f 3) I
  exact ⟨_, h1, h2, _, _, ⟨r, rfl⟩, by omega, by omega, ok_Bp_send (.ref 0 :: agL f 1 3) h _ e1, ok_Mo_send (.ref 178 :: agL f 1 3) h1 _ e2, I2⟩⟩
theorem os_18 : OpSem (868, 2, 89, 19, 92, 124, 0) := ⟨mt_19, mt_124, fun h f I => by
  obtain ⟨r, h1, h2, e1, e2, I2⟩ := g_give (f 1) (f 2) I
  exact ⟨_, h1, h2, _, _, ⟨r, rfl⟩, by omega, by omega, ok_Bp_give (.ref 0 :: agL f 1 2) h _ e1, ok_Mo_give (.ref 178 :: agL f 1 2) h1 _ e2, I2⟩⟩
theorem os_19 : OpSem (901, 1, 93, 20, 96, 125, 0) := ⟨mt_20, mt_125, fun h f I => by
  obtain ⟨r, h1, h2, e1, e2, I2⟩ := g_hours (f 1) I
  exact ⟨_, h1, h2, _, _, ⟨r, rfl⟩, by omega, by omega, ok_Bp_hours (.ref 0 :: agL f 1 1) h _ e1, ok_Mo_hours (.ref 178 :: agL f 1 1) h1 _ e2, I2⟩⟩
theorem os_20 : OpSem (924, 1, 97, 21, 100, 126, 0) := ⟨mt_21, mt_126, fun h f I => by
  obtain ⟨r, h1, h2, e1, e2, I2⟩ := g_where (f 1) I
  exact ⟨_, h1, h2, _, _, ⟨r, rfl⟩, by omega, by omega, ok_Bp_where (.ref 0 :: agL f 1 1) h _ e1, ok_Mo_where (.ref 178 :: agL f 1 1) h1 _ e2, I2⟩⟩
theorem os_21 : OpSem (947, 2, 101, 22, 104, 127, 0) := ⟨mt_22, mt_127, fun h f I => by
  obtain ⟨r, h1, h2, e1, e2, I2⟩ := g_hands (f 1) (f 2) I
  exact ⟨_, h1, h2, _, _, ⟨r, rfl⟩, by omega, by omega, ok_Bp_hands (.ref 0 :: agL f 1 2) h _ e1, ok_Mo_hands (.ref 178 :: agL f 1 2) h1 _ e2, I2⟩⟩
theorem os_22 : OpSem (980, 1, 105, 23, 108, 128, 0) := ⟨mt_23, mt_128, fun h f I => by
  obtain ⟨r, h1, h2, e1, e2, I2⟩ := g_back (f 1) I
  exact ⟨_, h1, h2, _, _, ⟨r, rfl⟩, by omega, by omega, ok_Bp_back (.ref 0 :: agL f 1 1) h _ e1, ok_Mo_back (.ref 178 :: agL f 1 1) h1 _ e2, I2⟩⟩
theorem os_23 : OpSem (1003, 1, 109, 24, 112, 129, 0) := ⟨mt_24, mt_129, fun h f I => by
  obtain ⟨r, h1, h2, e1, e2, I2⟩ := g_keep (f 1) I
  exact ⟨_, h1, h2, _, _, ⟨r, rfl⟩, by omega, by omega, ok_Bp_keep (.ref 0 :: agL f 1 1) h _ e1, ok_Mo_keep (.ref 178 :: agL f 1 1) h1 _ e2, I2⟩⟩
theorem os_24 : OpSem (1026, 1, 113, 25, 116, 130, 0) := ⟨mt_25, mt_130, fun h f I => by
  obtain ⟨r, h1, h2, e1, e2, I2⟩ := g_on (f 1) I
  exact ⟨_, h1, h2, _, _, ⟨r, rfl⟩, by omega, by omega, ok_Bp_on (.ref 0 :: agL f 1 1) h _ e1, ok_Mo_on (.ref 178 :: agL f 1 1) h1 _ e2, I2⟩⟩
theorem os_25 : OpSem (1049, 4, 117, 26, 121, 133, 0) := ⟨mt_26, mt_133, fun h f I => by
  obtain ⟨r, h1, h2, e1, e2, I2⟩ := g_soon (f 1) (f 2) (f 3) (f 4) I
  exact ⟨_, h1, h2, _, _, ⟨r, rfl⟩, by omega, by omega, ok_Bp_soon (.ref 0 :: agL f 1 4) h _ e1, ok_Mo_soon (.ref 178 :: agL f 1 4) h1 _ e2, I2⟩⟩
theorem os_26 : OpSem (1102, 4, 122, 27, 125, 138, 0) := ⟨mt_27, mt_138, fun h f I => by
  obtain ⟨r, h1, h2, e1, e2, I2⟩ := g_way (f 1) (f 2) (f 3) (f 4) I
  exact ⟨_, h1, h2, _, _, ⟨r, rfl⟩, by omega, by omega, ok_Bp_way (.ref 0 :: agL f 1 4) h _ e1, ok_Mo_way (.ref 178 :: agL f 1 4) h1 _ e2, I2⟩⟩
theorem os_27 : OpSem (1155, 3, 126, 28, 129, 139, 0) := ⟨mt_28, mt_139, fun h f I => by
  obtain ⟨r, h1, h2, e1, e2, I2⟩ := g_tongue (f 1) (f 2) (f 3) I
  exact ⟨_, h1, h2, _, _, ⟨r, rfl⟩, by omega, by omega, ok_Bp_tongue (.ref 0 :: agL f 1 3) h _ e1, ok_Mo_tongue (.ref 178 :: agL f 1 3) h1 _ e2, I2⟩⟩
theorem os_28 : OpSem (1198, 4, 130, 29, 133, 140, 0) := ⟨mt_29, mt_140, fun h f I => by
  obtain ⟨r, h1, h2, e1, e2, I2⟩ := g_parts (f 1) (f 2) (f 3) (f 4) I
  exact ⟨_, h1, h2, _, _, ⟨r, rfl⟩, by omega, by omega, ok_Bp_parts (.ref 0 :: agL f 1 4) h _ e1, ok_Mo_parts (.ref 178 :: agL f 1 4) h1 _ e2, I2⟩⟩
theorem os_29 : OpSem (1251, 3, 134, 30, 137, 142, 0) := ⟨mt_30, mt_142, fun h f I => by
  obtain ⟨r, h1, h2, e1, e2, I2⟩ := g_apart (f 1) (f 2) (f 3) I
  exact ⟨_, h1, h2, _, _, ⟨r, rfl⟩, by omega, by omega, ok_Bp_apart (.ref 0 :: agL f 1 3) h _ e1, ok_Mo_apart (.ref 178 :: agL f 1 3) h1 _ e2, I2⟩⟩
theorem os_30 : OpSem (1294, 3, 138, 31, 141, 143, 0) := ⟨mt_31, mt_143, fun h f I => by
  obtain ⟨r, h1, h2, e1, e2, I2⟩ := g_needs (f 1) (f 2) (f 3) I
  exact ⟨_, h1, h2, _, _, ⟨r, rfl⟩, by omega, by omega, ok_Bp_needs (.ref 0 :: agL f 1 3) h _ e1, ok_Mo_needs (.ref 178 :: agL f 1 3) h1 _ e2, I2⟩⟩
theorem os_31 : OpSem (1337, 3, 142, 32, 145, 144, 0) := ⟨mt_32, mt_144, fun h f I => by
  obtain ⟨r, h1, h2, e1, e2, I2⟩ := g_forget (f 1) (f 2) (f 3) I
  exact ⟨_, h1, h2, _, _, ⟨r, rfl⟩, by omega, by omega, ok_Bp_forget (.ref 0 :: agL f 1 3) h _ e1, ok_Mo_forget (.ref 178 :: agL f 1 3) h1 _ e2, I2⟩⟩
theorem os_32 : OpSem (1380, 2, 146, 33, 149, 146, 0) := ⟨mt_33, mt_146, fun h f I => by
  obtain ⟨r, h1, h2, e1, e2, I2⟩ := g_reach (f 1) (f 2) I
  exact ⟨_, h1, h2, _, _, ⟨r, rfl⟩, by omega, by omega, ok_Bp_reach (.ref 0 :: agL f 1 2) h _ e1, ok_Mo_reach (.ref 178 :: agL f 1 2) h1 _ e2, I2⟩⟩
theorem os_33 : OpSem (1413, 0, 150, 34, 154, 149, 0) := ⟨mt_34, mt_149, fun h f I => by
  obtain ⟨r, h1, h2, e1, e2, I2⟩ := g_cutOff  I
  exact ⟨_, h1, h2, _, _, ⟨r, rfl⟩, by omega, by omega, ok_Bp_cutOff (.ref 0 :: agL f 1 0) h _ e1, ok_Mo_cutOff (.ref 178 :: agL f 1 0) h1 _ e2, I2⟩⟩
theorem os_34 : OpSem (1426, 2, 155, 35, 158, 151, 0) := ⟨mt_35, mt_151, fun h f I => by
  obtain ⟨r, h1, h2, e1, e2, I2⟩ := g_taught (f 1) (f 2) I
  exact ⟨_, h1, h2, _, _, ⟨r, rfl⟩, by omega, by omega, ok_Bp_taught (.ref 0 :: agL f 1 2) h _ e1, ok_Mo_taught (.ref 178 :: agL f 1 2) h1 _ e2, I2⟩⟩
theorem os_35 : OpSem (1459, 0, 159, 36, 162, 152, 0) := ⟨mt_36, mt_152, fun h f I => by
  obtain ⟨r, h1, h2, e1, e2, I2⟩ := g_best  I
  exact ⟨_, h1, h2, _, _, ⟨r, rfl⟩, by omega, by omega, ok_Bp_best (.ref 0 :: agL f 1 0) h _ e1, ok_Mo_best (.ref 178 :: agL f 1 0) h1 _ e2, I2⟩⟩
theorem os_36 : OpSem (1472, 1, 163, 37, 166, 153, 0) := ⟨mt_37, mt_153, fun h f I => by
  obtain ⟨r, h1, h2, e1, e2, I2⟩ := g_worth (f 1) I
  exact ⟨_, h1, h2, _, _, ⟨r, rfl⟩, by omega, by omega, ok_Bp_worth (.ref 0 :: agL f 1 1) h _ e1, ok_Mo_worth (.ref 178 :: agL f 1 1) h1 _ e2, I2⟩⟩
theorem os_37 : OpSem (1495, 0, 167, 38, 170, 154, 0) := ⟨mt_38, mt_154, fun h f I => by
  obtain ⟨r, h1, h2, e1, e2, I2⟩ := g_fewest  I
  exact ⟨_, h1, h2, _, _, ⟨r, rfl⟩, by omega, by omega, ok_Bp_fewest (.ref 0 :: agL f 1 0) h _ e1, ok_Mo_fewest (.ref 178 :: agL f 1 0) h1 _ e2, I2⟩⟩
theorem os_38 : OpSem (1508, 1, 171, 39, 174, 157, 0) := ⟨mt_39, mt_157, fun h f I => by
  obtain ⟨r, h1, h2, e1, e2, I2⟩ := g_reader (f 1) I
  exact ⟨_, h1, h2, _, _, ⟨r, rfl⟩, by omega, by omega, ok_Bp_reader (.ref 0 :: agL f 1 1) h _ e1, ok_Mo_reader (.ref 178 :: agL f 1 1) h1 _ e2, I2⟩⟩
theorem os_39 : OpSem (1531, 1, 175, 40, 178, 158, 0) := ⟨mt_40, mt_158, fun h f I => by
  obtain ⟨r, h1, h2, e1, e2, I2⟩ := g_readers (f 1) I
  exact ⟨_, h1, h2, _, _, ⟨r, rfl⟩, by omega, by omega, ok_Bp_readers (.ref 0 :: agL f 1 1) h _ e1, ok_Mo_readers (.ref 178 :: agL f 1 1) h1 _ e2, I2⟩⟩
theorem os_40 : OpSem (1554, 1, 179, 41, 182, 159, 0) := ⟨mt_41, mt_159, fun h f I => by
  obtain ⟨r, h1, h2, e1, e2, I2⟩ := g_knows (f 1) I
  exact ⟨_, h1, h2, _, _, ⟨r, rfl⟩, by omega, by omega, ok_Bp_knows (.ref 0 :: agL f 1 1) h _ e1, ok_Mo_knows (.ref 178 :: agL f 1 1) h1 _ e2, I2⟩⟩
theorem os_41 : OpSem (1577, 2, 183, 42, 186, 160, 0) := ⟨mt_42, mt_160, fun h f I => by
  obtain ⟨r, h1, h2, e1, e2, I2⟩ := g_days (f 1) (f 2) I
  exact ⟨_, h1, h2, _, _, ⟨r, rfl⟩, by omega, by omega, ok_Bp_days (.ref 0 :: agL f 1 2) h _ e1, ok_Mo_days (.ref 178 :: agL f 1 2) h1 _ e2, I2⟩⟩
theorem os_42 : OpSem (1610, 0, 187, 43, 190, 161, 0) := ⟨mt_43, mt_161, fun h f I => by
  obtain ⟨r, h1, h2, e1, e2, I2⟩ := g_asked  I
  exact ⟨_, h1, h2, _, _, ⟨r, rfl⟩, by omega, by omega, ok_Bp_asked (.ref 0 :: agL f 1 0) h _ e1, ok_Mo_asked (.ref 178 :: agL f 1 0) h1 _ e2, I2⟩⟩
theorem os_43 : OpSem (1623, 0, 191, 44, 195, 163, 1) := ⟨mt_44, mt_163, fun h f I => by
  obtain ⟨r, h1, h2, e1, e2, I2⟩ := g_upper  I
  exact ⟨_, h1, h2, _, _, ⟨r, rfl⟩, by omega, by omega, ok_Bp_upper (.ref 0 :: agL f 1 0) h _ e1, ok_Mo_upper (.ref 178 :: agL f 1 0) h1 _ e2, I2⟩⟩
theorem os_44 : OpSem (1637, 0, 196, 45, 199, 164, 1) := ⟨mt_45, mt_164, fun h f I => by
  obtain ⟨r, h1, h2, e1, e2, I2⟩ := g_lower  I
  exact ⟨_, h1, h2, _, _, ⟨r, rfl⟩, by omega, by omega, ok_Bp_lower (.ref 0 :: agL f 1 0) h _ e1, ok_Mo_lower (.ref 178 :: agL f 1 0) h1 _ e2, I2⟩⟩
theorem os_45 : OpSem (1651, 1, 200, 46, 203, 166, 0) := ⟨mt_46, mt_166, fun h f I => by
  obtain ⟨r, h1, h2, e1, e2, I2⟩ := g_count (f 1) I
  exact ⟨_, h1, h2, _, _, ⟨r, rfl⟩, by omega, by omega, ok_Bp_count (.ref 0 :: agL f 1 1) h _ e1, ok_Mo_count (.ref 178 :: agL f 1 1) h1 _ e2, I2⟩⟩
theorem os_46 : OpSem (1674, 0, 204, 47, 207, 167, 0) := ⟨mt_47, mt_167, fun h f I => by
  obtain ⟨r, h1, h2, e1, e2, I2⟩ := g_finding  I
  exact ⟨_, h1, h2, _, _, ⟨r, rfl⟩, by omega, by omega, ok_Bp_finding (.ref 0 :: agL f 1 0) h _ e1, ok_Mo_finding (.ref 178 :: agL f 1 0) h1 _ e2, I2⟩⟩
theorem os_47 : OpSem (1687, 1, 208, 48, 211, 168, 0) := ⟨mt_48, mt_168, fun h f I => by
  obtain ⟨r, h1, h2, e1, e2, I2⟩ := g_findings (f 1) I
  exact ⟨_, h1, h2, _, _, ⟨r, rfl⟩, by omega, by omega, ok_Bp_findings (.ref 0 :: agL f 1 1) h _ e1, ok_Mo_findings (.ref 178 :: agL f 1 1) h1 _ e2, I2⟩⟩
theorem os_48 : OpSem (1710, 0, 212, 49, 215, 171, 1) := ⟨mt_49, mt_171, fun h f I => by
  obtain ⟨r, h1, h2, e1, e2, I2⟩ := g_digest  I
  exact ⟨_, h1, h2, _, _, ⟨r, rfl⟩, by omega, by omega, ok_Bp_digest (.ref 0 :: agL f 1 0) h _ e1, ok_Mo_digest (.ref 178 :: agL f 1 0) h1 _ e2, I2⟩⟩
theorem opL_ok : ∀ q ∈ opL, OpSem q := List.forall_mem_cons.mpr ⟨os_0, List.forall_mem_cons.mpr ⟨os_1, List.forall_mem_cons.mpr ⟨os_2, List.forall_mem_cons.mpr ⟨os_3, List.forall_mem_cons.mpr ⟨os_4, List.forall_mem_cons.mpr ⟨os_5, List.forall_mem_cons.mpr ⟨os_6, List.forall_mem_cons.mpr ⟨os_7, List.forall_mem_cons.mpr ⟨os_8, List.forall_mem_cons.mpr ⟨os_9, List.forall_mem_cons.mpr ⟨os_10, List.forall_mem_cons.mpr ⟨os_11, List.forall_mem_cons.mpr ⟨os_12, List.forall_mem_cons.mpr ⟨os_13, List.forall_mem_cons.mpr ⟨os_14, List.forall_mem_cons.mpr ⟨os_15, List.forall_mem_cons.mpr ⟨os_16, List.forall_mem_cons.mpr ⟨os_17, List.forall_mem_cons.mpr ⟨os_18, List.forall_mem_cons.mpr ⟨os_19, List.forall_mem_cons.mpr ⟨os_20, List.forall_mem_cons.mpr ⟨os_21, List.forall_mem_cons.mpr ⟨os_22, List.forall_mem_cons.mpr ⟨os_23, List.forall_mem_cons.mpr ⟨os_24, List.forall_mem_cons.mpr ⟨os_25, List.forall_mem_cons.mpr ⟨os_26, List.forall_mem_cons.mpr ⟨os_27, List.forall_mem_cons.mpr ⟨os_28, List.forall_mem_cons.mpr ⟨os_29, List.forall_mem_cons.mpr ⟨os_30, List.forall_mem_cons.mpr ⟨os_31, List.forall_mem_cons.mpr ⟨os_32, List.forall_mem_cons.mpr ⟨os_33, List.forall_mem_cons.mpr ⟨os_34, List.forall_mem_cons.mpr ⟨os_35, List.forall_mem_cons.mpr ⟨os_36, List.forall_mem_cons.mpr ⟨os_37, List.forall_mem_cons.mpr ⟨os_38, List.forall_mem_cons.mpr ⟨os_39, List.forall_mem_cons.mpr ⟨os_40, List.forall_mem_cons.mpr ⟨os_41, List.forall_mem_cons.mpr ⟨os_42, List.forall_mem_cons.mpr ⟨os_43, List.forall_mem_cons.mpr ⟨os_44, List.forall_mem_cons.mpr ⟨os_45, List.forall_mem_cons.mpr ⟨os_46, List.forall_mem_cons.mpr ⟨os_47, List.forall_mem_cons.mpr ⟨os_48, fun _ h => absurd h List.not_mem_nil⟩⟩⟩⟩⟩⟩⟩⟩⟩⟩⟩⟩⟩⟩⟩⟩⟩⟩⟩⟩⟩⟩⟩⟩⟩⟩⟩⟩⟩⟩⟩⟩⟩⟩⟩⟩⟩⟩⟩⟩⟩⟩⟩⟩⟩⟩⟩⟩⟩
