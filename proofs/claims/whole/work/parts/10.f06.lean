noncomputable section
def k_Mo_givenOn : List Ent := [(0, .iconst 0, 1, [], .int (0)), (1, .istore_n 2, 1, [], .null), (2, .iconst 0, 1, [], .int (0)), (3, .istore_n 3, 1, [], .null), (4, .iload_n 3, 1, [], .null), (5, .aload_n 0, 1, [], .null), (6, .getfield 140, 3, [7, 14, 0], .null), (9, .if_icmp .ge (52), 3, [61], .null), (12, .iconst 1, 1, [], .int (1)), (13, .istore 4, 2, [], .null), (15, .iload 4, 2, [], .null), (17, .aload_n 0, 1, [], .null), (18, .iload_n 3, 1, [], .null), (19, .iconst 2, 1, [], .int (2)), (20, .invokevirtual 153, 3, [105, 3, 1, 7], .null), (23, .iconst 1, 1, [], .int (1)), (24, .isub, 1, [], .null), (25, .if_icmp .ge (30), 3, [55], .null), (28, .iload_n 2, 1, [], .null), (29, .aload_n 0, 1, [], .null), (30, .iload_n 3, 1, [], .null), (31, .iconst 3, 1, [], .int (3)), (32, .iload 4, 2, [], .null), (34, .iadd, 1, [], .null), (35, .invokevirtual 153, 3, [105, 3, 1, 7], .null), (38, .iload_n 1, 1, [], .null), (39, .if_icmp .ne (7), 3, [46], .null), (42, .iconst 1, 1, [], .int (1)), (43, .goto (4), 3, [47], .null), (46, .iconst 0, 1, [], .int (0)), (47, .iadd, 1, [], .null), (48, .istore_n 2, 1, [], .null), (49, .iinc 4 (1), 3, [], .int (1)), (52, .goto (-37), 3, [15], .null), (55, .iinc 3 (1), 3, [], .int (1)), (58, .goto (-54), 3, [4], .null), (61, .iload_n 2, 1, [], .null), (62, .ireturn, 1, [], .null)]
def Mo_givenOn_15 (κ4 : (Int32 × Int32 × Int32 × Hp) → Res Hp)   : (Int32 × Int32 × Int32 × Int32 × Hp) → ((Int32 × Int32 × Int32 × Int32 × Hp) → Res Hp) → Res Hp := fun s κ15 => match s with
  | (x1, x2, x3, x4, h) =>
  bI (F_Mo_letterOf x3 (2 : Int32) h) fun v2 h1 =>
  if (v2 - (1 : Int32)) ≤ x4 then
  (κ4 (x1, x2, (x3 + (1 : Int32)), h1))
  else
  (bI (F_Mo_letterOf x3 ((3 : Int32) + x4) h1) fun v4 h3 =>
  if v4 = x1 then
  (κ15 (x1, (x2 + (1 : Int32)), x3, (x4 + (1 : Int32)), h3))
  else
  (κ15 (x1, (x2 + (0 : Int32)), x3, (x4 + (1 : Int32)), h3)))
def Mo_givenOn_4    : (Int32 × Int32 × Int32 × Hp) → ((Int32 × Int32 × Int32 × Hp) → Res Hp) → Res Hp := fun s κ4 => match s with
  | (x1, x2, x3, h) =>
  if (hg h 178 14) ≤ x3 then
  (retI x2 h)
  else
  (loopC (Mo_givenOn_15 κ4  ) FU (x1, x2, x3, (1 : Int32), h))
def F_Mo_givenOn (x1 : Int32) (h : Hp) : Res Hp :=
  loopC (Mo_givenOn_4   ) FU (x1, (0 : Int32), (0 : Int32), h)
def sF_Mo_givenOn : List Value → Hp → Res Hp := fun as h => match as with | [.ref f0, .int x1] => (match Nat.beq f0 178 with | true => F_Mo_givenOn x1 h | false => none) | _ => none
theorem w_Mo_givenOn (x1 : Int32) (h : Hp) : sF_Mo_givenOn [.ref 178, .int x1] h = F_Mo_givenOn x1 h := rfl
def S_Mo_givenOn : Sem Hp := [(105, sF_Mo_letterOf)]
set_option maxRecDepth 100000 in
theorem e_Mo_givenOn_0 (x1 : Int32) (h : Hp) : F_Mo_givenOn x1 h = exec1 OI S_Mo_givenOn 1 k_Mo_givenOn 0 [some (.ref 178), some (.int x1), none, none, none] [] h (runF OI S_Mo_givenOn [(4, [0, 1, 2, 3], fun vs st h => match vs, st with | [.ref f0, .int x1, .int x2, .int x3], [] => (match Nat.beq f0 178 with | true => loopC (Mo_givenOn_4   ) FU (x1, x2, x3, h) | false => none) | _, _ => none)] 1 k_Mo_givenOn 400) :=
  rfl
set_option maxRecDepth 100000 in
theorem e_Mo_givenOn_4 (κ4 : (Int32 × Int32 × Int32 × Hp) → Res Hp) (x1 : Int32) (x2 : Int32) (x3 : Int32)  (h : Hp) : Mo_givenOn_4    (x1, x2, x3, h) κ4 = exec1 OI S_Mo_givenOn 1 k_Mo_givenOn 4 [some (.ref 178), some (.int x1), some (.int x2), some (.int x3), none] [] h (runF OI S_Mo_givenOn [(15, [0, 1, 2, 3, 4], fun vs st h => match vs, st with | [.ref f0, .int x1, .int x2, .int x3, .int x4], [] => (match Nat.beq f0 178 with | true => loopC (Mo_givenOn_15 κ4  ) FU (x1, x2, x3, x4, h) | false => none) | _, _ => none)] 1 k_Mo_givenOn 400) :=
  (x_ite rfl rfl)
set_option maxRecDepth 100000 in
theorem e_Mo_givenOn_15 (κ4 : (Int32 × Int32 × Int32 × Hp) → Res Hp) (κ15 : (Int32 × Int32 × Int32 × Int32 × Hp) → Res Hp) (x1 : Int32) (x2 : Int32) (x3 : Int32) (x4 : Int32)  (h : Hp) : Mo_givenOn_15 κ4   (x1, x2, x3, x4, h) κ15 = exec1 OI S_Mo_givenOn 1 k_Mo_givenOn 15 [some (.ref 178), some (.int x1), some (.int x2), some (.int x3), some (.int x4)] [] h (runF OI S_Mo_givenOn [(4, [0, 1, 2, 3], fun vs st h => match vs, st with | [.ref f0, .int x1, .int x2, .int x3], [] => (match Nat.beq f0 178 with | true => κ4 (x1, x2, x3, h) | false => none) | _, _ => none), (15, [0, 1, 2, 3, 4], fun vs st h => match vs, st with | [.ref f0, .int x1, .int x2, .int x3, .int x4], [] => (match Nat.beq f0 178 with | true => κ15 (x1, x2, x3, x4, h) | false => none) | _, _ => none)] 1 k_Mo_givenOn 400) :=
  (x_bI (f := sF_Mo_letterOf) rfl (w_Mo_letterOf _ _ _) fun v2 h1 => (x_ite rfl (x_bI (f := sF_Mo_letterOf) rfl (w_Mo_letterOf _ _ _) fun v4 h3 => (x_ite rfl rfl))))
def k_Mo_mark : List Ent := [(0, .aload_n 0, 1, [], .null), (1, .iload_n 1, 1, [], .null), (2, .invokevirtual 143, 3, [97, 2, 2, 7], .null), (5, .ifCond .eq (12), 3, [17], .null), (8, .iload_n 2, 1, [], .null), (9, .iconst 1, 1, [], .int (1)), (10, .iconst 5, 1, [], .int (5)), (11, .invokestatic 72, 3, [71, 3, 2], .null), (14, .ifCond .ne (5), 3, [19], .null), (17, .iconst (-1), 1, [], .int (-1)), (18, .ireturn, 1, [], .null), (19, .aload_n 0, 1, [], .null), (20, .iload_n 1, 1, [], .null), (21, .iload_n 2, 1, [], .null), (22, .invokevirtual 146, 3, [101, 3, 2, 7], .null), (25, .ifCond .ne (9), 3, [34], .null), (28, .aload_n 0, 1, [], .null), (29, .iconst 3, 1, [], .int (3)), (30, .invokevirtual 80, 3, [72, 2, 1, 7], .null), (33, .ireturn, 1, [], .null), (34, .iload_n 2, 1, [], .null), (35, .tableswitch (62) 1 4 #[29, 39, 45, 51], 29, [97, 1, 64, 2, 74, 3, 80, 4, 86], .null), (64, .aload_n 0, 1, [], .null), (65, .getfield 31, 3, [7, 10, 1], .null), (68, .iload_n 1, 1, [], .null), (69, .iaload, 1, [], .null), (70, .invokestatic 165, 3, [75, 1, 1], .null), (73, .ireturn, 1, [], .null), (74, .aload_n 0, 1, [], .null), (75, .iload_n 1, 1, [], .null), (76, .invokevirtual 150, 3, [102, 2, 1, 7], .null), (79, .ireturn, 1, [], .null), (80, .aload_n 0, 1, [], .null), (81, .iload_n 1, 1, [], .null), (82, .invokevirtual 168, 3, [110, 2, 1, 7], .null), (85, .ireturn, 1, [], .null), (86, .aload_n 0, 1, [], .null), (87, .iload_n 1, 1, [], .null), (88, .bipush (-9), 2, [], .int (-9)), (90, .invokevirtual 171, 3, [104, 3, 1, 7], .null), (93, .invokestatic 165, 3, [75, 1, 1], .null), (96, .ireturn, 1, [], .null), (97, .iconst 5, 1, [], .int (5)), (98, .aload_n 0, 1, [], .null), (99, .getfield 31, 3, [7, 10, 1], .null), (102, .iload_n 1, 1, [], .null), (103, .iaload, 1, [], .null), (104, .invokestatic 165, 3, [75, 1, 1], .null), (107, .isub, 1, [], .null), (108, .ireturn, 1, [], .null)]
def F_Mo_mark (x1 : Int32) (x2 : Int32) (h : Hp) : Res Hp :=
  bI (F_Mo_isOne x1 h) fun v2 h1 =>
  if v2 = (0 : Int32) then
  (retI (-1 : Int32) h1)
  else
  (bI (F_Mo_in x2 (1 : Int32) (5 : Int32) h1) fun v4 h3 =>
  if v4 = (0 : Int32) then
  (retI (-1 : Int32) h3)
  else
  (bI (F_Mo_isA x1 x2 h3) fun v6 h5 =>
  if v6 = (0 : Int32) then
  (bI (F_Mo_meetWith (3 : Int32) h5) fun v20 h19 =>
  retI v20 h19)
  else
  (if x2 = (1 : Int32) then
  (bif okA 186 100 x1 then
  bI (F_Mo_sizeOf (hg h5 186 x1.toNatClampNeg) h5) fun v8 h7 =>
  retI v8 h7
  else none)
  else if x2 = (2 : Int32) then
  (bI (F_Mo_barsOf x1 h5) fun v10 h9 =>
  retI v10 h9)
  else if x2 = (3 : Int32) then
  (bI (F_Mo_givenOn x1 h5) fun v12 h11 =>
  retI v12 h11)
  else if x2 = (4 : Int32) then
  (bI (F_Mo_metBy x1 (-9 : Int32) h5) fun v14 h13 =>
  bI (F_Mo_sizeOf v14 h13) fun v16 h15 =>
  retI v16 h15)
  else 
  (bif okA 186 100 x1 then
  bI (F_Mo_sizeOf (hg h5 186 x1.toNatClampNeg) h5) fun v18 h17 =>
  retI ((5 : Int32) - v18) h17
  else none))))
def sF_Mo_mark : List Value → Hp → Res Hp := fun as h => match as with | [.ref f0, .int x1, .int x2] => (match Nat.beq f0 178 with | true => F_Mo_mark x1 x2 h | false => none) | _ => none
theorem w_Mo_mark (x1 : Int32) (x2 : Int32) (h : Hp) : sF_Mo_mark [.ref 178, .int x1, .int x2] h = F_Mo_mark x1 x2 h := rfl
def S_Mo_mark : Sem Hp := [(97, sF_Mo_isOne), (71, sF_Mo_in), (101, sF_Mo_isA), (75, sF_Mo_sizeOf), (102, sF_Mo_barsOf), (110, sF_Mo_givenOn), (104, sF_Mo_metBy), (72, sF_Mo_meetWith)]
set_option maxRecDepth 100000 in
theorem e_Mo_mark_0 (x1 : Int32) (x2 : Int32) (h : Hp) : F_Mo_mark x1 x2 h = exec1 OI S_Mo_mark 1 k_Mo_mark 0 [some (.ref 178), some (.int x1), some (.int x2)] [] h (runF OI S_Mo_mark [] 1 k_Mo_mark 400) :=
  (x_bI (f := sF_Mo_isOne) rfl (w_Mo_isOne _ _) fun v2 h1 => (x_ite rfl (x_bI (f := sF_Mo_in) rfl (w_Mo_in _ _ _ _) fun v4 h3 => (x_ite rfl (x_bI (f := sF_Mo_isA) rfl (w_Mo_isA _ _ _) fun v6 h5 => (x_ite (x_bI (f := sF_Mo_meetWith) rfl (w_Mo_meetWith _ _) fun v20 h19 => rfl) (x_ite (x_bif (x_bI (f := sF_Mo_sizeOf) rfl (w_Mo_sizeOf _ _) fun v8 h7 => rfl)) (x_ite (x_bI (f := sF_Mo_barsOf) rfl (w_Mo_barsOf _ _) fun v10 h9 => rfl) (x_ite (x_bI (f := sF_Mo_givenOn) rfl (w_Mo_givenOn _ _) fun v12 h11 => rfl) (x_ite (x_bI (f := sF_Mo_metBy) rfl (w_Mo_metBy _ _ _) fun v14 h13 => (x_bI (f := sF_Mo_sizeOf) rfl (w_Mo_sizeOf _ _) fun v16 h15 => rfl)) (x_bif (x_bI (f := sF_Mo_sizeOf) rfl (w_Mo_sizeOf _ _) fun v18 h17 => rfl))))))))))))
def k_Mo_teach : List Ent := [(0, .aload_n 0, 1, [], .null), (1, .iload_n 1, 1, [], .null), (2, .invokevirtual 143, 3, [97, 2, 2, 7], .null), (5, .ifCond .eq (19), 3, [24], .null), (8, .iload_n 2, 1, [], .null), (9, .invokestatic 174, 3, [99, 1, 2], .null), (12, .ifCond .eq (12), 3, [24], .null), (15, .iload_n 3, 1, [], .null), (16, .iconst 0, 1, [], .int (0)), (17, .iconst 1, 1, [], .int (1)), (18, .invokestatic 72, 3, [71, 3, 2], .null), (21, .ifCond .ne (5), 3, [26], .null), (24, .iconst (-1), 1, [], .int (-1)), (25, .ireturn, 1, [], .null), (26, .aload_n 0, 1, [], .null), (27, .getfield 31, 3, [7, 10, 1], .null), (30, .iload_n 1, 1, [], .null), (31, .iaload, 1, [], .null), (32, .iload_n 2, 1, [], .null), (33, .ishr, 1, [], .null), (34, .iconst 1, 1, [], .int (1)), (35, .iand, 1, [], .null), (36, .istore 4, 2, [], .null), (38, .aload_n 0, 1, [], .null), (39, .getfield 31, 3, [7, 10, 1], .null), (42, .iload_n 1, 1, [], .null), (43, .iload_n 3, 1, [], .null), (44, .iconst 1, 1, [], .int (1)), (45, .if_icmp .ne (16), 3, [61], .null), (48, .aload_n 0, 1, [], .null), (49, .getfield 31, 3, [7, 10, 1], .null), (52, .iload_n 1, 1, [], .null), (53, .iaload, 1, [], .null), (54, .iconst 1, 1, [], .int (1)), (55, .iload_n 2, 1, [], .null), (56, .ishl, 1, [], .null), (57, .ior, 1, [], .null), (58, .goto (15), 3, [73], .null), (61, .aload_n 0, 1, [], .null), (62, .getfield 31, 3, [7, 10, 1], .null), (65, .iload_n 1, 1, [], .null), (66, .iaload, 1, [], .null), (67, .iconst 1, 1, [], .int (1)), (68, .iload_n 2, 1, [], .null), (69, .ishl, 1, [], .null), (70, .iconst (-1), 1, [], .int (-1)), (71, .ixor, 1, [], .null), (72, .iand, 1, [], .null), (73, .iastore, 1, [], .null), (74, .iload 4, 2, [], .null), (76, .ireturn, 1, [], .null)]
def F_Mo_teach (x1 : Int32) (x2 : Int32) (x3 : Int32) (h : Hp) : Res Hp :=
  bI (F_Mo_isOne x1 h) fun v2 h1 =>
  if v2 = (0 : Int32) then
  (retI (-1 : Int32) h1)
  else
  (bI (F_Mo_isTongue x2 h1) fun v4 h3 =>
  if v4 = (0 : Int32) then
  (retI (-1 : Int32) h3)
  else
  (bI (F_Mo_in x3 (0 : Int32) (1 : Int32) h3) fun v6 h5 =>
  if v6 = (0 : Int32) then
  (retI (-1 : Int32) h5)
  else
  (bif okA 186 100 x1 then
  if x3 = (1 : Int32) then
  (bif okA 186 100 x1 then
  bif okA 186 100 x1 then
  bH (hs h5 186 x1.toNatClampNeg ((hg h5 186 x1.toNatClampNeg) ||| ((1 : Int32) <<< (x2 &&& 31)))) fun h8 =>
  retI (((hg h5 186 x1.toNatClampNeg) >>> (x2 &&& 31)) &&& (1 : Int32)) h8
  else none
  else none)
  else
  (bif okA 186 100 x1 then
  bif okA 186 100 x1 then
  bH (hs h5 186 x1.toNatClampNeg ((hg h5 186 x1.toNatClampNeg) &&& (((1 : Int32) <<< (x2 &&& 31)) ^^^ (-1 : Int32)))) fun h7 =>
  retI (((hg h5 186 x1.toNatClampNeg) >>> (x2 &&& 31)) &&& (1 : Int32)) h7
  else none
  else none)
  else none)))
def sF_Mo_teach : List Value → Hp → Res Hp := fun as h => match as with | [.ref f0, .int x1, .int x2, .int x3] => (match Nat.beq f0 178 with | true => F_Mo_teach x1 x2 x3 h | false => none) | _ => none
theorem w_Mo_teach (x1 : Int32) (x2 : Int32) (x3 : Int32) (h : Hp) : sF_Mo_teach [.ref 178, .int x1, .int x2, .int x3] h = F_Mo_teach x1 x2 x3 h := rfl
def S_Mo_teach : Sem Hp := [(97, sF_Mo_isOne), (99, sF_Mo_isTongue), (71, sF_Mo_in)]
set_option maxRecDepth 100000 in
theorem e_Mo_teach_0 (x1 : Int32) (x2 : Int32) (x3 : Int32) (h : Hp) : F_Mo_teach x1 x2 x3 h = exec1 OI S_Mo_teach 1 k_Mo_teach 0 [some (.ref 178), some (.int x1), some (.int x2), some (.int x3), none] [] h (runF OI S_Mo_teach [] 1 k_Mo_teach 400) :=
  (x_bI (f := sF_Mo_isOne) rfl (w_Mo_isOne _ _) fun v2 h1 => (x_ite rfl (x_bI (f := sF_Mo_isTongue) rfl (w_Mo_isTongue _ _) fun v4 h3 => (x_ite rfl (x_bI (f := sF_Mo_in) rfl (w_Mo_in _ _ _ _) fun v6 h5 => (x_ite rfl (x_bif (x_ite (x_bif (x_bif (x_bH fun h8 => rfl))) (x_bif (x_bif (x_bH fun h7 => rfl)))))))))))
def k_Mo_meet : List Ent := [(0, .aload_n 0, 1, [], .null), (1, .iload_n 1, 1, [], .null), (2, .iload_n 2, 1, [], .null), (3, .invokevirtual 177, 3, [98, 3, 2, 7], .null), (6, .ifCond .eq (13), 3, [19], .null), (9, .iload_n 3, 1, [], .null), (10, .iconst 0, 1, [], .int (0)), (11, .bipush (7), 2, [], .int (7)), (13, .invokestatic 72, 3, [71, 3, 2], .null), (16, .ifCond .ne (5), 3, [21], .null), (19, .iconst (-1), 1, [], .int (-1)), (20, .ireturn, 1, [], .null), (21, .aload_n 0, 1, [], .null), (22, .getfield 134, 3, [7, 11, 0], .null), (25, .bipush (16), 2, [], .int (16)), (27, .if_icmp .ne (6), 3, [33], .null), (30, .bipush (-2), 2, [], .int (-2)), (32, .ireturn, 1, [], .null), (33, .aload_n 0, 1, [], .null), (34, .getfield 34, 3, [7, 12, 1], .null), (37, .iconst 3, 1, [], .int (3)), (38, .aload_n 0, 1, [], .null), (39, .getfield 134, 3, [7, 11, 0], .null), (42, .imul, 1, [], .null), (43, .iload_n 1, 1, [], .null), (44, .iastore, 1, [], .null), (45, .aload_n 0, 1, [], .null), (46, .getfield 34, 3, [7, 12, 1], .null), (49, .iconst 3, 1, [], .int (3)), (50, .aload_n 0, 1, [], .null), (51, .getfield 134, 3, [7, 11, 0], .null), (54, .imul, 1, [], .null), (55, .iconst 1, 1, [], .int (1)), (56, .iadd, 1, [], .null), (57, .iload_n 2, 1, [], .null), (58, .iastore, 1, [], .null), (59, .aload_n 0, 1, [], .null), (60, .getfield 34, 3, [7, 12, 1], .null), (63, .iconst 3, 1, [], .int (3)), (64, .aload_n 0, 1, [], .null), (65, .getfield 134, 3, [7, 11, 0], .null), (68, .imul, 1, [], .null), (69, .iconst 2, 1, [], .int (2)), (70, .iadd, 1, [], .null), (71, .iload_n 3, 1, [], .null), (72, .iastore, 1, [], .null), (73, .aload_n 0, 1, [], .null), (74, .dup, 1, [], .null), (75, .getfield 134, 3, [7, 11, 0], .null), (78, .iconst 1, 1, [], .int (1)), (79, .iadd, 1, [], .null), (80, .putfield 134, 3, [7, 11, 0], .null), (83, .aload_n 0, 1, [], .null), (84, .getfield 134, 3, [7, 11, 0], .null), (87, .iconst 1, 1, [], .int (1)), (88, .isub, 1, [], .null), (89, .ireturn, 1, [], .null)]
def F_Mo_meet (x1 : Int32) (x2 : Int32) (x3 : Int32) (h : Hp) : Res Hp :=
  bI (F_Mo_areTwo x1 x2 h) fun v2 h1 =>
  if v2 = (0 : Int32) then
  (retI (-1 : Int32) h1)
  else
  (bI (F_Mo_in x3 (0 : Int32) (7 : Int32) h1) fun v4 h3 =>
  if v4 = (0 : Int32) then
  (retI (-1 : Int32) h3)
  else
  (if (hg h3 178 11) = (16 : Int32) then
  (retI (-2 : Int32) h3)
  else
  (bif okA 187 100 ((3 : Int32) * (hg h3 178 11)) then
  bH (hs h3 187 ((3 : Int32) * (hg h3 178 11)).toNatClampNeg x1) fun h5 =>
  bif okA 187 100 (((3 : Int32) * (hg h5 178 11)) + (1 : Int32)) then
  bH (hs h5 187 (((3 : Int32) * (hg h5 178 11)) + (1 : Int32)).toNatClampNeg x2) fun h6 =>
  bif okA 187 100 (((3 : Int32) * (hg h6 178 11)) + (2 : Int32)) then
  bH (hs h6 187 (((3 : Int32) * (hg h6 178 11)) + (2 : Int32)).toNatClampNeg x3) fun h7 =>
  bH (hs h7 178 11 ((hg h7 178 11) + (1 : Int32))) fun h8 =>
  retI ((hg h8 178 11) - (1 : Int32)) h8
  else none
  else none
  else none)))
def sF_Mo_meet : List Value → Hp → Res Hp := fun as h => match as with | [.ref f0, .int x1, .int x2, .int x3] => (match Nat.beq f0 178 with | true => F_Mo_meet x1 x2 x3 h | false => none) | _ => none
theorem w_Mo_meet (x1 : Int32) (x2 : Int32) (x3 : Int32) (h : Hp) : sF_Mo_meet [.ref 178, .int x1, .int x2, .int x3] h = F_Mo_meet x1 x2 x3 h := rfl
def S_Mo_meet : Sem Hp := [(98, sF_Mo_areTwo), (71, sF_Mo_in)]
set_option maxRecDepth 100000 in
theorem e_Mo_meet_0 (x1 : Int32) (x2 : Int32) (x3 : Int32) (h : Hp) : F_Mo_meet x1 x2 x3 h = exec1 OI S_Mo_meet 1 k_Mo_meet 0 [some (.ref 178), some (.int x1), some (.int x2), some (.int x3)] [] h (runF OI S_Mo_meet [] 1 k_Mo_meet 400) :=
  (x_bI (f := sF_Mo_areTwo) rfl (w_Mo_areTwo _ _ _) fun v2 h1 => (x_ite rfl (x_bI (f := sF_Mo_in) rfl (w_Mo_in _ _ _ _) fun v4 h3 => (x_ite rfl (x_ite rfl (x_bif (x_bH fun h5 => (x_bif (x_bH fun h6 => (x_bif (x_bH fun h7 => (x_bH fun h8 => rfl))))))))))))
def k_Mo_off : List Ent := [(0, .iload_n 1, 1, [], .null), (1, .iconst 0, 1, [], .int (0)), (2, .aload_n 0, 1, [], .null), (3, .getfield 134, 3, [7, 11, 0], .null), (6, .invokestatic 72, 3, [71, 3, 2], .null), (9, .ifCond .ne (5), 3, [14], .null), (12, .iconst (-1), 1, [], .int (-1)), (13, .ireturn, 1, [], .null), (14, .aload_n 0, 1, [], .null), (15, .getfield 134, 3, [7, 11, 0], .null), (18, .iload_n 1, 1, [], .null), (19, .isub, 1, [], .null), (20, .istore_n 2, 1, [], .null), (21, .aload_n 0, 1, [], .null), (22, .iload_n 1, 1, [], .null), (23, .putfield 134, 3, [7, 11, 0], .null), (26, .iload_n 2, 1, [], .null), (27, .ireturn, 1, [], .null)]
def F_Mo_off (x1 : Int32) (h : Hp) : Res Hp :=
  bI (F_Mo_in x1 (0 : Int32) (hg h 178 11) h) fun v2 h1 =>
  if v2 = (0 : Int32) then
  (retI (-1 : Int32) h1)
  else
  (bH (hs h1 178 11 x1) fun h3 =>
  retI ((hg h1 178 11) - x1) h3)
def sF_Mo_off : List Value → Hp → Res Hp := fun as h => match as with | [.ref f0, .int x1] => (match Nat.beq f0 178 with | true => F_Mo_off x1 h | false => none) | _ => none
theorem w_Mo_off (x1 : Int32) (h : Hp) : sF_Mo_off [.ref 178, .int x1] h = F_Mo_off x1 h := rfl
def S_Mo_off : Sem Hp := [(71, sF_Mo_in)]
set_option maxRecDepth 100000 in
theorem e_Mo_off_0 (x1 : Int32) (h : Hp) : F_Mo_off x1 h = exec1 OI S_Mo_off 1 k_Mo_off 0 [some (.ref 178), some (.int x1), none] [] h (runF OI S_Mo_off [] 1 k_Mo_off 400) :=
  (x_bI (f := sF_Mo_in) rfl (w_Mo_in _ _ _ _) fun v2 h1 => (x_ite rfl (x_bH fun h3 => rfl)))
def k_Mo_may : List Ent := [(0, .aload_n 0, 1, [], .null), (1, .iload_n 1, 1, [], .null), (2, .invokevirtual 143, 3, [97, 2, 2, 7], .null), (5, .ifCond .eq (27), 3, [32], .null), (8, .iload_n 2, 1, [], .null), (9, .invokestatic 180, 3, [100, 1, 2], .null), (12, .ifCond .eq (20), 3, [32], .null), (15, .aload_n 0, 1, [], .null), (16, .iload_n 1, 1, [], .null), (17, .iload_n 2, 1, [], .null), (18, .invokevirtual 183, 3, [103, 3, 2, 7], .null), (21, .ifCond .eq (7), 3, [28], .null), (24, .iconst 1, 1, [], .int (1)), (25, .goto (8), 3, [33], .null), (28, .iconst 0, 1, [], .int (0)), (29, .goto (4), 3, [33], .null), (32, .iconst (-1), 1, [], .int (-1)), (33, .ireturn, 1, [], .null)]
def F_Mo_may (x1 : Int32) (x2 : Int32) (h : Hp) : Res Hp :=
  bI (F_Mo_isOne x1 h) fun v2 h1 =>
  if v2 = (0 : Int32) then
  (retI (-1 : Int32) h1)
  else
  (bI (F_Mo_isSet x2 h1) fun v4 h3 =>
  if v4 = (0 : Int32) then
  (retI (-1 : Int32) h3)
  else
  (bI (F_Mo_mayCarry x1 x2 h3) fun v6 h5 =>
  if v6 = (0 : Int32) then
  (retI (0 : Int32) h5)
  else
  (retI (1 : Int32) h5)))
def sF_Mo_may : List Value → Hp → Res Hp := fun as h => match as with | [.ref f0, .int x1, .int x2] => (match Nat.beq f0 178 with | true => F_Mo_may x1 x2 h | false => none) | _ => none
theorem w_Mo_may (x1 : Int32) (x2 : Int32) (h : Hp) : sF_Mo_may [.ref 178, .int x1, .int x2] h = F_Mo_may x1 x2 h := rfl
def S_Mo_may : Sem Hp := [(97, sF_Mo_isOne), (100, sF_Mo_isSet), (103, sF_Mo_mayCarry)]
set_option maxRecDepth 100000 in
theorem e_Mo_may_0 (x1 : Int32) (x2 : Int32) (h : Hp) : F_Mo_may x1 x2 h = exec1 OI S_Mo_may 1 k_Mo_may 0 [some (.ref 178), some (.int x1), some (.int x2)] [] h (runF OI S_Mo_may [] 1 k_Mo_may 400) :=
  (x_bI (f := sF_Mo_isOne) rfl (w_Mo_isOne _ _) fun v2 h1 => (x_ite rfl (x_bI (f := sF_Mo_isSet) rfl (w_Mo_isSet _ _) fun v4 h3 => (x_ite rfl (x_bI (f := sF_Mo_mayCarry) rfl (w_Mo_mayCarry _ _ _) fun v6 h5 => (x_ite rfl rfl))))))
def k_Mo_meets : List Ent := [(0, .aload_n 0, 1, [], .null), (1, .iload_n 1, 1, [], .null), (2, .invokevirtual 143, 3, [97, 2, 2, 7], .null), (5, .ifCond .eq (22), 3, [27], .null), (8, .iload_n 2, 1, [], .null), (9, .iconst 0, 1, [], .int (0)), (10, .bipush (99), 2, [], .int (99)), (12, .invokestatic 72, 3, [71, 3, 2], .null), (15, .ifCond .eq (12), 3, [27], .null), (18, .aload_n 0, 1, [], .null), (19, .iload_n 1, 1, [], .null), (20, .iload_n 2, 1, [], .null), (21, .invokevirtual 171, 3, [104, 3, 1, 7], .null), (24, .goto (4), 3, [28], .null), (27, .iconst (-1), 1, [], .int (-1)), (28, .ireturn, 1, [], .null)]
def F_Mo_meets (x1 : Int32) (x2 : Int32) (h : Hp) : Res Hp :=
  bI (F_Mo_isOne x1 h) fun v2 h1 =>
  if v2 = (0 : Int32) then
  (retI (-1 : Int32) h1)
  else
  (bI (F_Mo_in x2 (0 : Int32) (99 : Int32) h1) fun v4 h3 =>
  if v4 = (0 : Int32) then
  (retI (-1 : Int32) h3)
  else
  (bI (F_Mo_metBy x1 x2 h3) fun v6 h5 =>
  retI v6 h5))
def sF_Mo_meets : List Value → Hp → Res Hp := fun as h => match as with | [.ref f0, .int x1, .int x2] => (match Nat.beq f0 178 with | true => F_Mo_meets x1 x2 h | false => none) | _ => none
theorem w_Mo_meets (x1 : Int32) (x2 : Int32) (h : Hp) : sF_Mo_meets [.ref 178, .int x1, .int x2] h = F_Mo_meets x1 x2 h := rfl
def S_Mo_meets : Sem Hp := [(97, sF_Mo_isOne), (71, sF_Mo_in), (104, sF_Mo_metBy)]
set_option maxRecDepth 100000 in
theorem e_Mo_meets_0 (x1 : Int32) (x2 : Int32) (h : Hp) : F_Mo_meets x1 x2 h = exec1 OI S_Mo_meets 1 k_Mo_meets 0 [some (.ref 178), some (.int x1), some (.int x2)] [] h (runF OI S_Mo_meets [] 1 k_Mo_meets 400) :=
  (x_bI (f := sF_Mo_isOne) rfl (w_Mo_isOne _ _) fun v2 h1 => (x_ite rfl (x_bI (f := sF_Mo_in) rfl (w_Mo_in _ _ _ _) fun v4 h3 => (x_ite rfl (x_bI (f := sF_Mo_metBy) rfl (w_Mo_metBy _ _ _) fun v6 h5 => rfl)))))
def k_Mo_writes : List Ent := [(0, .iload_n 3, 1, [], .null), (1, .aload_n 0, 1, [], .null), (2, .getfield 31, 3, [7, 10, 1], .null), (5, .iload_n 1, 1, [], .null), (6, .iaload, 1, [], .null), (7, .aload_n 0, 1, [], .null), (8, .getfield 31, 3, [7, 10, 1], .null), (11, .iload_n 2, 1, [], .null), (12, .iaload, 1, [], .null), (13, .iand, 1, [], .null), (14, .iconst (-1), 1, [], .int (-1)), (15, .ixor, 1, [], .null), (16, .iand, 1, [], .null), (17, .ifCond .ne (7), 3, [24], .null), (20, .iconst 1, 1, [], .int (1)), (21, .goto (4), 3, [25], .null), (24, .iconst 0, 1, [], .int (0)), (25, .ireturn, 1, [], .null)]
def F_Mo_writes (x1 : Int32) (x2 : Int32) (x3 : Int32) (h : Hp) : Res Hp :=
  bif okA 186 100 x1 then
  bif okA 186 100 x2 then
  if (x3 &&& (((hg h 186 x1.toNatClampNeg) &&& (hg h 186 x2.toNatClampNeg)) ^^^ (-1 : Int32))) = (0 : Int32) then
  (retZ (1 : Int32) h)
  else
  (retZ (0 : Int32) h)
  else none
  else none
def sF_Mo_writes : List Value → Hp → Res Hp := fun as h => match as with | [.ref f0, .int x1, .int x2, .int x3] => (match Nat.beq f0 178 with | true => F_Mo_writes x1 x2 x3 h | false => none) | _ => none
theorem w_Mo_writes (x1 : Int32) (x2 : Int32) (x3 : Int32) (h : Hp) : sF_Mo_writes [.ref 178, .int x1, .int x2, .int x3] h = F_Mo_writes x1 x2 x3 h := rfl
def S_Mo_writes : Sem Hp := []
set_option maxRecDepth 100000 in
theorem e_Mo_writes_0 (x1 : Int32) (x2 : Int32) (x3 : Int32) (h : Hp) : F_Mo_writes x1 x2 x3 h = exec1 OI S_Mo_writes 2 k_Mo_writes 0 [some (.ref 178), some (.int x1), some (.int x2), some (.int x3)] [] h (runF OI S_Mo_writes [] 2 k_Mo_writes 400) :=
  (x_bif (x_bif (x_ite rfl rfl)))
def k_Mo_send : List Ent := [(0, .aload_n 0, 1, [], .null), (1, .iload_n 1, 1, [], .null), (2, .iload_n 2, 1, [], .null), (3, .invokevirtual 177, 3, [98, 3, 2, 7], .null), (6, .ifCond .eq (10), 3, [16], .null), (9, .iload_n 3, 1, [], .null), (10, .invokestatic 180, 3, [100, 1, 2], .null), (13, .ifCond .ne (5), 3, [18], .null), (16, .iconst (-1), 1, [], .int (-1)), (17, .ireturn, 1, [], .null), (18, .aload_n 0, 1, [], .null), (19, .iload_n 1, 1, [], .null), (20, .iload_n 2, 1, [], .null), (21, .iload_n 3, 1, [], .null), (22, .invokevirtual 186, 3, [117, 4, 2, 7], .null), (25, .ifCond .ne (6), 3, [31], .null), (28, .bipush (-4), 2, [], .int (-4)), (30, .ireturn, 1, [], .null), (31, .aload_n 0, 1, [], .null), (32, .getfield 140, 3, [7, 14, 0], .null), (35, .iconst 4, 1, [], .int (4)), (36, .if_icmp .ne (6), 3, [42], .null), (39, .bipush (-2), 2, [], .int (-2)), (41, .ireturn, 1, [], .null), (42, .bipush (17), 2, [], .int (17)), (44, .aload_n 0, 1, [], .null), (45, .getfield 140, 3, [7, 14, 0], .null), (48, .imul, 1, [], .null), (49, .istore 4, 2, [], .null), (51, .aload_n 0, 1, [], .null), (52, .getfield 37, 3, [7, 15, 1], .null), (55, .iload 4, 2, [], .null), (57, .iconst 0, 1, [], .int (0)), (58, .iadd, 1, [], .null), (59, .iload_n 2, 1, [], .null), (60, .iastore, 1, [], .null), (61, .aload_n 0, 1, [], .null), (62, .getfield 37, 3, [7, 15, 1], .null), (65, .iload 4, 2, [], .null), (67, .iconst 1, 1, [], .int (1)), (68, .iadd, 1, [], .null), (69, .iload_n 3, 1, [], .null), (70, .iastore, 1, [], .null), (71, .aload_n 0, 1, [], .null), (72, .getfield 37, 3, [7, 15, 1], .null), (75, .iload 4, 2, [], .null), (77, .iconst 2, 1, [], .int (2)), (78, .iadd, 1, [], .null), (79, .iconst 1, 1, [], .int (1)), (80, .iastore, 1, [], .null), (81, .aload_n 0, 1, [], .null), (82, .getfield 37, 3, [7, 15, 1], .null), (85, .iload 4, 2, [], .null), (87, .iconst 3, 1, [], .int (3)), (88, .iadd, 1, [], .null), (89, .iload_n 1, 1, [], .null), (90, .iastore, 1, [], .null), (91, .aload_n 0, 1, [], .null), (92, .getfield 37, 3, [7, 15, 1], .null), (95, .iload 4, 2, [], .null), (97, .bipush (10), 2, [], .int (10)), (99, .iadd, 1, [], .null), (100, .aload_n 0, 1, [], .null), (101, .getfield 137, 3, [7, 13, 0], .null), (104, .iastore, 1, [], .null), (105, .aload_n 0, 1, [], .null), (106, .dup, 1, [], .null), (107, .getfield 140, 3, [7, 14, 0], .null), (110, .iconst 1, 1, [], .int (1)), (111, .iadd, 1, [], .null), (112, .putfield 140, 3, [7, 14, 0], .null), (115, .aload_n 0, 1, [], .null), (116, .getfield 140, 3, [7, 14, 0], .null), (119, .iconst 1, 1, [], .int (1)), (120, .isub, 1, [], .null), (121, .ireturn, 1, [], .null)]
def F_Mo_send (x1 : Int32) (x2 : Int32) (x3 : Int32) (h : Hp) : Res Hp :=
  bI (F_Mo_areTwo x1 x2 h) fun v2 h1 =>
  if v2 = (0 : Int32) then
  (retI (-1 : Int32) h1)
  else
  (bI (F_Mo_isSet x3 h1) fun v4 h3 =>
  if v4 = (0 : Int32) then
  (retI (-1 : Int32) h3)
  else
  (bI (F_Mo_writes x1 x2 x3 h3) fun v6 h5 =>
  if v6 = (0 : Int32) then
  (retI (-4 : Int32) h5)
  else
  (if (hg h5 178 14) = (4 : Int32) then
  (retI (-2 : Int32) h5)
  else
  (bif okA 188 100 (((17 : Int32) * (hg h5 178 14)) + (0 : Int32)) then
  bH (hs h5 188 (((17 : Int32) * (hg h5 178 14)) + (0 : Int32)).toNatClampNeg x2) fun h7 =>
  bif okA 188 100 (((17 : Int32) * (hg h5 178 14)) + (1 : Int32)) then
  bH (hs h7 188 (((17 : Int32) * (hg h5 178 14)) + (1 : Int32)).toNatClampNeg x3) fun h8 =>
  bif okA 188 100 (((17 : Int32) * (hg h5 178 14)) + (2 : Int32)) then
  bH (hs h8 188 (((17 : Int32) * (hg h5 178 14)) + (2 : Int32)).toNatClampNeg (1 : Int32)) fun h9 =>
  bif okA 188 100 (((17 : Int32) * (hg h5 178 14)) + (3 : Int32)) then
  bH (hs h9 188 (((17 : Int32) * (hg h5 178 14)) + (3 : Int32)).toNatClampNeg x1) fun h10 =>
  bif okA 188 100 (((17 : Int32) * (hg h5 178 14)) + (10 : Int32)) then
  bH (hs h10 188 (((17 : Int32) * (hg h5 178 14)) + (10 : Int32)).toNatClampNeg (hg h10 178 13)) fun h11 =>
  bH (hs h11 178 14 ((hg h11 178 14) + (1 : Int32))) fun h12 =>
  retI ((hg h12 178 14) - (1 : Int32)) h12
  else none
  else none
  else none
  else none
  else none))))
def sF_Mo_send : List Value → Hp → Res Hp := fun as h => match as with | [.ref f0, .int x1, .int x2, .int x3] => (match Nat.beq f0 178 with | true => F_Mo_send x1 x2 x3 h | false => none) | _ => none
theorem w_Mo_send (x1 : Int32) (x2 : Int32) (x3 : Int32) (h : Hp) : sF_Mo_send [.ref 178, .int x1, .int x2, .int x3] h = F_Mo_send x1 x2 x3 h := rfl
def S_Mo_send : Sem Hp := [(98, sF_Mo_areTwo), (100, sF_Mo_isSet), (117, sF_Mo_writes)]
set_option maxRecDepth 100000 in
theorem e_Mo_send_0 (x1 : Int32) (x2 : Int32) (x3 : Int32) (h : Hp) : F_Mo_send x1 x2 x3 h = exec1 OI S_Mo_send 1 k_Mo_send 0 [some (.ref 178), some (.int x1), some (.int x2), some (.int x3), none] [] h (runF OI S_Mo_send [] 1 k_Mo_send 400) :=
  (x_bI (f := sF_Mo_areTwo) rfl (w_Mo_areTwo _ _ _) fun v2 h1 => (x_ite rfl (x_bI (f := sF_Mo_isSet) rfl (w_Mo_isSet _ _) fun v4 h3 => (x_ite rfl (x_bI (f := sF_Mo_writes) rfl (w_Mo_writes _ _ _ _) fun v6 h5 => (x_ite rfl (x_ite rfl (x_bif (x_bH fun h7 => (x_bif (x_bH fun h8 => (x_bif (x_bH fun h9 => (x_bif (x_bH fun h10 => (x_bif (x_bH fun h11 => (x_bH fun h12 => rfl))))))))))))))))))
def k_Mo_hadBy : List Ent := [(0, .iconst 0, 1, [], .int (0)), (1, .istore_n 2, 1, [], .null), (2, .iconst 0, 1, [], .int (0)), (3, .istore_n 3, 1, [], .null), (4, .iload_n 3, 1, [], .null), (5, .aload_n 0, 1, [], .null), (6, .iload_n 1, 1, [], .null), (7, .iconst 2, 1, [], .int (2)), (8, .invokevirtual 153, 3, [105, 3, 1, 7], .null), (11, .if_icmp .ge (22), 3, [33], .null), (14, .iload_n 2, 1, [], .null), (15, .iconst 1, 1, [], .int (1)), (16, .aload_n 0, 1, [], .null), (17, .iload_n 1, 1, [], .null), (18, .iconst 3, 1, [], .int (3)), (19, .iload_n 3, 1, [], .null), (20, .iadd, 1, [], .null), (21, .invokevirtual 153, 3, [105, 3, 1, 7], .null), (24, .ishl, 1, [], .null), (25, .ior, 1, [], .null), (26, .istore_n 2, 1, [], .null), (27, .iinc 3 (1), 3, [], .int (1)), (30, .goto (-26), 3, [4], .null), (33, .iload_n 2, 1, [], .null), (34, .ireturn, 1, [], .null)]
def Mo_hadBy_4    : (Int32 × Int32 × Int32 × Hp) → ((Int32 × Int32 × Int32 × Hp) → Res Hp) → Res Hp := fun s κ4 => match s with
  | (x1, x2, x3, h) =>
  bI (F_Mo_letterOf x1 (2 : Int32) h) fun v2 h1 =>
  if v2 ≤ x3 then
  (retI x2 h1)
  else
  (bI (F_Mo_letterOf x1 ((3 : Int32) + x3) h1) fun v4 h3 =>
  κ4 (x1, (x2 ||| ((1 : Int32) <<< (v4 &&& 31))), (x3 + (1 : Int32)), h3))
def F_Mo_hadBy (x1 : Int32) (h : Hp) : Res Hp :=
  loopC (Mo_hadBy_4   ) FU (x1, (0 : Int32), (0 : Int32), h)
def sF_Mo_hadBy : List Value → Hp → Res Hp := fun as h => match as with | [.ref f0, .int x1] => (match Nat.beq f0 178 with | true => F_Mo_hadBy x1 h | false => none) | _ => none
theorem w_Mo_hadBy (x1 : Int32) (h : Hp) : sF_Mo_hadBy [.ref 178, .int x1] h = F_Mo_hadBy x1 h := rfl
def S_Mo_hadBy : Sem Hp := [(105, sF_Mo_letterOf)]
set_option maxRecDepth 100000 in
theorem e_Mo_hadBy_0 (x1 : Int32) (h : Hp) : F_Mo_hadBy x1 h = exec1 OI S_Mo_hadBy 1 k_Mo_hadBy 0 [some (.ref 178), some (.int x1), none, none] [] h (runF OI S_Mo_hadBy [(4, [0, 1, 2, 3], fun vs st h => match vs, st with | [.ref f0, .int x1, .int x2, .int x3], [] => (match Nat.beq f0 178 with | true => loopC (Mo_hadBy_4   ) FU (x1, x2, x3, h) | false => none) | _, _ => none)] 1 k_Mo_hadBy 400) :=
  rfl
set_option maxRecDepth 100000 in
theorem e_Mo_hadBy_4 (κ4 : (Int32 × Int32 × Int32 × Hp) → Res Hp) (x1 : Int32) (x2 : Int32) (x3 : Int32)  (h : Hp) : Mo_hadBy_4    (x1, x2, x3, h) κ4 = exec1 OI S_Mo_hadBy 1 k_Mo_hadBy 4 [some (.ref 178), some (.int x1), some (.int x2), some (.int x3)] [] h (runF OI S_Mo_hadBy [(4, [0, 1, 2, 3], fun vs st h => match vs, st with | [.ref f0, .int x1, .int x2, .int x3], [] => (match Nat.beq f0 178 with | true => κ4 (x1, x2, x3, h) | false => none) | _, _ => none)] 1 k_Mo_hadBy 400) :=
  (x_bI (f := sF_Mo_letterOf) rfl (w_Mo_letterOf _ _ _) fun v2 h1 => (x_ite rfl (x_bI (f := sF_Mo_letterOf) rfl (w_Mo_letterOf _ _ _) fun v4 h3 => rfl)))
def k_Mo_takes : List Ent := [(0, .aload_n 0, 1, [], .null), (1, .getfield 28, 3, [7, 9, 1], .null), (4, .iload_n 1, 1, [], .null), (5, .iaload, 1, [], .null), (6, .iconst 4, 1, [], .int (4)), (7, .if_icmp .ne (8), 3, [15], .null), (10, .iload_n 2, 1, [], .null), (11, .iload_n 3, 1, [], .null), (12, .if_icmp .ne (7), 3, [19], .null), (15, .iconst 1, 1, [], .int (1)), (16, .goto (4), 3, [20], .null), (19, .iconst 0, 1, [], .int (0)), (20, .ireturn, 1, [], .null)]
def F_Mo_takes (x1 : Int32) (x2 : Int32) (x3 : Int32) (h : Hp) : Res Hp :=
  bif okA 185 100 x1 then
  if (hg h 185 x1.toNatClampNeg) = (4 : Int32) then
  (if x2 = x3 then
  (retZ (1 : Int32) h)
  else
  (retZ (0 : Int32) h))
  else
  (retZ (1 : Int32) h)
  else none
def sF_Mo_takes : List Value → Hp → Res Hp := fun as h => match as with | [.ref f0, .int x1, .int x2, .int x3] => (match Nat.beq f0 178 with | true => F_Mo_takes x1 x2 x3 h | false => none) | _ => none
theorem w_Mo_takes (x1 : Int32) (x2 : Int32) (x3 : Int32) (h : Hp) : sF_Mo_takes [.ref 178, .int x1, .int x2, .int x3] h = F_Mo_takes x1 x2 x3 h := rfl
def S_Mo_takes : Sem Hp := []
set_option maxRecDepth 100000 in
theorem e_Mo_takes_0 (x1 : Int32) (x2 : Int32) (x3 : Int32) (h : Hp) : F_Mo_takes x1 x2 x3 h = exec1 OI S_Mo_takes 2 k_Mo_takes 0 [some (.ref 178), some (.int x1), some (.int x2), some (.int x3)] [] h (runF OI S_Mo_takes [] 2 k_Mo_takes 400) :=
  (x_bif (x_ite (x_ite rfl rfl) rfl))
def k_Mo_givable : List Ent := [(0, .aload_n 0, 1, [], .null), (1, .iload_n 1, 1, [], .null), (2, .iconst 2, 1, [], .int (2)), (3, .invokevirtual 153, 3, [105, 3, 1, 7], .null), (6, .istore_n 2, 1, [], .null), (7, .aload_n 0, 1, [], .null), (8, .iload_n 1, 1, [], .null), (9, .invokevirtual 159, 3, [107, 2, 2, 7], .null), (12, .ifCond .ne (26), 3, [38], .null), (15, .iload_n 2, 1, [], .null), (16, .iconst 1, 1, [], .int (1)), (17, .if_icmp .le (23), 3, [40], .null), (20, .aload_n 0, 1, [], .null), (21, .iload_n 1, 1, [], .null), (22, .bipush (10), 2, [], .int (10)), (24, .iload_n 2, 1, [], .null), (25, .iadd, 1, [], .null), (26, .iconst 1, 1, [], .int (1)), (27, .isub, 1, [], .null), (28, .invokevirtual 153, 3, [105, 3, 1, 7], .null), (31, .aload_n 0, 1, [], .null), (32, .getfield 137, 3, [7, 13, 0], .null), (35, .if_icmp .ne (5), 3, [40], .null), (38, .iconst 0, 1, [], .int (0)), (39, .ireturn, 1, [], .null), (40, .aload_n 0, 1, [], .null), (41, .iload_n 1, 1, [], .null), (42, .invokevirtual 156, 3, [106, 2, 1, 7], .null), (45, .istore_n 3, 1, [], .null), (46, .iconst 0, 1, [], .int (0)), (47, .istore 4, 2, [], .null), (49, .aload_n 0, 1, [], .null), (50, .iload_n 3, 1, [], .null), (51, .aload_n 0, 1, [], .null), (52, .getfield 137, 3, [7, 13, 0], .null), (55, .invokevirtual 171, 3, [104, 3, 1, 7], .null), (58, .aload_n 0, 1, [], .null), (59, .iload_n 1, 1, [], .null), (60, .invokevirtual 189, 3, [119, 2, 1, 7], .null), (63, .iconst (-1), 1, [], .int (-1)), (64, .ixor, 1, [], .null), (65, .iand, 1, [], .null), (66, .istore 5, 2, [], .null), (68, .iconst 0, 1, [], .int (0)), (69, .istore 6, 2, [], .null), (71, .iload 6, 2, [], .null), (73, .aload_n 0, 1, [], .null), (74, .getfield 131, 3, [7, 8, 0], .null), (77, .if_icmp .ge (86), 3, [163], .null), (80, .iload 6, 2, [], .null), (82, .aload_n 0, 1, [], .null), (83, .iload_n 1, 1, [], .null), (84, .iconst 0, 1, [], .int (0)), (85, .invokevirtual 153, 3, [105, 3, 1, 7], .null), (88, .if_icmp .eq (34), 3, [122], .null), (91, .aload_n 0, 1, [], .null), (92, .iload 6, 2, [], .null), (94, .aload_n 0, 1, [], .null), (95, .iload_n 1, 1, [], .null), (96, .iconst 1, 1, [], .int (1)), (97, .invokevirtual 153, 3, [105, 3, 1, 7], .null), (100, .invokevirtual 183, 3, [103, 3, 2, 7], .null), (103, .ifCond .eq (23), 3, [126], .null), (106, .aload_n 0, 1, [], .null), (107, .iload 6, 2, [], .null), (109, .iload_n 3, 1, [], .null), (110, .aload_n 0, 1, [], .null), (111, .iload_n 1, 1, [], .null), (112, .iconst 3, 1, [], .int (3)), (113, .invokevirtual 153, 3, [105, 3, 1, 7], .null), (116, .invokevirtual 192, 3, [120, 4, 2, 7], .null), (119, .ifCond .eq (7), 3, [126], .null), (122, .iconst 1, 1, [], .int (1)), (123, .goto (4), 3, [127], .null), (126, .iconst 0, 1, [], .int (0)), (127, .istore 7, 2, [], .null), (129, .iload 4, 2, [], .null), (131, .iload 5, 2, [], .null), (133, .iload 6, 2, [], .null), (135, .invokestatic 195, 3, [74, 2, 2], .null), (138, .ifCond .eq (15), 3, [153], .null), (141, .iload 7, 2, [], .null), (143, .ifCond .eq (10), 3, [153], .null), (146, .iconst 1, 1, [], .int (1)), (147, .iload 6, 2, [], .null), (149, .ishl, 1, [], .null), (150, .goto (4), 3, [154], .null), (153, .iconst 0, 1, [], .int (0)), (154, .ior, 1, [], .null), (155, .istore 4, 2, [], .null), (157, .iinc 6 (1), 3, [], .int (1)), (160, .goto (-89), 3, [71], .null), (163, .iload 4, 2, [], .null), (165, .ireturn, 1, [], .null)]
def Mo_givable_71    : (Int32 × Int32 × Int32 × Int32 × Int32 × Hp) → ((Int32 × Int32 × Int32 × Int32 × Int32 × Hp) → Res Hp) → Res Hp := fun s κ71 => match s with
  | (x1, x3, x4, x5, x6, h) =>
  if (hg h 178 8) ≤ x6 then
  (retI x4 h)
  else
  (bI (F_Mo_letterOf x1 (0 : Int32) h) fun v2 h1 =>
  if x6 = v2 then
  (bI (F_Mo_has x5 x6 h1) fun v4 h3 =>
  if v4 = (0 : Int32) then
  (κ71 (x1, x3, (x4 ||| (0 : Int32)), x5, (x6 + (1 : Int32)), h3))
  else
  (κ71 (x1, x3, (x4 ||| ((1 : Int32) <<< (x6 &&& 31))), x5, (x6 + (1 : Int32)), h3)))
  else
  (bI (F_Mo_letterOf x1 (1 : Int32) h1) fun v6 h5 =>
  bI (F_Mo_mayCarry x6 v6 h5) fun v8 h7 =>
  if v8 = (0 : Int32) then
  (bI (F_Mo_has x5 x6 h7) fun v10 h9 =>
  if v10 = (0 : Int32) then
  (κ71 (x1, x3, (x4 ||| (0 : Int32)), x5, (x6 + (1 : Int32)), h9))
  else
  (κ71 (x1, x3, (x4 ||| (0 : Int32)), x5, (x6 + (1 : Int32)), h9)))
  else
  (bI (F_Mo_letterOf x1 (3 : Int32) h7) fun v12 h11 =>
  bI (F_Mo_takes x6 x3 v12 h11) fun v14 h13 =>
  if v14 = (0 : Int32) then
  (bI (F_Mo_has x5 x6 h13) fun v16 h15 =>
  if v16 = (0 : Int32) then
  (κ71 (x1, x3, (x4 ||| (0 : Int32)), x5, (x6 + (1 : Int32)), h15))
  else
  (κ71 (x1, x3, (x4 ||| (0 : Int32)), x5, (x6 + (1 : Int32)), h15)))
  else
  (bI (F_Mo_has x5 x6 h13) fun v18 h17 =>
  if v18 = (0 : Int32) then
  (κ71 (x1, x3, (x4 ||| (0 : Int32)), x5, (x6 + (1 : Int32)), h17))
  else
  (κ71 (x1, x3, (x4 ||| ((1 : Int32) <<< (x6 &&& 31))), x5, (x6 + (1 : Int32)), h17))))))
def F_Mo_givable (x1 : Int32) (h : Hp) : Res Hp :=
  bI (F_Mo_letterOf x1 (2 : Int32) h) fun v2 h1 =>
  bI (F_Mo_isThere x1 h1) fun v4 h3 =>
  if v4 = (0 : Int32) then
  (if v2 ≤ (1 : Int32) then
  (bI (F_Mo_holderOf x1 h3) fun v6 h5 =>
  bI (F_Mo_metBy v6 (hg h5 178 13) h5) fun v8 h7 =>
  bI (F_Mo_hadBy x1 h7) fun v10 h9 =>
  loopC (Mo_givable_71   ) FU (x1, v6, (0 : Int32), (v8 &&& (v10 ^^^ (-1 : Int32))), (0 : Int32), h9))
  else
  (bI (F_Mo_letterOf x1 (((10 : Int32) + v2) - (1 : Int32)) h3) fun v12 h11 =>
  if v12 = (hg h11 178 13) then
  (retI (0 : Int32) h11)
  else
  (bI (F_Mo_holderOf x1 h11) fun v14 h13 =>
  bI (F_Mo_metBy v14 (hg h13 178 13) h13) fun v16 h15 =>
  bI (F_Mo_hadBy x1 h15) fun v18 h17 =>
  loopC (Mo_givable_71   ) FU (x1, v14, (0 : Int32), (v16 &&& (v18 ^^^ (-1 : Int32))), (0 : Int32), h17))))
  else
  (retI (0 : Int32) h3)
def sF_Mo_givable : List Value → Hp → Res Hp := fun as h => match as with | [.ref f0, .int x1] => (match Nat.beq f0 178 with | true => F_Mo_givable x1 h | false => none) | _ => none
theorem w_Mo_givable (x1 : Int32) (h : Hp) : sF_Mo_givable [.ref 178, .int x1] h = F_Mo_givable x1 h := rfl
def S_Mo_givable : Sem Hp := [(105, sF_Mo_letterOf), (107, sF_Mo_isThere), (106, sF_Mo_holderOf), (104, sF_Mo_metBy), (119, sF_Mo_hadBy), (74, sF_Mo_has), (103, sF_Mo_mayCarry), (120, sF_Mo_takes)]
set_option maxRecDepth 100000 in
theorem e_Mo_givable_0 (x1 : Int32) (h : Hp) : F_Mo_givable x1 h = exec1 OI S_Mo_givable 1 k_Mo_givable 0 [some (.ref 178), some (.int x1), none, none, none, none, none, none] [] h (runF OI S_Mo_givable [(71, [0, 1, 3, 4, 5, 6], fun vs st h => match vs, st with | [.ref f0, .int x1, .int x3, .int x4, .int x5, .int x6], [] => (match Nat.beq f0 178 with | true => loopC (Mo_givable_71   ) FU (x1, x3, x4, x5, x6, h) | false => none) | _, _ => none)] 1 k_Mo_givable 400) :=
  (x_bI (f := sF_Mo_letterOf) rfl (w_Mo_letterOf _ _ _) fun v2 h1 => (x_bI (f := sF_Mo_isThere) rfl (w_Mo_isThere _ _) fun v4 h3 => (x_ite (x_ite (x_bI (f := sF_Mo_holderOf) rfl (w_Mo_holderOf _ _) fun v6 h5 => (x_bI (f := sF_Mo_metBy) rfl (w_Mo_metBy _ _ _) fun v8 h7 => (x_bI (f := sF_Mo_hadBy) rfl (w_Mo_hadBy _ _) fun v10 h9 => rfl))) (x_bI (f := sF_Mo_letterOf) rfl (w_Mo_letterOf _ _ _) fun v12 h11 => (x_ite rfl (x_bI (f := sF_Mo_holderOf) rfl (w_Mo_holderOf _ _) fun v14 h13 => (x_bI (f := sF_Mo_metBy) rfl (w_Mo_metBy _ _ _) fun v16 h15 => (x_bI (f := sF_Mo_hadBy) rfl (w_Mo_hadBy _ _) fun v18 h17 => rfl)))))) rfl)))
set_option maxRecDepth 100000 in
theorem e_Mo_givable_71 (κ71 : (Int32 × Int32 × Int32 × Int32 × Int32 × Hp) → Res Hp) (x1 : Int32) (x3 : Int32) (x4 : Int32) (x5 : Int32) (x6 : Int32)  (h : Hp) : Mo_givable_71    (x1, x3, x4, x5, x6, h) κ71 = exec1 OI S_Mo_givable 1 k_Mo_givable 71 [some (.ref 178), some (.int x1), none, some (.int x3), some (.int x4), some (.int x5), some (.int x6), none] [] h (runF OI S_Mo_givable [(71, [0, 1, 3, 4, 5, 6], fun vs st h => match vs, st with | [.ref f0, .int x1, .int x3, .int x4, .int x5, .int x6], [] => (match Nat.beq f0 178 with | true => κ71 (x1, x3, x4, x5, x6, h) | false => none) | _, _ => none)] 1 k_Mo_givable 400) :=
  (x_ite rfl (x_bI (f := sF_Mo_letterOf) rfl (w_Mo_letterOf _ _ _) fun v2 h1 => (x_ite (x_bI (f := sF_Mo_has) rfl (w_Mo_has _ _ _) fun v4 h3 => (x_ite rfl rfl)) (x_bI (f := sF_Mo_letterOf) rfl (w_Mo_letterOf _ _ _) fun v6 h5 => (x_bI (f := sF_Mo_mayCarry) rfl (w_Mo_mayCarry _ _ _) fun v8 h7 => (x_ite (x_bI (f := sF_Mo_has) rfl (w_Mo_has _ _ _) fun v10 h9 => (x_ite rfl rfl)) (x_bI (f := sF_Mo_letterOf) rfl (w_Mo_letterOf _ _ _) fun v12 h11 => (x_bI (f := sF_Mo_takes) rfl (w_Mo_takes _ _ _ _) fun v14 h13 => (x_ite (x_bI (f := sF_Mo_has) rfl (w_Mo_has _ _ _) fun v16 h15 => (x_ite rfl rfl)) (x_bI (f := sF_Mo_has) rfl (w_Mo_has _ _ _) fun v18 h17 => (x_ite rfl rfl)))))))))))
def k_Mo_giveTo : List Ent := [(0, .aload_n 0, 1, [], .null), (1, .iload_n 1, 1, [], .null), (2, .iconst 2, 1, [], .int (2)), (3, .invokevirtual 153, 3, [105, 3, 1, 7], .null), (6, .istore_n 3, 1, [], .null), (7, .aload_n 0, 1, [], .null), (8, .iload_n 1, 1, [], .null), (9, .invokevirtual 156, 3, [106, 2, 1, 7], .null), (12, .istore 4, 2, [], .null), (14, .aload_n 0, 1, [], .null), (15, .iload 4, 2, [], .null), (17, .iconst 3, 1, [], .int (3)), (18, .invokevirtual 146, 3, [101, 3, 2, 7], .null), (21, .ifCond .eq (19), 3, [40], .null), (24, .aload_n 0, 1, [], .null), (25, .getfield 31, 3, [7, 10, 1], .null), (28, .iload 4, 2, [], .null), (30, .dup2, 1, [], .null), (31, .iaload, 1, [], .null), (32, .aload_n 0, 1, [], .null), (33, .iload_n 1, 1, [], .null), (34, .iconst 1, 1, [], .int (1)), (35, .invokevirtual 153, 3, [105, 3, 1, 7], .null), (38, .ior, 1, [], .null), (39, .iastore, 1, [], .null), (40, .aload_n 0, 1, [], .null), (41, .getfield 37, 3, [7, 15, 1], .null), (44, .bipush (17), 2, [], .int (17)), (46, .iload_n 1, 1, [], .null), (47, .imul, 1, [], .null), (48, .iconst 3, 1, [], .int (3)), (49, .iadd, 1, [], .null), (50, .iload_n 3, 1, [], .null), (51, .iadd, 1, [], .null), (52, .iload_n 2, 1, [], .null), (53, .iastore, 1, [], .null), (54, .aload_n 0, 1, [], .null), (55, .getfield 37, 3, [7, 15, 1], .null), (58, .bipush (17), 2, [], .int (17)), (60, .iload_n 1, 1, [], .null), (61, .imul, 1, [], .null), (62, .bipush (10), 2, [], .int (10)), (64, .iadd, 1, [], .null), (65, .iload_n 3, 1, [], .null), (66, .iadd, 1, [], .null), (67, .aload_n 0, 1, [], .null), (68, .getfield 137, 3, [7, 13, 0], .null), (71, .iastore, 1, [], .null), (72, .aload_n 0, 1, [], .null), (73, .getfield 37, 3, [7, 15, 1], .null), (76, .bipush (17), 2, [], .int (17)), (78, .iload_n 1, 1, [], .null), (79, .imul, 1, [], .null), (80, .iconst 2, 1, [], .int (2)), (81, .iadd, 1, [], .null), (82, .iload_n 3, 1, [], .null), (83, .iconst 1, 1, [], .int (1)), (84, .iadd, 1, [], .null), (85, .iastore, 1, [], .null), (86, .iload_n 2, 1, [], .null), (87, .aload_n 0, 1, [], .null), (88, .iload_n 1, 1, [], .null), (89, .iconst 0, 1, [], .int (0)), (90, .invokevirtual 153, 3, [105, 3, 1, 7], .null), (93, .if_icmp .ne (7), 3, [100], .null), (96, .iconst 1, 1, [], .int (1)), (97, .goto (4), 3, [101], .null), (100, .iconst 0, 1, [], .int (0)), (101, .ireturn, 1, [], .null)]
def F_Mo_giveTo (x1 : Int32) (x2 : Int32) (h : Hp) : Res Hp :=
  bI (F_Mo_letterOf x1 (2 : Int32) h) fun v2 h1 =>
  bI (F_Mo_holderOf x1 h1) fun v4 h3 =>
  bI (F_Mo_isA v4 (3 : Int32) h3) fun v6 h5 =>
  if v6 = (0 : Int32) then
  (bif okA 188 100 ((((17 : Int32) * x1) + (3 : Int32)) + v2) then
  bH (hs h5 188 ((((17 : Int32) * x1) + (3 : Int32)) + v2).toNatClampNeg x2) fun h7 =>
  bif okA 188 100 ((((17 : Int32) * x1) + (10 : Int32)) + v2) then
  bH (hs h7 188 ((((17 : Int32) * x1) + (10 : Int32)) + v2).toNatClampNeg (hg h7 178 13)) fun h8 =>
  bif okA 188 100 (((17 : Int32) * x1) + (2 : Int32)) then
  bH (hs h8 188 (((17 : Int32) * x1) + (2 : Int32)).toNatClampNeg (v2 + (1 : Int32))) fun h9 =>
  bI (F_Mo_letterOf x1 (0 : Int32) h9) fun v11 h10 =>
  if x2 = v11 then
  (retI (1 : Int32) h10)
  else
  (retI (0 : Int32) h10)
  else none
  else none
  else none)
  else
  (bif okA 186 100 v4 then
  bI (F_Mo_letterOf x1 (1 : Int32) h5) fun v13 h12 =>
  bif okA 186 100 v4 then
  bH (hs h12 186 v4.toNatClampNeg ((hg h5 186 v4.toNatClampNeg) ||| v13)) fun h14 =>
  bif okA 188 100 ((((17 : Int32) * x1) + (3 : Int32)) + v2) then
  bH (hs h14 188 ((((17 : Int32) * x1) + (3 : Int32)) + v2).toNatClampNeg x2) fun h15 =>
  bif okA 188 100 ((((17 : Int32) * x1) + (10 : Int32)) + v2) then
  bH (hs h15 188 ((((17 : Int32) * x1) + (10 : Int32)) + v2).toNatClampNeg (hg h15 178 13)) fun h16 =>
  bif okA 188 100 (((17 : Int32) * x1) + (2 : Int32)) then
  bH (hs h16 188 (((17 : Int32) * x1) + (2 : Int32)).toNatClampNeg (v2 + (1 : Int32))) fun h17 =>
  bI (F_Mo_letterOf x1 (0 : Int32) h17) fun v19 h18 =>
  if x2 = v19 then
  (retI (1 : Int32) h18)
  else
  (retI (0 : Int32) h18)
  else none
  else none
  else none
  else none
  else none)
def sF_Mo_giveTo : List Value → Hp → Res Hp := fun as h => match as with | [.ref f0, .int x1, .int x2] => (match Nat.beq f0 178 with | true => F_Mo_giveTo x1 x2 h | false => none) | _ => none
theorem w_Mo_giveTo (x1 : Int32) (x2 : Int32) (h : Hp) : sF_Mo_giveTo [.ref 178, .int x1, .int x2] h = F_Mo_giveTo x1 x2 h := rfl
def S_Mo_giveTo : Sem Hp := [(105, sF_Mo_letterOf), (106, sF_Mo_holderOf), (101, sF_Mo_isA)]
set_option maxRecDepth 100000 in
theorem e_Mo_giveTo_0 (x1 : Int32) (x2 : Int32) (h : Hp) : F_Mo_giveTo x1 x2 h = exec1 OI S_Mo_giveTo 1 k_Mo_giveTo 0 [some (.ref 178), some (.int x1), some (.int x2), none, none] [] h (runF OI S_Mo_giveTo [] 1 k_Mo_giveTo 400) :=
  (x_bI (f := sF_Mo_letterOf) rfl (w_Mo_letterOf _ _ _) fun v2 h1 => (x_bI (f := sF_Mo_holderOf) rfl (w_Mo_holderOf _ _) fun v4 h3 => (x_bI (f := sF_Mo_isA) rfl (w_Mo_isA _ _ _) fun v6 h5 => (x_ite (x_bif (x_bH fun h7 => (x_bif (x_bH fun h8 => (x_bif (x_bH fun h9 => (x_bI (f := sF_Mo_letterOf) rfl (w_Mo_letterOf _ _ _) fun v11 h10 => (x_ite rfl rfl)))))))) (x_bif (x_bI (f := sF_Mo_letterOf) rfl (w_Mo_letterOf _ _ _) fun v13 h12 => (x_bif (x_bH fun h14 => (x_bif (x_bH fun h15 => (x_bif (x_bH fun h16 => (x_bif (x_bH fun h17 => (x_bI (f := sF_Mo_letterOf) rfl (w_Mo_letterOf _ _ _) fun v19 h18 => (x_ite rfl rfl))))))))))))))))
def k_Mo_askedLetter : List Ent := [(0, .iload_n 1, 1, [], .null), (1, .ifCond .ge (7), 3, [8], .null), (4, .iconst (-1), 1, [], .int (-1)), (5, .goto (20), 3, [25], .null), (8, .iload_n 1, 1, [], .null), (9, .aload_n 0, 1, [], .null), (10, .getfield 140, 3, [7, 14, 0], .null), (13, .if_icmp .lt (11), 3, [24], .null), (16, .aload_n 0, 1, [], .null), (17, .iconst 2, 1, [], .int (2)), (18, .invokevirtual 80, 3, [72, 2, 1, 7], .null), (21, .goto (4), 3, [25], .null), (24, .iconst 0, 1, [], .int (0)), (25, .ireturn, 1, [], .null)]
def F_Mo_askedLetter (x1 : Int32) (h : Hp) : Res Hp :=
  if (0 : Int32) ≤ x1 then
  (if x1 < (hg h 178 14) then
  (retI (0 : Int32) h)
  else
  (bI (F_Mo_meetWith (2 : Int32) h) fun v2 h1 =>
  retI v2 h1))
  else
  (retI (-1 : Int32) h)
def sF_Mo_askedLetter : List Value → Hp → Res Hp := fun as h => match as with | [.ref f0, .int x1] => (match Nat.beq f0 178 with | true => F_Mo_askedLetter x1 h | false => none) | _ => none
theorem w_Mo_askedLetter (x1 : Int32) (h : Hp) : sF_Mo_askedLetter [.ref 178, .int x1] h = F_Mo_askedLetter x1 h := rfl
def S_Mo_askedLetter : Sem Hp := [(72, sF_Mo_meetWith)]
set_option maxRecDepth 100000 in
theorem e_Mo_askedLetter_0 (x1 : Int32) (h : Hp) : F_Mo_askedLetter x1 h = exec1 OI S_Mo_askedLetter 1 k_Mo_askedLetter 0 [some (.ref 178), some (.int x1)] [] h (runF OI S_Mo_askedLetter [] 1 k_Mo_askedLetter 400) :=
  (x_ite (x_ite rfl (x_bI (f := sF_Mo_meetWith) rfl (w_Mo_meetWith _ _) fun v2 h1 => rfl)) rfl)
def k_Mo_give : List Ent := [(0, .iload_n 1, 1, [], .null), (1, .ifCond .lt (15), 3, [16], .null), (4, .aload_n 0, 1, [], .null), (5, .iload_n 2, 1, [], .null), (6, .invokevirtual 143, 3, [97, 2, 2, 7], .null), (9, .ifCond .ne (7), 3, [16], .null), (12, .iconst (-1), 1, [], .int (-1)), (13, .goto (8), 3, [21], .null), (16, .aload_n 0, 1, [], .null), (17, .iload_n 1, 1, [], .null), (18, .invokevirtual 198, 3, [123, 2, 1, 7], .null), (21, .istore_n 3, 1, [], .null), (22, .iload_n 3, 1, [], .null), (23, .ifCond .ge (5), 3, [28], .null), (26, .iload_n 3, 1, [], .null), (27, .ireturn, 1, [], .null), (28, .aload_n 0, 1, [], .null), (29, .iload_n 1, 1, [], .null), (30, .invokevirtual 201, 3, [121, 2, 1, 7], .null), (33, .iload_n 2, 1, [], .null), (34, .invokestatic 195, 3, [74, 2, 2], .null), (37, .ifCond .eq (12), 3, [49], .null), (40, .aload_n 0, 1, [], .null), (41, .iload_n 1, 1, [], .null), (42, .iload_n 2, 1, [], .null), (43, .invokevirtual 204, 3, [122, 3, 1, 7], .null), (46, .goto (5), 3, [51], .null), (49, .bipush (-4), 2, [], .int (-4)), (51, .ireturn, 1, [], .null)]
def F_Mo_give (x1 : Int32) (x2 : Int32) (h : Hp) : Res Hp :=
  if x1 < (0 : Int32) then
  (bI (F_Mo_askedLetter x1 h) fun v2 h1 =>
  if (0 : Int32) ≤ v2 then
  (bI (F_Mo_givable x1 h1) fun v4 h3 =>
  bI (F_Mo_has v4 x2 h3) fun v6 h5 =>
  if v6 = (0 : Int32) then
  (retI (-4 : Int32) h5)
  else
  (bI (F_Mo_giveTo x1 x2 h5) fun v8 h7 =>
  retI v8 h7))
  else
  (retI v2 h1))
  else
  (bI (F_Mo_isOne x2 h) fun v10 h9 =>
  if v10 = (0 : Int32) then
  (retI (-1 : Int32) h9)
  else
  (bI (F_Mo_askedLetter x1 h9) fun v12 h11 =>
  if (0 : Int32) ≤ v12 then
  (bI (F_Mo_givable x1 h11) fun v14 h13 =>
  bI (F_Mo_has v14 x2 h13) fun v16 h15 =>
  if v16 = (0 : Int32) then
  (retI (-4 : Int32) h15)
  else
  (bI (F_Mo_giveTo x1 x2 h15) fun v18 h17 =>
  retI v18 h17))
  else
  (retI v12 h11)))
def sF_Mo_give : List Value → Hp → Res Hp := fun as h => match as with | [.ref f0, .int x1, .int x2] => (match Nat.beq f0 178 with | true => F_Mo_give x1 x2 h | false => none) | _ => none
theorem w_Mo_give (x1 : Int32) (x2 : Int32) (h : Hp) : sF_Mo_give [.ref 178, .int x1, .int x2] h = F_Mo_give x1 x2 h := rfl
def S_Mo_give : Sem Hp := [(123, sF_Mo_askedLetter), (121, sF_Mo_givable), (74, sF_Mo_has), (122, sF_Mo_giveTo), (97, sF_Mo_isOne)]
set_option maxRecDepth 100000 in
theorem e_Mo_give_0 (x1 : Int32) (x2 : Int32) (h : Hp) : F_Mo_give x1 x2 h = exec1 OI S_Mo_give 1 k_Mo_give 0 [some (.ref 178), some (.int x1), some (.int x2), none] [] h (runF OI S_Mo_give [] 1 k_Mo_give 400) :=
  (x_ite (x_bI (f := sF_Mo_askedLetter) rfl (w_Mo_askedLetter _ _) fun v2 h1 => (x_ite (x_bI (f := sF_Mo_givable) rfl (w_Mo_givable _ _) fun v4 h3 => (x_bI (f := sF_Mo_has) rfl (w_Mo_has _ _ _) fun v6 h5 => (x_ite rfl (x_bI (f := sF_Mo_giveTo) rfl (w_Mo_giveTo _ _ _) fun v8 h7 => rfl)))) rfl)) (x_bI (f := sF_Mo_isOne) rfl (w_Mo_isOne _ _) fun v10 h9 => (x_ite rfl (x_bI (f := sF_Mo_askedLetter) rfl (w_Mo_askedLetter _ _) fun v12 h11 => (x_ite (x_bI (f := sF_Mo_givable) rfl (w_Mo_givable _ _) fun v14 h13 => (x_bI (f := sF_Mo_has) rfl (w_Mo_has _ _ _) fun v16 h15 => (x_ite rfl (x_bI (f := sF_Mo_giveTo) rfl (w_Mo_giveTo _ _ _) fun v18 h17 => rfl)))) rfl)))))
def k_Mo_hours : List Ent := [(0, .iload_n 1, 1, [], .null), (1, .iconst 0, 1, [], .int (0)), (2, .bipush (20), 2, [], .int (20)), (4, .invokestatic 72, 3, [71, 3, 2], .null), (7, .ifCond .ne (5), 3, [12], .null), (10, .iconst (-1), 1, [], .int (-1)), (11, .ireturn, 1, [], .null), (12, .aload_n 0, 1, [], .null), (13, .getfield 137, 3, [7, 13, 0], .null), (16, .iload_n 1, 1, [], .null), (17, .iadd, 1, [], .null), (18, .bipush (99), 2, [], .int (99)), (20, .if_icmp .le (6), 3, [26], .null), (23, .bipush (-2), 2, [], .int (-2)), (25, .ireturn, 1, [], .null), (26, .aload_n 0, 1, [], .null), (27, .dup, 1, [], .null), (28, .getfield 137, 3, [7, 13, 0], .null), (31, .iload_n 1, 1, [], .null), (32, .iadd, 1, [], .null), (33, .putfield 137, 3, [7, 13, 0], .null), (36, .aload_n 0, 1, [], .null), (37, .getfield 137, 3, [7, 13, 0], .null), (40, .ireturn, 1, [], .null)]
def F_Mo_hours (x1 : Int32) (h : Hp) : Res Hp :=
  bI (F_Mo_in x1 (0 : Int32) (20 : Int32) h) fun v2 h1 =>
  if v2 = (0 : Int32) then
  (retI (-1 : Int32) h1)
  else
  (if ((hg h1 178 13) + x1) ≤ (99 : Int32) then
  (bH (hs h1 178 13 ((hg h1 178 13) + x1)) fun h3 =>
  retI (hg h3 178 13) h3)
  else
  (retI (-2 : Int32) h1))
def sF_Mo_hours : List Value → Hp → Res Hp := fun as h => match as with | [.ref f0, .int x1] => (match Nat.beq f0 178 with | true => F_Mo_hours x1 h | false => none) | _ => none
theorem w_Mo_hours (x1 : Int32) (h : Hp) : sF_Mo_hours [.ref 178, .int x1] h = F_Mo_hours x1 h := rfl
def S_Mo_hours : Sem Hp := [(71, sF_Mo_in)]
set_option maxRecDepth 100000 in
theorem e_Mo_hours_0 (x1 : Int32) (h : Hp) : F_Mo_hours x1 h = exec1 OI S_Mo_hours 1 k_Mo_hours 0 [some (.ref 178), some (.int x1)] [] h (runF OI S_Mo_hours [] 1 k_Mo_hours 400) :=
  (x_bI (f := sF_Mo_in) rfl (w_Mo_in _ _ _ _) fun v2 h1 => (x_ite rfl (x_ite (x_bH fun h3 => rfl) rfl)))
def k_Mo_where : List Ent := [(0, .aload_n 0, 1, [], .null), (1, .iload_n 1, 1, [], .null), (2, .invokevirtual 198, 3, [123, 2, 1, 7], .null), (5, .istore_n 2, 1, [], .null), (6, .iload_n 2, 1, [], .null), (7, .ifCond .ge (7), 3, [14], .null), (10, .iload_n 2, 1, [], .null), (11, .goto (28), 3, [39], .null), (14, .aload_n 0, 1, [], .null), (15, .aload_n 0, 1, [], .null), (16, .iload_n 1, 1, [], .null), (17, .bipush (10), 2, [], .int (10)), (19, .aload_n 0, 1, [], .null), (20, .iload_n 1, 1, [], .null), (21, .iconst 2, 1, [], .int (2)), (22, .invokevirtual 153, 3, [105, 3, 1, 7], .null), (25, .iadd, 1, [], .null), (26, .iconst 1, 1, [], .int (1)), (27, .isub, 1, [], .null), (28, .invokevirtual 153, 3, [105, 3, 1, 7], .null), (31, .aload_n 0, 1, [], .null), (32, .iload_n 1, 1, [], .null), (33, .invokevirtual 156, 3, [106, 2, 1, 7], .null), (36, .invokevirtual 98, 3, [73, 3, 1, 7], .null), (39, .ireturn, 1, [], .null)]
def F_Mo_where (x1 : Int32) (h : Hp) : Res Hp :=
  bI (F_Mo_askedLetter x1 h) fun v2 h1 =>
  if (0 : Int32) ≤ v2 then
  (bI (F_Mo_letterOf x1 (2 : Int32) h1) fun v4 h3 =>
  bI (F_Mo_letterOf x1 (((10 : Int32) + v4) - (1 : Int32)) h3) fun v6 h5 =>
  bI (F_Mo_holderOf x1 h5) fun v8 h7 =>
  bI (F_Mo_ask v6 v8 h7) fun v10 h9 =>
  retI v10 h9)
  else
  (retI v2 h1)
def sF_Mo_where : List Value → Hp → Res Hp := fun as h => match as with | [.ref f0, .int x1] => (match Nat.beq f0 178 with | true => F_Mo_where x1 h | false => none) | _ => none
theorem w_Mo_where (x1 : Int32) (h : Hp) : sF_Mo_where [.ref 178, .int x1] h = F_Mo_where x1 h := rfl
def S_Mo_where : Sem Hp := [(123, sF_Mo_askedLetter), (105, sF_Mo_letterOf), (106, sF_Mo_holderOf), (73, sF_Mo_ask)]
set_option maxRecDepth 100000 in
theorem e_Mo_where_0 (x1 : Int32) (h : Hp) : F_Mo_where x1 h = exec1 OI S_Mo_where 1 k_Mo_where 0 [some (.ref 178), some (.int x1), none] [] h (runF OI S_Mo_where [] 1 k_Mo_where 400) :=
  (x_bI (f := sF_Mo_askedLetter) rfl (w_Mo_askedLetter _ _) fun v2 h1 => (x_ite (x_bI (f := sF_Mo_letterOf) rfl (w_Mo_letterOf _ _ _) fun v4 h3 => (x_bI (f := sF_Mo_letterOf) rfl (w_Mo_letterOf _ _ _) fun v6 h5 => (x_bI (f := sF_Mo_holderOf) rfl (w_Mo_holderOf _ _) fun v8 h7 => (x_bI (f := sF_Mo_ask) rfl (w_Mo_ask _ _ _) fun v10 h9 => rfl)))) rfl))
def k_Mo_hands : List Ent := [(0, .iload_n 2, 1, [], .null), (1, .invokestatic 76, 3, [76, 1, 2], .null), (4, .ifCond .ne (5), 3, [9], .null), (7, .iconst (-1), 1, [], .int (-1)), (8, .ireturn, 1, [], .null), (9, .aload_n 0, 1, [], .null), (10, .iload_n 1, 1, [], .null), (11, .invokevirtual 198, 3, [123, 2, 1, 7], .null), (14, .istore_n 3, 1, [], .null), (15, .iload_n 3, 1, [], .null), (16, .ifCond .ge (5), 3, [21], .null), (19, .iload_n 3, 1, [], .null), (20, .ireturn, 1, [], .null), (21, .aload_n 0, 1, [], .null), (22, .iload_n 1, 1, [], .null), (23, .iconst 2, 1, [], .int (2)), (24, .invokevirtual 153, 3, [105, 3, 1, 7], .null), (27, .istore 4, 2, [], .null), (29, .aload_n 0, 1, [], .null), (30, .iload_n 2, 1, [], .null), (31, .iload 4, 2, [], .null), (33, .invokevirtual 207, 3, [82, 3, 1, 7], .null), (36, .pop, 1, [], .null), (37, .iconst 0, 1, [], .int (0)), (38, .istore 5, 2, [], .null), (40, .iload 5, 2, [], .null), (42, .iload 4, 2, [], .null), (44, .if_icmp .ge (25), 3, [69], .null), (47, .aload_n 0, 1, [], .null), (48, .iload_n 2, 1, [], .null), (49, .iload 5, 2, [], .null), (51, .aload_n 0, 1, [], .null), (52, .iload_n 1, 1, [], .null), (53, .iconst 3, 1, [], .int (3)), (54, .iload 5, 2, [], .null), (56, .iadd, 1, [], .null), (57, .invokevirtual 153, 3, [105, 3, 1, 7], .null), (60, .invokevirtual 87, 3, [81, 4, 0, 7], .null), (63, .iinc 5 (1), 3, [], .int (1)), (66, .goto (-26), 3, [40], .null), (69, .iload 4, 2, [], .null), (71, .ireturn, 1, [], .null)]
def Mo_hands_40    : (Int32 × Int32 × Int32 × Int32 × Hp) → ((Int32 × Int32 × Int32 × Int32 × Hp) → Res Hp) → Res Hp := fun s κ40 => match s with
  | (x1, x2, x4, x5, h) =>
  if x4 ≤ x5 then
  (retI x4 h)
  else
  (bI (F_Mo_letterOf x1 ((3 : Int32) + x5) h) fun v2 h1 =>
  bV (F_Mo_setRow x2 x5 v2 h1) fun h3 =>
  κ40 (x1, x2, x4, (x5 + (1 : Int32)), h3))
def F_Mo_hands (x1 : Int32) (x2 : Int32) (h : Hp) : Res Hp :=
  bI (F_Mo_isRow x2 h) fun v2 h1 =>
  if v2 = (0 : Int32) then
  (retI (-1 : Int32) h1)
  else
  (bI (F_Mo_askedLetter x1 h1) fun v4 h3 =>
  if (0 : Int32) ≤ v4 then
  (bI (F_Mo_letterOf x1 (2 : Int32) h3) fun v6 h5 =>
  bI (F_Mo_row x2 v6 h5) fun v8 h7 =>
  loopC (Mo_hands_40   ) FU (x1, x2, v6, (0 : Int32), h7))
  else
  (retI v4 h3))
def sF_Mo_hands : List Value → Hp → Res Hp := fun as h => match as with | [.ref f0, .int x1, .int x2] => (match Nat.beq f0 178 with | true => F_Mo_hands x1 x2 h | false => none) | _ => none
theorem w_Mo_hands (x1 : Int32) (x2 : Int32) (h : Hp) : sF_Mo_hands [.ref 178, .int x1, .int x2] h = F_Mo_hands x1 x2 h := rfl
def S_Mo_hands : Sem Hp := [(76, sF_Mo_isRow), (123, sF_Mo_askedLetter), (105, sF_Mo_letterOf), (82, sF_Mo_row), (81, sF_Mo_setRow)]
set_option maxRecDepth 100000 in
theorem e_Mo_hands_0 (x1 : Int32) (x2 : Int32) (h : Hp) : F_Mo_hands x1 x2 h = exec1 OI S_Mo_hands 1 k_Mo_hands 0 [some (.ref 178), some (.int x1), some (.int x2), none, none, none] [] h (runF OI S_Mo_hands [(40, [0, 1, 2, 4, 5], fun vs st h => match vs, st with | [.ref f0, .int x1, .int x2, .int x4, .int x5], [] => (match Nat.beq f0 178 with | true => loopC (Mo_hands_40   ) FU (x1, x2, x4, x5, h) | false => none) | _, _ => none)] 1 k_Mo_hands 400) :=
  (x_bI (f := sF_Mo_isRow) rfl (w_Mo_isRow _ _) fun v2 h1 => (x_ite rfl (x_bI (f := sF_Mo_askedLetter) rfl (w_Mo_askedLetter _ _) fun v4 h3 => (x_ite (x_bI (f := sF_Mo_letterOf) rfl (w_Mo_letterOf _ _ _) fun v6 h5 => (x_bI (f := sF_Mo_row) rfl (w_Mo_row _ _ _) fun v8 h7 => rfl)) rfl))))
set_option maxRecDepth 100000 in
theorem e_Mo_hands_40 (κ40 : (Int32 × Int32 × Int32 × Int32 × Hp) → Res Hp) (x1 : Int32) (x2 : Int32) (x4 : Int32) (x5 : Int32)  (h : Hp) : Mo_hands_40    (x1, x2, x4, x5, h) κ40 = exec1 OI S_Mo_hands 1 k_Mo_hands 40 [some (.ref 178), some (.int x1), some (.int x2), none, some (.int x4), some (.int x5)] [] h (runF OI S_Mo_hands [(40, [0, 1, 2, 4, 5], fun vs st h => match vs, st with | [.ref f0, .int x1, .int x2, .int x4, .int x5], [] => (match Nat.beq f0 178 with | true => κ40 (x1, x2, x4, x5, h) | false => none) | _, _ => none)] 1 k_Mo_hands 400) :=
  (x_ite rfl (x_bI (f := sF_Mo_letterOf) rfl (w_Mo_letterOf _ _ _) fun v2 h1 => (x_bV (f := sF_Mo_setRow) rfl (w_Mo_setRow _ _ _ _) fun h3 => rfl)))
def k_Mo_back : List Ent := [(0, .aload_n 0, 1, [], .null), (1, .iload_n 1, 1, [], .null), (2, .invokevirtual 198, 3, [123, 2, 1, 7], .null), (5, .istore_n 2, 1, [], .null), (6, .iload_n 2, 1, [], .null), (7, .ifCond .ge (5), 3, [12], .null), (10, .iload_n 2, 1, [], .null), (11, .ireturn, 1, [], .null), (12, .aload_n 0, 1, [], .null), (13, .iload_n 1, 1, [], .null), (14, .iconst 2, 1, [], .int (2)), (15, .invokevirtual 153, 3, [105, 3, 1, 7], .null), (18, .iconst 1, 1, [], .int (1)), (19, .if_icmp .ne (6), 3, [25], .null), (22, .bipush (-4), 2, [], .int (-4)), (24, .ireturn, 1, [], .null), (25, .aload_n 0, 1, [], .null), (26, .getfield 37, 3, [7, 15, 1], .null), (29, .bipush (17), 2, [], .int (17)), (31, .iload_n 1, 1, [], .null), (32, .imul, 1, [], .null), (33, .iconst 2, 1, [], .int (2)), (34, .iadd, 1, [], .null), (35, .dup2, 1, [], .null), (36, .iaload, 1, [], .null), (37, .iconst 1, 1, [], .int (1)), (38, .isub, 1, [], .null), (39, .iastore, 1, [], .null), (40, .aload_n 0, 1, [], .null), (41, .iload_n 1, 1, [], .null), (42, .invokevirtual 156, 3, [106, 2, 1, 7], .null), (45, .ireturn, 1, [], .null)]
def F_Mo_back (x1 : Int32) (h : Hp) : Res Hp :=
  bI (F_Mo_askedLetter x1 h) fun v2 h1 =>
  if (0 : Int32) ≤ v2 then
  (bI (F_Mo_letterOf x1 (2 : Int32) h1) fun v4 h3 =>
  if v4 = (1 : Int32) then
  (retI (-4 : Int32) h3)
  else
  (bif okA 188 100 (((17 : Int32) * x1) + (2 : Int32)) then
  bif okA 188 100 (((17 : Int32) * x1) + (2 : Int32)) then
  bH (hs h3 188 (((17 : Int32) * x1) + (2 : Int32)).toNatClampNeg ((hg h3 188 (((17 : Int32) * x1) + (2 : Int32)).toNatClampNeg) - (1 : Int32))) fun h5 =>
  bI (F_Mo_holderOf x1 h5) fun v7 h6 =>
  retI v7 h6
  else none
  else none))
  else
  (retI v2 h1)
def sF_Mo_back : List Value → Hp → Res Hp := fun as h => match as with | [.ref f0, .int x1] => (match Nat.beq f0 178 with | true => F_Mo_back x1 h | false => none) | _ => none
theorem w_Mo_back (x1 : Int32) (h : Hp) : sF_Mo_back [.ref 178, .int x1] h = F_Mo_back x1 h := rfl
def S_Mo_back : Sem Hp := [(123, sF_Mo_askedLetter), (105, sF_Mo_letterOf), (106, sF_Mo_holderOf)]
set_option maxRecDepth 100000 in
theorem e_Mo_back_0 (x1 : Int32) (h : Hp) : F_Mo_back x1 h = exec1 OI S_Mo_back 1 k_Mo_back 0 [some (.ref 178), some (.int x1), none] [] h (runF OI S_Mo_back [] 1 k_Mo_back 400) :=
  (x_bI (f := sF_Mo_askedLetter) rfl (w_Mo_askedLetter _ _) fun v2 h1 => (x_ite (x_bI (f := sF_Mo_letterOf) rfl (w_Mo_letterOf _ _ _) fun v4 h3 => (x_ite rfl (x_bif (x_bif (x_bH fun h5 => (x_bI (f := sF_Mo_holderOf) rfl (w_Mo_holderOf _ _) fun v7 h6 => rfl)))))) rfl))
def k_Mo_keep : List Ent := [(0, .iload_n 1, 1, [], .null), (1, .iconst 0, 1, [], .int (0)), (2, .iconst 2, 1, [], .int (2)), (3, .invokestatic 72, 3, [71, 3, 2], .null), (6, .ifCond .ne (5), 3, [11], .null), (9, .iconst (-1), 1, [], .int (-1)), (10, .ireturn, 1, [], .null), (11, .aload_n 0, 1, [], .null), (12, .getfield 131, 3, [7, 8, 0], .null), (15, .ifCond .ne (6), 3, [21], .null), (18, .bipush (-4), 2, [], .int (-4)), (20, .ireturn, 1, [], .null), (21, .sipush (140), 3, [], .int (140)), (24, .iload_n 1, 1, [], .null), (25, .imul, 1, [], .null), (26, .istore_n 2, 1, [], .null), (27, .aload_n 0, 1, [], .null), (28, .getfield 49, 3, [7, 22, 1], .null), (31, .iload_n 2, 1, [], .null), (32, .aload_n 0, 1, [], .null), (33, .getfield 137, 3, [7, 13, 0], .null), (36, .iastore, 1, [], .null), (37, .aload_n 0, 1, [], .null), (38, .getfield 49, 3, [7, 22, 1], .null), (41, .iload_n 2, 1, [], .null), (42, .iconst 1, 1, [], .int (1)), (43, .iadd, 1, [], .null), (44, .aload_n 0, 1, [], .null), (45, .getfield 134, 3, [7, 11, 0], .null), (48, .iastore, 1, [], .null), (49, .aload_n 0, 1, [], .null), (50, .getfield 49, 3, [7, 22, 1], .null), (53, .iload_n 2, 1, [], .null), (54, .iconst 2, 1, [], .int (2)), (55, .iadd, 1, [], .null), (56, .aload_n 0, 1, [], .null), (57, .getfield 140, 3, [7, 14, 0], .null), (60, .iastore, 1, [], .null), (61, .iconst 0, 1, [], .int (0)), (62, .istore_n 3, 1, [], .null), (63, .iload_n 3, 1, [], .null), (64, .bipush (7), 2, [], .int (7)), (66, .if_icmp .ge (25), 3, [91], .null), (69, .aload_n 0, 1, [], .null), (70, .getfield 49, 3, [7, 22, 1], .null), (73, .iload_n 2, 1, [], .null), (74, .iconst 3, 1, [], .int (3)), (75, .iadd, 1, [], .null), (76, .iload_n 3, 1, [], .null), (77, .iadd, 1, [], .null), (78, .aload_n 0, 1, [], .null), (79, .getfield 31, 3, [7, 10, 1], .null), (82, .iload_n 3, 1, [], .null), (83, .iaload, 1, [], .null), (84, .iastore, 1, [], .null), (85, .iinc 3 (1), 3, [], .int (1)), (88, .goto (-25), 3, [63], .null), (91, .iconst 0, 1, [], .int (0)), (92, .istore_n 3, 1, [], .null), (93, .iload_n 3, 1, [], .null), (94, .bipush (48), 2, [], .int (48)), (96, .if_icmp .ge (26), 3, [122], .null), (99, .aload_n 0, 1, [], .null), (100, .getfield 49, 3, [7, 22, 1], .null), (103, .iload_n 2, 1, [], .null), (104, .bipush (10), 2, [], .int (10)), (106, .iadd, 1, [], .null), (107, .iload_n 3, 1, [], .null), (108, .iadd, 1, [], .null), (109, .aload_n 0, 1, [], .null), (110, .getfield 34, 3, [7, 12, 1], .null), (113, .iload_n 3, 1, [], .null), (114, .iaload, 1, [], .null), (115, .iastore, 1, [], .null), (116, .iinc 3 (1), 3, [], .int (1)), (119, .goto (-26), 3, [93], .null), (122, .iconst 0, 1, [], .int (0)), (123, .istore_n 3, 1, [], .null), (124, .iload_n 3, 1, [], .null), (125, .bipush (68), 2, [], .int (68)), (127, .if_icmp .ge (26), 3, [153], .null), (130, .aload_n 0, 1, [], .null), (131, .getfield 49, 3, [7, 22, 1], .null), (134, .iload_n 2, 1, [], .null), (135, .bipush (58), 2, [], .int (58)), (137, .iadd, 1, [], .null), (138, .iload_n 3, 1, [], .null), (139, .iadd, 1, [], .null), (140, .aload_n 0, 1, [], .null), (141, .getfield 37, 3, [7, 15, 1], .null), (144, .iload_n 3, 1, [], .null), (145, .iaload, 1, [], .null), (146, .iastore, 1, [], .null), (147, .iinc 3 (1), 3, [], .int (1)), (150, .goto (-26), 3, [124], .null), (153, .aload_n 0, 1, [], .null), (154, .getfield 137, 3, [7, 13, 0], .null), (157, .ireturn, 1, [], .null)]
def Mo_keep_124    : (Int32 × Int32 × Hp) → ((Int32 × Int32 × Hp) → Res Hp) → Res Hp := fun s κ124 => match s with
  | (x2, x3, h) =>
  if (68 : Int32) ≤ x3 then
  (retI (hg h 178 13) h)
  else
  (bif okA 188 100 x3 then
  bif okA 192 100 ((x2 + (58 : Int32)) + x3) then
  bH (hs h 192 ((x2 + (58 : Int32)) + x3).toNatClampNeg (hg h 188 x3.toNatClampNeg)) fun h1 =>
  κ124 (x2, (x3 + (1 : Int32)), h1)
  else none
  else none)
def Mo_keep_93    : (Int32 × Int32 × Hp) → ((Int32 × Int32 × Hp) → Res Hp) → Res Hp := fun s κ93 => match s with
  | (x2, x3, h) =>
  if (48 : Int32) ≤ x3 then
  (loopC (Mo_keep_124   ) FU (x2, (0 : Int32), h))
  else
  (bif okA 187 100 x3 then
  bif okA 192 100 ((x2 + (10 : Int32)) + x3) then
  bH (hs h 192 ((x2 + (10 : Int32)) + x3).toNatClampNeg (hg h 187 x3.toNatClampNeg)) fun h1 =>
  κ93 (x2, (x3 + (1 : Int32)), h1)
  else none
  else none)
def Mo_keep_63    : (Int32 × Int32 × Hp) → ((Int32 × Int32 × Hp) → Res Hp) → Res Hp := fun s κ63 => match s with
  | (x2, x3, h) =>
  if (7 : Int32) ≤ x3 then
  (loopC (Mo_keep_93   ) FU (x2, (0 : Int32), h))
  else
  (bif okA 186 100 x3 then
  bif okA 192 100 ((x2 + (3 : Int32)) + x3) then
  bH (hs h 192 ((x2 + (3 : Int32)) + x3).toNatClampNeg (hg h 186 x3.toNatClampNeg)) fun h1 =>
  κ63 (x2, (x3 + (1 : Int32)), h1)
  else none
  else none)
def F_Mo_keep (x1 : Int32) (h : Hp) : Res Hp :=
  bI (F_Mo_in x1 (0 : Int32) (2 : Int32) h) fun v2 h1 =>
  if v2 = (0 : Int32) then
  (retI (-1 : Int32) h1)
  else
  (if (hg h1 178 8) = (0 : Int32) then
  (retI (-4 : Int32) h1)
  else
  (bif okA 192 100 ((140 : Int32) * x1) then
  bH (hs h1 192 ((140 : Int32) * x1).toNatClampNeg (hg h1 178 13)) fun h3 =>
  bif okA 192 100 (((140 : Int32) * x1) + (1 : Int32)) then
  bH (hs h3 192 (((140 : Int32) * x1) + (1 : Int32)).toNatClampNeg (hg h3 178 11)) fun h4 =>
  bif okA 192 100 (((140 : Int32) * x1) + (2 : Int32)) then
  bH (hs h4 192 (((140 : Int32) * x1) + (2 : Int32)).toNatClampNeg (hg h4 178 14)) fun h5 =>
  loopC (Mo_keep_63   ) FU (((140 : Int32) * x1), (0 : Int32), h5)
  else none
  else none
  else none))
def sF_Mo_keep : List Value → Hp → Res Hp := fun as h => match as with | [.ref f0, .int x1] => (match Nat.beq f0 178 with | true => F_Mo_keep x1 h | false => none) | _ => none
theorem w_Mo_keep (x1 : Int32) (h : Hp) : sF_Mo_keep [.ref 178, .int x1] h = F_Mo_keep x1 h := rfl
def S_Mo_keep : Sem Hp := [(71, sF_Mo_in)]
set_option maxRecDepth 100000 in
theorem e_Mo_keep_0 (x1 : Int32) (h : Hp) : F_Mo_keep x1 h = exec1 OI S_Mo_keep 1 k_Mo_keep 0 [some (.ref 178), some (.int x1), none, none] [] h (runF OI S_Mo_keep [(63, [0, 2, 3], fun vs st h => match vs, st with | [.ref f0, .int x2, .int x3], [] => (match Nat.beq f0 178 with | true => loopC (Mo_keep_63   ) FU (x2, x3, h) | false => none) | _, _ => none)] 1 k_Mo_keep 400) :=
  (x_bI (f := sF_Mo_in) rfl (w_Mo_in _ _ _ _) fun v2 h1 => (x_ite rfl (x_ite rfl (x_bif (x_bH fun h3 => (x_bif (x_bH fun h4 => (x_bif (x_bH fun h5 => rfl)))))))))
set_option maxRecDepth 100000 in
theorem e_Mo_keep_63 (κ63 : (Int32 × Int32 × Hp) → Res Hp) (x2 : Int32) (x3 : Int32)  (h : Hp) : Mo_keep_63    (x2, x3, h) κ63 = exec1 OI S_Mo_keep 1 k_Mo_keep 63 [some (.ref 178), none, some (.int x2), some (.int x3)] [] h (runF OI S_Mo_keep [(93, [0, 2, 3], fun vs st h => match vs, st with | [.ref f0, .int x2, .int x3], [] => (match Nat.beq f0 178 with | true => loopC (Mo_keep_93   ) FU (x2, x3, h) | false => none) | _, _ => none), (63, [0, 2, 3], fun vs st h => match vs, st with | [.ref f0, .int x2, .int x3], [] => (match Nat.beq f0 178 with | true => κ63 (x2, x3, h) | false => none) | _, _ => none)] 1 k_Mo_keep 400) :=
  (x_ite rfl (x_bif (x_bif (x_bH fun h1 => rfl))))
set_option maxRecDepth 100000 in
theorem e_Mo_keep_93 (κ93 : (Int32 × Int32 × Hp) → Res Hp) (x2 : Int32) (x3 : Int32)  (h : Hp) : Mo_keep_93    (x2, x3, h) κ93 = exec1 OI S_Mo_keep 1 k_Mo_keep 93 [some (.ref 178), none, some (.int x2), some (.int x3)] [] h (runF OI S_Mo_keep [(124, [0, 2, 3], fun vs st h => match vs, st with | [.ref f0, .int x2, .int x3], [] => (match Nat.beq f0 178 with | true => loopC (Mo_keep_124   ) FU (x2, x3, h) | false => none) | _, _ => none), (93, [0, 2, 3], fun vs st h => match vs, st with | [.ref f0, .int x2, .int x3], [] => (match Nat.beq f0 178 with | true => κ93 (x2, x3, h) | false => none) | _, _ => none)] 1 k_Mo_keep 400) :=
  (x_ite rfl (x_bif (x_bif (x_bH fun h1 => rfl))))
set_option maxRecDepth 100000 in
theorem e_Mo_keep_124 (κ124 : (Int32 × Int32 × Hp) → Res Hp) (x2 : Int32) (x3 : Int32)  (h : Hp) : Mo_keep_124    (x2, x3, h) κ124 = exec1 OI S_Mo_keep 1 k_Mo_keep 124 [some (.ref 178), none, some (.int x2), some (.int x3)] [] h (runF OI S_Mo_keep [(124, [0, 2, 3], fun vs st h => match vs, st with | [.ref f0, .int x2, .int x3], [] => (match Nat.beq f0 178 with | true => κ124 (x2, x3, h) | false => none) | _, _ => none)] 1 k_Mo_keep 400) :=
  (x_ite rfl (x_bif (x_bif (x_bH fun h1 => rfl))))
end
