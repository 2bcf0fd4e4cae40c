noncomputable section
def k_Mo_on : List Ent := [(0, .iload_n 1, 1, [], .null), (1, .iconst 0, 1, [], .int (0)), (2, .iconst 2, 1, [], .int (2)), (3, .invokestatic 72, 3, [71, 3, 2], .null), (6, .ifCond .ne (5), 3, [11], .null), (9, .iconst (-1), 1, [], .int (-1)), (10, .ireturn, 1, [], .null), (11, .sipush (140), 3, [], .int (140)), (14, .iload_n 1, 1, [], .null), (15, .imul, 1, [], .null), (16, .istore_n 2, 1, [], .null), (17, .aload_n 0, 1, [], .null), (18, .getfield 49, 3, [7, 22, 1], .null), (21, .iload_n 2, 1, [], .null), (22, .iaload, 1, [], .null), (23, .bipush (-9), 2, [], .int (-9)), (25, .if_icmp .ne (9), 3, [34], .null), (28, .aload_n 0, 1, [], .null), (29, .iconst 1, 1, [], .int (1)), (30, .invokevirtual 80, 3, [72, 2, 1, 7], .null), (33, .ireturn, 1, [], .null), (34, .aload_n 0, 1, [], .null), (35, .aload_n 0, 1, [], .null), (36, .getfield 49, 3, [7, 22, 1], .null), (39, .iload_n 2, 1, [], .null), (40, .iaload, 1, [], .null), (41, .putfield 137, 3, [7, 13, 0], .null), (44, .aload_n 0, 1, [], .null), (45, .aload_n 0, 1, [], .null), (46, .getfield 49, 3, [7, 22, 1], .null), (49, .iload_n 2, 1, [], .null), (50, .iconst 1, 1, [], .int (1)), (51, .iadd, 1, [], .null), (52, .iaload, 1, [], .null), (53, .putfield 134, 3, [7, 11, 0], .null), (56, .aload_n 0, 1, [], .null), (57, .aload_n 0, 1, [], .null), (58, .getfield 49, 3, [7, 22, 1], .null), (61, .iload_n 2, 1, [], .null), (62, .iconst 2, 1, [], .int (2)), (63, .iadd, 1, [], .null), (64, .iaload, 1, [], .null), (65, .putfield 140, 3, [7, 14, 0], .null), (68, .iconst 0, 1, [], .int (0)), (69, .istore_n 3, 1, [], .null), (70, .iload_n 3, 1, [], .null), (71, .bipush (7), 2, [], .int (7)), (73, .if_icmp .ge (25), 3, [98], .null), (76, .aload_n 0, 1, [], .null), (77, .getfield 31, 3, [7, 10, 1], .null), (80, .iload_n 3, 1, [], .null), (81, .aload_n 0, 1, [], .null), (82, .getfield 49, 3, [7, 22, 1], .null), (85, .iload_n 2, 1, [], .null), (86, .iconst 3, 1, [], .int (3)), (87, .iadd, 1, [], .null), (88, .iload_n 3, 1, [], .null), (89, .iadd, 1, [], .null), (90, .iaload, 1, [], .null), (91, .iastore, 1, [], .null), (92, .iinc 3 (1), 3, [], .int (1)), (95, .goto (-25), 3, [70], .null), (98, .iconst 0, 1, [], .int (0)), (99, .istore_n 3, 1, [], .null), (100, .iload_n 3, 1, [], .null), (101, .bipush (48), 2, [], .int (48)), (103, .if_icmp .ge (26), 3, [129], .null), (106, .aload_n 0, 1, [], .null), (107, .getfield 34, 3, [7, 12, 1], .null), (110, .iload_n 3, 1, [], .null), (111, .aload_n 0, 1, [], .null), (112, .getfield 49, 3, [7, 22, 1], .null), (115, .iload_n 2, 1, [], .null), (116, .bipush (10), 2, [], .int (10)), (118, .iadd, 1, [], .null), (119, .iload_n 3, 1, [], .null), (120, .iadd, 1, [], .null), (121, .iaload, 1, [], .null), (122, .iastore, 1, [], .null), (123, .iinc 3 (1), 3, [], .int (1)), (126, .goto (-26), 3, [100], .null), (129, .iconst 0, 1, [], .int (0)), (130, .istore_n 3, 1, [], .null), (131, .iload_n 3, 1, [], .null), (132, .bipush (68), 2, [], .int (68)), (134, .if_icmp .ge (26), 3, [160], .null), (137, .aload_n 0, 1, [], .null), (138, .getfield 37, 3, [7, 15, 1], .null), (141, .iload_n 3, 1, [], .null), (142, .aload_n 0, 1, [], .null), (143, .getfield 49, 3, [7, 22, 1], .null), (146, .iload_n 2, 1, [], .null), (147, .bipush (58), 2, [], .int (58)), (149, .iadd, 1, [], .null), (150, .iload_n 3, 1, [], .null), (151, .iadd, 1, [], .null), (152, .iaload, 1, [], .null), (153, .iastore, 1, [], .null), (154, .iinc 3 (1), 3, [], .int (1)), (157, .goto (-26), 3, [131], .null), (160, .aload_n 0, 1, [], .null), (161, .getfield 137, 3, [7, 13, 0], .null), (164, .ireturn, 1, [], .null)]
def Mo_on_131    : (Int32 × Int32 × Hp) → ((Int32 × Int32 × Hp) → Res Hp) → Res Hp := fun s κ131 => match s with
  | (x2, x3, h) =>
  if (68 : Int32) ≤ x3 then
  (retI (hg h 178 13) h)
  else
  (bif okA 192 100 ((x2 + (58 : Int32)) + x3) then
  bif okA 188 100 x3 then
  bH (hs h 188 x3.toNatClampNeg (hg h 192 ((x2 + (58 : Int32)) + x3).toNatClampNeg)) fun h1 =>
  κ131 (x2, (x3 + (1 : Int32)), h1)
  else none
  else none)
def Mo_on_100    : (Int32 × Int32 × Hp) → ((Int32 × Int32 × Hp) → Res Hp) → Res Hp := fun s κ100 => match s with
  | (x2, x3, h) =>
  if (48 : Int32) ≤ x3 then
  (loopC (Mo_on_131   ) FU (x2, (0 : Int32), h))
  else
  (bif okA 192 100 ((x2 + (10 : Int32)) + x3) then
  bif okA 187 100 x3 then
  bH (hs h 187 x3.toNatClampNeg (hg h 192 ((x2 + (10 : Int32)) + x3).toNatClampNeg)) fun h1 =>
  κ100 (x2, (x3 + (1 : Int32)), h1)
  else none
  else none)
def Mo_on_70    : (Int32 × Int32 × Hp) → ((Int32 × Int32 × Hp) → Res Hp) → Res Hp := fun s κ70 => match s with
  | (x2, x3, h) =>
  if (7 : Int32) ≤ x3 then
  (loopC (Mo_on_100   ) FU (x2, (0 : Int32), h))
  else
  (bif okA 192 100 ((x2 + (3 : Int32)) + x3) then
  bif okA 186 100 x3 then
  bH (hs h 186 x3.toNatClampNeg (hg h 192 ((x2 + (3 : Int32)) + x3).toNatClampNeg)) fun h1 =>
  κ70 (x2, (x3 + (1 : Int32)), h1)
  else none
  else none)
def F_Mo_on (x1 : Int32) (h : Hp) : Res Hp :=
  bI (F_Mo_in x1 (0 : Int32) (2 : Int32) h) fun v2 h1 =>
  if v2 = (0 : Int32) then
  (retI (-1 : Int32) h1)
  else
  (bif okA 192 100 ((140 : Int32) * x1) then
  if (hg h1 192 ((140 : Int32) * x1).toNatClampNeg) = (-9 : Int32) then
  (bI (F_Mo_meetWith (1 : Int32) h1) fun v7 h6 =>
  retI v7 h6)
  else
  (bif okA 192 100 ((140 : Int32) * x1) then
  bH (hs h1 178 13 (hg h1 192 ((140 : Int32) * x1).toNatClampNeg)) fun h3 =>
  bif okA 192 100 (((140 : Int32) * x1) + (1 : Int32)) then
  bH (hs h3 178 11 (hg h3 192 (((140 : Int32) * x1) + (1 : Int32)).toNatClampNeg)) fun h4 =>
  bif okA 192 100 (((140 : Int32) * x1) + (2 : Int32)) then
  bH (hs h4 178 14 (hg h4 192 (((140 : Int32) * x1) + (2 : Int32)).toNatClampNeg)) fun h5 =>
  loopC (Mo_on_70   ) FU (((140 : Int32) * x1), (0 : Int32), h5)
  else none
  else none
  else none)
  else none)
def sF_Mo_on : List Value → Hp → Res Hp := fun as h => match as with | [.ref f0, .int x1] => (match Nat.beq f0 178 with | true => F_Mo_on x1 h | false => none) | _ => none
theorem w_Mo_on (x1 : Int32) (h : Hp) : sF_Mo_on [.ref 178, .int x1] h = F_Mo_on x1 h := rfl
def S_Mo_on : Sem Hp := [(71, sF_Mo_in), (72, sF_Mo_meetWith)]
set_option maxRecDepth 100000 in
theorem e_Mo_on_0 (x1 : Int32) (h : Hp) : F_Mo_on x1 h = exec1 OI S_Mo_on 1 k_Mo_on 0 [some (.ref 178), some (.int x1), none, none] [] h (runF OI S_Mo_on [(70, [0, 2, 3], fun vs st h => match vs, st with | [.ref f0, .int x2, .int x3], [] => (match Nat.beq f0 178 with | true => loopC (Mo_on_70   ) FU (x2, x3, h) | false => none) | _, _ => none)] 1 k_Mo_on 400) :=
  (x_bI (f := sF_Mo_in) rfl (w_Mo_in _ _ _ _) fun v2 h1 => (x_ite rfl (x_bif (x_ite (x_bI (f := sF_Mo_meetWith) rfl (w_Mo_meetWith _ _) fun v7 h6 => rfl) (x_bif (x_bH fun h3 => (x_bif (x_bH fun h4 => (x_bif (x_bH fun h5 => rfl))))))))))
set_option maxRecDepth 100000 in
theorem e_Mo_on_70 (κ70 : (Int32 × Int32 × Hp) → Res Hp) (x2 : Int32) (x3 : Int32)  (h : Hp) : Mo_on_70    (x2, x3, h) κ70 = exec1 OI S_Mo_on 1 k_Mo_on 70 [some (.ref 178), none, some (.int x2), some (.int x3)] [] h (runF OI S_Mo_on [(100, [0, 2, 3], fun vs st h => match vs, st with | [.ref f0, .int x2, .int x3], [] => (match Nat.beq f0 178 with | true => loopC (Mo_on_100   ) FU (x2, x3, h) | false => none) | _, _ => none), (70, [0, 2, 3], fun vs st h => match vs, st with | [.ref f0, .int x2, .int x3], [] => (match Nat.beq f0 178 with | true => κ70 (x2, x3, h) | false => none) | _, _ => none)] 1 k_Mo_on 400) :=
  (x_ite rfl (x_bif (x_bif (x_bH fun h1 => rfl))))
set_option maxRecDepth 100000 in
theorem e_Mo_on_100 (κ100 : (Int32 × Int32 × Hp) → Res Hp) (x2 : Int32) (x3 : Int32)  (h : Hp) : Mo_on_100    (x2, x3, h) κ100 = exec1 OI S_Mo_on 1 k_Mo_on 100 [some (.ref 178), none, some (.int x2), some (.int x3)] [] h (runF OI S_Mo_on [(131, [0, 2, 3], fun vs st h => match vs, st with | [.ref f0, .int x2, .int x3], [] => (match Nat.beq f0 178 with | true => loopC (Mo_on_131   ) FU (x2, x3, h) | false => none) | _, _ => none), (100, [0, 2, 3], fun vs st h => match vs, st with | [.ref f0, .int x2, .int x3], [] => (match Nat.beq f0 178 with | true => κ100 (x2, x3, h) | false => none) | _, _ => none)] 1 k_Mo_on 400) :=
  (x_ite rfl (x_bif (x_bif (x_bH fun h1 => rfl))))
set_option maxRecDepth 100000 in
theorem e_Mo_on_131 (κ131 : (Int32 × Int32 × Hp) → Res Hp) (x2 : Int32) (x3 : Int32)  (h : Hp) : Mo_on_131    (x2, x3, h) κ131 = exec1 OI S_Mo_on 1 k_Mo_on 131 [some (.ref 178), none, some (.int x2), some (.int x3)] [] h (runF OI S_Mo_on [(131, [0, 2, 3], fun vs st h => match vs, st with | [.ref f0, .int x2, .int x3], [] => (match Nat.beq f0 178 with | true => κ131 (x2, x3, h) | false => none) | _, _ => none)] 1 k_Mo_on 400) :=
  (x_ite rfl (x_bif (x_bif (x_bH fun h1 => rfl))))
def k_Mo_soonOf : List Ent := [(0, .iconst 1, 1, [], .int (1)), (1, .iload_n 1, 1, [], .null), (2, .ishl, 1, [], .null), (3, .istore 5, 2, [], .null), (5, .iconst 0, 1, [], .int (0)), (6, .istore 6, 2, [], .null), (8, .iload 6, 2, [], .null), (10, .bipush (40), 2, [], .int (40)), (12, .if_icmp .ge (167), 3, [179], .null), (15, .iload 4, 2, [], .null), (17, .iload 6, 2, [], .null), (19, .iadd, 1, [], .null), (20, .bipush (99), 2, [], .int (99)), (22, .if_icmp .gt (157), 3, [179], .null), (25, .iload 5, 2, [], .null), (27, .istore 7, 2, [], .null), (29, .iconst 0, 1, [], .int (0)), (30, .istore 8, 2, [], .null), (32, .iload 8, 2, [], .null), (34, .aload_n 0, 1, [], .null), (35, .getfield 131, 3, [7, 8, 0], .null), (38, .if_icmp .ge (117), 3, [155], .null), (41, .iload 5, 2, [], .null), (43, .iload 8, 2, [], .null), (45, .invokestatic 195, 3, [74, 2, 2], .null), (48, .ifCond .eq (17), 3, [65], .null), (51, .aload_n 0, 1, [], .null), (52, .iload 8, 2, [], .null), (54, .iload 4, 2, [], .null), (56, .iload 6, 2, [], .null), (58, .iadd, 1, [], .null), (59, .invokevirtual 171, 3, [104, 3, 1, 7], .null), (62, .goto (4), 3, [66], .null), (65, .iconst 0, 1, [], .int (0)), (66, .istore 9, 2, [], .null), (68, .iconst 0, 1, [], .int (0)), (69, .istore 10, 2, [], .null), (71, .iload 10, 2, [], .null), (73, .aload_n 0, 1, [], .null), (74, .getfield 131, 3, [7, 8, 0], .null), (77, .if_icmp .ge (72), 3, [149], .null), (80, .iload 10, 2, [], .null), (82, .iload_n 2, 1, [], .null), (83, .if_icmp .eq (25), 3, [108], .null), (86, .aload_n 0, 1, [], .null), (87, .iload 10, 2, [], .null), (89, .iload_n 3, 1, [], .null), (90, .invokevirtual 183, 3, [103, 3, 2, 7], .null), (93, .ifCond .eq (19), 3, [112], .null), (96, .aload_n 0, 1, [], .null), (97, .iload 10, 2, [], .null), (99, .iload 8, 2, [], .null), (101, .iload_n 1, 1, [], .null), (102, .invokevirtual 192, 3, [120, 4, 2, 7], .null), (105, .ifCond .eq (7), 3, [112], .null), (108, .iconst 1, 1, [], .int (1)), (109, .goto (4), 3, [113], .null), (112, .iconst 0, 1, [], .int (0)), (113, .istore 11, 2, [], .null), (115, .iload 7, 2, [], .null), (117, .iload 9, 2, [], .null), (119, .iload 10, 2, [], .null), (121, .invokestatic 195, 3, [74, 2, 2], .null), (124, .ifCond .eq (15), 3, [139], .null), (127, .iload 11, 2, [], .null), (129, .ifCond .eq (10), 3, [139], .null), (132, .iconst 1, 1, [], .int (1)), (133, .iload 10, 2, [], .null), (135, .ishl, 1, [], .null), (136, .goto (4), 3, [140], .null), (139, .iconst 0, 1, [], .int (0)), (140, .ior, 1, [], .null), (141, .istore 7, 2, [], .null), (143, .iinc 10 (1), 3, [], .int (1)), (146, .goto (-75), 3, [71], .null), (149, .iinc 8 (1), 3, [], .int (1)), (152, .goto (-120), 3, [32], .null), (155, .iload 7, 2, [], .null), (157, .istore 5, 2, [], .null), (159, .iload 5, 2, [], .null), (161, .iload_n 2, 1, [], .null), (162, .invokestatic 195, 3, [74, 2, 2], .null), (165, .ifCond .eq (8), 3, [173], .null), (168, .iload 6, 2, [], .null), (170, .iconst 1, 1, [], .int (1)), (171, .iadd, 1, [], .null), (172, .ireturn, 1, [], .null), (173, .iinc 6 (1), 3, [], .int (1)), (176, .goto (-168), 3, [8], .null), (179, .bipush (-9), 2, [], .int (-9)), (181, .ireturn, 1, [], .null)]
def Mo_soonOf_71 (κ8 : (Int32 × Int32 × Int32 × Int32 × Int32 × Int32 × Hp) → Res Hp) (κ32 : (Int32 × Int32 × Int32 × Int32 × Int32 × Int32 × Int32 × Int32 × Hp) → Res Hp)   : (Int32 × Int32 × Int32 × Int32 × Int32 × Int32 × Int32 × Int32 × Int32 × Int32 × Hp) → ((Int32 × Int32 × Int32 × Int32 × Int32 × Int32 × Int32 × Int32 × Int32 × Int32 × Hp) → Res Hp) → Res Hp := fun s κ71 => match s with
  | (x1, x2, x3, x4, x5, x6, x7, x8, x9, x10, h) =>
  if (hg h 178 8) ≤ x10 then
  (κ32 (x1, x2, x3, x4, x5, x6, x7, (x8 + (1 : Int32)), h))
  else
  (if x10 = x2 then
  (bI (F_Mo_has x9 x10 h) fun v2 h1 =>
  if v2 = (0 : Int32) then
  (κ71 (x1, x2, x3, x4, x5, x6, (x7 ||| (0 : Int32)), x8, x9, (x10 + (1 : Int32)), h1))
  else
  (κ71 (x1, x2, x3, x4, x5, x6, (x7 ||| ((1 : Int32) <<< (x10 &&& 31))), x8, x9, (x10 + (1 : Int32)), h1)))
  else
  (bI (F_Mo_mayCarry x10 x3 h) fun v4 h3 =>
  if v4 = (0 : Int32) then
  (bI (F_Mo_has x9 x10 h3) fun v6 h5 =>
  if v6 = (0 : Int32) then
  (κ71 (x1, x2, x3, x4, x5, x6, (x7 ||| (0 : Int32)), x8, x9, (x10 + (1 : Int32)), h5))
  else
  (κ71 (x1, x2, x3, x4, x5, x6, (x7 ||| (0 : Int32)), x8, x9, (x10 + (1 : Int32)), h5)))
  else
  (bI (F_Mo_takes x10 x8 x1 h3) fun v8 h7 =>
  if v8 = (0 : Int32) then
  (bI (F_Mo_has x9 x10 h7) fun v10 h9 =>
  if v10 = (0 : Int32) then
  (κ71 (x1, x2, x3, x4, x5, x6, (x7 ||| (0 : Int32)), x8, x9, (x10 + (1 : Int32)), h9))
  else
  (κ71 (x1, x2, x3, x4, x5, x6, (x7 ||| (0 : Int32)), x8, x9, (x10 + (1 : Int32)), h9)))
  else
  (bI (F_Mo_has x9 x10 h7) fun v12 h11 =>
  if v12 = (0 : Int32) then
  (κ71 (x1, x2, x3, x4, x5, x6, (x7 ||| (0 : Int32)), x8, x9, (x10 + (1 : Int32)), h11))
  else
  (κ71 (x1, x2, x3, x4, x5, x6, (x7 ||| ((1 : Int32) <<< (x10 &&& 31))), x8, x9, (x10 + (1 : Int32)), h11))))))
def Mo_soonOf_32 (κ8 : (Int32 × Int32 × Int32 × Int32 × Int32 × Int32 × Hp) → Res Hp)   : (Int32 × Int32 × Int32 × Int32 × Int32 × Int32 × Int32 × Int32 × Hp) → ((Int32 × Int32 × Int32 × Int32 × Int32 × Int32 × Int32 × Int32 × Hp) → Res Hp) → Res Hp := fun s κ32 => match s with
  | (x1, x2, x3, x4, x5, x6, x7, x8, h) =>
  if (hg h 178 8) ≤ x8 then
  (bI (F_Mo_has x7 x2 h) fun v2 h1 =>
  if v2 = (0 : Int32) then
  (κ8 (x1, x2, x3, x4, x7, (x6 + (1 : Int32)), h1))
  else
  (retI (x6 + (1 : Int32)) h1))
  else
  (bI (F_Mo_has x5 x8 h) fun v4 h3 =>
  if v4 = (0 : Int32) then
  (loopC (Mo_soonOf_71 κ8 κ32  ) FU (x1, x2, x3, x4, x5, x6, x7, x8, (0 : Int32), (0 : Int32), h3))
  else
  (bI (F_Mo_metBy x8 (x4 + x6) h3) fun v6 h5 =>
  loopC (Mo_soonOf_71 κ8 κ32  ) FU (x1, x2, x3, x4, x5, x6, x7, x8, v6, (0 : Int32), h5)))
def Mo_soonOf_8    : (Int32 × Int32 × Int32 × Int32 × Int32 × Int32 × Hp) → ((Int32 × Int32 × Int32 × Int32 × Int32 × Int32 × Hp) → Res Hp) → Res Hp := fun s κ8 => match s with
  | (x1, x2, x3, x4, x5, x6, h) =>
  if (40 : Int32) ≤ x6 then
  (retI (-9 : Int32) h)
  else
  (if (99 : Int32) < (x4 + x6) then
  (retI (-9 : Int32) h)
  else
  (loopC (Mo_soonOf_32 κ8  ) FU (x1, x2, x3, x4, x5, x6, x5, (0 : Int32), h)))
def F_Mo_soonOf (x1 : Int32) (x2 : Int32) (x3 : Int32) (x4 : Int32) (h : Hp) : Res Hp :=
  loopC (Mo_soonOf_8   ) FU (x1, x2, x3, x4, ((1 : Int32) <<< (x1 &&& 31)), (0 : Int32), h)
def sF_Mo_soonOf : List Value → Hp → Res Hp := fun as h => match as with | [.ref f0, .int x1, .int x2, .int x3, .int x4] => (match Nat.beq f0 178 with | true => F_Mo_soonOf x1 x2 x3 x4 h | false => none) | _ => none
theorem w_Mo_soonOf (x1 : Int32) (x2 : Int32) (x3 : Int32) (x4 : Int32) (h : Hp) : sF_Mo_soonOf [.ref 178, .int x1, .int x2, .int x3, .int x4] h = F_Mo_soonOf x1 x2 x3 x4 h := rfl
def S_Mo_soonOf : Sem Hp := [(74, sF_Mo_has), (103, sF_Mo_mayCarry), (120, sF_Mo_takes), (104, sF_Mo_metBy)]
set_option maxRecDepth 100000 in
theorem e_Mo_soonOf_0 (x1 : Int32) (x2 : Int32) (x3 : Int32) (x4 : Int32) (h : Hp) : F_Mo_soonOf x1 x2 x3 x4 h = exec1 OI S_Mo_soonOf 1 k_Mo_soonOf 0 [some (.ref 178), some (.int x1), some (.int x2), some (.int x3), some (.int x4), none, none, none, none, none, none, none] [] h (runF OI S_Mo_soonOf [(8, [0, 1, 2, 3, 4, 5, 6], fun vs st h => match vs, st with | [.ref f0, .int x1, .int x2, .int x3, .int x4, .int x5, .int x6], [] => (match Nat.beq f0 178 with | true => loopC (Mo_soonOf_8   ) FU (x1, x2, x3, x4, x5, x6, h) | false => none) | _, _ => none)] 1 k_Mo_soonOf 400) :=
  rfl
set_option maxRecDepth 100000 in
theorem e_Mo_soonOf_8 (κ8 : (Int32 × Int32 × Int32 × Int32 × Int32 × Int32 × Hp) → Res Hp) (x1 : Int32) (x2 : Int32) (x3 : Int32) (x4 : Int32) (x5 : Int32) (x6 : Int32)  (h : Hp) : Mo_soonOf_8    (x1, x2, x3, x4, x5, x6, h) κ8 = exec1 OI S_Mo_soonOf 1 k_Mo_soonOf 8 [some (.ref 178), some (.int x1), some (.int x2), some (.int x3), some (.int x4), some (.int x5), some (.int x6), none, none, none, none, none] [] h (runF OI S_Mo_soonOf [(32, [0, 1, 2, 3, 4, 5, 6, 7, 8], fun vs st h => match vs, st with | [.ref f0, .int x1, .int x2, .int x3, .int x4, .int x5, .int x6, .int x7, .int x8], [] => (match Nat.beq f0 178 with | true => loopC (Mo_soonOf_32 κ8  ) FU (x1, x2, x3, x4, x5, x6, x7, x8, h) | false => none) | _, _ => none)] 1 k_Mo_soonOf 400) :=
  (x_ite rfl (x_ite rfl rfl))
set_option maxRecDepth 100000 in
theorem e_Mo_soonOf_32 (κ8 : (Int32 × Int32 × Int32 × Int32 × Int32 × Int32 × Hp) → Res Hp) (κ32 : (Int32 × Int32 × Int32 × Int32 × Int32 × Int32 × Int32 × Int32 × Hp) → Res Hp) (x1 : Int32) (x2 : Int32) (x3 : Int32) (x4 : Int32) (x5 : Int32) (x6 : Int32) (x7 : Int32) (x8 : Int32)  (h : Hp) : Mo_soonOf_32 κ8   (x1, x2, x3, x4, x5, x6, x7, x8, h) κ32 = exec1 OI S_Mo_soonOf 1 k_Mo_soonOf 32 [some (.ref 178), some (.int x1), some (.int x2), some (.int x3), some (.int x4), some (.int x5), some (.int x6), some (.int x7), some (.int x8), none, none, none] [] h (runF OI S_Mo_soonOf [(8, [0, 1, 2, 3, 4, 5, 6], fun vs st h => match vs, st with | [.ref f0, .int x1, .int x2, .int x3, .int x4, .int x5, .int x6], [] => (match Nat.beq f0 178 with | true => κ8 (x1, x2, x3, x4, x5, x6, h) | false => none) | _, _ => none), (71, [0, 1, 2, 3, 4, 5, 6, 7, 8, 9, 10], fun vs st h => match vs, st with | [.ref f0, .int x1, .int x2, .int x3, .int x4, .int x5, .int x6, .int x7, .int x8, .int x9, .int x10], [] => (match Nat.beq f0 178 with | true => loopC (Mo_soonOf_71 κ8 κ32  ) FU (x1, x2, x3, x4, x5, x6, x7, x8, x9, x10, h) | false => none) | _, _ => none)] 1 k_Mo_soonOf 400) :=
  (x_ite (x_bI (f := sF_Mo_has) rfl (w_Mo_has _ _ _) fun v2 h1 => (x_ite rfl rfl)) (x_bI (f := sF_Mo_has) rfl (w_Mo_has _ _ _) fun v4 h3 => (x_ite rfl (x_bI (f := sF_Mo_metBy) rfl (w_Mo_metBy _ _ _) fun v6 h5 => rfl))))
set_option maxRecDepth 100000 in
theorem e_Mo_soonOf_71 (κ8 : (Int32 × Int32 × Int32 × Int32 × Int32 × Int32 × Hp) → Res Hp) (κ32 : (Int32 × Int32 × Int32 × Int32 × Int32 × Int32 × Int32 × Int32 × Hp) → Res Hp) (κ71 : (Int32 × Int32 × Int32 × Int32 × Int32 × Int32 × Int32 × Int32 × Int32 × Int32 × Hp) → Res Hp) (x1 : Int32) (x2 : Int32) (x3 : Int32) (x4 : Int32) (x5 : Int32) (x6 : Int32) (x7 : Int32) (x8 : Int32) (x9 : Int32) (x10 : Int32)  (h : Hp) : Mo_soonOf_71 κ8 κ32   (x1, x2, x3, x4, x5, x6, x7, x8, x9, x10, h) κ71 = exec1 OI S_Mo_soonOf 1 k_Mo_soonOf 71 [some (.ref 178), some (.int x1), some (.int x2), some (.int x3), some (.int x4), some (.int x5), some (.int x6), some (.int x7), some (.int x8), some (.int x9), some (.int x10), none] [] h (runF OI S_Mo_soonOf [(32, [0, 1, 2, 3, 4, 5, 6, 7, 8], fun vs st h => match vs, st with | [.ref f0, .int x1, .int x2, .int x3, .int x4, .int x5, .int x6, .int x7, .int x8], [] => (match Nat.beq f0 178 with | true => κ32 (x1, x2, x3, x4, x5, x6, x7, x8, h) | false => none) | _, _ => none), (71, [0, 1, 2, 3, 4, 5, 6, 7, 8, 9, 10], fun vs st h => match vs, st with | [.ref f0, .int x1, .int x2, .int x3, .int x4, .int x5, .int x6, .int x7, .int x8, .int x9, .int x10], [] => (match Nat.beq f0 178 with | true => κ71 (x1, x2, x3, x4, x5, x6, x7, x8, x9, x10, h) | false => none) | _, _ => none)] 1 k_Mo_soonOf 400) :=
  (x_ite rfl (x_ite (x_bI (f := sF_Mo_has) rfl (w_Mo_has _ _ _) fun v2 h1 => (x_ite rfl rfl)) (x_bI (f := sF_Mo_mayCarry) rfl (w_Mo_mayCarry _ _ _) fun v4 h3 => (x_ite (x_bI (f := sF_Mo_has) rfl (w_Mo_has _ _ _) fun v6 h5 => (x_ite rfl rfl)) (x_bI (f := sF_Mo_takes) rfl (w_Mo_takes _ _ _ _) fun v8 h7 => (x_ite (x_bI (f := sF_Mo_has) rfl (w_Mo_has _ _ _) fun v10 h9 => (x_ite rfl rfl)) (x_bI (f := sF_Mo_has) rfl (w_Mo_has _ _ _) fun v12 h11 => (x_ite rfl rfl))))))))
def k_Mo_isAsk : List Ent := [(0, .aload_n 0, 1, [], .null), (1, .iload_n 1, 1, [], .null), (2, .iload_n 2, 1, [], .null), (3, .invokevirtual 177, 3, [98, 3, 2, 7], .null), (6, .ifCond .eq (14), 3, [20], .null), (9, .iload_n 3, 1, [], .null), (10, .invokestatic 180, 3, [100, 1, 2], .null), (13, .ifCond .eq (7), 3, [20], .null), (16, .iconst 1, 1, [], .int (1)), (17, .goto (4), 3, [21], .null), (20, .iconst 0, 1, [], .int (0)), (21, .ireturn, 1, [], .null)]
def F_Mo_isAsk (x1 : Int32) (x2 : Int32) (x3 : Int32) (h : Hp) : Res Hp :=
  bI (F_Mo_areTwo x1 x2 h) fun v2 h1 =>
  if v2 = (0 : Int32) then
  (retZ (0 : Int32) h1)
  else
  (bI (F_Mo_isSet x3 h1) fun v4 h3 =>
  if v4 = (0 : Int32) then
  (retZ (0 : Int32) h3)
  else
  (retZ (1 : Int32) h3))
def sF_Mo_isAsk : List Value → Hp → Res Hp := fun as h => match as with | [.ref f0, .int x1, .int x2, .int x3] => (match Nat.beq f0 178 with | true => F_Mo_isAsk x1 x2 x3 h | false => none) | _ => none
theorem w_Mo_isAsk (x1 : Int32) (x2 : Int32) (x3 : Int32) (h : Hp) : sF_Mo_isAsk [.ref 178, .int x1, .int x2, .int x3] h = F_Mo_isAsk x1 x2 x3 h := rfl
def S_Mo_isAsk : Sem Hp := [(98, sF_Mo_areTwo), (100, sF_Mo_isSet)]
set_option maxRecDepth 100000 in
theorem e_Mo_isAsk_0 (x1 : Int32) (x2 : Int32) (x3 : Int32) (h : Hp) : F_Mo_isAsk x1 x2 x3 h = exec1 OI S_Mo_isAsk 2 k_Mo_isAsk 0 [some (.ref 178), some (.int x1), some (.int x2), some (.int x3)] [] h (runF OI S_Mo_isAsk [] 2 k_Mo_isAsk 400) :=
  (x_bI (f := sF_Mo_areTwo) rfl (w_Mo_areTwo _ _ _) fun v2 h1 => (x_ite rfl (x_bI (f := sF_Mo_isSet) rfl (w_Mo_isSet _ _) fun v4 h3 => (x_ite rfl rfl))))
def k_Mo_soon : List Ent := [(0, .aload_n 0, 1, [], .null), (1, .iload_n 1, 1, [], .null), (2, .iload_n 2, 1, [], .null), (3, .iload_n 3, 1, [], .null), (4, .invokevirtual 210, 3, [132, 4, 2, 7], .null), (7, .ifCond .eq (26), 3, [33], .null), (10, .iload 4, 2, [], .null), (12, .iconst 0, 1, [], .int (0)), (13, .bipush (99), 2, [], .int (99)), (15, .invokestatic 72, 3, [71, 3, 2], .null), (18, .ifCond .eq (15), 3, [33], .null), (21, .aload_n 0, 1, [], .null), (22, .iload_n 1, 1, [], .null), (23, .iload_n 2, 1, [], .null), (24, .iload_n 3, 1, [], .null), (25, .iload 4, 2, [], .null), (27, .invokevirtual 213, 3, [131, 5, 1, 7], .null), (30, .goto (4), 3, [34], .null), (33, .iconst (-1), 1, [], .int (-1)), (34, .ireturn, 1, [], .null)]
def F_Mo_soon (x1 : Int32) (x2 : Int32) (x3 : Int32) (x4 : Int32) (h : Hp) : Res Hp :=
  bI (F_Mo_isAsk x1 x2 x3 h) fun v2 h1 =>
  if v2 = (0 : Int32) then
  (retI (-1 : Int32) h1)
  else
  (bI (F_Mo_in x4 (0 : Int32) (99 : Int32) h1) fun v4 h3 =>
  if v4 = (0 : Int32) then
  (retI (-1 : Int32) h3)
  else
  (bI (F_Mo_soonOf x1 x2 x3 x4 h3) fun v6 h5 =>
  retI v6 h5))
def sF_Mo_soon : List Value → Hp → Res Hp := fun as h => match as with | [.ref f0, .int x1, .int x2, .int x3, .int x4] => (match Nat.beq f0 178 with | true => F_Mo_soon x1 x2 x3 x4 h | false => none) | _ => none
theorem w_Mo_soon (x1 : Int32) (x2 : Int32) (x3 : Int32) (x4 : Int32) (h : Hp) : sF_Mo_soon [.ref 178, .int x1, .int x2, .int x3, .int x4] h = F_Mo_soon x1 x2 x3 x4 h := rfl
def S_Mo_soon : Sem Hp := [(132, sF_Mo_isAsk), (71, sF_Mo_in), (131, sF_Mo_soonOf)]
set_option maxRecDepth 100000 in
theorem e_Mo_soon_0 (x1 : Int32) (x2 : Int32) (x3 : Int32) (x4 : Int32) (h : Hp) : F_Mo_soon x1 x2 x3 x4 h = exec1 OI S_Mo_soon 1 k_Mo_soon 0 [some (.ref 178), some (.int x1), some (.int x2), some (.int x3), some (.int x4)] [] h (runF OI S_Mo_soon [] 1 k_Mo_soon 400) :=
  (x_bI (f := sF_Mo_isAsk) rfl (w_Mo_isAsk _ _ _ _) fun v2 h1 => (x_ite rfl (x_bI (f := sF_Mo_in) rfl (w_Mo_in _ _ _ _) fun v4 h3 => (x_ite rfl (x_bI (f := sF_Mo_soonOf) rfl (w_Mo_soonOf _ _ _ _ _) fun v6 h5 => rfl)))))
def k_Mo_costOf : List Ent := [(0, .aload_n 0, 1, [], .null), (1, .iload_n 1, 1, [], .null), (2, .iconst 1, 1, [], .int (1)), (3, .invokevirtual 146, 3, [101, 3, 2, 7], .null), (6, .ifCond .ne (13), 3, [19], .null), (9, .aload_n 0, 1, [], .null), (10, .getfield 28, 3, [7, 9, 1], .null), (13, .iload_n 1, 1, [], .null), (14, .iaload, 1, [], .null), (15, .iconst 5, 1, [], .int (5)), (16, .if_icmp .ne (5), 3, [21], .null), (19, .iconst 0, 1, [], .int (0)), (20, .ireturn, 1, [], .null), (21, .aload_n 0, 1, [], .null), (22, .getfield 28, 3, [7, 9, 1], .null), (25, .iload_n 1, 1, [], .null), (26, .iaload, 1, [], .null), (27, .iconst 2, 1, [], .int (2)), (28, .if_icmp .ne (18), 3, [46], .null), (31, .iload_n 2, 1, [], .null), (32, .iload_n 2, 1, [], .null), (33, .iconst 1, 1, [], .int (1)), (34, .ishl, 1, [], .null), (35, .ior, 1, [], .null), (36, .iload_n 2, 1, [], .null), (37, .iconst 1, 1, [], .int (1)), (38, .ishr, 1, [], .null), (39, .ior, 1, [], .null), (40, .bipush (31), 2, [], .int (31)), (42, .iand, 1, [], .null), (43, .goto (4), 3, [47], .null), (46, .iload_n 2, 1, [], .null), (47, .istore_n 3, 1, [], .null), (48, .aload_n 0, 1, [], .null), (49, .getfield 31, 3, [7, 10, 1], .null), (52, .iload_n 1, 1, [], .null), (53, .iaload, 1, [], .null), (54, .iload_n 3, 1, [], .null), (55, .iand, 1, [], .null), (56, .invokestatic 165, 3, [75, 1, 1], .null), (59, .ireturn, 1, [], .null)]
def F_Mo_costOf (x1 : Int32) (x2 : Int32) (h : Hp) : Res Hp :=
  bI (F_Mo_isA x1 (1 : Int32) h) fun v2 h1 =>
  if v2 = (0 : Int32) then
  (bif okA 185 100 x1 then
  if (hg h1 185 x1.toNatClampNeg) = (5 : Int32) then
  (retI (0 : Int32) h1)
  else
  (bif okA 185 100 x1 then
  if (hg h1 185 x1.toNatClampNeg) = (2 : Int32) then
  (bif okA 186 100 x1 then
  bI (F_Mo_sizeOf ((hg h1 186 x1.toNatClampNeg) &&& (((x2 ||| (x2 <<< ((1 : Int32) &&& 31))) ||| (x2 >>> ((1 : Int32) &&& 31))) &&& (31 : Int32))) h1) fun v6 h5 =>
  retI v6 h5
  else none)
  else
  (bif okA 186 100 x1 then
  bI (F_Mo_sizeOf ((hg h1 186 x1.toNatClampNeg) &&& x2) h1) fun v4 h3 =>
  retI v4 h3
  else none)
  else none)
  else none)
  else
  (retI (0 : Int32) h1)
def sF_Mo_costOf : List Value → Hp → Res Hp := fun as h => match as with | [.ref f0, .int x1, .int x2] => (match Nat.beq f0 178 with | true => F_Mo_costOf x1 x2 h | false => none) | _ => none
theorem w_Mo_costOf (x1 : Int32) (x2 : Int32) (h : Hp) : sF_Mo_costOf [.ref 178, .int x1, .int x2] h = F_Mo_costOf x1 x2 h := rfl
def S_Mo_costOf : Sem Hp := [(101, sF_Mo_isA), (75, sF_Mo_sizeOf)]
set_option maxRecDepth 100000 in
theorem e_Mo_costOf_0 (x1 : Int32) (x2 : Int32) (h : Hp) : F_Mo_costOf x1 x2 h = exec1 OI S_Mo_costOf 1 k_Mo_costOf 0 [some (.ref 178), some (.int x1), some (.int x2), none] [] h (runF OI S_Mo_costOf [] 1 k_Mo_costOf 400) :=
  (x_bI (f := sF_Mo_isA) rfl (w_Mo_isA _ _ _) fun v2 h1 => (x_ite (x_bif (x_ite rfl (x_bif (x_ite (x_bif (x_bI (f := sF_Mo_sizeOf) rfl (w_Mo_sizeOf _ _) fun v6 h5 => rfl)) (x_bif (x_bI (f := sF_Mo_sizeOf) rfl (w_Mo_sizeOf _ _) fun v4 h3 => rfl)))))) rfl))
def k_Mo_meetWay : List Ent := [(0, .aload_n 0, 1, [], .null), (1, .dup, 1, [], .null), (2, .getfield 217, 3, [7, 27, 0], .null), (5, .iconst 1, 1, [], .int (1)), (6, .iadd, 1, [], .null), (7, .putfield 217, 3, [7, 27, 0], .null), (10, .aload_n 0, 1, [], .null), (11, .dup, 1, [], .null), (12, .getfield 220, 3, [7, 28, 0], .null), (15, .iload_n 2, 1, [], .null), (16, .iand, 1, [], .null), (17, .putfield 220, 3, [7, 28, 0], .null), (20, .aload_n 0, 1, [], .null), (21, .getfield 58, 3, [7, 29, 1], .null), (24, .iload_n 2, 1, [], .null), (25, .iconst 1, 1, [], .int (1)), (26, .bastore, 1, [], .null), (27, .aload_n 0, 1, [], .null), (28, .getfield 223, 3, [7, 26, 0], .null), (31, .ldc 226, 2, [], .int (1048576)), (33, .if_icmp .eq (27), 3, [60], .null), (36, .iload_n 3, 1, [], .null), (37, .aload_n 0, 1, [], .null), (38, .getfield 223, 3, [7, 26, 0], .null), (41, .if_icmp .lt (19), 3, [60], .null), (44, .iload_n 3, 1, [], .null), (45, .aload_n 0, 1, [], .null), (46, .getfield 223, 3, [7, 26, 0], .null), (49, .if_icmp .ne (50), 3, [99], .null), (52, .iload_n 1, 1, [], .null), (53, .aload_n 0, 1, [], .null), (54, .getfield 227, 3, [7, 25, 0], .null), (57, .if_icmp .ge (42), 3, [99], .null), (60, .aload_n 0, 1, [], .null), (61, .iload_n 3, 1, [], .null), (62, .putfield 223, 3, [7, 26, 0], .null), (65, .aload_n 0, 1, [], .null), (66, .iload_n 1, 1, [], .null), (67, .putfield 227, 3, [7, 25, 0], .null), (70, .iconst 0, 1, [], .int (0)), (71, .istore 4, 2, [], .null), (73, .iload 4, 2, [], .null), (75, .iload_n 1, 1, [], .null), (76, .if_icmp .ge (23), 3, [99], .null), (79, .aload_n 0, 1, [], .null), (80, .getfield 55, 3, [7, 24, 1], .null), (83, .iload 4, 2, [], .null), (85, .aload_n 0, 1, [], .null), (86, .getfield 52, 3, [7, 23, 1], .null), (89, .iload 4, 2, [], .null), (91, .iaload, 1, [], .null), (92, .iastore, 1, [], .null), (93, .iinc 4 (1), 3, [], .int (1)), (96, .goto (-23), 3, [73], .null), (99, .return_, 1, [], .null)]
def Mo_meetWay_73    : (Int32 × Int32 × Hp) → ((Int32 × Int32 × Hp) → Res Hp) → Res Hp := fun s κ73 => match s with
  | (x1, x4, h) =>
  if x1 ≤ x4 then
  (retV h)
  else
  (bif okA 193 100 x4 then
  bif okA 194 100 x4 then
  bH (hs h 194 x4.toNatClampNeg (hg h 193 x4.toNatClampNeg)) fun h1 =>
  κ73 (x1, (x4 + (1 : Int32)), h1)
  else none
  else none)
def F_Mo_meetWay (x1 : Int32) (x2 : Int32) (x3 : Int32) (h : Hp) : Res Hp :=
  bH (hs h 178 27 ((hg h 178 27) + (1 : Int32))) fun h1 =>
  bH (hs h1 178 28 ((hg h1 178 28) &&& x2)) fun h2 =>
  bif okA 195 101 x2 then
  bH (hs h2 195 x2.toNatClampNeg (vp_nar .boolean (1 : Int32))) fun h3 =>
  if (hg h3 178 26) = (1048576 : Int32) then
  (bH (hs h3 178 26 x3) fun h4 =>
  bH (hs h4 178 25 x1) fun h5 =>
  loopC (Mo_meetWay_73   ) FU (x1, (0 : Int32), h5))
  else
  (if x3 < (hg h3 178 26) then
  (bH (hs h3 178 26 x3) fun h6 =>
  bH (hs h6 178 25 x1) fun h7 =>
  loopC (Mo_meetWay_73   ) FU (x1, (0 : Int32), h7))
  else
  (if x3 = (hg h3 178 26) then
  (if (hg h3 178 25) ≤ x1 then
  (retV h3)
  else
  (bH (hs h3 178 26 x3) fun h8 =>
  bH (hs h8 178 25 x1) fun h9 =>
  loopC (Mo_meetWay_73   ) FU (x1, (0 : Int32), h9)))
  else
  (retV h3)))
  else none
def sF_Mo_meetWay : List Value → Hp → Res Hp := fun as h => match as with | [.ref f0, .int x1, .int x2, .int x3] => (match Nat.beq f0 178 with | true => F_Mo_meetWay x1 x2 x3 h | false => none) | _ => none
theorem w_Mo_meetWay (x1 : Int32) (x2 : Int32) (x3 : Int32) (h : Hp) : sF_Mo_meetWay [.ref 178, .int x1, .int x2, .int x3] h = F_Mo_meetWay x1 x2 x3 h := rfl
def S_Mo_meetWay : Sem Hp := []
set_option maxRecDepth 100000 in
theorem e_Mo_meetWay_0 (x1 : Int32) (x2 : Int32) (x3 : Int32) (h : Hp) : F_Mo_meetWay x1 x2 x3 h = exec1 OI S_Mo_meetWay 0 k_Mo_meetWay 0 [some (.ref 178), some (.int x1), some (.int x2), some (.int x3), none] [] h (runF OI S_Mo_meetWay [(73, [0, 1, 4], fun vs st h => match vs, st with | [.ref f0, .int x1, .int x4], [] => (match Nat.beq f0 178 with | true => loopC (Mo_meetWay_73   ) FU (x1, x4, h) | false => none) | _, _ => none)] 0 k_Mo_meetWay 400) :=
  (x_bH fun h1 => (x_bH fun h2 => (x_bif (x_bH fun h3 => (x_ite (x_bH fun h4 => (x_bH fun h5 => rfl)) (x_ite (x_bH fun h6 => (x_bH fun h7 => rfl)) (x_ite (x_ite rfl (x_bH fun h8 => (x_bH fun h9 => rfl))) rfl)))))))
set_option maxRecDepth 100000 in
theorem e_Mo_meetWay_73 (κ73 : (Int32 × Int32 × Hp) → Res Hp) (x1 : Int32) (x4 : Int32)  (h : Hp) : Mo_meetWay_73    (x1, x4, h) κ73 = exec1 OI S_Mo_meetWay 0 k_Mo_meetWay 73 [some (.ref 178), some (.int x1), none, none, some (.int x4)] [] h (runF OI S_Mo_meetWay [(73, [0, 1, 4], fun vs st h => match vs, st with | [.ref f0, .int x1, .int x4], [] => (match Nat.beq f0 178 with | true => κ73 (x1, x4, h) | false => none) | _, _ => none)] 0 k_Mo_meetWay 400) :=
  (x_ite rfl (x_bif (x_bif (x_bH fun h1 => rfl))))
def k_Mo_wayOn : List Ent := [(0, .aload_n 0, 1, [], .null), (1, .getfield 52, 3, [7, 23, 1], .null), (4, .iload_n 3, 1, [], .null), (5, .iconst 1, 1, [], .int (1)), (6, .isub, 1, [], .null), (7, .iaload, 1, [], .null), (8, .istore 7, 2, [], .null), (10, .aload_n 0, 1, [], .null), (11, .iload 7, 2, [], .null), (13, .bipush (-9), 2, [], .int (-9)), (15, .invokevirtual 171, 3, [104, 3, 1, 7], .null), (18, .iload 4, 2, [], .null), (20, .iconst (-1), 1, [], .int (-1)), (21, .ixor, 1, [], .null), (22, .iand, 1, [], .null), (23, .istore 8, 2, [], .null), (25, .iconst 0, 1, [], .int (0)), (26, .istore 9, 2, [], .null), (28, .iload 9, 2, [], .null), (30, .aload_n 0, 1, [], .null), (31, .getfield 131, 3, [7, 8, 0], .null), (34, .if_icmp .ge (118), 3, [152], .null), (37, .iload 8, 2, [], .null), (39, .iload 9, 2, [], .null), (41, .invokestatic 195, 3, [74, 2, 2], .null), (44, .ifCond .eq (102), 3, [146], .null), (47, .aload_n 0, 1, [], .null), (48, .getfield 52, 3, [7, 23, 1], .null), (51, .iload_n 3, 1, [], .null), (52, .iload 9, 2, [], .null), (54, .iastore, 1, [], .null), (55, .iload 9, 2, [], .null), (57, .iload_n 1, 1, [], .null), (58, .if_icmp .ne (28), 3, [86], .null), (61, .aload_n 0, 1, [], .null), (62, .iload_n 3, 1, [], .null), (63, .iconst 1, 1, [], .int (1)), (64, .iadd, 1, [], .null), (65, .iload 4, 2, [], .null), (67, .iconst 1, 1, [], .int (1)), (68, .aload_n 0, 1, [], .null), (69, .getfield 52, 3, [7, 23, 1], .null), (72, .iconst 0, 1, [], .int (0)), (73, .iaload, 1, [], .null), (74, .ishl, 1, [], .null), (75, .iconst (-1), 1, [], .int (-1)), (76, .ixor, 1, [], .null), (77, .iand, 1, [], .null), (78, .iload 5, 2, [], .null), (80, .invokevirtual 230, 3, [135, 4, 0, 7], .null), (83, .goto (63), 3, [146], .null), (86, .aload_n 0, 1, [], .null), (87, .iload 9, 2, [], .null), (89, .iload 7, 2, [], .null), (91, .aload_n 0, 1, [], .null), (92, .getfield 52, 3, [7, 23, 1], .null), (95, .iconst 0, 1, [], .int (0)), (96, .iaload, 1, [], .null), (97, .invokevirtual 192, 3, [120, 4, 2, 7], .null), (100, .ifCond .eq (46), 3, [146], .null), (103, .iload 6, 2, [], .null), (105, .ifCond .ne (13), 3, [118], .null), (108, .aload_n 0, 1, [], .null), (109, .iload 9, 2, [], .null), (111, .iload_n 2, 1, [], .null), (112, .invokevirtual 183, 3, [103, 3, 2, 7], .null), (115, .ifCond .eq (31), 3, [146], .null), (118, .aload_n 0, 1, [], .null), (119, .iload_n 1, 1, [], .null), (120, .iload_n 2, 1, [], .null), (121, .iload_n 3, 1, [], .null), (122, .iconst 1, 1, [], .int (1)), (123, .iadd, 1, [], .null), (124, .iload 4, 2, [], .null), (126, .iconst 1, 1, [], .int (1)), (127, .iload 9, 2, [], .null), (129, .ishl, 1, [], .null), (130, .ior, 1, [], .null), (131, .iload 5, 2, [], .null), (133, .aload_n 0, 1, [], .null), (134, .iload 9, 2, [], .null), (136, .iload_n 2, 1, [], .null), (137, .invokevirtual 233, 3, [134, 3, 1, 7], .null), (140, .iadd, 1, [], .null), (141, .iload 6, 2, [], .null), (143, .invokevirtual 236, 3, [136, 7, 0, 7], .null), (146, .iinc 9 (1), 3, [], .int (1)), (149, .goto (-121), 3, [28], .null), (152, .return_, 1, [], .null)]
def Mo_wayOn_28 (self : Int32 → Int32 → Int32 → Int32 → Int32 → Int32 → Hp → Res Hp)     : (Int32 × Int32 × Int32 × Int32 × Int32 × Int32 × Int32 × Int32 × Int32 × Hp) → ((Int32 × Int32 × Int32 × Int32 × Int32 × Int32 × Int32 × Int32 × Int32 × Hp) → Res Hp) → Res Hp := fun s κ28 => match s with
  | (x1, x2, x3, x4, x5, x6, x7, x8, x9, h) =>
  if (hg h 178 8) ≤ x9 then
  (retV h)
  else
  (bI (F_Mo_has x8 x9 h) fun v2 h1 =>
  if v2 = (0 : Int32) then
  (κ28 (x1, x2, x3, x4, x5, x6, x7, x8, (x9 + (1 : Int32)), h1))
  else
  (bif okA 193 100 x3 then
  bH (hs h1 193 x3.toNatClampNeg x9) fun h3 =>
  if x9 = x1 then
  (bV (F_Mo_meetWay (x3 + (1 : Int32)) (x4 &&& (((1 : Int32) <<< ((hg h3 193 0) &&& 31)) ^^^ (-1 : Int32))) x5 h3) fun h14 =>
  κ28 (x1, x2, x3, x4, x5, x6, x7, x8, (x9 + (1 : Int32)), h14))
  else
  (bI (F_Mo_takes x9 x7 (hg h3 193 0) h3) fun v5 h4 =>
  if v5 = (0 : Int32) then
  (κ28 (x1, x2, x3, x4, x5, x6, x7, x8, (x9 + (1 : Int32)), h4))
  else
  (if x6 = (0 : Int32) then
  (bI (F_Mo_mayCarry x9 x2 h4) fun v10 h9 =>
  if v10 = (0 : Int32) then
  (κ28 (x1, x2, x3, x4, x5, x6, x7, x8, (x9 + (1 : Int32)), h9))
  else
  (bI (F_Mo_costOf x9 x2 h9) fun v12 h11 =>
  bV (self x1 x2 (x3 + (1 : Int32)) (x4 ||| ((1 : Int32) <<< (x9 &&& 31))) (x5 + v12) x6 h11) fun h13 =>
  κ28 (x1, x2, x3, x4, x5, x6, x7, x8, (x9 + (1 : Int32)), h13)))
  else
  (bI (F_Mo_costOf x9 x2 h4) fun v7 h6 =>
  bV (self x1 x2 (x3 + (1 : Int32)) (x4 ||| ((1 : Int32) <<< (x9 &&& 31))) (x5 + v7) x6 h6) fun h8 =>
  κ28 (x1, x2, x3, x4, x5, x6, x7, x8, (x9 + (1 : Int32)), h8))))
  else none))
def G_Mo_wayOn (self : Int32 → Int32 → Int32 → Int32 → Int32 → Int32 → Hp → Res Hp) (x1 : Int32) (x2 : Int32) (x3 : Int32) (x4 : Int32) (x5 : Int32) (x6 : Int32) (h : Hp) : Res Hp :=
  bif okA 193 100 (x3 - (1 : Int32)) then
  bI (F_Mo_metBy (hg h 193 (x3 - (1 : Int32)).toNatClampNeg) (-9 : Int32) h) fun v2 h1 =>
  loopC (Mo_wayOn_28 self   ) FU (x1, x2, x3, x4, x5, x6, (hg h 193 (x3 - (1 : Int32)).toNatClampNeg), (v2 &&& (x4 ^^^ (-1 : Int32))), (0 : Int32), h1)
  else none
def F_Mo_wayOn (d : Nat) : Int32 → Int32 → Int32 → Int32 → Int32 → Int32 → Hp → Res Hp := Nat.rec (fun _ _ _ _ _ _ _ => none) (fun _ ih => G_Mo_wayOn ih) d
def sF_Mo_wayOn (d : Nat) : List Value → Hp → Res Hp := fun as h => match as with | [.ref f0, .int x1, .int x2, .int x3, .int x4, .int x5, .int x6] => (match Nat.beq f0 178 with | true => F_Mo_wayOn d x1 x2 x3 x4 x5 x6 h | false => none) | _ => none
theorem w_Mo_wayOn (d : Nat) (x1 : Int32) (x2 : Int32) (x3 : Int32) (x4 : Int32) (x5 : Int32) (x6 : Int32) (h : Hp) : sF_Mo_wayOn d [.ref 178, .int x1, .int x2, .int x3, .int x4, .int x5, .int x6] h = F_Mo_wayOn d x1 x2 x3 x4 x5 x6 h := rfl
def S_Mo_wayOn (self : Int32 → Int32 → Int32 → Int32 → Int32 → Int32 → Hp → Res Hp) : Sem Hp := [(104, sF_Mo_metBy), (74, sF_Mo_has), (120, sF_Mo_takes), (134, sF_Mo_costOf), (136, fun as h => match as with | [.ref f0, .int x1, .int x2, .int x3, .int x4, .int x5, .int x6] => (match Nat.beq f0 178 with | true => self x1 x2 x3 x4 x5 x6 h | false => none) | _ => none), (103, sF_Mo_mayCarry), (135, sF_Mo_meetWay)]
set_option maxRecDepth 100000 in
theorem e_Mo_wayOn_0 (self : Int32 → Int32 → Int32 → Int32 → Int32 → Int32 → Hp → Res Hp) (x1 : Int32) (x2 : Int32) (x3 : Int32) (x4 : Int32) (x5 : Int32) (x6 : Int32) (h : Hp) : G_Mo_wayOn self x1 x2 x3 x4 x5 x6 h = exec1 OI (S_Mo_wayOn self) 0 k_Mo_wayOn 0 [some (.ref 178), some (.int x1), some (.int x2), some (.int x3), some (.int x4), some (.int x5), some (.int x6), none, none, none] [] h (runF OI (S_Mo_wayOn self) [(28, [0, 1, 2, 3, 4, 5, 6, 7, 8, 9], fun vs st h => match vs, st with | [.ref f0, .int x1, .int x2, .int x3, .int x4, .int x5, .int x6, .int x7, .int x8, .int x9], [] => (match Nat.beq f0 178 with | true => loopC (Mo_wayOn_28 self   ) FU (x1, x2, x3, x4, x5, x6, x7, x8, x9, h) | false => none) | _, _ => none)] 0 k_Mo_wayOn 400) :=
  (x_bif (x_bI (f := sF_Mo_metBy) rfl (w_Mo_metBy _ _ _) fun v2 h1 => rfl))
set_option maxRecDepth 100000 in
theorem e_Mo_wayOn_28 (self : Int32 → Int32 → Int32 → Int32 → Int32 → Int32 → Hp → Res Hp) (κ28 : (Int32 × Int32 × Int32 × Int32 × Int32 × Int32 × Int32 × Int32 × Int32 × Hp) → Res Hp) (x1 : Int32) (x2 : Int32) (x3 : Int32) (x4 : Int32) (x5 : Int32) (x6 : Int32) (x7 : Int32) (x8 : Int32) (x9 : Int32)  (h : Hp) : Mo_wayOn_28 self    (x1, x2, x3, x4, x5, x6, x7, x8, x9, h) κ28 = exec1 OI (S_Mo_wayOn self) 0 k_Mo_wayOn 28 [some (.ref 178), some (.int x1), some (.int x2), some (.int x3), some (.int x4), some (.int x5), some (.int x6), some (.int x7), some (.int x8), some (.int x9)] [] h (runF OI (S_Mo_wayOn self) [(28, [0, 1, 2, 3, 4, 5, 6, 7, 8, 9], fun vs st h => match vs, st with | [.ref f0, .int x1, .int x2, .int x3, .int x4, .int x5, .int x6, .int x7, .int x8, .int x9], [] => (match Nat.beq f0 178 with | true => κ28 (x1, x2, x3, x4, x5, x6, x7, x8, x9, h) | false => none) | _, _ => none)] 0 k_Mo_wayOn 400) :=
  (x_ite rfl (x_bI (f := sF_Mo_has) rfl (w_Mo_has _ _ _) fun v2 h1 => (x_ite rfl (x_bif (x_bH fun h3 => (x_ite (x_bV (f := sF_Mo_meetWay) rfl (w_Mo_meetWay _ _ _ _) fun h14 => rfl) (x_bI (f := sF_Mo_takes) rfl (w_Mo_takes _ _ _ _) fun v5 h4 => (x_ite rfl (x_ite (x_bI (f := sF_Mo_mayCarry) rfl (w_Mo_mayCarry _ _ _) fun v10 h9 => (x_ite rfl (x_bI (f := sF_Mo_costOf) rfl (w_Mo_costOf _ _ _) fun v12 h11 => (x_bV rfl rfl fun h13 => rfl)))) (x_bI (f := sF_Mo_costOf) rfl (w_Mo_costOf _ _ _) fun v7 h6 => (x_bV rfl rfl fun h8 => rfl)))))))))))
def k_Mo_setWays : List Ent := [(0, .aload_n 0, 1, [], .null), (1, .iconst 0, 1, [], .int (0)), (2, .putfield 217, 3, [7, 27, 0], .null), (5, .aload_n 0, 1, [], .null), (6, .bipush (127), 2, [], .int (127)), (8, .putfield 220, 3, [7, 28, 0], .null), (11, .aload_n 0, 1, [], .null), (12, .ldc 226, 2, [], .int (1048576)), (14, .putfield 223, 3, [7, 26, 0], .null), (17, .aload_n 0, 1, [], .null), (18, .iconst 0, 1, [], .int (0)), (19, .putfield 227, 3, [7, 25, 0], .null), (22, .iconst 0, 1, [], .int (0)), (23, .istore 5, 2, [], .null), (25, .iload 5, 2, [], .null), (27, .sipush (128), 3, [], .int (128)), (30, .if_icmp .ge (17), 3, [47], .null), (33, .aload_n 0, 1, [], .null), (34, .getfield 58, 3, [7, 29, 1], .null), (37, .iload 5, 2, [], .null), (39, .iconst 0, 1, [], .int (0)), (40, .bastore, 1, [], .null), (41, .iinc 5 (1), 3, [], .int (1)), (44, .goto (-19), 3, [25], .null), (47, .aload_n 0, 1, [], .null), (48, .getfield 52, 3, [7, 23, 1], .null), (51, .iconst 0, 1, [], .int (0)), (52, .iload_n 1, 1, [], .null), (53, .iastore, 1, [], .null), (54, .aload_n 0, 1, [], .null), (55, .iload_n 2, 1, [], .null), (56, .iload_n 3, 1, [], .null), (57, .iconst 1, 1, [], .int (1)), (58, .iconst 1, 1, [], .int (1)), (59, .iload_n 1, 1, [], .null), (60, .ishl, 1, [], .null), (61, .iconst 0, 1, [], .int (0)), (62, .iload 4, 2, [], .null), (64, .invokevirtual 236, 3, [136, 7, 0, 7], .null), (67, .return_, 1, [], .null)]
def Mo_setWays_25    : (Int32 × Int32 × Int32 × Int32 × Int32 × Hp) → ((Int32 × Int32 × Int32 × Int32 × Int32 × Hp) → Res Hp) → Res Hp := fun s κ25 => match s with
  | (x1, x2, x3, x4, x5, h) =>
  if (128 : Int32) ≤ x5 then
  (bH (hs h 193 0 x1) fun h1 =>
  bV (F_Mo_wayOn 9 x2 x3 (1 : Int32) ((1 : Int32) <<< (x1 &&& 31)) (0 : Int32) x4 h1) fun h2 =>
  retV h2)
  else
  (bif okA 195 101 x5 then
  bH (hs h 195 x5.toNatClampNeg (vp_nar .boolean (0 : Int32))) fun h3 =>
  κ25 (x1, x2, x3, x4, (x5 + (1 : Int32)), h3)
  else none)
def F_Mo_setWays (x1 : Int32) (x2 : Int32) (x3 : Int32) (x4 : Int32) (h : Hp) : Res Hp :=
  bH (hs h 178 27 (0 : Int32)) fun h1 =>
  bH (hs h1 178 28 (127 : Int32)) fun h2 =>
  bH (hs h2 178 26 (1048576 : Int32)) fun h3 =>
  bH (hs h3 178 25 (0 : Int32)) fun h4 =>
  loopC (Mo_setWays_25   ) FU (x1, x2, x3, x4, (0 : Int32), h4)
def sF_Mo_setWays : List Value → Hp → Res Hp := fun as h => match as with | [.ref f0, .int x1, .int x2, .int x3, .int x4] => (match Nat.beq f0 178 with | true => F_Mo_setWays x1 x2 x3 x4 h | false => none) | _ => none
theorem w_Mo_setWays (x1 : Int32) (x2 : Int32) (x3 : Int32) (x4 : Int32) (h : Hp) : sF_Mo_setWays [.ref 178, .int x1, .int x2, .int x3, .int x4] h = F_Mo_setWays x1 x2 x3 x4 h := rfl
def S_Mo_setWays : Sem Hp := [(136, sF_Mo_wayOn 9)]
set_option maxRecDepth 100000 in
theorem e_Mo_setWays_0 (x1 : Int32) (x2 : Int32) (x3 : Int32) (x4 : Int32) (h : Hp) : F_Mo_setWays x1 x2 x3 x4 h = exec1 OI S_Mo_setWays 0 k_Mo_setWays 0 [some (.ref 178), some (.int x1), some (.int x2), some (.int x3), some (.int x4), none] [] h (runF OI S_Mo_setWays [(25, [0, 1, 2, 3, 4, 5], fun vs st h => match vs, st with | [.ref f0, .int x1, .int x2, .int x3, .int x4, .int x5], [] => (match Nat.beq f0 178 with | true => loopC (Mo_setWays_25   ) FU (x1, x2, x3, x4, x5, h) | false => none) | _, _ => none)] 0 k_Mo_setWays 400) :=
  (x_bH fun h1 => (x_bH fun h2 => (x_bH fun h3 => (x_bH fun h4 => rfl))))
set_option maxRecDepth 100000 in
theorem e_Mo_setWays_25 (κ25 : (Int32 × Int32 × Int32 × Int32 × Int32 × Hp) → Res Hp) (x1 : Int32) (x2 : Int32) (x3 : Int32) (x4 : Int32) (x5 : Int32)  (h : Hp) : Mo_setWays_25    (x1, x2, x3, x4, x5, h) κ25 = exec1 OI S_Mo_setWays 0 k_Mo_setWays 25 [some (.ref 178), some (.int x1), some (.int x2), some (.int x3), some (.int x4), some (.int x5)] [] h (runF OI S_Mo_setWays [(25, [0, 1, 2, 3, 4, 5], fun vs st h => match vs, st with | [.ref f0, .int x1, .int x2, .int x3, .int x4, .int x5], [] => (match Nat.beq f0 178 with | true => κ25 (x1, x2, x3, x4, x5, h) | false => none) | _, _ => none)] 0 k_Mo_setWays 400) :=
  (x_ite (x_bH fun h1 => (x_bV (f := sF_Mo_wayOn 9) rfl (w_Mo_wayOn 9 _ _ _ _ _ _ _) fun h2 => rfl)) (x_bif (x_bH fun h3 => rfl)))
def k_Mo_way : List Ent := [(0, .aload_n 0, 1, [], .null), (1, .iload_n 1, 1, [], .null), (2, .iload_n 2, 1, [], .null), (3, .iload_n 3, 1, [], .null), (4, .invokevirtual 210, 3, [132, 4, 2, 7], .null), (7, .ifCond .eq (11), 3, [18], .null), (10, .iload 4, 2, [], .null), (12, .invokestatic 76, 3, [76, 1, 2], .null), (15, .ifCond .ne (5), 3, [20], .null), (18, .iconst (-1), 1, [], .int (-1)), (19, .ireturn, 1, [], .null), (20, .aload_n 0, 1, [], .null), (21, .iload_n 1, 1, [], .null), (22, .iload_n 2, 1, [], .null), (23, .iload_n 3, 1, [], .null), (24, .iconst 0, 1, [], .int (0)), (25, .invokevirtual 240, 3, [137, 5, 0, 7], .null), (28, .aload_n 0, 1, [], .null), (29, .getfield 217, 3, [7, 27, 0], .null), (32, .ifCond .ne (6), 3, [38], .null), (35, .bipush (-9), 2, [], .int (-9)), (37, .ireturn, 1, [], .null), (38, .aload_n 0, 1, [], .null), (39, .iload 4, 2, [], .null), (41, .aload_n 0, 1, [], .null), (42, .getfield 227, 3, [7, 25, 0], .null), (45, .invokevirtual 207, 3, [82, 3, 1, 7], .null), (48, .pop, 1, [], .null), (49, .iconst 0, 1, [], .int (0)), (50, .istore 5, 2, [], .null), (52, .iload 5, 2, [], .null), (54, .aload_n 0, 1, [], .null), (55, .getfield 227, 3, [7, 25, 0], .null), (58, .if_icmp .ge (24), 3, [82], .null), (61, .aload_n 0, 1, [], .null), (62, .iload 4, 2, [], .null), (64, .iload 5, 2, [], .null), (66, .aload_n 0, 1, [], .null), (67, .getfield 55, 3, [7, 24, 1], .null), (70, .iload 5, 2, [], .null), (72, .iaload, 1, [], .null), (73, .invokevirtual 87, 3, [81, 4, 0, 7], .null), (76, .iinc 5 (1), 3, [], .int (1)), (79, .goto (-27), 3, [52], .null), (82, .aload_n 0, 1, [], .null), (83, .getfield 227, 3, [7, 25, 0], .null), (86, .iconst 2, 1, [], .int (2)), (87, .isub, 1, [], .null), (88, .ireturn, 1, [], .null)]
def Mo_way_52    : (Int32 × Int32 × Hp) → ((Int32 × Int32 × Hp) → Res Hp) → Res Hp := fun s κ52 => match s with
  | (x4, x5, h) =>
  if (hg h 178 25) ≤ x5 then
  (retI ((hg h 178 25) - (2 : Int32)) h)
  else
  (bif okA 194 100 x5 then
  bV (F_Mo_setRow x4 x5 (hg h 194 x5.toNatClampNeg) h) fun h1 =>
  κ52 (x4, (x5 + (1 : Int32)), h1)
  else none)
def F_Mo_way (x1 : Int32) (x2 : Int32) (x3 : Int32) (x4 : Int32) (h : Hp) : Res Hp :=
  bI (F_Mo_isAsk x1 x2 x3 h) fun v2 h1 =>
  if v2 = (0 : Int32) then
  (retI (-1 : Int32) h1)
  else
  (bI (F_Mo_isRow x4 h1) fun v4 h3 =>
  if v4 = (0 : Int32) then
  (retI (-1 : Int32) h3)
  else
  (bV (F_Mo_setWays x1 x2 x3 (0 : Int32) h3) fun h5 =>
  if (hg h5 178 27) = (0 : Int32) then
  (retI (-9 : Int32) h5)
  else
  (bI (F_Mo_row x4 (hg h5 178 25) h5) fun v7 h6 =>
  loopC (Mo_way_52   ) FU (x4, (0 : Int32), h6))))
def sF_Mo_way : List Value → Hp → Res Hp := fun as h => match as with | [.ref f0, .int x1, .int x2, .int x3, .int x4] => (match Nat.beq f0 178 with | true => F_Mo_way x1 x2 x3 x4 h | false => none) | _ => none
theorem w_Mo_way (x1 : Int32) (x2 : Int32) (x3 : Int32) (x4 : Int32) (h : Hp) : sF_Mo_way [.ref 178, .int x1, .int x2, .int x3, .int x4] h = F_Mo_way x1 x2 x3 x4 h := rfl
def S_Mo_way : Sem Hp := [(132, sF_Mo_isAsk), (76, sF_Mo_isRow), (137, sF_Mo_setWays), (82, sF_Mo_row), (81, sF_Mo_setRow)]
set_option maxRecDepth 100000 in
theorem e_Mo_way_0 (x1 : Int32) (x2 : Int32) (x3 : Int32) (x4 : Int32) (h : Hp) : F_Mo_way x1 x2 x3 x4 h = exec1 OI S_Mo_way 1 k_Mo_way 0 [some (.ref 178), some (.int x1), some (.int x2), some (.int x3), some (.int x4), none] [] h (runF OI S_Mo_way [(52, [0, 4, 5], fun vs st h => match vs, st with | [.ref f0, .int x4, .int x5], [] => (match Nat.beq f0 178 with | true => loopC (Mo_way_52   ) FU (x4, x5, h) | false => none) | _, _ => none)] 1 k_Mo_way 400) :=
  (x_bI (f := sF_Mo_isAsk) rfl (w_Mo_isAsk _ _ _ _) fun v2 h1 => (x_ite rfl (x_bI (f := sF_Mo_isRow) rfl (w_Mo_isRow _ _) fun v4 h3 => (x_ite rfl (x_bV (f := sF_Mo_setWays) rfl (w_Mo_setWays _ _ _ _ _) fun h5 => (x_ite rfl (x_bI (f := sF_Mo_row) rfl (w_Mo_row _ _ _) fun v7 h6 => rfl)))))))
set_option maxRecDepth 100000 in
theorem e_Mo_way_52 (κ52 : (Int32 × Int32 × Hp) → Res Hp) (x4 : Int32) (x5 : Int32)  (h : Hp) : Mo_way_52    (x4, x5, h) κ52 = exec1 OI S_Mo_way 1 k_Mo_way 52 [some (.ref 178), none, none, none, some (.int x4), some (.int x5)] [] h (runF OI S_Mo_way [(52, [0, 4, 5], fun vs st h => match vs, st with | [.ref f0, .int x4, .int x5], [] => (match Nat.beq f0 178 with | true => κ52 (x4, x5, h) | false => none) | _, _ => none)] 1 k_Mo_way 400) :=
  (x_ite rfl (x_bif (x_bV (f := sF_Mo_setRow) rfl (w_Mo_setRow _ _ _ _) fun h1 => rfl)))
def k_Mo_tongue : List Ent := [(0, .aload_n 0, 1, [], .null), (1, .iload_n 1, 1, [], .null), (2, .iload_n 2, 1, [], .null), (3, .invokevirtual 177, 3, [98, 3, 2, 7], .null), (6, .ifCond .eq (13), 3, [19], .null), (9, .iload_n 3, 1, [], .null), (10, .iconst 0, 1, [], .int (0)), (11, .bipush (99), 2, [], .int (99)), (13, .invokestatic 72, 3, [71, 3, 2], .null), (16, .ifCond .ne (5), 3, [21], .null), (19, .iconst (-1), 1, [], .int (-1)), (20, .ireturn, 1, [], .null), (21, .bipush (-9), 2, [], .int (-9)), (23, .istore 4, 2, [], .null), (25, .ldc 226, 2, [], .int (1048576)), (27, .istore 5, 2, [], .null), (29, .iconst 0, 1, [], .int (0)), (30, .istore 6, 2, [], .null), (32, .iload 6, 2, [], .null), (34, .iconst 5, 1, [], .int (5)), (35, .if_icmp .ge (86), 3, [121], .null), (38, .aload_n 0, 1, [], .null), (39, .iload_n 1, 1, [], .null), (40, .iload_n 2, 1, [], .null), (41, .iconst 1, 1, [], .int (1)), (42, .iload 6, 2, [], .null), (44, .ishl, 1, [], .null), (45, .invokevirtual 186, 3, [117, 4, 2, 7], .null), (48, .ifCond .eq (17), 3, [65], .null), (51, .aload_n 0, 1, [], .null), (52, .iload_n 1, 1, [], .null), (53, .iload_n 2, 1, [], .null), (54, .iconst 1, 1, [], .int (1)), (55, .iload 6, 2, [], .null), (57, .ishl, 1, [], .null), (58, .iload_n 3, 1, [], .null), (59, .invokevirtual 213, 3, [131, 5, 1, 7], .null), (62, .goto (5), 3, [67], .null), (65, .bipush (-9), 2, [], .int (-9)), (67, .istore 7, 2, [], .null), (69, .iload 7, 2, [], .null), (71, .bipush (-9), 2, [], .int (-9)), (73, .if_icmp .eq (15), 3, [88], .null), (76, .iload 7, 2, [], .null), (78, .iload 5, 2, [], .null), (80, .if_icmp .ge (8), 3, [88], .null), (83, .iload 6, 2, [], .null), (85, .goto (5), 3, [90], .null), (88, .iload 4, 2, [], .null), (90, .istore 4, 2, [], .null), (92, .iload 7, 2, [], .null), (94, .bipush (-9), 2, [], .int (-9)), (96, .if_icmp .eq (15), 3, [111], .null), (99, .iload 7, 2, [], .null), (101, .iload 5, 2, [], .null), (103, .if_icmp .ge (8), 3, [111], .null), (106, .iload 7, 2, [], .null), (108, .goto (5), 3, [113], .null), (111, .iload 5, 2, [], .null), (113, .istore 5, 2, [], .null), (115, .iinc 6 (1), 3, [], .int (1)), (118, .goto (-86), 3, [32], .null), (121, .iload 4, 2, [], .null), (123, .bipush (-9), 2, [], .int (-9)), (125, .if_icmp .ne (8), 3, [133], .null), (128, .bipush (-9), 2, [], .int (-9)), (130, .goto (11), 3, [141], .null), (133, .aload_n 0, 1, [], .null), (134, .iload 5, 2, [], .null), (136, .iload 4, 2, [], .null), (138, .invokevirtual 98, 3, [73, 3, 1, 7], .null), (141, .ireturn, 1, [], .null)]
def Mo_tongue_32    : (Int32 × Int32 × Int32 × Int32 × Int32 × Int32 × Hp) → ((Int32 × Int32 × Int32 × Int32 × Int32 × Int32 × Hp) → Res Hp) → Res Hp := fun s κ32 => match s with
  | (x1, x2, x3, x4, x5, x6, h) =>
  if (5 : Int32) ≤ x6 then
  (if x4 = (-9 : Int32) then
  (retI (-9 : Int32) h)
  else
  (bI (F_Mo_ask x5 x4 h) fun v2 h1 =>
  retI v2 h1))
  else
  (bI (F_Mo_writes x1 x2 ((1 : Int32) <<< (x6 &&& 31)) h) fun v4 h3 =>
  if v4 = (0 : Int32) then
  (κ32 (x1, x2, x3, x4, x5, (x6 + (1 : Int32)), h3))
  else
  (bI (F_Mo_soonOf x1 x2 ((1 : Int32) <<< (x6 &&& 31)) x3 h3) fun v6 h5 =>
  if v6 = (-9 : Int32) then
  (if v6 = (-9 : Int32) then
  (κ32 (x1, x2, x3, x4, x5, (x6 + (1 : Int32)), h5))
  else
  (if x5 ≤ v6 then
  (κ32 (x1, x2, x3, x4, x5, (x6 + (1 : Int32)), h5))
  else
  (κ32 (x1, x2, x3, x4, v6, (x6 + (1 : Int32)), h5))))
  else
  (if x5 ≤ v6 then
  (if v6 = (-9 : Int32) then
  (κ32 (x1, x2, x3, x4, x5, (x6 + (1 : Int32)), h5))
  else
  (if x5 ≤ v6 then
  (κ32 (x1, x2, x3, x4, x5, (x6 + (1 : Int32)), h5))
  else
  (κ32 (x1, x2, x3, x4, v6, (x6 + (1 : Int32)), h5))))
  else
  (if v6 = (-9 : Int32) then
  (κ32 (x1, x2, x3, x6, x5, (x6 + (1 : Int32)), h5))
  else
  (if x5 ≤ v6 then
  (κ32 (x1, x2, x3, x6, x5, (x6 + (1 : Int32)), h5))
  else
  (κ32 (x1, x2, x3, x6, v6, (x6 + (1 : Int32)), h5)))))))
def F_Mo_tongue (x1 : Int32) (x2 : Int32) (x3 : Int32) (h : Hp) : Res Hp :=
  bI (F_Mo_areTwo x1 x2 h) fun v2 h1 =>
  if v2 = (0 : Int32) then
  (retI (-1 : Int32) h1)
  else
  (bI (F_Mo_in x3 (0 : Int32) (99 : Int32) h1) fun v4 h3 =>
  if v4 = (0 : Int32) then
  (retI (-1 : Int32) h3)
  else
  (loopC (Mo_tongue_32   ) FU (x1, x2, x3, (-9 : Int32), (1048576 : Int32), (0 : Int32), h3)))
def sF_Mo_tongue : List Value → Hp → Res Hp := fun as h => match as with | [.ref f0, .int x1, .int x2, .int x3] => (match Nat.beq f0 178 with | true => F_Mo_tongue x1 x2 x3 h | false => none) | _ => none
theorem w_Mo_tongue (x1 : Int32) (x2 : Int32) (x3 : Int32) (h : Hp) : sF_Mo_tongue [.ref 178, .int x1, .int x2, .int x3] h = F_Mo_tongue x1 x2 x3 h := rfl
def S_Mo_tongue : Sem Hp := [(98, sF_Mo_areTwo), (71, sF_Mo_in), (73, sF_Mo_ask), (117, sF_Mo_writes), (131, sF_Mo_soonOf)]
set_option maxRecDepth 100000 in
theorem e_Mo_tongue_0 (x1 : Int32) (x2 : Int32) (x3 : Int32) (h : Hp) : F_Mo_tongue x1 x2 x3 h = exec1 OI S_Mo_tongue 1 k_Mo_tongue 0 [some (.ref 178), some (.int x1), some (.int x2), some (.int x3), none, none, none, none] [] h (runF OI S_Mo_tongue [(32, [0, 1, 2, 3, 4, 5, 6], fun vs st h => match vs, st with | [.ref f0, .int x1, .int x2, .int x3, .int x4, .int x5, .int x6], [] => (match Nat.beq f0 178 with | true => loopC (Mo_tongue_32   ) FU (x1, x2, x3, x4, x5, x6, h) | false => none) | _, _ => none)] 1 k_Mo_tongue 400) :=
  (x_bI (f := sF_Mo_areTwo) rfl (w_Mo_areTwo _ _ _) fun v2 h1 => (x_ite rfl (x_bI (f := sF_Mo_in) rfl (w_Mo_in _ _ _ _) fun v4 h3 => (x_ite rfl rfl))))
set_option maxRecDepth 100000 in
theorem e_Mo_tongue_32 (κ32 : (Int32 × Int32 × Int32 × Int32 × Int32 × Int32 × Hp) → Res Hp) (x1 : Int32) (x2 : Int32) (x3 : Int32) (x4 : Int32) (x5 : Int32) (x6 : Int32)  (h : Hp) : Mo_tongue_32    (x1, x2, x3, x4, x5, x6, h) κ32 = exec1 OI S_Mo_tongue 1 k_Mo_tongue 32 [some (.ref 178), some (.int x1), some (.int x2), some (.int x3), some (.int x4), some (.int x5), some (.int x6), none] [] h (runF OI S_Mo_tongue [(32, [0, 1, 2, 3, 4, 5, 6], fun vs st h => match vs, st with | [.ref f0, .int x1, .int x2, .int x3, .int x4, .int x5, .int x6], [] => (match Nat.beq f0 178 with | true => κ32 (x1, x2, x3, x4, x5, x6, h) | false => none) | _, _ => none)] 1 k_Mo_tongue 400) :=
  (x_ite (x_ite rfl (x_bI (f := sF_Mo_ask) rfl (w_Mo_ask _ _ _) fun v2 h1 => rfl)) (x_bI (f := sF_Mo_writes) rfl (w_Mo_writes _ _ _ _) fun v4 h3 => (x_ite rfl (x_bI (f := sF_Mo_soonOf) rfl (w_Mo_soonOf _ _ _ _ _) fun v6 h5 => (x_ite (x_ite rfl (x_ite rfl rfl)) (x_ite (x_ite rfl (x_ite rfl rfl)) (x_ite rfl (x_ite rfl rfl))))))))
def k_Mo_parts : List Ent := [(0, .aload_n 0, 1, [], .null), (1, .iload_n 1, 1, [], .null), (2, .iload_n 2, 1, [], .null), (3, .iload_n 3, 1, [], .null), (4, .invokevirtual 210, 3, [132, 4, 2, 7], .null), (7, .ifCond .eq (14), 3, [21], .null), (10, .iload 4, 2, [], .null), (12, .iconst 0, 1, [], .int (0)), (13, .bipush (99), 2, [], .int (99)), (15, .invokestatic 72, 3, [71, 3, 2], .null), (18, .ifCond .ne (5), 3, [23], .null), (21, .iconst (-1), 1, [], .int (-1)), (22, .ireturn, 1, [], .null), (23, .iconst 0, 1, [], .int (0)), (24, .istore 5, 2, [], .null), (26, .iconst 0, 1, [], .int (0)), (27, .istore 6, 2, [], .null), (29, .iload 6, 2, [], .null), (31, .iconst 5, 1, [], .int (5)), (32, .if_icmp .ge (62), 3, [94], .null), (35, .iload_n 3, 1, [], .null), (36, .iload 6, 2, [], .null), (38, .invokestatic 195, 3, [74, 2, 2], .null), (41, .ifCond .eq (18), 3, [59], .null), (44, .aload_n 0, 1, [], .null), (45, .iload_n 1, 1, [], .null), (46, .iload_n 2, 1, [], .null), (47, .iconst 1, 1, [], .int (1)), (48, .iload 6, 2, [], .null), (50, .ishl, 1, [], .null), (51, .iload 4, 2, [], .null), (53, .invokevirtual 213, 3, [131, 5, 1, 7], .null), (56, .goto (4), 3, [60], .null), (59, .iconst 0, 1, [], .int (0)), (60, .istore 7, 2, [], .null), (62, .iload 7, 2, [], .null), (64, .bipush (-9), 2, [], .int (-9)), (66, .if_icmp .ne (6), 3, [72], .null), (69, .bipush (-9), 2, [], .int (-9)), (71, .ireturn, 1, [], .null), (72, .iload 7, 2, [], .null), (74, .iload 5, 2, [], .null), (76, .if_icmp .le (8), 3, [84], .null), (79, .iload 7, 2, [], .null), (81, .goto (5), 3, [86], .null), (84, .iload 5, 2, [], .null), (86, .istore 5, 2, [], .null), (88, .iinc 6 (1), 3, [], .int (1)), (91, .goto (-62), 3, [29], .null), (94, .iload 5, 2, [], .null), (96, .ireturn, 1, [], .null)]
def Mo_parts_29    : (Int32 × Int32 × Int32 × Int32 × Int32 × Int32 × Hp) → ((Int32 × Int32 × Int32 × Int32 × Int32 × Int32 × Hp) → Res Hp) → Res Hp := fun s κ29 => match s with
  | (x1, x2, x3, x4, x5, x6, h) =>
  if (5 : Int32) ≤ x6 then
  (retI x5 h)
  else
  (bI (F_Mo_has x3 x6 h) fun v2 h1 =>
  if v2 = (0 : Int32) then
  (if (0 : Int32) ≤ x5 then
  (κ29 (x1, x2, x3, x4, x5, (x6 + (1 : Int32)), h1))
  else
  (κ29 (x1, x2, x3, x4, (0 : Int32), (x6 + (1 : Int32)), h1)))
  else
  (bI (F_Mo_soonOf x1 x2 ((1 : Int32) <<< (x6 &&& 31)) x4 h1) fun v4 h3 =>
  if v4 = (-9 : Int32) then
  (retI (-9 : Int32) h3)
  else
  (if v4 ≤ x5 then
  (κ29 (x1, x2, x3, x4, x5, (x6 + (1 : Int32)), h3))
  else
  (κ29 (x1, x2, x3, x4, v4, (x6 + (1 : Int32)), h3)))))
def F_Mo_parts (x1 : Int32) (x2 : Int32) (x3 : Int32) (x4 : Int32) (h : Hp) : Res Hp :=
  bI (F_Mo_isAsk x1 x2 x3 h) fun v2 h1 =>
  if v2 = (0 : Int32) then
  (retI (-1 : Int32) h1)
  else
  (bI (F_Mo_in x4 (0 : Int32) (99 : Int32) h1) fun v4 h3 =>
  if v4 = (0 : Int32) then
  (retI (-1 : Int32) h3)
  else
  (loopC (Mo_parts_29   ) FU (x1, x2, x3, x4, (0 : Int32), (0 : Int32), h3)))
def sF_Mo_parts : List Value → Hp → Res Hp := fun as h => match as with | [.ref f0, .int x1, .int x2, .int x3, .int x4] => (match Nat.beq f0 178 with | true => F_Mo_parts x1 x2 x3 x4 h | false => none) | _ => none
theorem w_Mo_parts (x1 : Int32) (x2 : Int32) (x3 : Int32) (x4 : Int32) (h : Hp) : sF_Mo_parts [.ref 178, .int x1, .int x2, .int x3, .int x4] h = F_Mo_parts x1 x2 x3 x4 h := rfl
def S_Mo_parts : Sem Hp := [(132, sF_Mo_isAsk), (71, sF_Mo_in), (74, sF_Mo_has), (131, sF_Mo_soonOf)]
set_option maxRecDepth 100000 in
theorem e_Mo_parts_0 (x1 : Int32) (x2 : Int32) (x3 : Int32) (x4 : Int32) (h : Hp) : F_Mo_parts x1 x2 x3 x4 h = exec1 OI S_Mo_parts 1 k_Mo_parts 0 [some (.ref 178), some (.int x1), some (.int x2), some (.int x3), some (.int x4), none, none, none] [] h (runF OI S_Mo_parts [(29, [0, 1, 2, 3, 4, 5, 6], fun vs st h => match vs, st with | [.ref f0, .int x1, .int x2, .int x3, .int x4, .int x5, .int x6], [] => (match Nat.beq f0 178 with | true => loopC (Mo_parts_29   ) FU (x1, x2, x3, x4, x5, x6, h) | false => none) | _, _ => none)] 1 k_Mo_parts 400) :=
  (x_bI (f := sF_Mo_isAsk) rfl (w_Mo_isAsk _ _ _ _) fun v2 h1 => (x_ite rfl (x_bI (f := sF_Mo_in) rfl (w_Mo_in _ _ _ _) fun v4 h3 => (x_ite rfl rfl))))
set_option maxRecDepth 100000 in
theorem e_Mo_parts_29 (κ29 : (Int32 × Int32 × Int32 × Int32 × Int32 × Int32 × Hp) → Res Hp) (x1 : Int32) (x2 : Int32) (x3 : Int32) (x4 : Int32) (x5 : Int32) (x6 : Int32)  (h : Hp) : Mo_parts_29    (x1, x2, x3, x4, x5, x6, h) κ29 = exec1 OI S_Mo_parts 1 k_Mo_parts 29 [some (.ref 178), some (.int x1), some (.int x2), some (.int x3), some (.int x4), some (.int x5), some (.int x6), none] [] h (runF OI S_Mo_parts [(29, [0, 1, 2, 3, 4, 5, 6], fun vs st h => match vs, st with | [.ref f0, .int x1, .int x2, .int x3, .int x4, .int x5, .int x6], [] => (match Nat.beq f0 178 with | true => κ29 (x1, x2, x3, x4, x5, x6, h) | false => none) | _, _ => none)] 1 k_Mo_parts 400) :=
  (x_ite rfl (x_bI (f := sF_Mo_has) rfl (w_Mo_has _ _ _) fun v2 h1 => (x_ite (x_ite rfl rfl) (x_bI (f := sF_Mo_soonOf) rfl (w_Mo_soonOf _ _ _ _ _) fun v4 h3 => (x_ite rfl (x_ite rfl rfl))))))
def k_Mo_packOn : List Ent := [(0, .iconst 0, 1, [], .int (0)), (1, .istore_n 3, 1, [], .null), (2, .iload_n 1, 1, [], .null), (3, .istore 4, 2, [], .null), (5, .iload 4, 2, [], .null), (7, .sipush (128), 3, [], .int (128)), (10, .if_icmp .ge (64), 3, [74], .null), (13, .iload 4, 2, [], .null), (15, .ifCond .le (53), 3, [68], .null), (18, .aload_n 0, 1, [], .null), (19, .getfield 58, 3, [7, 29, 1], .null), (22, .iload 4, 2, [], .null), (24, .baload, 1, [], .null), (25, .ifCond .eq (43), 3, [68], .null), (28, .iload 4, 2, [], .null), (30, .iload_n 2, 1, [], .null), (31, .iconst (-1), 1, [], .int (-1)), (32, .ixor, 1, [], .null), (33, .iand, 1, [], .null), (34, .ifCond .ne (34), 3, [68], .null), (37, .iconst 1, 1, [], .int (1)), (38, .aload_n 0, 1, [], .null), (39, .iload 4, 2, [], .null), (41, .iconst 1, 1, [], .int (1)), (42, .iadd, 1, [], .null), (43, .iload_n 2, 1, [], .null), (44, .iload 4, 2, [], .null), (46, .iconst (-1), 1, [], .int (-1)), (47, .ixor, 1, [], .null), (48, .iand, 1, [], .null), (49, .invokevirtual 244, 3, [141, 3, 1, 7], .null), (52, .iadd, 1, [], .null), (53, .istore 5, 2, [], .null), (55, .iload 5, 2, [], .null), (57, .iload_n 3, 1, [], .null), (58, .if_icmp .le (8), 3, [66], .null), (61, .iload 5, 2, [], .null), (63, .goto (4), 3, [67], .null), (66, .iload_n 3, 1, [], .null), (67, .istore_n 3, 1, [], .null), (68, .iinc 4 (1), 3, [], .int (1)), (71, .goto (-66), 3, [5], .null), (74, .iload_n 3, 1, [], .null), (75, .ireturn, 1, [], .null)]
def Mo_packOn_5 (self : Int32 → Int32 → Hp → Res Hp)     : (Int32 × Int32 × Int32 × Hp) → ((Int32 × Int32 × Int32 × Hp) → Res Hp) → Res Hp := fun s κ5 => match s with
  | (x2, x3, x4, h) =>
  if (128 : Int32) ≤ x4 then
  (retI x3 h)
  else
  (if x4 ≤ (0 : Int32) then
  (κ5 (x2, x3, (x4 + (1 : Int32)), h))
  else
  (bif okA 195 101 x4 then
  if (hg h 195 x4.toNatClampNeg) = (0 : Int32) then
  (κ5 (x2, x3, (x4 + (1 : Int32)), h))
  else
  (if (x4 &&& (x2 ^^^ (-1 : Int32))) = (0 : Int32) then
  (bI (self (x4 + (1 : Int32)) (x2 &&& (x4 ^^^ (-1 : Int32))) h) fun v2 h1 =>
  if ((1 : Int32) + v2) ≤ x3 then
  (κ5 (x2, x3, (x4 + (1 : Int32)), h1))
  else
  (κ5 (x2, ((1 : Int32) + v2), (x4 + (1 : Int32)), h1)))
  else
  (κ5 (x2, x3, (x4 + (1 : Int32)), h)))
  else none))
def G_Mo_packOn (self : Int32 → Int32 → Hp → Res Hp) (x1 : Int32) (x2 : Int32) (h : Hp) : Res Hp :=
  loopC (Mo_packOn_5 self   ) FU (x2, (0 : Int32), x1, h)
def F_Mo_packOn (d : Nat) : Int32 → Int32 → Hp → Res Hp := Nat.rec (fun _ _ _ => none) (fun _ ih => G_Mo_packOn ih) d
def sF_Mo_packOn (d : Nat) : List Value → Hp → Res Hp := fun as h => match as with | [.ref f0, .int x1, .int x2] => (match Nat.beq f0 178 with | true => F_Mo_packOn d x1 x2 h | false => none) | _ => none
theorem w_Mo_packOn (d : Nat) (x1 : Int32) (x2 : Int32) (h : Hp) : sF_Mo_packOn d [.ref 178, .int x1, .int x2] h = F_Mo_packOn d x1 x2 h := rfl
def S_Mo_packOn (self : Int32 → Int32 → Hp → Res Hp) : Sem Hp := [(141, fun as h => match as with | [.ref f0, .int x1, .int x2] => (match Nat.beq f0 178 with | true => self x1 x2 h | false => none) | _ => none)]
set_option maxRecDepth 100000 in
theorem e_Mo_packOn_0 (self : Int32 → Int32 → Hp → Res Hp) (x1 : Int32) (x2 : Int32) (h : Hp) : G_Mo_packOn self x1 x2 h = exec1 OI (S_Mo_packOn self) 1 k_Mo_packOn 0 [some (.ref 178), some (.int x1), some (.int x2), none, none, none] [] h (runF OI (S_Mo_packOn self) [(5, [0, 2, 3, 4], fun vs st h => match vs, st with | [.ref f0, .int x2, .int x3, .int x4], [] => (match Nat.beq f0 178 with | true => loopC (Mo_packOn_5 self   ) FU (x2, x3, x4, h) | false => none) | _, _ => none)] 1 k_Mo_packOn 400) :=
  rfl
set_option maxRecDepth 100000 in
theorem e_Mo_packOn_5 (self : Int32 → Int32 → Hp → Res Hp) (κ5 : (Int32 × Int32 × Int32 × Hp) → Res Hp) (x2 : Int32) (x3 : Int32) (x4 : Int32)  (h : Hp) : Mo_packOn_5 self    (x2, x3, x4, h) κ5 = exec1 OI (S_Mo_packOn self) 1 k_Mo_packOn 5 [some (.ref 178), none, some (.int x2), some (.int x3), some (.int x4), none] [] h (runF OI (S_Mo_packOn self) [(5, [0, 2, 3, 4], fun vs st h => match vs, st with | [.ref f0, .int x2, .int x3, .int x4], [] => (match Nat.beq f0 178 with | true => κ5 (x2, x3, x4, h) | false => none) | _, _ => none)] 1 k_Mo_packOn 400) :=
  (x_ite rfl (x_ite rfl (x_bif (x_ite rfl (x_ite (x_bI rfl rfl fun v2 h1 => (x_ite rfl rfl)) rfl)))))
def k_Mo_apart : List Ent := [(0, .aload_n 0, 1, [], .null), (1, .iload_n 1, 1, [], .null), (2, .iload_n 2, 1, [], .null), (3, .iload_n 3, 1, [], .null), (4, .invokevirtual 210, 3, [132, 4, 2, 7], .null), (7, .ifCond .ne (5), 3, [12], .null), (10, .iconst (-1), 1, [], .int (-1)), (11, .ireturn, 1, [], .null), (12, .aload_n 0, 1, [], .null), (13, .iload_n 1, 1, [], .null), (14, .iload_n 2, 1, [], .null), (15, .iload_n 3, 1, [], .null), (16, .iconst 0, 1, [], .int (0)), (17, .invokevirtual 240, 3, [137, 5, 0, 7], .null), (20, .aload_n 0, 1, [], .null), (21, .getfield 58, 3, [7, 29, 1], .null), (24, .iconst 0, 1, [], .int (0)), (25, .baload, 1, [], .null), (26, .ifCond .eq (7), 3, [33], .null), (29, .iconst 1, 1, [], .int (1)), (30, .goto (4), 3, [34], .null), (33, .iconst 0, 1, [], .int (0)), (34, .aload_n 0, 1, [], .null), (35, .iconst 1, 1, [], .int (1)), (36, .bipush (127), 2, [], .int (127)), (38, .invokevirtual 244, 3, [141, 3, 1, 7], .null), (41, .iadd, 1, [], .null), (42, .ireturn, 1, [], .null)]
def F_Mo_apart (x1 : Int32) (x2 : Int32) (x3 : Int32) (h : Hp) : Res Hp :=
  bI (F_Mo_isAsk x1 x2 x3 h) fun v2 h1 =>
  if v2 = (0 : Int32) then
  (retI (-1 : Int32) h1)
  else
  (bV (F_Mo_setWays x1 x2 x3 (0 : Int32) h1) fun h3 =>
  if (hg h3 195 0) = (0 : Int32) then
  (bI (F_Mo_packOn 9 (1 : Int32) (127 : Int32) h3) fun v5 h4 =>
  retI ((0 : Int32) + v5) h4)
  else
  (bI (F_Mo_packOn 9 (1 : Int32) (127 : Int32) h3) fun v7 h6 =>
  retI ((1 : Int32) + v7) h6))
def sF_Mo_apart : List Value → Hp → Res Hp := fun as h => match as with | [.ref f0, .int x1, .int x2, .int x3] => (match Nat.beq f0 178 with | true => F_Mo_apart x1 x2 x3 h | false => none) | _ => none
theorem w_Mo_apart (x1 : Int32) (x2 : Int32) (x3 : Int32) (h : Hp) : sF_Mo_apart [.ref 178, .int x1, .int x2, .int x3] h = F_Mo_apart x1 x2 x3 h := rfl
def S_Mo_apart : Sem Hp := [(132, sF_Mo_isAsk), (137, sF_Mo_setWays), (141, sF_Mo_packOn 9)]
set_option maxRecDepth 100000 in
theorem e_Mo_apart_0 (x1 : Int32) (x2 : Int32) (x3 : Int32) (h : Hp) : F_Mo_apart x1 x2 x3 h = exec1 OI S_Mo_apart 1 k_Mo_apart 0 [some (.ref 178), some (.int x1), some (.int x2), some (.int x3)] [] h (runF OI S_Mo_apart [] 1 k_Mo_apart 400) :=
  (x_bI (f := sF_Mo_isAsk) rfl (w_Mo_isAsk _ _ _ _) fun v2 h1 => (x_ite rfl (x_bV (f := sF_Mo_setWays) rfl (w_Mo_setWays _ _ _ _ _) fun h3 => (x_ite (x_bI (f := sF_Mo_packOn 9) rfl (w_Mo_packOn 9 _ _ _) fun v5 h4 => rfl) (x_bI (f := sF_Mo_packOn 9) rfl (w_Mo_packOn 9 _ _ _) fun v7 h6 => rfl)))))
def k_Mo_needs : List Ent := [(0, .aload_n 0, 1, [], .null), (1, .iload_n 1, 1, [], .null), (2, .iload_n 2, 1, [], .null), (3, .iload_n 3, 1, [], .null), (4, .invokevirtual 210, 3, [132, 4, 2, 7], .null), (7, .ifCond .ne (5), 3, [12], .null), (10, .iconst (-1), 1, [], .int (-1)), (11, .ireturn, 1, [], .null), (12, .aload_n 0, 1, [], .null), (13, .iload_n 1, 1, [], .null), (14, .iload_n 2, 1, [], .null), (15, .iload_n 3, 1, [], .null), (16, .iconst 0, 1, [], .int (0)), (17, .invokevirtual 240, 3, [137, 5, 0, 7], .null), (20, .aload_n 0, 1, [], .null), (21, .getfield 217, 3, [7, 27, 0], .null), (24, .ifCond .ne (7), 3, [31], .null), (27, .iconst 0, 1, [], .int (0)), (28, .goto (7), 3, [35], .null), (31, .aload_n 0, 1, [], .null), (32, .getfield 220, 3, [7, 28, 0], .null), (35, .ireturn, 1, [], .null)]
def F_Mo_needs (x1 : Int32) (x2 : Int32) (x3 : Int32) (h : Hp) : Res Hp :=
  bI (F_Mo_isAsk x1 x2 x3 h) fun v2 h1 =>
  if v2 = (0 : Int32) then
  (retI (-1 : Int32) h1)
  else
  (bV (F_Mo_setWays x1 x2 x3 (0 : Int32) h1) fun h3 =>
  if (hg h3 178 27) = (0 : Int32) then
  (retI (0 : Int32) h3)
  else
  (retI (hg h3 178 28) h3))
def sF_Mo_needs : List Value → Hp → Res Hp := fun as h => match as with | [.ref f0, .int x1, .int x2, .int x3] => (match Nat.beq f0 178 with | true => F_Mo_needs x1 x2 x3 h | false => none) | _ => none
theorem w_Mo_needs (x1 : Int32) (x2 : Int32) (x3 : Int32) (h : Hp) : sF_Mo_needs [.ref 178, .int x1, .int x2, .int x3] h = F_Mo_needs x1 x2 x3 h := rfl
def S_Mo_needs : Sem Hp := [(132, sF_Mo_isAsk), (137, sF_Mo_setWays)]
set_option maxRecDepth 100000 in
theorem e_Mo_needs_0 (x1 : Int32) (x2 : Int32) (x3 : Int32) (h : Hp) : F_Mo_needs x1 x2 x3 h = exec1 OI S_Mo_needs 1 k_Mo_needs 0 [some (.ref 178), some (.int x1), some (.int x2), some (.int x3)] [] h (runF OI S_Mo_needs [] 1 k_Mo_needs 400) :=
  (x_bI (f := sF_Mo_isAsk) rfl (w_Mo_isAsk _ _ _ _) fun v2 h1 => (x_ite rfl (x_bV (f := sF_Mo_setWays) rfl (w_Mo_setWays _ _ _ _ _) fun h3 => (x_ite rfl rfl))))
def k_Mo_forget : List Ent := [(0, .aload_n 0, 1, [], .null), (1, .iload_n 1, 1, [], .null), (2, .iload_n 2, 1, [], .null), (3, .iload_n 3, 1, [], .null), (4, .invokevirtual 210, 3, [132, 4, 2, 7], .null), (7, .ifCond .ne (5), 3, [12], .null), (10, .iconst (-1), 1, [], .int (-1)), (11, .ireturn, 1, [], .null), (12, .aload_n 0, 1, [], .null), (13, .iload_n 1, 1, [], .null), (14, .iload_n 2, 1, [], .null), (15, .iload_n 3, 1, [], .null), (16, .iconst 1, 1, [], .int (1)), (17, .invokevirtual 240, 3, [137, 5, 0, 7], .null), (20, .aload_n 0, 1, [], .null), (21, .getfield 217, 3, [7, 27, 0], .null), (24, .ifCond .ne (6), 3, [30], .null), (27, .bipush (-9), 2, [], .int (-9)), (29, .ireturn, 1, [], .null), (30, .iconst 0, 1, [], .int (0)), (31, .istore 4, 2, [], .null), (33, .iconst 1, 1, [], .int (1)), (34, .istore 5, 2, [], .null), (36, .iload 5, 2, [], .null), (38, .aload_n 0, 1, [], .null), (39, .getfield 227, 3, [7, 25, 0], .null), (42, .iconst 1, 1, [], .int (1)), (43, .isub, 1, [], .null), (44, .if_icmp .ge (42), 3, [86], .null), (47, .iload 4, 2, [], .null), (49, .aload_n 0, 1, [], .null), (50, .aload_n 0, 1, [], .null), (51, .getfield 55, 3, [7, 24, 1], .null), (54, .iload 5, 2, [], .null), (56, .iaload, 1, [], .null), (57, .iload_n 3, 1, [], .null), (58, .invokevirtual 233, 3, [134, 3, 1, 7], .null), (61, .ifCond .le (15), 3, [76], .null), (64, .iconst 1, 1, [], .int (1)), (65, .aload_n 0, 1, [], .null), (66, .getfield 55, 3, [7, 24, 1], .null), (69, .iload 5, 2, [], .null), (71, .iaload, 1, [], .null), (72, .ishl, 1, [], .null), (73, .goto (4), 3, [77], .null), (76, .iconst 0, 1, [], .int (0)), (77, .ior, 1, [], .null), (78, .istore 4, 2, [], .null), (80, .iinc 5 (1), 3, [], .int (1)), (83, .goto (-47), 3, [36], .null), (86, .aload_n 0, 1, [], .null), (87, .iload 4, 2, [], .null), (89, .aload_n 0, 1, [], .null), (90, .getfield 223, 3, [7, 26, 0], .null), (93, .invokevirtual 98, 3, [73, 3, 1, 7], .null), (96, .ireturn, 1, [], .null)]
def Mo_forget_36    : (Int32 × Int32 × Int32 × Hp) → ((Int32 × Int32 × Int32 × Hp) → Res Hp) → Res Hp := fun s κ36 => match s with
  | (x3, x4, x5, h) =>
  if ((hg h 178 25) - (1 : Int32)) ≤ x5 then
  (bI (F_Mo_ask x4 (hg h 178 26) h) fun v2 h1 =>
  retI v2 h1)
  else
  (bif okA 194 100 x5 then
  bI (F_Mo_costOf (hg h 194 x5.toNatClampNeg) x3 h) fun v4 h3 =>
  if v4 ≤ (0 : Int32) then
  (κ36 (x3, (x4 ||| (0 : Int32)), (x5 + (1 : Int32)), h3))
  else
  (bif okA 194 100 x5 then
  κ36 (x3, (x4 ||| ((1 : Int32) <<< ((hg h3 194 x5.toNatClampNeg) &&& 31))), (x5 + (1 : Int32)), h3)
  else none)
  else none)
def F_Mo_forget (x1 : Int32) (x2 : Int32) (x3 : Int32) (h : Hp) : Res Hp :=
  bI (F_Mo_isAsk x1 x2 x3 h) fun v2 h1 =>
  if v2 = (0 : Int32) then
  (retI (-1 : Int32) h1)
  else
  (bV (F_Mo_setWays x1 x2 x3 (1 : Int32) h1) fun h3 =>
  if (hg h3 178 27) = (0 : Int32) then
  (retI (-9 : Int32) h3)
  else
  (loopC (Mo_forget_36   ) FU (x3, (0 : Int32), (1 : Int32), h3)))
def sF_Mo_forget : List Value → Hp → Res Hp := fun as h => match as with | [.ref f0, .int x1, .int x2, .int x3] => (match Nat.beq f0 178 with | true => F_Mo_forget x1 x2 x3 h | false => none) | _ => none
theorem w_Mo_forget (x1 : Int32) (x2 : Int32) (x3 : Int32) (h : Hp) : sF_Mo_forget [.ref 178, .int x1, .int x2, .int x3] h = F_Mo_forget x1 x2 x3 h := rfl
def S_Mo_forget : Sem Hp := [(132, sF_Mo_isAsk), (137, sF_Mo_setWays), (73, sF_Mo_ask), (134, sF_Mo_costOf)]
set_option maxRecDepth 100000 in
theorem e_Mo_forget_0 (x1 : Int32) (x2 : Int32) (x3 : Int32) (h : Hp) : F_Mo_forget x1 x2 x3 h = exec1 OI S_Mo_forget 1 k_Mo_forget 0 [some (.ref 178), some (.int x1), some (.int x2), some (.int x3), none, none] [] h (runF OI S_Mo_forget [(36, [0, 3, 4, 5], fun vs st h => match vs, st with | [.ref f0, .int x3, .int x4, .int x5], [] => (match Nat.beq f0 178 with | true => loopC (Mo_forget_36   ) FU (x3, x4, x5, h) | false => none) | _, _ => none)] 1 k_Mo_forget 400) :=
  (x_bI (f := sF_Mo_isAsk) rfl (w_Mo_isAsk _ _ _ _) fun v2 h1 => (x_ite rfl (x_bV (f := sF_Mo_setWays) rfl (w_Mo_setWays _ _ _ _ _) fun h3 => (x_ite rfl rfl))))
set_option maxRecDepth 100000 in
theorem e_Mo_forget_36 (κ36 : (Int32 × Int32 × Int32 × Hp) → Res Hp) (x3 : Int32) (x4 : Int32) (x5 : Int32)  (h : Hp) : Mo_forget_36    (x3, x4, x5, h) κ36 = exec1 OI S_Mo_forget 1 k_Mo_forget 36 [some (.ref 178), none, none, some (.int x3), some (.int x4), some (.int x5)] [] h (runF OI S_Mo_forget [(36, [0, 3, 4, 5], fun vs st h => match vs, st with | [.ref f0, .int x3, .int x4, .int x5], [] => (match Nat.beq f0 178 with | true => κ36 (x3, x4, x5, h) | false => none) | _, _ => none)] 1 k_Mo_forget 400) :=
  (x_ite (x_bI (f := sF_Mo_ask) rfl (w_Mo_ask _ _ _) fun v2 h1 => rfl) (x_bif (x_bI (f := sF_Mo_costOf) rfl (w_Mo_costOf _ _ _) fun v4 h3 => (x_ite rfl (x_bif rfl)))))
def k_Mo_isWayIn : List Ent := [(0, .aload_n 0, 1, [], .null), (1, .iload_n 1, 1, [], .null), (2, .iload_n 2, 1, [], .null), (3, .iconst 1, 1, [], .int (1)), (4, .iload_n 3, 1, [], .null), (5, .ishl, 1, [], .null), (6, .invokevirtual 186, 3, [117, 4, 2, 7], .null), (9, .ifCond .ne (5), 3, [14], .null), (12, .iconst 0, 1, [], .int (0)), (13, .ireturn, 1, [], .null), (14, .aload_n 0, 1, [], .null), (15, .iload_n 1, 1, [], .null), (16, .iload_n 2, 1, [], .null), (17, .iconst 1, 1, [], .int (1)), (18, .iload_n 3, 1, [], .null), (19, .ishl, 1, [], .null), (20, .iconst 0, 1, [], .int (0)), (21, .invokevirtual 240, 3, [137, 5, 0, 7], .null), (24, .aload_n 0, 1, [], .null), (25, .getfield 217, 3, [7, 27, 0], .null), (28, .ifCond .le (7), 3, [35], .null), (31, .iconst 1, 1, [], .int (1)), (32, .goto (4), 3, [36], .null), (35, .iconst 0, 1, [], .int (0)), (36, .ireturn, 1, [], .null)]
def F_Mo_isWayIn (x1 : Int32) (x2 : Int32) (x3 : Int32) (h : Hp) : Res Hp :=
  bI (F_Mo_writes x1 x2 ((1 : Int32) <<< (x3 &&& 31)) h) fun v2 h1 =>
  if v2 = (0 : Int32) then
  (retZ (0 : Int32) h1)
  else
  (bV (F_Mo_setWays x1 x2 ((1 : Int32) <<< (x3 &&& 31)) (0 : Int32) h1) fun h3 =>
  if (hg h3 178 27) ≤ (0 : Int32) then
  (retZ (0 : Int32) h3)
  else
  (retZ (1 : Int32) h3))
def sF_Mo_isWayIn : List Value → Hp → Res Hp := fun as h => match as with | [.ref f0, .int x1, .int x2, .int x3] => (match Nat.beq f0 178 with | true => F_Mo_isWayIn x1 x2 x3 h | false => none) | _ => none
theorem w_Mo_isWayIn (x1 : Int32) (x2 : Int32) (x3 : Int32) (h : Hp) : sF_Mo_isWayIn [.ref 178, .int x1, .int x2, .int x3] h = F_Mo_isWayIn x1 x2 x3 h := rfl
def S_Mo_isWayIn : Sem Hp := [(117, sF_Mo_writes), (137, sF_Mo_setWays)]
set_option maxRecDepth 100000 in
theorem e_Mo_isWayIn_0 (x1 : Int32) (x2 : Int32) (x3 : Int32) (h : Hp) : F_Mo_isWayIn x1 x2 x3 h = exec1 OI S_Mo_isWayIn 2 k_Mo_isWayIn 0 [some (.ref 178), some (.int x1), some (.int x2), some (.int x3)] [] h (runF OI S_Mo_isWayIn [] 2 k_Mo_isWayIn 400) :=
  (x_bI (f := sF_Mo_writes) rfl (w_Mo_writes _ _ _ _) fun v2 h1 => (x_ite rfl (x_bV (f := sF_Mo_setWays) rfl (w_Mo_setWays _ _ _ _ _) fun h3 => (x_ite rfl rfl))))
def k_Mo_reach : List Ent := [(0, .aload_n 0, 1, [], .null), (1, .iload_n 1, 1, [], .null), (2, .invokevirtual 143, 3, [97, 2, 2, 7], .null), (5, .ifCond .eq (10), 3, [15], .null), (8, .iload_n 2, 1, [], .null), (9, .invokestatic 174, 3, [99, 1, 2], .null), (12, .ifCond .ne (5), 3, [17], .null), (15, .iconst (-1), 1, [], .int (-1)), (16, .ireturn, 1, [], .null), (17, .iconst 0, 1, [], .int (0)), (18, .istore_n 3, 1, [], .null), (19, .iconst 0, 1, [], .int (0)), (20, .istore 4, 2, [], .null), (22, .iload 4, 2, [], .null), (24, .aload_n 0, 1, [], .null), (25, .getfield 131, 3, [7, 8, 0], .null), (28, .if_icmp .ge (37), 3, [65], .null), (31, .iload_n 3, 1, [], .null), (32, .iload 4, 2, [], .null), (34, .iload_n 1, 1, [], .null), (35, .if_icmp .eq (21), 3, [56], .null), (38, .aload_n 0, 1, [], .null), (39, .iload_n 1, 1, [], .null), (40, .iload 4, 2, [], .null), (42, .iload_n 2, 1, [], .null), (43, .invokevirtual 247, 3, [145, 4, 2, 7], .null), (46, .ifCond .eq (10), 3, [56], .null), (49, .iconst 1, 1, [], .int (1)), (50, .iload 4, 2, [], .null), (52, .ishl, 1, [], .null), (53, .goto (4), 3, [57], .null), (56, .iconst 0, 1, [], .int (0)), (57, .ior, 1, [], .null), (58, .istore_n 3, 1, [], .null), (59, .iinc 4 (1), 3, [], .int (1)), (62, .goto (-40), 3, [22], .null), (65, .iload_n 3, 1, [], .null), (66, .ireturn, 1, [], .null)]
def Mo_reach_22    : (Int32 × Int32 × Int32 × Int32 × Hp) → ((Int32 × Int32 × Int32 × Int32 × Hp) → Res Hp) → Res Hp := fun s κ22 => match s with
  | (x1, x2, x3, x4, h) =>
  if (hg h 178 8) ≤ x4 then
  (retI x3 h)
  else
  (if x4 = x1 then
  (κ22 (x1, x2, (x3 ||| (0 : Int32)), (x4 + (1 : Int32)), h))
  else
  (bI (F_Mo_isWayIn x1 x4 x2 h) fun v2 h1 =>
  if v2 = (0 : Int32) then
  (κ22 (x1, x2, (x3 ||| (0 : Int32)), (x4 + (1 : Int32)), h1))
  else
  (κ22 (x1, x2, (x3 ||| ((1 : Int32) <<< (x4 &&& 31))), (x4 + (1 : Int32)), h1))))
def F_Mo_reach (x1 : Int32) (x2 : Int32) (h : Hp) : Res Hp :=
  bI (F_Mo_isOne x1 h) fun v2 h1 =>
  if v2 = (0 : Int32) then
  (retI (-1 : Int32) h1)
  else
  (bI (F_Mo_isTongue x2 h1) fun v4 h3 =>
  if v4 = (0 : Int32) then
  (retI (-1 : Int32) h3)
  else
  (loopC (Mo_reach_22   ) FU (x1, x2, (0 : Int32), (0 : Int32), h3)))
def sF_Mo_reach : List Value → Hp → Res Hp := fun as h => match as with | [.ref f0, .int x1, .int x2] => (match Nat.beq f0 178 with | true => F_Mo_reach x1 x2 h | false => none) | _ => none
theorem w_Mo_reach (x1 : Int32) (x2 : Int32) (h : Hp) : sF_Mo_reach [.ref 178, .int x1, .int x2] h = F_Mo_reach x1 x2 h := rfl
def S_Mo_reach : Sem Hp := [(97, sF_Mo_isOne), (99, sF_Mo_isTongue), (145, sF_Mo_isWayIn)]
set_option maxRecDepth 100000 in
theorem e_Mo_reach_0 (x1 : Int32) (x2 : Int32) (h : Hp) : F_Mo_reach x1 x2 h = exec1 OI S_Mo_reach 1 k_Mo_reach 0 [some (.ref 178), some (.int x1), some (.int x2), none, none] [] h (runF OI S_Mo_reach [(22, [0, 1, 2, 3, 4], fun vs st h => match vs, st with | [.ref f0, .int x1, .int x2, .int x3, .int x4], [] => (match Nat.beq f0 178 with | true => loopC (Mo_reach_22   ) FU (x1, x2, x3, x4, h) | false => none) | _, _ => none)] 1 k_Mo_reach 400) :=
  (x_bI (f := sF_Mo_isOne) rfl (w_Mo_isOne _ _) fun v2 h1 => (x_ite rfl (x_bI (f := sF_Mo_isTongue) rfl (w_Mo_isTongue _ _) fun v4 h3 => (x_ite rfl rfl))))
set_option maxRecDepth 100000 in
theorem e_Mo_reach_22 (κ22 : (Int32 × Int32 × Int32 × Int32 × Hp) → Res Hp) (x1 : Int32) (x2 : Int32) (x3 : Int32) (x4 : Int32)  (h : Hp) : Mo_reach_22    (x1, x2, x3, x4, h) κ22 = exec1 OI S_Mo_reach 1 k_Mo_reach 22 [some (.ref 178), some (.int x1), some (.int x2), some (.int x3), some (.int x4)] [] h (runF OI S_Mo_reach [(22, [0, 1, 2, 3, 4], fun vs st h => match vs, st with | [.ref f0, .int x1, .int x2, .int x3, .int x4], [] => (match Nat.beq f0 178 with | true => κ22 (x1, x2, x3, x4, h) | false => none) | _, _ => none)] 1 k_Mo_reach 400) :=
  (x_ite rfl (x_ite rfl (x_bI (f := sF_Mo_isWayIn) rfl (w_Mo_isWayIn _ _ _ _) fun v2 h1 => (x_ite rfl rfl))))
def k_Mo_tonguesOf : List Ent := [(0, .iconst 0, 1, [], .int (0)), (1, .istore_n 3, 1, [], .null), (2, .iconst 0, 1, [], .int (0)), (3, .istore 4, 2, [], .null), (5, .iload 4, 2, [], .null), (7, .iconst 5, 1, [], .int (5)), (8, .if_icmp .ge (31), 3, [39], .null), (11, .iload_n 3, 1, [], .null), (12, .aload_n 0, 1, [], .null), (13, .iload_n 1, 1, [], .null), (14, .iload_n 2, 1, [], .null), (15, .iload 4, 2, [], .null), (17, .invokevirtual 247, 3, [145, 4, 2, 7], .null), (20, .ifCond .eq (10), 3, [30], .null), (23, .iconst 1, 1, [], .int (1)), (24, .iload 4, 2, [], .null), (26, .ishl, 1, [], .null), (27, .goto (4), 3, [31], .null), (30, .iconst 0, 1, [], .int (0)), (31, .ior, 1, [], .null), (32, .istore_n 3, 1, [], .null), (33, .iinc 4 (1), 3, [], .int (1)), (36, .goto (-31), 3, [5], .null), (39, .iload_n 3, 1, [], .null), (40, .ireturn, 1, [], .null)]
def Mo_tonguesOf_5    : (Int32 × Int32 × Int32 × Int32 × Hp) → ((Int32 × Int32 × Int32 × Int32 × Hp) → Res Hp) → Res Hp := fun s κ5 => match s with
  | (x1, x2, x3, x4, h) =>
  if (5 : Int32) ≤ x4 then
  (retI x3 h)
  else
  (bI (F_Mo_isWayIn x1 x2 x4 h) fun v2 h1 =>
  if v2 = (0 : Int32) then
  (κ5 (x1, x2, (x3 ||| (0 : Int32)), (x4 + (1 : Int32)), h1))
  else
  (κ5 (x1, x2, (x3 ||| ((1 : Int32) <<< (x4 &&& 31))), (x4 + (1 : Int32)), h1)))
def F_Mo_tonguesOf (x1 : Int32) (x2 : Int32) (h : Hp) : Res Hp :=
  loopC (Mo_tonguesOf_5   ) FU (x1, x2, (0 : Int32), (0 : Int32), h)
def sF_Mo_tonguesOf : List Value → Hp → Res Hp := fun as h => match as with | [.ref f0, .int x1, .int x2] => (match Nat.beq f0 178 with | true => F_Mo_tonguesOf x1 x2 h | false => none) | _ => none
theorem w_Mo_tonguesOf (x1 : Int32) (x2 : Int32) (h : Hp) : sF_Mo_tonguesOf [.ref 178, .int x1, .int x2] h = F_Mo_tonguesOf x1 x2 h := rfl
def S_Mo_tonguesOf : Sem Hp := [(145, sF_Mo_isWayIn)]
set_option maxRecDepth 100000 in
theorem e_Mo_tonguesOf_0 (x1 : Int32) (x2 : Int32) (h : Hp) : F_Mo_tonguesOf x1 x2 h = exec1 OI S_Mo_tonguesOf 1 k_Mo_tonguesOf 0 [some (.ref 178), some (.int x1), some (.int x2), none, none] [] h (runF OI S_Mo_tonguesOf [(5, [0, 1, 2, 3, 4], fun vs st h => match vs, st with | [.ref f0, .int x1, .int x2, .int x3, .int x4], [] => (match Nat.beq f0 178 with | true => loopC (Mo_tonguesOf_5   ) FU (x1, x2, x3, x4, h) | false => none) | _, _ => none)] 1 k_Mo_tonguesOf 400) :=
  rfl
set_option maxRecDepth 100000 in
theorem e_Mo_tonguesOf_5 (κ5 : (Int32 × Int32 × Int32 × Int32 × Hp) → Res Hp) (x1 : Int32) (x2 : Int32) (x3 : Int32) (x4 : Int32)  (h : Hp) : Mo_tonguesOf_5    (x1, x2, x3, x4, h) κ5 = exec1 OI S_Mo_tonguesOf 1 k_Mo_tonguesOf 5 [some (.ref 178), some (.int x1), some (.int x2), some (.int x3), some (.int x4)] [] h (runF OI S_Mo_tonguesOf [(5, [0, 1, 2, 3, 4], fun vs st h => match vs, st with | [.ref f0, .int x1, .int x2, .int x3, .int x4], [] => (match Nat.beq f0 178 with | true => κ5 (x1, x2, x3, x4, h) | false => none) | _, _ => none)] 1 k_Mo_tonguesOf 400) :=
  (x_ite rfl (x_bI (f := sF_Mo_isWayIn) rfl (w_Mo_isWayIn _ _ _ _) fun v2 h1 => (x_ite rfl rfl)))
end
