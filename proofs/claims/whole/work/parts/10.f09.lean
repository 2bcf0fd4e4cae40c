noncomputable section
def k_Mo_mixLand : List Ent := [(0, .iconst 0, 1, [], .int (0)), (1, .istore_n 1, 1, [], .null), (2, .iload_n 1, 1, [], .null), (3, .aload_n 0, 1, [], .null), (4, .getfield 131, 3, [7, 8, 0], .null), (7, .if_icmp .ge (32), 3, [39], .null), (10, .iconst 0, 1, [], .int (0)), (11, .istore_n 2, 1, [], .null), (12, .iload_n 2, 1, [], .null), (13, .iconst 3, 1, [], .int (3)), (14, .if_icmp .gt (19), 3, [33], .null), (17, .aload_n 0, 1, [], .null), (18, .aload_n 0, 1, [], .null), (19, .iload_n 1, 1, [], .null), (20, .iload_n 2, 1, [], .null), (21, .invokevirtual 162, 3, [108, 3, 1, 7], .null), (24, .invokevirtual 286, 3, [169, 2, 0, 7], .null), (27, .iinc 2 (1), 3, [], .int (1)), (30, .goto (-18), 3, [12], .null), (33, .iinc 1 (1), 3, [], .int (1)), (36, .goto (-34), 3, [2], .null), (39, .iconst 0, 1, [], .int (0)), (40, .istore_n 1, 1, [], .null), (41, .iload_n 1, 1, [], .null), (42, .iconst 3, 1, [], .int (3)), (43, .aload_n 0, 1, [], .null), (44, .getfield 134, 3, [7, 11, 0], .null), (47, .imul, 1, [], .null), (48, .if_icmp .ge (19), 3, [67], .null), (51, .aload_n 0, 1, [], .null), (52, .aload_n 0, 1, [], .null), (53, .getfield 34, 3, [7, 12, 1], .null), (56, .iload_n 1, 1, [], .null), (57, .iaload, 1, [], .null), (58, .invokevirtual 286, 3, [169, 2, 0, 7], .null), (61, .iinc 1 (1), 3, [], .int (1)), (64, .goto (-23), 3, [41], .null), (67, .iconst 0, 1, [], .int (0)), (68, .istore_n 1, 1, [], .null), (69, .iload_n 1, 1, [], .null), (70, .aload_n 0, 1, [], .null), (71, .getfield 140, 3, [7, 14, 0], .null), (74, .if_icmp .ge (59), 3, [133], .null), (77, .aload_n 0, 1, [], .null), (78, .aload_n 0, 1, [], .null), (79, .iload_n 1, 1, [], .null), (80, .iconst 0, 1, [], .int (0)), (81, .invokevirtual 153, 3, [105, 3, 1, 7], .null), (84, .invokevirtual 286, 3, [169, 2, 0, 7], .null), (87, .aload_n 0, 1, [], .null), (88, .aload_n 0, 1, [], .null), (89, .iload_n 1, 1, [], .null), (90, .iconst 1, 1, [], .int (1)), (91, .invokevirtual 153, 3, [105, 3, 1, 7], .null), (94, .invokevirtual 286, 3, [169, 2, 0, 7], .null), (97, .iconst 0, 1, [], .int (0)), (98, .istore_n 2, 1, [], .null), (99, .iload_n 2, 1, [], .null), (100, .aload_n 0, 1, [], .null), (101, .iload_n 1, 1, [], .null), (102, .iconst 2, 1, [], .int (2)), (103, .invokevirtual 153, 3, [105, 3, 1, 7], .null), (106, .if_icmp .ge (21), 3, [127], .null), (109, .aload_n 0, 1, [], .null), (110, .aload_n 0, 1, [], .null), (111, .iload_n 1, 1, [], .null), (112, .iconst 3, 1, [], .int (3)), (113, .iload_n 2, 1, [], .null), (114, .iadd, 1, [], .null), (115, .invokevirtual 153, 3, [105, 3, 1, 7], .null), (118, .invokevirtual 286, 3, [169, 2, 0, 7], .null), (121, .iinc 2 (1), 3, [], .int (1)), (124, .goto (-25), 3, [99], .null), (127, .iinc 1 (1), 3, [], .int (1)), (130, .goto (-61), 3, [69], .null), (133, .iconst 0, 1, [], .int (0)), (134, .istore_n 1, 1, [], .null), (135, .iload_n 1, 1, [], .null), (136, .iconst 3, 1, [], .int (3)), (137, .if_icmp .ge (42), 3, [179], .null), (140, .aload_n 0, 1, [], .null), (141, .aload_n 0, 1, [], .null), (142, .getfield 49, 3, [7, 22, 1], .null), (145, .sipush (140), 3, [], .int (140)), (148, .iload_n 1, 1, [], .null), (149, .imul, 1, [], .null), (150, .iaload, 1, [], .null), (151, .bipush (-9), 2, [], .int (-9)), (153, .if_icmp .ne (7), 3, [160], .null), (156, .iconst (-1), 1, [], .int (-1)), (157, .goto (13), 3, [170], .null), (160, .aload_n 0, 1, [], .null), (161, .getfield 49, 3, [7, 22, 1], .null), (164, .sipush (140), 3, [], .int (140)), (167, .iload_n 1, 1, [], .null), (168, .imul, 1, [], .null), (169, .iaload, 1, [], .null), (170, .invokevirtual 286, 3, [169, 2, 0, 7], .null), (173, .iinc 1 (1), 3, [], .int (1)), (176, .goto (-41), 3, [135], .null), (179, .return_, 1, [], .null)]
def Mo_mixLand_135    : (Int32 × Hp) → ((Int32 × Hp) → Res Hp) → Res Hp := fun s κ135 => match s with
  | (x1, h) =>
  if (3 : Int32) ≤ x1 then
  (retV h)
  else
  (bif okA 192 100 ((140 : Int32) * x1) then
  if (hg h 192 ((140 : Int32) * x1).toNatClampNeg) = (-9 : Int32) then
  (bV (F_Mo_mix (-1 : Int32) h) fun h2 =>
  κ135 ((x1 + (1 : Int32)), h2))
  else
  (bif okA 192 100 ((140 : Int32) * x1) then
  bV (F_Mo_mix (hg h 192 ((140 : Int32) * x1).toNatClampNeg) h) fun h1 =>
  κ135 ((x1 + (1 : Int32)), h1)
  else none)
  else none)
def Mo_mixLand_99 (κ69 : (Int32 × Hp) → Res Hp)   : (Int32 × Int32 × Hp) → ((Int32 × Int32 × Hp) → Res Hp) → Res Hp := fun s κ99 => match s with
  | (x1, x2, h) =>
  bI (F_Mo_letterOf x1 (2 : Int32) h) fun v2 h1 =>
  if v2 ≤ x2 then
  (κ69 ((x1 + (1 : Int32)), h1))
  else
  (bI (F_Mo_letterOf x1 ((3 : Int32) + x2) h1) fun v4 h3 =>
  bV (F_Mo_mix v4 h3) fun h5 =>
  κ99 (x1, (x2 + (1 : Int32)), h5))
def Mo_mixLand_69    : (Int32 × Hp) → ((Int32 × Hp) → Res Hp) → Res Hp := fun s κ69 => match s with
  | (x1, h) =>
  if (hg h 178 14) ≤ x1 then
  (loopC (Mo_mixLand_135   ) FU ((0 : Int32), h))
  else
  (bI (F_Mo_letterOf x1 (0 : Int32) h) fun v2 h1 =>
  bV (F_Mo_mix v2 h1) fun h3 =>
  bI (F_Mo_letterOf x1 (1 : Int32) h3) fun v5 h4 =>
  bV (F_Mo_mix v5 h4) fun h6 =>
  loopC (Mo_mixLand_99 κ69  ) FU (x1, (0 : Int32), h6))
def Mo_mixLand_41    : (Int32 × Hp) → ((Int32 × Hp) → Res Hp) → Res Hp := fun s κ41 => match s with
  | (x1, h) =>
  if ((3 : Int32) * (hg h 178 11)) ≤ x1 then
  (loopC (Mo_mixLand_69   ) FU ((0 : Int32), h))
  else
  (bif okA 187 100 x1 then
  bV (F_Mo_mix (hg h 187 x1.toNatClampNeg) h) fun h1 =>
  κ41 ((x1 + (1 : Int32)), h1)
  else none)
def Mo_mixLand_12 (κ2 : (Int32 × Hp) → Res Hp)   : (Int32 × Int32 × Hp) → ((Int32 × Int32 × Hp) → Res Hp) → Res Hp := fun s κ12 => match s with
  | (x1, x2, h) =>
  if (3 : Int32) < x2 then
  (κ2 ((x1 + (1 : Int32)), h))
  else
  (bI (F_Mo_handOf x1 x2 h) fun v2 h1 =>
  bV (F_Mo_mix v2 h1) fun h3 =>
  κ12 (x1, (x2 + (1 : Int32)), h3))
def Mo_mixLand_2    : (Int32 × Hp) → ((Int32 × Hp) → Res Hp) → Res Hp := fun s κ2 => match s with
  | (x1, h) =>
  if (hg h 178 8) ≤ x1 then
  (loopC (Mo_mixLand_41   ) FU ((0 : Int32), h))
  else
  (loopC (Mo_mixLand_12 κ2  ) FU (x1, (0 : Int32), h))
def F_Mo_mixLand  (h : Hp) : Res Hp :=
  loopC (Mo_mixLand_2   ) FU ((0 : Int32), h)
def sF_Mo_mixLand : List Value → Hp → Res Hp := fun as h => match as with | [.ref f0] => (match Nat.beq f0 178 with | true => F_Mo_mixLand  h | false => none) | _ => none
theorem w_Mo_mixLand  (h : Hp) : sF_Mo_mixLand [.ref 178] h = F_Mo_mixLand  h := rfl
def S_Mo_mixLand : Sem Hp := [(169, sF_Mo_mix), (105, sF_Mo_letterOf), (108, sF_Mo_handOf)]
set_option maxRecDepth 100000 in
theorem e_Mo_mixLand_0  (h : Hp) : F_Mo_mixLand  h = exec1 OI S_Mo_mixLand 0 k_Mo_mixLand 0 [some (.ref 178), none, none] [] h (runF OI S_Mo_mixLand [(2, [0, 1], fun vs st h => match vs, st with | [.ref f0, .int x1], [] => (match Nat.beq f0 178 with | true => loopC (Mo_mixLand_2   ) FU (x1, h) | false => none) | _, _ => none)] 0 k_Mo_mixLand 400) :=
  rfl
set_option maxRecDepth 100000 in
theorem e_Mo_mixLand_2 (κ2 : (Int32 × Hp) → Res Hp) (x1 : Int32)  (h : Hp) : Mo_mixLand_2    (x1, h) κ2 = exec1 OI S_Mo_mixLand 0 k_Mo_mixLand 2 [some (.ref 178), some (.int x1), none] [] h (runF OI S_Mo_mixLand [(41, [0, 1], fun vs st h => match vs, st with | [.ref f0, .int x1], [] => (match Nat.beq f0 178 with | true => loopC (Mo_mixLand_41   ) FU (x1, h) | false => none) | _, _ => none), (12, [0, 1, 2], fun vs st h => match vs, st with | [.ref f0, .int x1, .int x2], [] => (match Nat.beq f0 178 with | true => loopC (Mo_mixLand_12 κ2  ) FU (x1, x2, h) | false => none) | _, _ => none)] 0 k_Mo_mixLand 400) :=
  (x_ite rfl rfl)
set_option maxRecDepth 100000 in
theorem e_Mo_mixLand_41 (κ41 : (Int32 × Hp) → Res Hp) (x1 : Int32)  (h : Hp) : Mo_mixLand_41    (x1, h) κ41 = exec1 OI S_Mo_mixLand 0 k_Mo_mixLand 41 [some (.ref 178), some (.int x1), none] [] h (runF OI S_Mo_mixLand [(69, [0, 1], fun vs st h => match vs, st with | [.ref f0, .int x1], [] => (match Nat.beq f0 178 with | true => loopC (Mo_mixLand_69   ) FU (x1, h) | false => none) | _, _ => none), (41, [0, 1], fun vs st h => match vs, st with | [.ref f0, .int x1], [] => (match Nat.beq f0 178 with | true => κ41 (x1, h) | false => none) | _, _ => none)] 0 k_Mo_mixLand 400) :=
  (x_ite rfl (x_bif (x_bV (f := sF_Mo_mix) rfl (w_Mo_mix _ _) fun h1 => rfl)))
set_option maxRecDepth 100000 in
theorem e_Mo_mixLand_69 (κ69 : (Int32 × Hp) → Res Hp) (x1 : Int32)  (h : Hp) : Mo_mixLand_69    (x1, h) κ69 = exec1 OI S_Mo_mixLand 0 k_Mo_mixLand 69 [some (.ref 178), some (.int x1), none] [] h (runF OI S_Mo_mixLand [(135, [0, 1], fun vs st h => match vs, st with | [.ref f0, .int x1], [] => (match Nat.beq f0 178 with | true => loopC (Mo_mixLand_135   ) FU (x1, h) | false => none) | _, _ => none), (99, [0, 1, 2], fun vs st h => match vs, st with | [.ref f0, .int x1, .int x2], [] => (match Nat.beq f0 178 with | true => loopC (Mo_mixLand_99 κ69  ) FU (x1, x2, h) | false => none) | _, _ => none)] 0 k_Mo_mixLand 400) :=
  (x_ite rfl (x_bI (f := sF_Mo_letterOf) rfl (w_Mo_letterOf _ _ _) fun v2 h1 => (x_bV (f := sF_Mo_mix) rfl (w_Mo_mix _ _) fun h3 => (x_bI (f := sF_Mo_letterOf) rfl (w_Mo_letterOf _ _ _) fun v5 h4 => (x_bV (f := sF_Mo_mix) rfl (w_Mo_mix _ _) fun h6 => rfl)))))
set_option maxRecDepth 100000 in
theorem e_Mo_mixLand_135 (κ135 : (Int32 × Hp) → Res Hp) (x1 : Int32)  (h : Hp) : Mo_mixLand_135    (x1, h) κ135 = exec1 OI S_Mo_mixLand 0 k_Mo_mixLand 135 [some (.ref 178), some (.int x1), none] [] h (runF OI S_Mo_mixLand [(135, [0, 1], fun vs st h => match vs, st with | [.ref f0, .int x1], [] => (match Nat.beq f0 178 with | true => κ135 (x1, h) | false => none) | _, _ => none)] 0 k_Mo_mixLand 400) :=
  (x_ite rfl (x_bif (x_ite (x_bV (f := sF_Mo_mix) rfl (w_Mo_mix _ _) fun h2 => rfl) (x_bif (x_bV (f := sF_Mo_mix) rfl (w_Mo_mix _ _) fun h1 => rfl)))))
set_option maxRecDepth 100000 in
theorem e_Mo_mixLand_99 (κ69 : (Int32 × Hp) → Res Hp) (κ99 : (Int32 × Int32 × Hp) → Res Hp) (x1 : Int32) (x2 : Int32)  (h : Hp) : Mo_mixLand_99 κ69   (x1, x2, h) κ99 = exec1 OI S_Mo_mixLand 0 k_Mo_mixLand 99 [some (.ref 178), some (.int x1), some (.int x2)] [] h (runF OI S_Mo_mixLand [(69, [0, 1], fun vs st h => match vs, st with | [.ref f0, .int x1], [] => (match Nat.beq f0 178 with | true => κ69 (x1, h) | false => none) | _, _ => none), (99, [0, 1, 2], fun vs st h => match vs, st with | [.ref f0, .int x1, .int x2], [] => (match Nat.beq f0 178 with | true => κ99 (x1, x2, h) | false => none) | _, _ => none)] 0 k_Mo_mixLand 400) :=
  (x_bI (f := sF_Mo_letterOf) rfl (w_Mo_letterOf _ _ _) fun v2 h1 => (x_ite rfl (x_bI (f := sF_Mo_letterOf) rfl (w_Mo_letterOf _ _ _) fun v4 h3 => (x_bV (f := sF_Mo_mix) rfl (w_Mo_mix _ _) fun h5 => rfl))))
set_option maxRecDepth 100000 in
theorem e_Mo_mixLand_12 (κ2 : (Int32 × Hp) → Res Hp) (κ12 : (Int32 × Int32 × Hp) → Res Hp) (x1 : Int32) (x2 : Int32)  (h : Hp) : Mo_mixLand_12 κ2   (x1, x2, h) κ12 = exec1 OI S_Mo_mixLand 0 k_Mo_mixLand 12 [some (.ref 178), some (.int x1), some (.int x2)] [] h (runF OI S_Mo_mixLand [(2, [0, 1], fun vs st h => match vs, st with | [.ref f0, .int x1], [] => (match Nat.beq f0 178 with | true => κ2 (x1, h) | false => none) | _, _ => none), (12, [0, 1, 2], fun vs st h => match vs, st with | [.ref f0, .int x1, .int x2], [] => (match Nat.beq f0 178 with | true => κ12 (x1, x2, h) | false => none) | _, _ => none)] 0 k_Mo_mixLand 400) :=
  (x_ite rfl (x_bI (f := sF_Mo_handOf) rfl (w_Mo_handOf _ _ _) fun v2 h1 => (x_bV (f := sF_Mo_mix) rfl (w_Mo_mix _ _) fun h3 => rfl)))
def k_Mo_digest : List Ent := [(0, .aload_n 0, 1, [], .null), (1, .ldc2_w 290, 3, [], .long 17), (4, .putfield 282, 3, [7, 32, 2], .null), (7, .iconst 0, 1, [], .int (0)), (8, .istore_n 1, 1, [], .null), (9, .iload_n 1, 1, [], .null), (10, .bipush (8), 2, [], .int (8)), (12, .if_icmp .gt (18), 3, [30], .null), (15, .aload_n 0, 1, [], .null), (16, .aload_n 0, 1, [], .null), (17, .iload_n 1, 1, [], .null), (18, .invokevirtual 277, 3, [165, 2, 1, 7], .null), (21, .invokevirtual 286, 3, [169, 2, 0, 7], .null), (24, .iinc 1 (1), 3, [], .int (1)), (27, .goto (-18), 3, [9], .null), (30, .aload_n 0, 1, [], .null), (31, .invokevirtual 292, 3, [170, 1, 0, 7], .null), (34, .iconst 0, 1, [], .int (0)), (35, .istore_n 1, 1, [], .null), (36, .iload_n 1, 1, [], .null), (37, .bipush (6), 2, [], .int (6)), (39, .if_icmp .ge (60), 3, [99], .null), (42, .aload_n 0, 1, [], .null), (43, .aload_n 0, 1, [], .null), (44, .getfield 13, 3, [7, 3, 1], .null), (47, .iload_n 1, 1, [], .null), (48, .iaload, 1, [], .null), (49, .ifCond .ge (7), 3, [56], .null), (52, .iconst (-1), 1, [], .int (-1)), (53, .goto (9), 3, [62], .null), (56, .aload_n 0, 1, [], .null), (57, .getfield 13, 3, [7, 3, 1], .null), (60, .iload_n 1, 1, [], .null), (61, .iaload, 1, [], .null), (62, .invokevirtual 286, 3, [169, 2, 0, 7], .null), (65, .iconst 0, 1, [], .int (0)), (66, .istore_n 2, 1, [], .null), (67, .iload_n 2, 1, [], .null), (68, .aload_n 0, 1, [], .null), (69, .getfield 13, 3, [7, 3, 1], .null), (72, .iload_n 1, 1, [], .null), (73, .iaload, 1, [], .null), (74, .if_icmp .ge (19), 3, [93], .null), (77, .aload_n 0, 1, [], .null), (78, .aload_n 0, 1, [], .null), (79, .iload_n 1, 1, [], .null), (80, .iload_n 2, 1, [], .null), (81, .invokevirtual 94, 3, [80, 3, 1, 7], .null), (84, .invokevirtual 286, 3, [169, 2, 0, 7], .null), (87, .iinc 2 (1), 3, [], .int (1)), (90, .goto (-23), 3, [67], .null), (93, .iinc 1 (1), 3, [], .int (1)), (96, .goto (-60), 3, [36], .null), (99, .iconst 0, 1, [], .int (0)), (100, .istore_n 1, 1, [], .null), (101, .iload_n 1, 1, [], .null), (102, .iconst 4, 1, [], .int (4)), (103, .if_icmp .ge (65), 3, [168], .null), (106, .aload_n 0, 1, [], .null), (107, .aload_n 0, 1, [], .null), (108, .getfield 22, 3, [7, 6, 1], .null), (111, .iload_n 1, 1, [], .null), (112, .iaload, 1, [], .null), (113, .ifCond .ge (7), 3, [120], .null), (116, .iconst (-1), 1, [], .int (-1)), (117, .goto (9), 3, [126], .null), (120, .aload_n 0, 1, [], .null), (121, .getfield 22, 3, [7, 6, 1], .null), (124, .iload_n 1, 1, [], .null), (125, .iaload, 1, [], .null), (126, .invokevirtual 286, 3, [169, 2, 0, 7], .null), (129, .iconst 0, 1, [], .int (0)), (130, .istore_n 2, 1, [], .null), (131, .iload_n 2, 1, [], .null), (132, .aload_n 0, 1, [], .null), (133, .getfield 22, 3, [7, 6, 1], .null), (136, .iload_n 1, 1, [], .null), (137, .iaload, 1, [], .null), (138, .if_icmp .ge (24), 3, [162], .null), (141, .aload_n 0, 1, [], .null), (142, .aload_n 0, 1, [], .null), (143, .getfield 25, 3, [7, 7, 1], .null), (146, .bipush (80), 2, [], .int (80)), (148, .iload_n 1, 1, [], .null), (149, .imul, 1, [], .null), (150, .iload_n 2, 1, [], .null), (151, .iadd, 1, [], .null), (152, .iaload, 1, [], .null), (153, .invokevirtual 286, 3, [169, 2, 0, 7], .null), (156, .iinc 2 (1), 3, [], .int (1)), (159, .goto (-28), 3, [131], .null), (162, .iinc 1 (1), 3, [], .int (1)), (165, .goto (-64), 3, [101], .null), (168, .aload_n 0, 1, [], .null), (169, .getfield 282, 3, [7, 32, 2], .null), (172, .lreturn, 1, [], .null)]
def Mo_digest_131 (κ101 : (Int32 × Hp) → Res Hp)   : (Int32 × Int32 × Hp) → ((Int32 × Int32 × Hp) → Res Hp) → Res Hp := fun s κ131 => match s with
  | (x1, x2, h) =>
  bif okA 183 100 x1 then
  if (hg h 183 x1.toNatClampNeg) ≤ x2 then
  (κ101 ((x1 + (1 : Int32)), h))
  else
  (bif okA 184 100 (((80 : Int32) * x1) + x2) then
  bV (F_Mo_mix (hg h 184 (((80 : Int32) * x1) + x2).toNatClampNeg) h) fun h1 =>
  κ131 (x1, (x2 + (1 : Int32)), h1)
  else none)
  else none
def Mo_digest_101    : (Int32 × Hp) → ((Int32 × Hp) → Res Hp) → Res Hp := fun s κ101 => match s with
  | (x1, h) =>
  if (4 : Int32) ≤ x1 then
  (retL (hl h) h)
  else
  (bif okA 183 100 x1 then
  if (0 : Int32) ≤ (hg h 183 x1.toNatClampNeg) then
  (bif okA 183 100 x1 then
  bV (F_Mo_mix (hg h 183 x1.toNatClampNeg) h) fun h1 =>
  loopC (Mo_digest_131 κ101  ) FU (x1, (0 : Int32), h1)
  else none)
  else
  (bV (F_Mo_mix (-1 : Int32) h) fun h2 =>
  loopC (Mo_digest_131 κ101  ) FU (x1, (0 : Int32), h2))
  else none)
def Mo_digest_67 (κ36 : (Int32 × Hp) → Res Hp)   : (Int32 × Int32 × Hp) → ((Int32 × Int32 × Hp) → Res Hp) → Res Hp := fun s κ67 => match s with
  | (x1, x2, h) =>
  bif okA 180 100 x1 then
  if (hg h 180 x1.toNatClampNeg) ≤ x2 then
  (κ36 ((x1 + (1 : Int32)), h))
  else
  (bI (F_Mo_rowAt x1 x2 h) fun v2 h1 =>
  bV (F_Mo_mix v2 h1) fun h3 =>
  κ67 (x1, (x2 + (1 : Int32)), h3))
  else none
def Mo_digest_36    : (Int32 × Hp) → ((Int32 × Hp) → Res Hp) → Res Hp := fun s κ36 => match s with
  | (x1, h) =>
  if (6 : Int32) ≤ x1 then
  (loopC (Mo_digest_101   ) FU ((0 : Int32), h))
  else
  (bif okA 180 100 x1 then
  if (0 : Int32) ≤ (hg h 180 x1.toNatClampNeg) then
  (bif okA 180 100 x1 then
  bV (F_Mo_mix (hg h 180 x1.toNatClampNeg) h) fun h1 =>
  loopC (Mo_digest_67 κ36  ) FU (x1, (0 : Int32), h1)
  else none)
  else
  (bV (F_Mo_mix (-1 : Int32) h) fun h2 =>
  loopC (Mo_digest_67 κ36  ) FU (x1, (0 : Int32), h2))
  else none)
def Mo_digest_9    : (Int32 × Hp) → ((Int32 × Hp) → Res Hp) → Res Hp := fun s κ9 => match s with
  | (x1, h) =>
  if (8 : Int32) < x1 then
  (bV (F_Mo_mixLand  h) fun h1 =>
  loopC (Mo_digest_36   ) FU ((0 : Int32), h1))
  else
  (bI (F_Mo_tells x1 h) fun v3 h2 =>
  bV (F_Mo_mix v3 h2) fun h4 =>
  κ9 ((x1 + (1 : Int32)), h4))
def F_Mo_digest  (h : Hp) : Res Hp :=
  bH (hsl h (17 : Int64)) fun h1 =>
  loopC (Mo_digest_9   ) FU ((0 : Int32), h1)
def sF_Mo_digest : List Value → Hp → Res Hp := fun as h => match as with | [.ref f0] => (match Nat.beq f0 178 with | true => F_Mo_digest  h | false => none) | _ => none
theorem w_Mo_digest  (h : Hp) : sF_Mo_digest [.ref 178] h = F_Mo_digest  h := rfl
def S_Mo_digest : Sem Hp := [(170, sF_Mo_mixLand), (169, sF_Mo_mix), (80, sF_Mo_rowAt), (165, sF_Mo_tells)]
set_option maxRecDepth 100000 in
theorem e_Mo_digest_0  (h : Hp) : F_Mo_digest  h = exec1 OI S_Mo_digest 3 k_Mo_digest 0 [some (.ref 178), none, none] [] h (runF OI S_Mo_digest [(9, [0, 1], fun vs st h => match vs, st with | [.ref f0, .int x1], [] => (match Nat.beq f0 178 with | true => loopC (Mo_digest_9   ) FU (x1, h) | false => none) | _, _ => none)] 3 k_Mo_digest 400) :=
  (x_bH fun h1 => rfl)
set_option maxRecDepth 100000 in
theorem e_Mo_digest_9 (κ9 : (Int32 × Hp) → Res Hp) (x1 : Int32)  (h : Hp) : Mo_digest_9    (x1, h) κ9 = exec1 OI S_Mo_digest 3 k_Mo_digest 9 [some (.ref 178), some (.int x1), none] [] h (runF OI S_Mo_digest [(36, [0, 1], fun vs st h => match vs, st with | [.ref f0, .int x1], [] => (match Nat.beq f0 178 with | true => loopC (Mo_digest_36   ) FU (x1, h) | false => none) | _, _ => none), (9, [0, 1], fun vs st h => match vs, st with | [.ref f0, .int x1], [] => (match Nat.beq f0 178 with | true => κ9 (x1, h) | false => none) | _, _ => none)] 3 k_Mo_digest 400) :=
  (x_ite (x_bV (f := sF_Mo_mixLand) rfl (w_Mo_mixLand  _) fun h1 => rfl) (x_bI (f := sF_Mo_tells) rfl (w_Mo_tells _ _) fun v3 h2 => (x_bV (f := sF_Mo_mix) rfl (w_Mo_mix _ _) fun h4 => rfl)))
set_option maxRecDepth 100000 in
theorem e_Mo_digest_36 (κ36 : (Int32 × Hp) → Res Hp) (x1 : Int32)  (h : Hp) : Mo_digest_36    (x1, h) κ36 = exec1 OI S_Mo_digest 3 k_Mo_digest 36 [some (.ref 178), some (.int x1), none] [] h (runF OI S_Mo_digest [(101, [0, 1], fun vs st h => match vs, st with | [.ref f0, .int x1], [] => (match Nat.beq f0 178 with | true => loopC (Mo_digest_101   ) FU (x1, h) | false => none) | _, _ => none), (67, [0, 1, 2], fun vs st h => match vs, st with | [.ref f0, .int x1, .int x2], [] => (match Nat.beq f0 178 with | true => loopC (Mo_digest_67 κ36  ) FU (x1, x2, h) | false => none) | _, _ => none)] 3 k_Mo_digest 400) :=
  (x_ite rfl (x_bif (x_ite (x_bif (x_bV (f := sF_Mo_mix) rfl (w_Mo_mix _ _) fun h1 => rfl)) (x_bV (f := sF_Mo_mix) rfl (w_Mo_mix _ _) fun h2 => rfl))))
set_option maxRecDepth 100000 in
theorem e_Mo_digest_101 (κ101 : (Int32 × Hp) → Res Hp) (x1 : Int32)  (h : Hp) : Mo_digest_101    (x1, h) κ101 = exec1 OI S_Mo_digest 3 k_Mo_digest 101 [some (.ref 178), some (.int x1), none] [] h (runF OI S_Mo_digest [(131, [0, 1, 2], fun vs st h => match vs, st with | [.ref f0, .int x1, .int x2], [] => (match Nat.beq f0 178 with | true => loopC (Mo_digest_131 κ101  ) FU (x1, x2, h) | false => none) | _, _ => none)] 3 k_Mo_digest 400) :=
  (x_ite rfl (x_bif (x_ite (x_bif (x_bV (f := sF_Mo_mix) rfl (w_Mo_mix _ _) fun h1 => rfl)) (x_bV (f := sF_Mo_mix) rfl (w_Mo_mix _ _) fun h2 => rfl))))
set_option maxRecDepth 100000 in
theorem e_Mo_digest_131 (κ101 : (Int32 × Hp) → Res Hp) (κ131 : (Int32 × Int32 × Hp) → Res Hp) (x1 : Int32) (x2 : Int32)  (h : Hp) : Mo_digest_131 κ101   (x1, x2, h) κ131 = exec1 OI S_Mo_digest 3 k_Mo_digest 131 [some (.ref 178), some (.int x1), some (.int x2)] [] h (runF OI S_Mo_digest [(101, [0, 1], fun vs st h => match vs, st with | [.ref f0, .int x1], [] => (match Nat.beq f0 178 with | true => κ101 (x1, h) | false => none) | _, _ => none), (131, [0, 1, 2], fun vs st h => match vs, st with | [.ref f0, .int x1, .int x2], [] => (match Nat.beq f0 178 with | true => κ131 (x1, x2, h) | false => none) | _, _ => none)] 3 k_Mo_digest 400) :=
  (x_bif (x_ite rfl (x_bif (x_bV (f := sF_Mo_mix) rfl (w_Mo_mix _ _) fun h1 => rfl))))
set_option maxRecDepth 100000 in
theorem e_Mo_digest_67 (κ36 : (Int32 × Hp) → Res Hp) (κ67 : (Int32 × Int32 × Hp) → Res Hp) (x1 : Int32) (x2 : Int32)  (h : Hp) : Mo_digest_67 κ36   (x1, x2, h) κ67 = exec1 OI S_Mo_digest 3 k_Mo_digest 67 [some (.ref 178), some (.int x1), some (.int x2)] [] h (runF OI S_Mo_digest [(36, [0, 1], fun vs st h => match vs, st with | [.ref f0, .int x1], [] => (match Nat.beq f0 178 with | true => κ36 (x1, h) | false => none) | _, _ => none), (67, [0, 1, 2], fun vs st h => match vs, st with | [.ref f0, .int x1, .int x2], [] => (match Nat.beq f0 178 with | true => κ67 (x1, x2, h) | false => none) | _, _ => none)] 3 k_Mo_digest 400) :=
  (x_bif (x_ite rfl (x_bI (f := sF_Mo_rowAt) rfl (w_Mo_rowAt _ _ _) fun v2 h1 => (x_bV (f := sF_Mo_mix) rfl (w_Mo_mix _ _) fun h3 => rfl))))
end
