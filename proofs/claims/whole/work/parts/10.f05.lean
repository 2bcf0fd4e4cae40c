noncomputable section
def k_Mo_copy : List Ent := [(0, .iload_n 1, 1, [], .null), (1, .invokestatic 76, 3, [76, 1, 2], .null), (4, .ifCond .eq (10), 3, [14], .null), (7, .iload_n 3, 1, [], .null), (8, .invokestatic 76, 3, [76, 1, 2], .null), (11, .ifCond .ne (5), 3, [16], .null), (14, .iconst (-1), 1, [], .int (-1)), (15, .ireturn, 1, [], .null), (16, .iload 5, 2, [], .null), (18, .ifCond .ge (9), 3, [27], .null), (21, .aload_n 0, 1, [], .null), (22, .iconst 5, 1, [], .int (5)), (23, .invokevirtual 80, 3, [72, 2, 1, 7], .null), (26, .ireturn, 1, [], .null), (27, .aload_n 0, 1, [], .null), (28, .getfield 13, 3, [7, 3, 1], .null), (31, .iload_n 1, 1, [], .null), (32, .iaload, 1, [], .null), (33, .ifCond .lt (12), 3, [45], .null), (36, .aload_n 0, 1, [], .null), (37, .getfield 13, 3, [7, 3, 1], .null), (40, .iload_n 3, 1, [], .null), (41, .iaload, 1, [], .null), (42, .ifCond .ge (9), 3, [51], .null), (45, .aload_n 0, 1, [], .null), (46, .iconst 1, 1, [], .int (1)), (47, .invokevirtual 80, 3, [72, 2, 1, 7], .null), (50, .ireturn, 1, [], .null), (51, .iload_n 2, 1, [], .null), (52, .ifCond .lt (43), 3, [95], .null), (55, .iload 4, 2, [], .null), (57, .ifCond .lt (38), 3, [95], .null), (60, .iload_n 2, 1, [], .null), (61, .i2l, 1, [], .null), (62, .iload 5, 2, [], .null), (64, .i2l, 1, [], .null), (65, .ladd, 1, [], .null), (66, .aload_n 0, 1, [], .null), (67, .getfield 13, 3, [7, 3, 1], .null), (70, .iload_n 1, 1, [], .null), (71, .iaload, 1, [], .null), (72, .i2l, 1, [], .null), (73, .lcmp, 1, [], .null), (74, .ifCond .gt (21), 3, [95], .null), (77, .iload 4, 2, [], .null), (79, .i2l, 1, [], .null), (80, .iload 5, 2, [], .null), (82, .i2l, 1, [], .null), (83, .ladd, 1, [], .null), (84, .aload_n 0, 1, [], .null), (85, .getfield 13, 3, [7, 3, 1], .null), (88, .iload_n 3, 1, [], .null), (89, .iaload, 1, [], .null), (90, .i2l, 1, [], .null), (91, .lcmp, 1, [], .null), (92, .ifCond .le (9), 3, [101], .null), (95, .aload_n 0, 1, [], .null), (96, .iconst 2, 1, [], .int (2)), (97, .invokevirtual 80, 3, [72, 2, 1, 7], .null), (100, .ireturn, 1, [], .null), (101, .iconst 0, 1, [], .int (0)), (102, .istore 6, 2, [], .null), (104, .iload 6, 2, [], .null), (106, .iload 5, 2, [], .null), (108, .if_icmp .ge (25), 3, [133], .null), (111, .aload_n 0, 1, [], .null), (112, .getfield 19, 3, [7, 5, 1], .null), (115, .iload 6, 2, [], .null), (117, .aload_n 0, 1, [], .null), (118, .iload_n 1, 1, [], .null), (119, .iload_n 2, 1, [], .null), (120, .iload 6, 2, [], .null), (122, .iadd, 1, [], .null), (123, .invokevirtual 94, 3, [80, 3, 1, 7], .null), (126, .iastore, 1, [], .null), (127, .iinc 6 (1), 3, [], .int (1)), (130, .goto (-26), 3, [104], .null), (133, .iconst 0, 1, [], .int (0)), (134, .istore 6, 2, [], .null), (136, .iload 6, 2, [], .null), (138, .iload 5, 2, [], .null), (140, .if_icmp .ge (26), 3, [166], .null), (143, .aload_n 0, 1, [], .null), (144, .iload_n 3, 1, [], .null), (145, .iload 4, 2, [], .null), (147, .iload 6, 2, [], .null), (149, .iadd, 1, [], .null), (150, .aload_n 0, 1, [], .null), (151, .getfield 19, 3, [7, 5, 1], .null), (154, .iload 6, 2, [], .null), (156, .iaload, 1, [], .null), (157, .invokevirtual 87, 3, [81, 4, 0, 7], .null), (160, .iinc 6 (1), 3, [], .int (1)), (163, .goto (-27), 3, [136], .null), (166, .iconst 1, 1, [], .int (1)), (167, .ireturn, 1, [], .null)]
def Mo_copy_136    : (Int32 × Int32 × Int32 × Int32 × Hp) → ((Int32 × Int32 × Int32 × Int32 × Hp) → Res Hp) → Res Hp := fun s κ136 => match s with
  | (x3, x4, x5, x6, h) =>
  if x5 ≤ x6 then
  (retI (1 : Int32) h)
  else
  (bif okA 182 100 x6 then
  bV (F_Mo_setRow x3 (x4 + x6) (hg h 182 x6.toNatClampNeg) h) fun h1 =>
  κ136 (x3, x4, x5, (x6 + (1 : Int32)), h1)
  else none)
def Mo_copy_104    : (Int32 × Int32 × Int32 × Int32 × Int32 × Int32 × Hp) → ((Int32 × Int32 × Int32 × Int32 × Int32 × Int32 × Hp) → Res Hp) → Res Hp := fun s κ104 => match s with
  | (x1, x2, x3, x4, x5, x6, h) =>
  if x5 ≤ x6 then
  (loopC (Mo_copy_136   ) FU (x3, x4, x5, (0 : Int32), h))
  else
  (bI (F_Mo_rowAt x1 (x2 + x6) h) fun v2 h1 =>
  bif okA 182 100 x6 then
  bH (hs h1 182 x6.toNatClampNeg v2) fun h3 =>
  κ104 (x1, x2, x3, x4, x5, (x6 + (1 : Int32)), h3)
  else none)
def F_Mo_copy (x1 : Int32) (x2 : Int32) (x3 : Int32) (x4 : Int32) (x5 : Int32) (h : Hp) : Res Hp :=
  bI (F_Mo_isRow x1 h) fun v2 h1 =>
  if v2 = (0 : Int32) then
  (retI (-1 : Int32) h1)
  else
  (bI (F_Mo_isRow x3 h1) fun v4 h3 =>
  if v4 = (0 : Int32) then
  (retI (-1 : Int32) h3)
  else
  (if (0 : Int32) ≤ x5 then
  (bif okA 180 100 x1 then
  if (hg h3 180 x1.toNatClampNeg) < (0 : Int32) then
  (bI (F_Mo_meetWith (1 : Int32) h3) fun v6 h5 =>
  retI v6 h5)
  else
  (bif okA 180 100 x3 then
  if (0 : Int32) ≤ (hg h3 180 x3.toNatClampNeg) then
  (if x2 < (0 : Int32) then
  (bI (F_Mo_meetWith (2 : Int32) h3) fun v8 h7 =>
  retI v8 h7)
  else
  (if x4 < (0 : Int32) then
  (bI (F_Mo_meetWith (2 : Int32) h3) fun v10 h9 =>
  retI v10 h9)
  else
  (bif okA 180 100 x1 then
  if (0 : Int32) < (lg_cmp (x2.toInt64 + x5.toInt64) (hg h3 180 x1.toNatClampNeg).toInt64) then
  (bI (F_Mo_meetWith (2 : Int32) h3) fun v12 h11 =>
  retI v12 h11)
  else
  (bif okA 180 100 x3 then
  if (lg_cmp (x4.toInt64 + x5.toInt64) (hg h3 180 x3.toNatClampNeg).toInt64) ≤ (0 : Int32) then
  (loopC (Mo_copy_104   ) FU (x1, x2, x3, x4, x5, (0 : Int32), h3))
  else
  (bI (F_Mo_meetWith (2 : Int32) h3) fun v14 h13 =>
  retI v14 h13)
  else none)
  else none)))
  else
  (bI (F_Mo_meetWith (1 : Int32) h3) fun v16 h15 =>
  retI v16 h15)
  else none)
  else none)
  else
  (bI (F_Mo_meetWith (5 : Int32) h3) fun v18 h17 =>
  retI v18 h17)))
def sF_Mo_copy : List Value → Hp → Res Hp := fun as h => match as with | [.ref f0, .int x1, .int x2, .int x3, .int x4, .int x5] => (match Nat.beq f0 178 with | true => F_Mo_copy x1 x2 x3 x4 x5 h | false => none) | _ => none
theorem w_Mo_copy (x1 : Int32) (x2 : Int32) (x3 : Int32) (x4 : Int32) (x5 : Int32) (h : Hp) : sF_Mo_copy [.ref 178, .int x1, .int x2, .int x3, .int x4, .int x5] h = F_Mo_copy x1 x2 x3 x4 x5 h := rfl
def S_Mo_copy : Sem Hp := [(76, sF_Mo_isRow), (72, sF_Mo_meetWith), (81, sF_Mo_setRow), (80, sF_Mo_rowAt)]
set_option maxRecDepth 100000 in
theorem e_Mo_copy_0 (x1 : Int32) (x2 : Int32) (x3 : Int32) (x4 : Int32) (x5 : Int32) (h : Hp) : F_Mo_copy x1 x2 x3 x4 x5 h = exec1 OI S_Mo_copy 1 k_Mo_copy 0 [some (.ref 178), some (.int x1), some (.int x2), some (.int x3), some (.int x4), some (.int x5), none] [] h (runF OI S_Mo_copy [(104, [0, 1, 2, 3, 4, 5, 6], fun vs st h => match vs, st with | [.ref f0, .int x1, .int x2, .int x3, .int x4, .int x5, .int x6], [] => (match Nat.beq f0 178 with | true => loopC (Mo_copy_104   ) FU (x1, x2, x3, x4, x5, x6, h) | false => none) | _, _ => none)] 1 k_Mo_copy 400) :=
  (x_bI (f := sF_Mo_isRow) rfl (w_Mo_isRow _ _) fun v2 h1 => (x_ite rfl (x_bI (f := sF_Mo_isRow) rfl (w_Mo_isRow _ _) fun v4 h3 => (x_ite rfl (x_ite (x_bif (x_ite (x_bI (f := sF_Mo_meetWith) rfl (w_Mo_meetWith _ _) fun v6 h5 => rfl) (x_bif (x_ite (x_ite (x_bI (f := sF_Mo_meetWith) rfl (w_Mo_meetWith _ _) fun v8 h7 => rfl) (x_ite (x_bI (f := sF_Mo_meetWith) rfl (w_Mo_meetWith _ _) fun v10 h9 => rfl) (x_bif (x_ite (x_bI (f := sF_Mo_meetWith) rfl (w_Mo_meetWith _ _) fun v12 h11 => rfl) (x_bif (x_ite rfl (x_bI (f := sF_Mo_meetWith) rfl (w_Mo_meetWith _ _) fun v14 h13 => rfl))))))) (x_bI (f := sF_Mo_meetWith) rfl (w_Mo_meetWith _ _) fun v16 h15 => rfl))))) (x_bI (f := sF_Mo_meetWith) rfl (w_Mo_meetWith _ _) fun v18 h17 => rfl))))))
set_option maxRecDepth 100000 in
theorem e_Mo_copy_104 (κ104 : (Int32 × Int32 × Int32 × Int32 × Int32 × Int32 × Hp) → Res Hp) (x1 : Int32) (x2 : Int32) (x3 : Int32) (x4 : Int32) (x5 : Int32) (x6 : Int32)  (h : Hp) : Mo_copy_104    (x1, x2, x3, x4, x5, x6, h) κ104 = exec1 OI S_Mo_copy 1 k_Mo_copy 104 [some (.ref 178), some (.int x1), some (.int x2), some (.int x3), some (.int x4), some (.int x5), some (.int x6)] [] h (runF OI S_Mo_copy [(136, [0, 3, 4, 5, 6], fun vs st h => match vs, st with | [.ref f0, .int x3, .int x4, .int x5, .int x6], [] => (match Nat.beq f0 178 with | true => loopC (Mo_copy_136   ) FU (x3, x4, x5, x6, h) | false => none) | _, _ => none), (104, [0, 1, 2, 3, 4, 5, 6], fun vs st h => match vs, st with | [.ref f0, .int x1, .int x2, .int x3, .int x4, .int x5, .int x6], [] => (match Nat.beq f0 178 with | true => κ104 (x1, x2, x3, x4, x5, x6, h) | false => none) | _, _ => none)] 1 k_Mo_copy 400) :=
  (x_ite rfl (x_bI (f := sF_Mo_rowAt) rfl (w_Mo_rowAt _ _ _) fun v2 h1 => (x_bif (x_bH fun h3 => rfl))))
set_option maxRecDepth 100000 in
theorem e_Mo_copy_136 (κ136 : (Int32 × Int32 × Int32 × Int32 × Hp) → Res Hp) (x3 : Int32) (x4 : Int32) (x5 : Int32) (x6 : Int32)  (h : Hp) : Mo_copy_136    (x3, x4, x5, x6, h) κ136 = exec1 OI S_Mo_copy 1 k_Mo_copy 136 [some (.ref 178), none, none, some (.int x3), some (.int x4), some (.int x5), some (.int x6)] [] h (runF OI S_Mo_copy [(136, [0, 3, 4, 5, 6], fun vs st h => match vs, st with | [.ref f0, .int x3, .int x4, .int x5, .int x6], [] => (match Nat.beq f0 178 with | true => κ136 (x3, x4, x5, x6, h) | false => none) | _, _ => none)] 1 k_Mo_copy 400) :=
  (x_ite rfl (x_bif (x_bV (f := sF_Mo_setRow) rfl (w_Mo_setRow _ _ _ _) fun h1 => rfl)))
def k_Mo_mean : List Ent := [(0, .aload_n 0, 1, [], .null), (1, .iload_n 1, 1, [], .null), (2, .invokevirtual 91, 3, [78, 2, 1, 7], .null), (5, .istore_n 2, 1, [], .null), (6, .iload_n 2, 1, [], .null), (7, .ifCond .ge (5), 3, [12], .null), (10, .iload_n 2, 1, [], .null), (11, .ireturn, 1, [], .null), (12, .lconst 0, 1, [], .long 0), (13, .lstore_n 3, 1, [], .null), (14, .iconst 0, 1, [], .int (0)), (15, .istore 5, 2, [], .null), (17, .iload 5, 2, [], .null), (19, .aload_n 0, 1, [], .null), (20, .getfield 13, 3, [7, 3, 1], .null), (23, .iload_n 1, 1, [], .null), (24, .iaload, 1, [], .null), (25, .if_icmp .ge (20), 3, [45], .null), (28, .lload_n 3, 1, [], .null), (29, .aload_n 0, 1, [], .null), (30, .iload_n 1, 1, [], .null), (31, .iload 5, 2, [], .null), (33, .invokevirtual 94, 3, [80, 3, 1, 7], .null), (36, .i2l, 1, [], .null), (37, .ladd, 1, [], .null), (38, .lstore_n 3, 1, [], .null), (39, .iinc 5 (1), 3, [], .int (1)), (42, .goto (-25), 3, [17], .null), (45, .aload_n 0, 1, [], .null), (46, .getfield 13, 3, [7, 3, 1], .null), (49, .iload_n 1, 1, [], .null), (50, .iaload, 1, [], .null), (51, .ifCond .ne (11), 3, [62], .null), (54, .aload_n 0, 1, [], .null), (55, .iconst 4, 1, [], .int (4)), (56, .invokevirtual 80, 3, [72, 2, 1, 7], .null), (59, .goto (18), 3, [77], .null), (62, .aload_n 0, 1, [], .null), (63, .lload_n 3, 1, [], .null), (64, .aload_n 0, 1, [], .null), (65, .getfield 13, 3, [7, 3, 1], .null), (68, .iload_n 1, 1, [], .null), (69, .iaload, 1, [], .null), (70, .i2l, 1, [], .null), (71, .ldiv, 1, [], .null), (72, .l2i, 1, [], .null), (73, .iconst 1, 1, [], .int (1)), (74, .invokevirtual 98, 3, [73, 3, 1, 7], .null), (77, .ireturn, 1, [], .null)]
def Mo_mean_17    : (Int32 × Int64 × Int32 × Hp) → ((Int32 × Int64 × Int32 × Hp) → Res Hp) → Res Hp := fun s κ17 => match s with
  | (x1, y3, x5, h) =>
  bif okA 180 100 x1 then
  if (hg h 180 x1.toNatClampNeg) ≤ x5 then
  (bif okA 180 100 x1 then
  if (hg h 180 x1.toNatClampNeg) = (0 : Int32) then
  (bI (F_Mo_meetWith (4 : Int32) h) fun v4 h3 =>
  retI v4 h3)
  else
  (bif okA 180 100 x1 then
  if (hg h 180 x1.toNatClampNeg).toInt64 = 0 then none else
  bI (F_Mo_ask ((y3 / (hg h 180 x1.toNatClampNeg).toInt64)).toInt32 (1 : Int32) h) fun v2 h1 =>
  retI v2 h1
  else none)
  else none)
  else
  (bI (F_Mo_rowAt x1 x5 h) fun v6 h5 =>
  κ17 (x1, (y3 + v6.toInt64), (x5 + (1 : Int32)), h5))
  else none
def F_Mo_mean (x1 : Int32) (h : Hp) : Res Hp :=
  bI (F_Mo_askedRow x1 h) fun v2 h1 =>
  if (0 : Int32) ≤ v2 then
  (loopC (Mo_mean_17   ) FU (x1, (0 : Int64), (0 : Int32), h1))
  else
  (retI v2 h1)
def sF_Mo_mean : List Value → Hp → Res Hp := fun as h => match as with | [.ref f0, .int x1] => (match Nat.beq f0 178 with | true => F_Mo_mean x1 h | false => none) | _ => none
theorem w_Mo_mean (x1 : Int32) (h : Hp) : sF_Mo_mean [.ref 178, .int x1] h = F_Mo_mean x1 h := rfl
def S_Mo_mean : Sem Hp := [(78, sF_Mo_askedRow), (73, sF_Mo_ask), (72, sF_Mo_meetWith), (80, sF_Mo_rowAt)]
set_option maxRecDepth 100000 in
theorem e_Mo_mean_0 (x1 : Int32) (h : Hp) : F_Mo_mean x1 h = exec1 OI S_Mo_mean 1 k_Mo_mean 0 [some (.ref 178), some (.int x1), none, none, none, none] [] h (runF OI S_Mo_mean [(17, [0, 1, 3, 5], fun vs st h => match vs, st with | [.ref f0, .int x1, .long y3, .int x5], [] => (match Nat.beq f0 178 with | true => loopC (Mo_mean_17   ) FU (x1, y3, x5, h) | false => none) | _, _ => none)] 1 k_Mo_mean 400) :=
  (x_bI (f := sF_Mo_askedRow) rfl (w_Mo_askedRow _ _) fun v2 h1 => (x_ite rfl rfl))
set_option maxRecDepth 100000 in
theorem e_Mo_mean_17 (κ17 : (Int32 × Int64 × Int32 × Hp) → Res Hp) (x1 : Int32) (y3 : Int64) (x5 : Int32)  (h : Hp) : Mo_mean_17    (x1, y3, x5, h) κ17 = exec1 OI S_Mo_mean 1 k_Mo_mean 17 [some (.ref 178), some (.int x1), none, some (.long y3), none, some (.int x5)] [] h (runF OI S_Mo_mean [(17, [0, 1, 3, 5], fun vs st h => match vs, st with | [.ref f0, .int x1, .long y3, .int x5], [] => (match Nat.beq f0 178 with | true => κ17 (x1, y3, x5, h) | false => none) | _, _ => none)] 1 k_Mo_mean 400) :=
  (x_bif (x_ite (x_bif (x_ite (x_bI (f := sF_Mo_meetWith) rfl (w_Mo_meetWith _ _) fun v4 h3 => rfl) (x_bif (x_if0 (x_bI (f := sF_Mo_ask) rfl (w_Mo_ask _ _ _) fun v2 h1 => rfl))))) (x_bI (f := sF_Mo_rowAt) rfl (w_Mo_rowAt _ _ _) fun v6 h5 => rfl)))
def k_Mo_text : List Ent := [(0, .iload_n 1, 1, [], .null), (1, .invokestatic 84, 3, [77, 1, 2], .null), (4, .ifCond .eq (9), 3, [13], .null), (7, .iload_n 2, 1, [], .null), (8, .bipush (80), 2, [], .int (80)), (10, .if_icmp .le (5), 3, [15], .null), (13, .iconst (-1), 1, [], .int (-1)), (14, .ireturn, 1, [], .null), (15, .iload_n 2, 1, [], .null), (16, .ifCond .ge (9), 3, [25], .null), (19, .aload_n 0, 1, [], .null), (20, .iconst 5, 1, [], .int (5)), (21, .invokevirtual 80, 3, [72, 2, 1, 7], .null), (24, .ireturn, 1, [], .null), (25, .aload_n 0, 1, [], .null), (26, .getfield 22, 3, [7, 6, 1], .null), (29, .iload_n 1, 1, [], .null), (30, .iload_n 2, 1, [], .null), (31, .iastore, 1, [], .null), (32, .iconst 0, 1, [], .int (0)), (33, .istore_n 3, 1, [], .null), (34, .iload_n 3, 1, [], .null), (35, .bipush (80), 2, [], .int (80)), (37, .if_icmp .ge (22), 3, [59], .null), (40, .aload_n 0, 1, [], .null), (41, .getfield 25, 3, [7, 7, 1], .null), (44, .bipush (80), 2, [], .int (80)), (46, .iload_n 1, 1, [], .null), (47, .imul, 1, [], .null), (48, .iload_n 3, 1, [], .null), (49, .iadd, 1, [], .null), (50, .bipush (32), 2, [], .int (32)), (52, .iastore, 1, [], .null), (53, .iinc 3 (1), 3, [], .int (1)), (56, .goto (-22), 3, [34], .null), (59, .iload_n 2, 1, [], .null), (60, .ireturn, 1, [], .null)]
def Mo_text_34    : (Int32 × Int32 × Int32 × Hp) → ((Int32 × Int32 × Int32 × Hp) → Res Hp) → Res Hp := fun s κ34 => match s with
  | (x1, x2, x3, h) =>
  if (80 : Int32) ≤ x3 then
  (retI x2 h)
  else
  (bif okA 184 100 (((80 : Int32) * x1) + x3) then
  bH (hs h 184 (((80 : Int32) * x1) + x3).toNatClampNeg (32 : Int32)) fun h1 =>
  κ34 (x1, x2, (x3 + (1 : Int32)), h1)
  else none)
def F_Mo_text (x1 : Int32) (x2 : Int32) (h : Hp) : Res Hp :=
  bI (F_Mo_isText x1 h) fun v2 h1 =>
  if v2 = (0 : Int32) then
  (retI (-1 : Int32) h1)
  else
  (if x2 ≤ (80 : Int32) then
  (if (0 : Int32) ≤ x2 then
  (bif okA 183 100 x1 then
  bH (hs h1 183 x1.toNatClampNeg x2) fun h3 =>
  loopC (Mo_text_34   ) FU (x1, x2, (0 : Int32), h3)
  else none)
  else
  (bI (F_Mo_meetWith (5 : Int32) h1) fun v5 h4 =>
  retI v5 h4))
  else
  (retI (-1 : Int32) h1))
def sF_Mo_text : List Value → Hp → Res Hp := fun as h => match as with | [.ref f0, .int x1, .int x2] => (match Nat.beq f0 178 with | true => F_Mo_text x1 x2 h | false => none) | _ => none
theorem w_Mo_text (x1 : Int32) (x2 : Int32) (h : Hp) : sF_Mo_text [.ref 178, .int x1, .int x2] h = F_Mo_text x1 x2 h := rfl
def S_Mo_text : Sem Hp := [(77, sF_Mo_isText), (72, sF_Mo_meetWith)]
set_option maxRecDepth 100000 in
theorem e_Mo_text_0 (x1 : Int32) (x2 : Int32) (h : Hp) : F_Mo_text x1 x2 h = exec1 OI S_Mo_text 1 k_Mo_text 0 [some (.ref 178), some (.int x1), some (.int x2), none] [] h (runF OI S_Mo_text [(34, [0, 1, 2, 3], fun vs st h => match vs, st with | [.ref f0, .int x1, .int x2, .int x3], [] => (match Nat.beq f0 178 with | true => loopC (Mo_text_34   ) FU (x1, x2, x3, h) | false => none) | _, _ => none)] 1 k_Mo_text 400) :=
  (x_bI (f := sF_Mo_isText) rfl (w_Mo_isText _ _) fun v2 h1 => (x_ite rfl (x_ite (x_ite (x_bif (x_bH fun h3 => rfl)) (x_bI (f := sF_Mo_meetWith) rfl (w_Mo_meetWith _ _) fun v5 h4 => rfl)) rfl)))
set_option maxRecDepth 100000 in
theorem e_Mo_text_34 (κ34 : (Int32 × Int32 × Int32 × Hp) → Res Hp) (x1 : Int32) (x2 : Int32) (x3 : Int32)  (h : Hp) : Mo_text_34    (x1, x2, x3, h) κ34 = exec1 OI S_Mo_text 1 k_Mo_text 34 [some (.ref 178), some (.int x1), some (.int x2), some (.int x3)] [] h (runF OI S_Mo_text [(34, [0, 1, 2, 3], fun vs st h => match vs, st with | [.ref f0, .int x1, .int x2, .int x3], [] => (match Nat.beq f0 178 with | true => κ34 (x1, x2, x3, h) | false => none) | _, _ => none)] 1 k_Mo_text 400) :=
  (x_ite rfl (x_bif (x_bH fun h1 => rfl)))
def k_Mo_put : List Ent := [(0, .aload_n 0, 1, [], .null), (1, .iload_n 1, 1, [], .null), (2, .invokevirtual 104, 3, [79, 2, 1, 7], .null), (5, .istore 4, 2, [], .null), (7, .iload 4, 2, [], .null), (9, .ifCond .ge (6), 3, [15], .null), (12, .iload 4, 2, [], .null), (14, .ireturn, 1, [], .null), (15, .iload_n 2, 1, [], .null), (16, .iconst 0, 1, [], .int (0)), (17, .aload_n 0, 1, [], .null), (18, .getfield 22, 3, [7, 6, 1], .null), (21, .iload_n 1, 1, [], .null), (22, .iaload, 1, [], .null), (23, .iconst 1, 1, [], .int (1)), (24, .isub, 1, [], .null), (25, .invokestatic 72, 3, [71, 3, 2], .null), (28, .ifCond .ne (9), 3, [37], .null), (31, .aload_n 0, 1, [], .null), (32, .iconst 2, 1, [], .int (2)), (33, .invokevirtual 80, 3, [72, 2, 1, 7], .null), (36, .ireturn, 1, [], .null), (37, .aload_n 0, 1, [], .null), (38, .getfield 25, 3, [7, 7, 1], .null), (41, .bipush (80), 2, [], .int (80)), (43, .iload_n 1, 1, [], .null), (44, .imul, 1, [], .null), (45, .iload_n 2, 1, [], .null), (46, .iadd, 1, [], .null), (47, .iaload, 1, [], .null), (48, .istore 5, 2, [], .null), (50, .aload_n 0, 1, [], .null), (51, .getfield 25, 3, [7, 7, 1], .null), (54, .bipush (80), 2, [], .int (80)), (56, .iload_n 1, 1, [], .null), (57, .imul, 1, [], .null), (58, .iload_n 2, 1, [], .null), (59, .iadd, 1, [], .null), (60, .iload_n 3, 1, [], .null), (61, .i2b, 1, [], .null), (62, .iastore, 1, [], .null), (63, .iload 5, 2, [], .null), (65, .sipush (1000), 3, [], .int (1000)), (68, .iadd, 1, [], .null), (69, .ireturn, 1, [], .null)]
def F_Mo_put (x1 : Int32) (x2 : Int32) (x3 : Int32) (h : Hp) : Res Hp :=
  bI (F_Mo_askedText x1 h) fun v2 h1 =>
  if (0 : Int32) ≤ v2 then
  (bif okA 183 100 x1 then
  bI (F_Mo_in x2 (0 : Int32) ((hg h1 183 x1.toNatClampNeg) - (1 : Int32)) h1) fun v4 h3 =>
  if v4 = (0 : Int32) then
  (bI (F_Mo_meetWith (2 : Int32) h3) fun v7 h6 =>
  retI v7 h6)
  else
  (bif okA 184 100 (((80 : Int32) * x1) + x2) then
  bif okA 184 100 (((80 : Int32) * x1) + x2) then
  bH (hs h3 184 (((80 : Int32) * x1) + x2).toNatClampNeg x3.toInt8.toInt32) fun h5 =>
  retI ((hg h3 184 (((80 : Int32) * x1) + x2).toNatClampNeg) + (1000 : Int32)) h5
  else none
  else none)
  else none)
  else
  (retI v2 h1)
def sF_Mo_put : List Value → Hp → Res Hp := fun as h => match as with | [.ref f0, .int x1, .int x2, .int x3] => (match Nat.beq f0 178 with | true => F_Mo_put x1 x2 x3 h | false => none) | _ => none
theorem w_Mo_put (x1 : Int32) (x2 : Int32) (x3 : Int32) (h : Hp) : sF_Mo_put [.ref 178, .int x1, .int x2, .int x3] h = F_Mo_put x1 x2 x3 h := rfl
def S_Mo_put : Sem Hp := [(79, sF_Mo_askedText), (71, sF_Mo_in), (72, sF_Mo_meetWith)]
set_option maxRecDepth 100000 in
theorem e_Mo_put_0 (x1 : Int32) (x2 : Int32) (x3 : Int32) (h : Hp) : F_Mo_put x1 x2 x3 h = exec1 OI S_Mo_put 1 k_Mo_put 0 [some (.ref 178), some (.int x1), some (.int x2), some (.int x3), none, none] [] h (runF OI S_Mo_put [] 1 k_Mo_put 400) :=
  (x_bI (f := sF_Mo_askedText) rfl (w_Mo_askedText _ _) fun v2 h1 => (x_ite (x_bif (x_bI (f := sF_Mo_in) rfl (w_Mo_in _ _ _ _) fun v4 h3 => (x_ite (x_bI (f := sF_Mo_meetWith) rfl (w_Mo_meetWith _ _) fun v7 h6 => rfl) (x_bif (x_bif (x_bH fun h5 => rfl)))))) rfl))
def k_Mo_here : List Ent := [(0, .aload_n 0, 1, [], .null), (1, .getfield 107, 3, [7, 16, 0], .null), (4, .aload_n 0, 1, [], .null), (5, .getfield 22, 3, [7, 6, 1], .null), (8, .iload_n 1, 1, [], .null), (9, .iaload, 1, [], .null), (10, .if_icmp .ge (20), 3, [30], .null), (13, .aload_n 0, 1, [], .null), (14, .getfield 25, 3, [7, 7, 1], .null), (17, .bipush (80), 2, [], .int (80)), (19, .iload_n 1, 1, [], .null), (20, .imul, 1, [], .null), (21, .aload_n 0, 1, [], .null), (22, .getfield 107, 3, [7, 16, 0], .null), (25, .iadd, 1, [], .null), (26, .iaload, 1, [], .null), (27, .goto (5), 3, [32], .null), (30, .bipush (-9), 2, [], .int (-9)), (32, .ireturn, 1, [], .null)]
def F_Mo_here (x1 : Int32) (h : Hp) : Res Hp :=
  bif okA 183 100 x1 then
  if (hg h 183 x1.toNatClampNeg) ≤ (hg h 178 16) then
  (retI (-9 : Int32) h)
  else
  (bif okA 184 100 (((80 : Int32) * x1) + (hg h 178 16)) then
  retI (hg h 184 (((80 : Int32) * x1) + (hg h 178 16)).toNatClampNeg) h
  else none)
  else none
def sF_Mo_here : List Value → Hp → Res Hp := fun as h => match as with | [.ref f0, .int x1] => (match Nat.beq f0 178 with | true => F_Mo_here x1 h | false => none) | _ => none
theorem w_Mo_here (x1 : Int32) (h : Hp) : sF_Mo_here [.ref 178, .int x1] h = F_Mo_here x1 h := rfl
def S_Mo_here : Sem Hp := []
set_option maxRecDepth 100000 in
theorem e_Mo_here_0 (x1 : Int32) (h : Hp) : F_Mo_here x1 h = exec1 OI S_Mo_here 1 k_Mo_here 0 [some (.ref 178), some (.int x1)] [] h (runF OI S_Mo_here [] 1 k_Mo_here 400) :=
  (x_bif (x_ite rfl (x_bif rfl)))
def k_Mo_kindOf : List Ent := [(0, .iload_n 0, 1, [], .null), (1, .bipush (104), 2, [], .int (104)), (3, .if_icmp .ne (7), 3, [10], .null), (6, .iconst 0, 1, [], .int (0)), (7, .goto (55), 3, [62], .null), (10, .iload_n 0, 1, [], .null), (11, .bipush (99), 2, [], .int (99)), (13, .if_icmp .ne (7), 3, [20], .null), (16, .iconst 1, 1, [], .int (1)), (17, .goto (45), 3, [62], .null), (20, .iload_n 0, 1, [], .null), (21, .bipush (115), 2, [], .int (115)), (23, .if_icmp .ne (7), 3, [30], .null), (26, .iconst 2, 1, [], .int (2)), (27, .goto (35), 3, [62], .null), (30, .iload_n 0, 1, [], .null), (31, .bipush (108), 2, [], .int (108)), (33, .if_icmp .ne (7), 3, [40], .null), (36, .iconst 3, 1, [], .int (3)), (37, .goto (25), 3, [62], .null), (40, .iload_n 0, 1, [], .null), (41, .bipush (117), 2, [], .int (117)), (43, .if_icmp .ne (7), 3, [50], .null), (46, .iconst 4, 1, [], .int (4)), (47, .goto (15), 3, [62], .null), (50, .iload_n 0, 1, [], .null), (51, .bipush (121), 2, [], .int (121)), (53, .if_icmp .ne (7), 3, [60], .null), (56, .iconst 5, 1, [], .int (5)), (57, .goto (5), 3, [62], .null), (60, .bipush (-9), 2, [], .int (-9)), (62, .ireturn, 1, [], .null)]
def F_Mo_kindOf (x0 : Int32) (h : Hp) : Res Hp :=
  if x0 = (104 : Int32) then
  (retI (0 : Int32) h)
  else
  (if x0 = (99 : Int32) then
  (retI (1 : Int32) h)
  else
  (if x0 = (115 : Int32) then
  (retI (2 : Int32) h)
  else
  (if x0 = (108 : Int32) then
  (retI (3 : Int32) h)
  else
  (if x0 = (117 : Int32) then
  (retI (4 : Int32) h)
  else
  (if x0 = (121 : Int32) then
  (retI (5 : Int32) h)
  else
  (retI (-9 : Int32) h))))))
def sF_Mo_kindOf : List Value → Hp → Res Hp := fun as h => match as with | [.int x0] => F_Mo_kindOf x0 h | _ => none
theorem w_Mo_kindOf (x0 : Int32) (h : Hp) : sF_Mo_kindOf [.int x0] h = F_Mo_kindOf x0 h := rfl
def S_Mo_kindOf : Sem Hp := []
set_option maxRecDepth 100000 in
theorem e_Mo_kindOf_0 (x0 : Int32) (h : Hp) : F_Mo_kindOf x0 h = exec1 OI S_Mo_kindOf 1 k_Mo_kindOf 0 [some (.int x0)] [] h (runF OI S_Mo_kindOf [] 1 k_Mo_kindOf 400) :=
  (x_ite rfl (x_ite rfl (x_ite rfl (x_ite rfl (x_ite rfl (x_ite rfl rfl))))))
def k_Mo_readsHand : List Ent := [(0, .aload_n 0, 1, [], .null), (1, .iload_n 1, 1, [], .null), (2, .invokevirtual 110, 3, [90, 2, 1, 7], .null), (5, .invokestatic 113, 3, [91, 1, 1], .null), (8, .istore_n 2, 1, [], .null), (9, .iload_n 2, 1, [], .null), (10, .bipush (-9), 2, [], .int (-9)), (12, .if_icmp .eq (19), 3, [31], .null), (15, .aload_n 0, 1, [], .null), (16, .getfield 116, 3, [7, 18, 0], .null), (19, .ifCond .gt (12), 3, [31], .null), (22, .aload_n 0, 1, [], .null), (23, .getfield 119, 3, [7, 17, 0], .null), (26, .bipush (7), 2, [], .int (7)), (28, .if_icmp .ne (5), 3, [33], .null), (31, .iconst 0, 1, [], .int (0)), (32, .ireturn, 1, [], .null), (33, .aload_n 0, 1, [], .null), (34, .dup, 1, [], .null), (35, .getfield 107, 3, [7, 16, 0], .null), (38, .iconst 1, 1, [], .int (1)), (39, .iadd, 1, [], .null), (40, .putfield 107, 3, [7, 16, 0], .null), (43, .iconst 0, 1, [], .int (0)), (44, .istore_n 3, 1, [], .null), (45, .aload_n 0, 1, [], .null), (46, .iload_n 1, 1, [], .null), (47, .invokevirtual 110, 3, [90, 2, 1, 7], .null), (50, .bipush (48), 2, [], .int (48)), (52, .bipush (57), 2, [], .int (57)), (54, .invokestatic 72, 3, [71, 3, 2], .null), (57, .ifCond .eq (48), 3, [105], .null), (60, .aload_n 0, 1, [], .null), (61, .iload_n 1, 1, [], .null), (62, .invokevirtual 110, 3, [90, 2, 1, 7], .null), (65, .bipush (48), 2, [], .int (48)), (67, .isub, 1, [], .null), (68, .istore 4, 2, [], .null), (70, .iload 4, 2, [], .null), (72, .iconst 5, 1, [], .int (5)), (73, .if_icmp .ge (10), 3, [83], .null), (76, .iload_n 3, 1, [], .null), (77, .iload 4, 2, [], .null), (79, .ishr, 1, [], .null), (80, .ifCond .eq (5), 3, [85], .null), (83, .iconst 0, 1, [], .int (0)), (84, .ireturn, 1, [], .null), (85, .iload_n 3, 1, [], .null), (86, .iconst 1, 1, [], .int (1)), (87, .iload 4, 2, [], .null), (89, .ishl, 1, [], .null), (90, .ior, 1, [], .null), (91, .istore_n 3, 1, [], .null), (92, .aload_n 0, 1, [], .null), (93, .dup, 1, [], .null), (94, .getfield 107, 3, [7, 16, 0], .null), (97, .iconst 1, 1, [], .int (1)), (98, .iadd, 1, [], .null), (99, .putfield 107, 3, [7, 16, 0], .null), (102, .goto (-57), 3, [45], .null), (105, .aload_n 0, 1, [], .null), (106, .getfield 40, 3, [7, 19, 1], .null), (109, .aload_n 0, 1, [], .null), (110, .getfield 119, 3, [7, 17, 0], .null), (113, .iload_n 2, 1, [], .null), (114, .iastore, 1, [], .null), (115, .aload_n 0, 1, [], .null), (116, .getfield 43, 3, [7, 20, 1], .null), (119, .aload_n 0, 1, [], .null), (120, .getfield 119, 3, [7, 17, 0], .null), (123, .iload_n 3, 1, [], .null), (124, .iastore, 1, [], .null), (125, .aload_n 0, 1, [], .null), (126, .dup, 1, [], .null), (127, .getfield 119, 3, [7, 17, 0], .null), (130, .iconst 1, 1, [], .int (1)), (131, .iadd, 1, [], .null), (132, .putfield 119, 3, [7, 17, 0], .null), (135, .iconst 1, 1, [], .int (1)), (136, .ireturn, 1, [], .null)]
def Mo_readsHand_45    : (Int32 × Int32 × Int32 × Hp) → ((Int32 × Int32 × Int32 × Hp) → Res Hp) → Res Hp := fun s κ45 => match s with
  | (x1, x2, x3, h) =>
  bI (F_Mo_here x1 h) fun v2 h1 =>
  bI (F_Mo_in v2 (48 : Int32) (57 : Int32) h1) fun v4 h3 =>
  if v4 = (0 : Int32) then
  (bif okA 189 100 (hg h3 178 17) then
  bH (hs h3 189 (hg h3 178 17).toNatClampNeg x2) fun h5 =>
  bif okA 190 100 (hg h5 178 17) then
  bH (hs h5 190 (hg h5 178 17).toNatClampNeg x3) fun h6 =>
  bH (hs h6 178 17 ((hg h6 178 17) + (1 : Int32))) fun h7 =>
  retZ (1 : Int32) h7
  else none
  else none)
  else
  (bI (F_Mo_here x1 h3) fun v9 h8 =>
  if (5 : Int32) ≤ (v9 - (48 : Int32)) then
  (retZ (0 : Int32) h8)
  else
  (if (x3 >>> ((v9 - (48 : Int32)) &&& 31)) = (0 : Int32) then
  (bH (hs h8 178 16 ((hg h8 178 16) + (1 : Int32))) fun h10 =>
  κ45 (x1, x2, (x3 ||| ((1 : Int32) <<< ((v9 - (48 : Int32)) &&& 31))), h10))
  else
  (retZ (0 : Int32) h8)))
def F_Mo_readsHand (x1 : Int32) (h : Hp) : Res Hp :=
  bI (F_Mo_here x1 h) fun v2 h1 =>
  bI (F_Mo_kindOf v2 h1) fun v4 h3 =>
  if v4 = (-9 : Int32) then
  (retZ (0 : Int32) h3)
  else
  (if (0 : Int32) < (hg h3 178 18) then
  (retZ (0 : Int32) h3)
  else
  (if (hg h3 178 17) = (7 : Int32) then
  (retZ (0 : Int32) h3)
  else
  (bH (hs h3 178 16 ((hg h3 178 16) + (1 : Int32))) fun h5 =>
  loopC (Mo_readsHand_45   ) FU (x1, v4, (0 : Int32), h5))))
def sF_Mo_readsHand : List Value → Hp → Res Hp := fun as h => match as with | [.ref f0, .int x1] => (match Nat.beq f0 178 with | true => F_Mo_readsHand x1 h | false => none) | _ => none
theorem w_Mo_readsHand (x1 : Int32) (h : Hp) : sF_Mo_readsHand [.ref 178, .int x1] h = F_Mo_readsHand x1 h := rfl
def S_Mo_readsHand : Sem Hp := [(90, sF_Mo_here), (91, sF_Mo_kindOf), (71, sF_Mo_in)]
set_option maxRecDepth 100000 in
theorem e_Mo_readsHand_0 (x1 : Int32) (h : Hp) : F_Mo_readsHand x1 h = exec1 OI S_Mo_readsHand 2 k_Mo_readsHand 0 [some (.ref 178), some (.int x1), none, none, none] [] h (runF OI S_Mo_readsHand [(45, [0, 1, 2, 3], fun vs st h => match vs, st with | [.ref f0, .int x1, .int x2, .int x3], [] => (match Nat.beq f0 178 with | true => loopC (Mo_readsHand_45   ) FU (x1, x2, x3, h) | false => none) | _, _ => none)] 2 k_Mo_readsHand 400) :=
  (x_bI (f := sF_Mo_here) rfl (w_Mo_here _ _) fun v2 h1 => (x_bI (f := sF_Mo_kindOf) rfl (w_Mo_kindOf _ _) fun v4 h3 => (x_ite rfl (x_ite rfl (x_ite rfl (x_bH fun h5 => rfl))))))
set_option maxRecDepth 100000 in
theorem e_Mo_readsHand_45 (κ45 : (Int32 × Int32 × Int32 × Hp) → Res Hp) (x1 : Int32) (x2 : Int32) (x3 : Int32)  (h : Hp) : Mo_readsHand_45    (x1, x2, x3, h) κ45 = exec1 OI S_Mo_readsHand 2 k_Mo_readsHand 45 [some (.ref 178), some (.int x1), some (.int x2), some (.int x3), none] [] h (runF OI S_Mo_readsHand [(45, [0, 1, 2, 3], fun vs st h => match vs, st with | [.ref f0, .int x1, .int x2, .int x3], [] => (match Nat.beq f0 178 with | true => κ45 (x1, x2, x3, h) | false => none) | _, _ => none)] 2 k_Mo_readsHand 400) :=
  (x_bI (f := sF_Mo_here) rfl (w_Mo_here _ _) fun v2 h1 => (x_bI (f := sF_Mo_in) rfl (w_Mo_in _ _ _ _) fun v4 h3 => (x_ite (x_bif (x_bH fun h5 => (x_bif (x_bH fun h6 => (x_bH fun h7 => rfl))))) (x_bI (f := sF_Mo_here) rfl (w_Mo_here _ _) fun v9 h8 => (x_ite rfl (x_ite (x_bH fun h10 => rfl) rfl))))))
def k_Mo_readsMeeting : List Ent := [(0, .aload_n 0, 1, [], .null), (1, .getfield 116, 3, [7, 18, 0], .null), (4, .bipush (16), 2, [], .int (16)), (6, .if_icmp .ne (5), 3, [11], .null), (9, .iconst 0, 1, [], .int (0)), (10, .ireturn, 1, [], .null), (11, .aload_n 0, 1, [], .null), (12, .dup, 1, [], .null), (13, .getfield 107, 3, [7, 16, 0], .null), (16, .iconst 1, 1, [], .int (1)), (17, .iadd, 1, [], .null), (18, .putfield 107, 3, [7, 16, 0], .null), (21, .iconst 3, 1, [], .int (3)), (22, .aload_n 0, 1, [], .null), (23, .getfield 116, 3, [7, 18, 0], .null), (26, .imul, 1, [], .null), (27, .istore_n 2, 1, [], .null), (28, .iconst 0, 1, [], .int (0)), (29, .istore_n 3, 1, [], .null), (30, .iload_n 3, 1, [], .null), (31, .iconst 3, 1, [], .int (3)), (32, .if_icmp .ge (82), 3, [114], .null), (35, .aload_n 0, 1, [], .null), (36, .iload_n 1, 1, [], .null), (37, .invokevirtual 110, 3, [90, 2, 1, 7], .null), (40, .bipush (48), 2, [], .int (48)), (42, .isub, 1, [], .null), (43, .istore 4, 2, [], .null), (45, .iload 4, 2, [], .null), (47, .iconst 0, 1, [], .int (0)), (48, .iload_n 3, 1, [], .null), (49, .iconst 2, 1, [], .int (2)), (50, .if_icmp .ne (8), 3, [58], .null), (53, .bipush (7), 2, [], .int (7)), (55, .goto (9), 3, [64], .null), (58, .aload_n 0, 1, [], .null), (59, .getfield 119, 3, [7, 17, 0], .null), (62, .iconst 1, 1, [], .int (1)), (63, .isub, 1, [], .null), (64, .invokestatic 72, 3, [71, 3, 2], .null), (67, .ifCond .eq (19), 3, [86], .null), (70, .iload_n 3, 1, [], .null), (71, .iconst 1, 1, [], .int (1)), (72, .if_icmp .ne (16), 3, [88], .null), (75, .iload 4, 2, [], .null), (77, .aload_n 0, 1, [], .null), (78, .getfield 46, 3, [7, 21, 1], .null), (81, .iload_n 2, 1, [], .null), (82, .iaload, 1, [], .null), (83, .if_icmp .ne (5), 3, [88], .null), (86, .iconst 0, 1, [], .int (0)), (87, .ireturn, 1, [], .null), (88, .aload_n 0, 1, [], .null), (89, .getfield 46, 3, [7, 21, 1], .null), (92, .iload_n 2, 1, [], .null), (93, .iload_n 3, 1, [], .null), (94, .iadd, 1, [], .null), (95, .iload 4, 2, [], .null), (97, .iastore, 1, [], .null), (98, .aload_n 0, 1, [], .null), (99, .dup, 1, [], .null), (100, .getfield 107, 3, [7, 16, 0], .null), (103, .iconst 1, 1, [], .int (1)), (104, .iadd, 1, [], .null), (105, .putfield 107, 3, [7, 16, 0], .null), (108, .iinc 3 (1), 3, [], .int (1)), (111, .goto (-81), 3, [30], .null), (114, .aload_n 0, 1, [], .null), (115, .dup, 1, [], .null), (116, .getfield 116, 3, [7, 18, 0], .null), (119, .iconst 1, 1, [], .int (1)), (120, .iadd, 1, [], .null), (121, .putfield 116, 3, [7, 18, 0], .null), (124, .iconst 1, 1, [], .int (1)), (125, .ireturn, 1, [], .null)]
def Mo_readsMeeting_30    : (Int32 × Int32 × Int32 × Hp) → ((Int32 × Int32 × Int32 × Hp) → Res Hp) → Res Hp := fun s κ30 => match s with
  | (x1, x2, x3, h) =>
  if (3 : Int32) ≤ x3 then
  (bH (hs h 178 18 ((hg h 178 18) + (1 : Int32))) fun h1 =>
  retZ (1 : Int32) h1)
  else
  (bI (F_Mo_here x1 h) fun v3 h2 =>
  if x3 = (2 : Int32) then
  (bI (F_Mo_in (v3 - (48 : Int32)) (0 : Int32) (7 : Int32) h2) fun v11 h10 =>
  if v11 = (0 : Int32) then
  (retZ (0 : Int32) h10)
  else
  (if x3 = (1 : Int32) then
  (bif okA 191 100 x2 then
  if (v3 - (48 : Int32)) = (hg h10 191 x2.toNatClampNeg) then
  (retZ (0 : Int32) h10)
  else
  (bif okA 191 100 (x2 + x3) then
  bH (hs h10 191 (x2 + x3).toNatClampNeg (v3 - (48 : Int32))) fun h14 =>
  bH (hs h14 178 16 ((hg h14 178 16) + (1 : Int32))) fun h15 =>
  κ30 (x1, x2, (x3 + (1 : Int32)), h15)
  else none)
  else none)
  else
  (bif okA 191 100 (x2 + x3) then
  bH (hs h10 191 (x2 + x3).toNatClampNeg (v3 - (48 : Int32))) fun h12 =>
  bH (hs h12 178 16 ((hg h12 178 16) + (1 : Int32))) fun h13 =>
  κ30 (x1, x2, (x3 + (1 : Int32)), h13)
  else none)))
  else
  (bI (F_Mo_in (v3 - (48 : Int32)) (0 : Int32) ((hg h2 178 17) - (1 : Int32)) h2) fun v5 h4 =>
  if v5 = (0 : Int32) then
  (retZ (0 : Int32) h4)
  else
  (if x3 = (1 : Int32) then
  (bif okA 191 100 x2 then
  if (v3 - (48 : Int32)) = (hg h4 191 x2.toNatClampNeg) then
  (retZ (0 : Int32) h4)
  else
  (bif okA 191 100 (x2 + x3) then
  bH (hs h4 191 (x2 + x3).toNatClampNeg (v3 - (48 : Int32))) fun h8 =>
  bH (hs h8 178 16 ((hg h8 178 16) + (1 : Int32))) fun h9 =>
  κ30 (x1, x2, (x3 + (1 : Int32)), h9)
  else none)
  else none)
  else
  (bif okA 191 100 (x2 + x3) then
  bH (hs h4 191 (x2 + x3).toNatClampNeg (v3 - (48 : Int32))) fun h6 =>
  bH (hs h6 178 16 ((hg h6 178 16) + (1 : Int32))) fun h7 =>
  κ30 (x1, x2, (x3 + (1 : Int32)), h7)
  else none))))
def F_Mo_readsMeeting (x1 : Int32) (h : Hp) : Res Hp :=
  if (hg h 178 18) = (16 : Int32) then
  (retZ (0 : Int32) h)
  else
  (bH (hs h 178 16 ((hg h 178 16) + (1 : Int32))) fun h1 =>
  loopC (Mo_readsMeeting_30   ) FU (x1, ((3 : Int32) * (hg h1 178 18)), (0 : Int32), h1))
def sF_Mo_readsMeeting : List Value → Hp → Res Hp := fun as h => match as with | [.ref f0, .int x1] => (match Nat.beq f0 178 with | true => F_Mo_readsMeeting x1 h | false => none) | _ => none
theorem w_Mo_readsMeeting (x1 : Int32) (h : Hp) : sF_Mo_readsMeeting [.ref 178, .int x1] h = F_Mo_readsMeeting x1 h := rfl
def S_Mo_readsMeeting : Sem Hp := [(90, sF_Mo_here), (71, sF_Mo_in)]
set_option maxRecDepth 100000 in
theorem e_Mo_readsMeeting_0 (x1 : Int32) (h : Hp) : F_Mo_readsMeeting x1 h = exec1 OI S_Mo_readsMeeting 2 k_Mo_readsMeeting 0 [some (.ref 178), some (.int x1), none, none, none] [] h (runF OI S_Mo_readsMeeting [(30, [0, 1, 2, 3], fun vs st h => match vs, st with | [.ref f0, .int x1, .int x2, .int x3], [] => (match Nat.beq f0 178 with | true => loopC (Mo_readsMeeting_30   ) FU (x1, x2, x3, h) | false => none) | _, _ => none)] 2 k_Mo_readsMeeting 400) :=
  (x_ite rfl (x_bH fun h1 => rfl))
set_option maxRecDepth 100000 in
theorem e_Mo_readsMeeting_30 (κ30 : (Int32 × Int32 × Int32 × Hp) → Res Hp) (x1 : Int32) (x2 : Int32) (x3 : Int32)  (h : Hp) : Mo_readsMeeting_30    (x1, x2, x3, h) κ30 = exec1 OI S_Mo_readsMeeting 2 k_Mo_readsMeeting 30 [some (.ref 178), some (.int x1), some (.int x2), some (.int x3), none] [] h (runF OI S_Mo_readsMeeting [(30, [0, 1, 2, 3], fun vs st h => match vs, st with | [.ref f0, .int x1, .int x2, .int x3], [] => (match Nat.beq f0 178 with | true => κ30 (x1, x2, x3, h) | false => none) | _, _ => none)] 2 k_Mo_readsMeeting 400) :=
  (x_ite (x_bH fun h1 => rfl) (x_bI (f := sF_Mo_here) rfl (w_Mo_here _ _) fun v3 h2 => (x_ite (x_bI (f := sF_Mo_in) rfl (w_Mo_in _ _ _ _) fun v11 h10 => (x_ite rfl (x_ite (x_bif (x_ite rfl (x_bif (x_bH fun h14 => (x_bH fun h15 => rfl))))) (x_bif (x_bH fun h12 => (x_bH fun h13 => rfl)))))) (x_bI (f := sF_Mo_in) rfl (w_Mo_in _ _ _ _) fun v5 h4 => (x_ite rfl (x_ite (x_bif (x_ite rfl (x_bif (x_bH fun h8 => (x_bH fun h9 => rfl))))) (x_bif (x_bH fun h6 => (x_bH fun h7 => rfl)))))))))
def k_Mo_goesOn : List Ent := [(0, .aload_n 0, 1, [], .null), (1, .iconst 0, 1, [], .int (0)), (2, .putfield 107, 3, [7, 16, 0], .null), (5, .aload_n 0, 1, [], .null), (6, .iconst 0, 1, [], .int (0)), (7, .putfield 119, 3, [7, 17, 0], .null), (10, .aload_n 0, 1, [], .null), (11, .iconst 0, 1, [], .int (0)), (12, .putfield 116, 3, [7, 18, 0], .null), (15, .aload_n 0, 1, [], .null), (16, .getfield 107, 3, [7, 16, 0], .null), (19, .aload_n 0, 1, [], .null), (20, .getfield 22, 3, [7, 6, 1], .null), (23, .iload_n 1, 1, [], .null), (24, .iaload, 1, [], .null), (25, .if_icmp .ge (60), 3, [85], .null), (28, .aload_n 0, 1, [], .null), (29, .iload_n 1, 1, [], .null), (30, .invokevirtual 110, 3, [90, 2, 1, 7], .null), (33, .bipush (32), 2, [], .int (32)), (35, .if_icmp .ne (16), 3, [51], .null), (38, .aload_n 0, 1, [], .null), (39, .dup, 1, [], .null), (40, .getfield 107, 3, [7, 16, 0], .null), (43, .iconst 1, 1, [], .int (1)), (44, .iadd, 1, [], .null), (45, .putfield 107, 3, [7, 16, 0], .null), (48, .goto (-33), 3, [15], .null), (51, .aload_n 0, 1, [], .null), (52, .iload_n 1, 1, [], .null), (53, .invokevirtual 110, 3, [90, 2, 1, 7], .null), (56, .bipush (109), 2, [], .int (109)), (58, .if_icmp .ne (14), 3, [72], .null), (61, .aload_n 0, 1, [], .null), (62, .iload_n 1, 1, [], .null), (63, .invokevirtual 122, 3, [93, 2, 2, 7], .null), (66, .ifCond .ne (-51), 3, [15], .null), (69, .goto (11), 3, [80], .null), (72, .aload_n 0, 1, [], .null), (73, .iload_n 1, 1, [], .null), (74, .invokevirtual 125, 3, [92, 2, 2, 7], .null), (77, .ifCond .ne (-62), 3, [15], .null), (80, .aload_n 0, 1, [], .null), (81, .getfield 107, 3, [7, 16, 0], .null), (84, .ireturn, 1, [], .null), (85, .bipush (-9), 2, [], .int (-9)), (87, .ireturn, 1, [], .null)]
def Mo_goesOn_15    : (Int32 × Hp) → ((Int32 × Hp) → Res Hp) → Res Hp := fun s κ15 => match s with
  | (x1, h) =>
  bif okA 183 100 x1 then
  if (hg h 183 x1.toNatClampNeg) ≤ (hg h 178 16) then
  (retI (-9 : Int32) h)
  else
  (bI (F_Mo_here x1 h) fun v2 h1 =>
  if v2 = (32 : Int32) then
  (bH (hs h1 178 16 ((hg h1 178 16) + (1 : Int32))) fun h9 =>
  κ15 (x1, h9))
  else
  (bI (F_Mo_here x1 h1) fun v4 h3 =>
  if v4 = (109 : Int32) then
  (bI (F_Mo_readsMeeting x1 h3) fun v8 h7 =>
  if v8 = (0 : Int32) then
  (retI (hg h7 178 16) h7)
  else
  (κ15 (x1, h7)))
  else
  (bI (F_Mo_readsHand x1 h3) fun v6 h5 =>
  if v6 = (0 : Int32) then
  (retI (hg h5 178 16) h5)
  else
  (κ15 (x1, h5)))))
  else none
def F_Mo_goesOn (x1 : Int32) (h : Hp) : Res Hp :=
  bH (hs h 178 16 (0 : Int32)) fun h1 =>
  bH (hs h1 178 17 (0 : Int32)) fun h2 =>
  bH (hs h2 178 18 (0 : Int32)) fun h3 =>
  loopC (Mo_goesOn_15   ) FU (x1, h3)
def sF_Mo_goesOn : List Value → Hp → Res Hp := fun as h => match as with | [.ref f0, .int x1] => (match Nat.beq f0 178 with | true => F_Mo_goesOn x1 h | false => none) | _ => none
theorem w_Mo_goesOn (x1 : Int32) (h : Hp) : sF_Mo_goesOn [.ref 178, .int x1] h = F_Mo_goesOn x1 h := rfl
def S_Mo_goesOn : Sem Hp := [(90, sF_Mo_here), (92, sF_Mo_readsHand), (93, sF_Mo_readsMeeting)]
set_option maxRecDepth 100000 in
theorem e_Mo_goesOn_0 (x1 : Int32) (h : Hp) : F_Mo_goesOn x1 h = exec1 OI S_Mo_goesOn 1 k_Mo_goesOn 0 [some (.ref 178), some (.int x1)] [] h (runF OI S_Mo_goesOn [(15, [0, 1], fun vs st h => match vs, st with | [.ref f0, .int x1], [] => (match Nat.beq f0 178 with | true => loopC (Mo_goesOn_15   ) FU (x1, h) | false => none) | _, _ => none)] 1 k_Mo_goesOn 400) :=
  (x_bH fun h1 => (x_bH fun h2 => (x_bH fun h3 => rfl)))
set_option maxRecDepth 100000 in
theorem e_Mo_goesOn_15 (κ15 : (Int32 × Hp) → Res Hp) (x1 : Int32)  (h : Hp) : Mo_goesOn_15    (x1, h) κ15 = exec1 OI S_Mo_goesOn 1 k_Mo_goesOn 15 [some (.ref 178), some (.int x1)] [] h (runF OI S_Mo_goesOn [(15, [0, 1], fun vs st h => match vs, st with | [.ref f0, .int x1], [] => (match Nat.beq f0 178 with | true => κ15 (x1, h) | false => none) | _, _ => none)] 1 k_Mo_goesOn 400) :=
  (x_bif (x_ite rfl (x_bI (f := sF_Mo_here) rfl (w_Mo_here _ _) fun v2 h1 => (x_ite (x_bH fun h9 => rfl) (x_bI (f := sF_Mo_here) rfl (w_Mo_here _ _) fun v4 h3 => (x_ite (x_bI (f := sF_Mo_readsMeeting) rfl (w_Mo_readsMeeting _ _) fun v8 h7 => (x_ite rfl rfl)) (x_bI (f := sF_Mo_readsHand) rfl (w_Mo_readsHand _ _) fun v6 h5 => (x_ite rfl rfl))))))))
def k_Mo_fault : List Ent := [(0, .aload_n 0, 1, [], .null), (1, .iload_n 1, 1, [], .null), (2, .invokevirtual 104, 3, [79, 2, 1, 7], .null), (5, .istore_n 2, 1, [], .null), (6, .iload_n 2, 1, [], .null), (7, .ifCond .ge (7), 3, [14], .null), (10, .iload_n 2, 1, [], .null), (11, .goto (8), 3, [19], .null), (14, .aload_n 0, 1, [], .null), (15, .iload_n 1, 1, [], .null), (16, .invokevirtual 128, 3, [94, 2, 1, 7], .null), (19, .ireturn, 1, [], .null)]
def F_Mo_fault (x1 : Int32) (h : Hp) : Res Hp :=
  bI (F_Mo_askedText x1 h) fun v2 h1 =>
  if (0 : Int32) ≤ v2 then
  (bI (F_Mo_goesOn x1 h1) fun v4 h3 =>
  retI v4 h3)
  else
  (retI v2 h1)
def sF_Mo_fault : List Value → Hp → Res Hp := fun as h => match as with | [.ref f0, .int x1] => (match Nat.beq f0 178 with | true => F_Mo_fault x1 h | false => none) | _ => none
theorem w_Mo_fault (x1 : Int32) (h : Hp) : sF_Mo_fault [.ref 178, .int x1] h = F_Mo_fault x1 h := rfl
def S_Mo_fault : Sem Hp := [(79, sF_Mo_askedText), (94, sF_Mo_goesOn)]
set_option maxRecDepth 100000 in
theorem e_Mo_fault_0 (x1 : Int32) (h : Hp) : F_Mo_fault x1 h = exec1 OI S_Mo_fault 1 k_Mo_fault 0 [some (.ref 178), some (.int x1), none] [] h (runF OI S_Mo_fault [] 1 k_Mo_fault 400) :=
  (x_bI (f := sF_Mo_askedText) rfl (w_Mo_askedText _ _) fun v2 h1 => (x_ite (x_bI (f := sF_Mo_goesOn) rfl (w_Mo_goesOn _ _) fun v4 h3 => rfl) rfl))
def k_Mo_land : List Ent := [(0, .aload_n 0, 1, [], .null), (1, .iload_n 1, 1, [], .null), (2, .invokevirtual 104, 3, [79, 2, 1, 7], .null), (5, .istore_n 2, 1, [], .null), (6, .iload_n 2, 1, [], .null), (7, .ifCond .ge (5), 3, [12], .null), (10, .iload_n 2, 1, [], .null), (11, .ireturn, 1, [], .null), (12, .aload_n 0, 1, [], .null), (13, .iload_n 1, 1, [], .null), (14, .invokevirtual 128, 3, [94, 2, 1, 7], .null), (17, .bipush (-9), 2, [], .int (-9)), (19, .if_icmp .eq (6), 3, [25], .null), (22, .bipush (-4), 2, [], .int (-4)), (24, .ireturn, 1, [], .null), (25, .aload_n 0, 1, [], .null), (26, .aload_n 0, 1, [], .null), (27, .getfield 119, 3, [7, 17, 0], .null), (30, .putfield 131, 3, [7, 8, 0], .null), (33, .aload_n 0, 1, [], .null), (34, .aload_n 0, 1, [], .null), (35, .getfield 116, 3, [7, 18, 0], .null), (38, .putfield 134, 3, [7, 11, 0], .null), (41, .iconst 0, 1, [], .int (0)), (42, .istore_n 3, 1, [], .null), (43, .iload_n 3, 1, [], .null), (44, .bipush (7), 2, [], .int (7)), (46, .if_icmp .ge (33), 3, [79], .null), (49, .aload_n 0, 1, [], .null), (50, .getfield 28, 3, [7, 9, 1], .null), (53, .iload_n 3, 1, [], .null), (54, .aload_n 0, 1, [], .null), (55, .getfield 40, 3, [7, 19, 1], .null), (58, .iload_n 3, 1, [], .null), (59, .iaload, 1, [], .null), (60, .iastore, 1, [], .null), (61, .aload_n 0, 1, [], .null), (62, .getfield 31, 3, [7, 10, 1], .null), (65, .iload_n 3, 1, [], .null), (66, .aload_n 0, 1, [], .null), (67, .getfield 43, 3, [7, 20, 1], .null), (70, .iload_n 3, 1, [], .null), (71, .iaload, 1, [], .null), (72, .iastore, 1, [], .null), (73, .iinc 3 (1), 3, [], .int (1)), (76, .goto (-33), 3, [43], .null), (79, .iconst 0, 1, [], .int (0)), (80, .istore_n 3, 1, [], .null), (81, .iload_n 3, 1, [], .null), (82, .bipush (48), 2, [], .int (48)), (84, .if_icmp .ge (21), 3, [105], .null), (87, .aload_n 0, 1, [], .null), (88, .getfield 34, 3, [7, 12, 1], .null), (91, .iload_n 3, 1, [], .null), (92, .aload_n 0, 1, [], .null), (93, .getfield 46, 3, [7, 21, 1], .null), (96, .iload_n 3, 1, [], .null), (97, .iaload, 1, [], .null), (98, .iastore, 1, [], .null), (99, .iinc 3 (1), 3, [], .int (1)), (102, .goto (-21), 3, [81], .null), (105, .aload_n 0, 1, [], .null), (106, .iconst 0, 1, [], .int (0)), (107, .putfield 137, 3, [7, 13, 0], .null), (110, .aload_n 0, 1, [], .null), (111, .iconst 0, 1, [], .int (0)), (112, .putfield 140, 3, [7, 14, 0], .null), (115, .iconst 0, 1, [], .int (0)), (116, .istore_n 3, 1, [], .null), (117, .iload_n 3, 1, [], .null), (118, .iconst 3, 1, [], .int (3)), (119, .if_icmp .ge (21), 3, [140], .null), (122, .aload_n 0, 1, [], .null), (123, .getfield 49, 3, [7, 22, 1], .null), (126, .sipush (140), 3, [], .int (140)), (129, .iload_n 3, 1, [], .null), (130, .imul, 1, [], .null), (131, .bipush (-9), 2, [], .int (-9)), (133, .iastore, 1, [], .null), (134, .iinc 3 (1), 3, [], .int (1)), (137, .goto (-20), 3, [117], .null), (140, .aload_n 0, 1, [], .null), (141, .getfield 131, 3, [7, 8, 0], .null), (144, .ireturn, 1, [], .null)]
def Mo_land_117    : (Int32 × Hp) → ((Int32 × Hp) → Res Hp) → Res Hp := fun s κ117 => match s with
  | (x3, h) =>
  if (3 : Int32) ≤ x3 then
  (retI (hg h 178 8) h)
  else
  (bif okA 192 100 ((140 : Int32) * x3) then
  bH (hs h 192 ((140 : Int32) * x3).toNatClampNeg (-9 : Int32)) fun h1 =>
  κ117 ((x3 + (1 : Int32)), h1)
  else none)
def Mo_land_81    : (Int32 × Hp) → ((Int32 × Hp) → Res Hp) → Res Hp := fun s κ81 => match s with
  | (x3, h) =>
  if (48 : Int32) ≤ x3 then
  (bH (hs h 178 13 (0 : Int32)) fun h1 =>
  bH (hs h1 178 14 (0 : Int32)) fun h2 =>
  loopC (Mo_land_117   ) FU ((0 : Int32), h2))
  else
  (bif okA 191 100 x3 then
  bif okA 187 100 x3 then
  bH (hs h 187 x3.toNatClampNeg (hg h 191 x3.toNatClampNeg)) fun h3 =>
  κ81 ((x3 + (1 : Int32)), h3)
  else none
  else none)
def Mo_land_43    : (Int32 × Hp) → ((Int32 × Hp) → Res Hp) → Res Hp := fun s κ43 => match s with
  | (x3, h) =>
  if (7 : Int32) ≤ x3 then
  (loopC (Mo_land_81   ) FU ((0 : Int32), h))
  else
  (bif okA 189 100 x3 then
  bif okA 185 100 x3 then
  bH (hs h 185 x3.toNatClampNeg (hg h 189 x3.toNatClampNeg)) fun h1 =>
  bif okA 190 100 x3 then
  bif okA 186 100 x3 then
  bH (hs h1 186 x3.toNatClampNeg (hg h1 190 x3.toNatClampNeg)) fun h2 =>
  κ43 ((x3 + (1 : Int32)), h2)
  else none
  else none
  else none
  else none)
def F_Mo_land (x1 : Int32) (h : Hp) : Res Hp :=
  bI (F_Mo_askedText x1 h) fun v2 h1 =>
  if (0 : Int32) ≤ v2 then
  (bI (F_Mo_goesOn x1 h1) fun v4 h3 =>
  if v4 = (-9 : Int32) then
  (bH (hs h3 178 8 (hg h3 178 17)) fun h5 =>
  bH (hs h5 178 11 (hg h5 178 18)) fun h6 =>
  loopC (Mo_land_43   ) FU ((0 : Int32), h6))
  else
  (retI (-4 : Int32) h3))
  else
  (retI v2 h1)
def sF_Mo_land : List Value → Hp → Res Hp := fun as h => match as with | [.ref f0, .int x1] => (match Nat.beq f0 178 with | true => F_Mo_land x1 h | false => none) | _ => none
theorem w_Mo_land (x1 : Int32) (h : Hp) : sF_Mo_land [.ref 178, .int x1] h = F_Mo_land x1 h := rfl
def S_Mo_land : Sem Hp := [(79, sF_Mo_askedText), (94, sF_Mo_goesOn)]
set_option maxRecDepth 100000 in
theorem e_Mo_land_0 (x1 : Int32) (h : Hp) : F_Mo_land x1 h = exec1 OI S_Mo_land 1 k_Mo_land 0 [some (.ref 178), some (.int x1), none, none] [] h (runF OI S_Mo_land [(43, [0, 3], fun vs st h => match vs, st with | [.ref f0, .int x3], [] => (match Nat.beq f0 178 with | true => loopC (Mo_land_43   ) FU (x3, h) | false => none) | _, _ => none)] 1 k_Mo_land 400) :=
  (x_bI (f := sF_Mo_askedText) rfl (w_Mo_askedText _ _) fun v2 h1 => (x_ite (x_bI (f := sF_Mo_goesOn) rfl (w_Mo_goesOn _ _) fun v4 h3 => (x_ite (x_bH fun h5 => (x_bH fun h6 => rfl)) rfl)) rfl))
set_option maxRecDepth 100000 in
theorem e_Mo_land_43 (κ43 : (Int32 × Hp) → Res Hp) (x3 : Int32)  (h : Hp) : Mo_land_43    (x3, h) κ43 = exec1 OI S_Mo_land 1 k_Mo_land 43 [some (.ref 178), none, none, some (.int x3)] [] h (runF OI S_Mo_land [(81, [0, 3], fun vs st h => match vs, st with | [.ref f0, .int x3], [] => (match Nat.beq f0 178 with | true => loopC (Mo_land_81   ) FU (x3, h) | false => none) | _, _ => none), (43, [0, 3], fun vs st h => match vs, st with | [.ref f0, .int x3], [] => (match Nat.beq f0 178 with | true => κ43 (x3, h) | false => none) | _, _ => none)] 1 k_Mo_land 400) :=
  (x_ite rfl (x_bif (x_bif (x_bH fun h1 => (x_bif (x_bif (x_bH fun h2 => rfl)))))))
set_option maxRecDepth 100000 in
theorem e_Mo_land_81 (κ81 : (Int32 × Hp) → Res Hp) (x3 : Int32)  (h : Hp) : Mo_land_81    (x3, h) κ81 = exec1 OI S_Mo_land 1 k_Mo_land 81 [some (.ref 178), none, none, some (.int x3)] [] h (runF OI S_Mo_land [(117, [0, 3], fun vs st h => match vs, st with | [.ref f0, .int x3], [] => (match Nat.beq f0 178 with | true => loopC (Mo_land_117   ) FU (x3, h) | false => none) | _, _ => none), (81, [0, 3], fun vs st h => match vs, st with | [.ref f0, .int x3], [] => (match Nat.beq f0 178 with | true => κ81 (x3, h) | false => none) | _, _ => none)] 1 k_Mo_land 400) :=
  (x_ite (x_bH fun h1 => (x_bH fun h2 => rfl)) (x_bif (x_bif (x_bH fun h3 => rfl))))
set_option maxRecDepth 100000 in
theorem e_Mo_land_117 (κ117 : (Int32 × Hp) → Res Hp) (x3 : Int32)  (h : Hp) : Mo_land_117    (x3, h) κ117 = exec1 OI S_Mo_land 1 k_Mo_land 117 [some (.ref 178), none, none, some (.int x3)] [] h (runF OI S_Mo_land [(117, [0, 3], fun vs st h => match vs, st with | [.ref f0, .int x3], [] => (match Nat.beq f0 178 with | true => κ117 (x3, h) | false => none) | _, _ => none)] 1 k_Mo_land 400) :=
  (x_ite rfl (x_bif (x_bH fun h1 => rfl)))
def k_Mo_isOne : List Ent := [(0, .iload_n 1, 1, [], .null), (1, .iconst 0, 1, [], .int (0)), (2, .aload_n 0, 1, [], .null), (3, .getfield 131, 3, [7, 8, 0], .null), (6, .iconst 1, 1, [], .int (1)), (7, .isub, 1, [], .null), (8, .invokestatic 72, 3, [71, 3, 2], .null), (11, .ireturn, 1, [], .null)]
def F_Mo_isOne (x1 : Int32) (h : Hp) : Res Hp :=
  bI (F_Mo_in x1 (0 : Int32) ((hg h 178 8) - (1 : Int32)) h) fun v2 h1 =>
  retZ v2 h1
def sF_Mo_isOne : List Value → Hp → Res Hp := fun as h => match as with | [.ref f0, .int x1] => (match Nat.beq f0 178 with | true => F_Mo_isOne x1 h | false => none) | _ => none
theorem w_Mo_isOne (x1 : Int32) (h : Hp) : sF_Mo_isOne [.ref 178, .int x1] h = F_Mo_isOne x1 h := rfl
def S_Mo_isOne : Sem Hp := [(71, sF_Mo_in)]
set_option maxRecDepth 100000 in
theorem e_Mo_isOne_0 (x1 : Int32) (h : Hp) : F_Mo_isOne x1 h = exec1 OI S_Mo_isOne 2 k_Mo_isOne 0 [some (.ref 178), some (.int x1)] [] h (runF OI S_Mo_isOne [] 2 k_Mo_isOne 400) :=
  (x_bI (f := sF_Mo_in) rfl (w_Mo_in _ _ _ _) fun v2 h1 => rfl)
def k_Mo_areTwo : List Ent := [(0, .aload_n 0, 1, [], .null), (1, .iload_n 1, 1, [], .null), (2, .invokevirtual 143, 3, [97, 2, 2, 7], .null), (5, .ifCond .eq (20), 3, [25], .null), (8, .aload_n 0, 1, [], .null), (9, .iload_n 2, 1, [], .null), (10, .invokevirtual 143, 3, [97, 2, 2, 7], .null), (13, .ifCond .eq (12), 3, [25], .null), (16, .iload_n 1, 1, [], .null), (17, .iload_n 2, 1, [], .null), (18, .if_icmp .eq (7), 3, [25], .null), (21, .iconst 1, 1, [], .int (1)), (22, .goto (4), 3, [26], .null), (25, .iconst 0, 1, [], .int (0)), (26, .ireturn, 1, [], .null)]
def F_Mo_areTwo (x1 : Int32) (x2 : Int32) (h : Hp) : Res Hp :=
  bI (F_Mo_isOne x1 h) fun v2 h1 =>
  if v2 = (0 : Int32) then
  (retZ (0 : Int32) h1)
  else
  (bI (F_Mo_isOne x2 h1) fun v4 h3 =>
  if v4 = (0 : Int32) then
  (retZ (0 : Int32) h3)
  else
  (if x1 = x2 then
  (retZ (0 : Int32) h3)
  else
  (retZ (1 : Int32) h3)))
def sF_Mo_areTwo : List Value → Hp → Res Hp := fun as h => match as with | [.ref f0, .int x1, .int x2] => (match Nat.beq f0 178 with | true => F_Mo_areTwo x1 x2 h | false => none) | _ => none
theorem w_Mo_areTwo (x1 : Int32) (x2 : Int32) (h : Hp) : sF_Mo_areTwo [.ref 178, .int x1, .int x2] h = F_Mo_areTwo x1 x2 h := rfl
def S_Mo_areTwo : Sem Hp := [(97, sF_Mo_isOne)]
set_option maxRecDepth 100000 in
theorem e_Mo_areTwo_0 (x1 : Int32) (x2 : Int32) (h : Hp) : F_Mo_areTwo x1 x2 h = exec1 OI S_Mo_areTwo 2 k_Mo_areTwo 0 [some (.ref 178), some (.int x1), some (.int x2)] [] h (runF OI S_Mo_areTwo [] 2 k_Mo_areTwo 400) :=
  (x_bI (f := sF_Mo_isOne) rfl (w_Mo_isOne _ _) fun v2 h1 => (x_ite rfl (x_bI (f := sF_Mo_isOne) rfl (w_Mo_isOne _ _) fun v4 h3 => (x_ite rfl (x_ite rfl rfl)))))
def k_Mo_isTongue : List Ent := [(0, .iload_n 0, 1, [], .null), (1, .iconst 0, 1, [], .int (0)), (2, .iconst 4, 1, [], .int (4)), (3, .invokestatic 72, 3, [71, 3, 2], .null), (6, .ireturn, 1, [], .null)]
def F_Mo_isTongue (x0 : Int32) (h : Hp) : Res Hp :=
  bI (F_Mo_in x0 (0 : Int32) (4 : Int32) h) fun v2 h1 =>
  retZ v2 h1
def sF_Mo_isTongue : List Value → Hp → Res Hp := fun as h => match as with | [.int x0] => F_Mo_isTongue x0 h | _ => none
theorem w_Mo_isTongue (x0 : Int32) (h : Hp) : sF_Mo_isTongue [.int x0] h = F_Mo_isTongue x0 h := rfl
def S_Mo_isTongue : Sem Hp := [(71, sF_Mo_in)]
set_option maxRecDepth 100000 in
theorem e_Mo_isTongue_0 (x0 : Int32) (h : Hp) : F_Mo_isTongue x0 h = exec1 OI S_Mo_isTongue 2 k_Mo_isTongue 0 [some (.int x0)] [] h (runF OI S_Mo_isTongue [] 2 k_Mo_isTongue 400) :=
  (x_bI (f := sF_Mo_in) rfl (w_Mo_in _ _ _ _) fun v2 h1 => rfl)
def k_Mo_isSet : List Ent := [(0, .iload_n 0, 1, [], .null), (1, .iconst 1, 1, [], .int (1)), (2, .bipush (31), 2, [], .int (31)), (4, .invokestatic 72, 3, [71, 3, 2], .null), (7, .ireturn, 1, [], .null)]
def F_Mo_isSet (x0 : Int32) (h : Hp) : Res Hp :=
  bI (F_Mo_in x0 (1 : Int32) (31 : Int32) h) fun v2 h1 =>
  retZ v2 h1
def sF_Mo_isSet : List Value → Hp → Res Hp := fun as h => match as with | [.int x0] => F_Mo_isSet x0 h | _ => none
theorem w_Mo_isSet (x0 : Int32) (h : Hp) : sF_Mo_isSet [.int x0] h = F_Mo_isSet x0 h := rfl
def S_Mo_isSet : Sem Hp := [(71, sF_Mo_in)]
set_option maxRecDepth 100000 in
theorem e_Mo_isSet_0 (x0 : Int32) (h : Hp) : F_Mo_isSet x0 h = exec1 OI S_Mo_isSet 2 k_Mo_isSet 0 [some (.int x0)] [] h (runF OI S_Mo_isSet [] 2 k_Mo_isSet 400) :=
  (x_bI (f := sF_Mo_in) rfl (w_Mo_in _ _ _ _) fun v2 h1 => rfl)
def k_Mo_isA : List Ent := [(0, .aload_n 0, 1, [], .null), (1, .getfield 28, 3, [7, 9, 1], .null), (4, .iload_n 1, 1, [], .null), (5, .iaload, 1, [], .null), (6, .iload_n 2, 1, [], .null), (7, .if_icmp .eq (33), 3, [40], .null), (10, .iload_n 2, 1, [], .null), (11, .iconst 1, 1, [], .int (1)), (12, .if_icmp .ne (13), 3, [25], .null), (15, .aload_n 0, 1, [], .null), (16, .getfield 28, 3, [7, 9, 1], .null), (19, .iload_n 1, 1, [], .null), (20, .iaload, 1, [], .null), (21, .iconst 4, 1, [], .int (4)), (22, .if_icmp .eq (18), 3, [40], .null), (25, .iload_n 2, 1, [], .null), (26, .iconst 3, 1, [], .int (3)), (27, .if_icmp .ne (17), 3, [44], .null), (30, .aload_n 0, 1, [], .null), (31, .getfield 28, 3, [7, 9, 1], .null), (34, .iload_n 1, 1, [], .null), (35, .iaload, 1, [], .null), (36, .iconst 5, 1, [], .int (5)), (37, .if_icmp .ne (7), 3, [44], .null), (40, .iconst 1, 1, [], .int (1)), (41, .goto (4), 3, [45], .null), (44, .iconst 0, 1, [], .int (0)), (45, .ireturn, 1, [], .null)]
def F_Mo_isA (x1 : Int32) (x2 : Int32) (h : Hp) : Res Hp :=
  bif okA 185 100 x1 then
  if (hg h 185 x1.toNatClampNeg) = x2 then
  (retZ (1 : Int32) h)
  else
  (if x2 = (1 : Int32) then
  (bif okA 185 100 x1 then
  if (hg h 185 x1.toNatClampNeg) = (4 : Int32) then
  (retZ (1 : Int32) h)
  else
  (if x2 = (3 : Int32) then
  (bif okA 185 100 x1 then
  if (hg h 185 x1.toNatClampNeg) = (5 : Int32) then
  (retZ (1 : Int32) h)
  else
  (retZ (0 : Int32) h)
  else none)
  else
  (retZ (0 : Int32) h))
  else none)
  else
  (if x2 = (3 : Int32) then
  (bif okA 185 100 x1 then
  if (hg h 185 x1.toNatClampNeg) = (5 : Int32) then
  (retZ (1 : Int32) h)
  else
  (retZ (0 : Int32) h)
  else none)
  else
  (retZ (0 : Int32) h)))
  else none
def sF_Mo_isA : List Value → Hp → Res Hp := fun as h => match as with | [.ref f0, .int x1, .int x2] => (match Nat.beq f0 178 with | true => F_Mo_isA x1 x2 h | false => none) | _ => none
theorem w_Mo_isA (x1 : Int32) (x2 : Int32) (h : Hp) : sF_Mo_isA [.ref 178, .int x1, .int x2] h = F_Mo_isA x1 x2 h := rfl
def S_Mo_isA : Sem Hp := []
set_option maxRecDepth 100000 in
theorem e_Mo_isA_0 (x1 : Int32) (x2 : Int32) (h : Hp) : F_Mo_isA x1 x2 h = exec1 OI S_Mo_isA 2 k_Mo_isA 0 [some (.ref 178), some (.int x1), some (.int x2)] [] h (runF OI S_Mo_isA [] 2 k_Mo_isA 400) :=
  (x_bif (x_ite rfl (x_ite (x_bif (x_ite rfl (x_ite (x_bif (x_ite rfl rfl)) rfl))) (x_ite (x_bif (x_ite rfl rfl)) rfl))))
def k_Mo_barsOf : List Ent := [(0, .aload_n 0, 1, [], .null), (1, .getfield 31, 3, [7, 10, 1], .null), (4, .iload_n 1, 1, [], .null), (5, .iaload, 1, [], .null), (6, .istore_n 2, 1, [], .null), (7, .aload_n 0, 1, [], .null), (8, .iload_n 1, 1, [], .null), (9, .iconst 1, 1, [], .int (1)), (10, .invokevirtual 146, 3, [101, 3, 2, 7], .null), (13, .ifCond .ne (13), 3, [26], .null), (16, .aload_n 0, 1, [], .null), (17, .getfield 28, 3, [7, 9, 1], .null), (20, .iload_n 1, 1, [], .null), (21, .iaload, 1, [], .null), (22, .iconst 5, 1, [], .int (5)), (23, .if_icmp .ne (5), 3, [28], .null), (26, .iconst 0, 1, [], .int (0)), (27, .ireturn, 1, [], .null), (28, .aload_n 0, 1, [], .null), (29, .getfield 28, 3, [7, 9, 1], .null), (32, .iload_n 1, 1, [], .null), (33, .iaload, 1, [], .null), (34, .iconst 2, 1, [], .int (2)), (35, .if_icmp .ne (18), 3, [53], .null), (38, .iload_n 2, 1, [], .null), (39, .iload_n 2, 1, [], .null), (40, .iconst 1, 1, [], .int (1)), (41, .ishl, 1, [], .null), (42, .ior, 1, [], .null), (43, .iload_n 2, 1, [], .null), (44, .iconst 1, 1, [], .int (1)), (45, .ishr, 1, [], .null), (46, .ior, 1, [], .null), (47, .bipush (31), 2, [], .int (31)), (49, .iand, 1, [], .null), (50, .goto (4), 3, [54], .null), (53, .iload_n 2, 1, [], .null), (54, .ireturn, 1, [], .null)]
def F_Mo_barsOf (x1 : Int32) (h : Hp) : Res Hp :=
  bif okA 186 100 x1 then
  bI (F_Mo_isA x1 (1 : Int32) h) fun v2 h1 =>
  if v2 = (0 : Int32) then
  (bif okA 185 100 x1 then
  if (hg h1 185 x1.toNatClampNeg) = (5 : Int32) then
  (retI (0 : Int32) h1)
  else
  (bif okA 185 100 x1 then
  if (hg h1 185 x1.toNatClampNeg) = (2 : Int32) then
  (retI ((((hg h 186 x1.toNatClampNeg) ||| ((hg h 186 x1.toNatClampNeg) <<< ((1 : Int32) &&& 31))) ||| ((hg h 186 x1.toNatClampNeg) >>> ((1 : Int32) &&& 31))) &&& (31 : Int32)) h1)
  else
  (retI (hg h 186 x1.toNatClampNeg) h1)
  else none)
  else none)
  else
  (retI (0 : Int32) h1)
  else none
def sF_Mo_barsOf : List Value → Hp → Res Hp := fun as h => match as with | [.ref f0, .int x1] => (match Nat.beq f0 178 with | true => F_Mo_barsOf x1 h | false => none) | _ => none
theorem w_Mo_barsOf (x1 : Int32) (h : Hp) : sF_Mo_barsOf [.ref 178, .int x1] h = F_Mo_barsOf x1 h := rfl
def S_Mo_barsOf : Sem Hp := [(101, sF_Mo_isA)]
set_option maxRecDepth 100000 in
theorem e_Mo_barsOf_0 (x1 : Int32) (h : Hp) : F_Mo_barsOf x1 h = exec1 OI S_Mo_barsOf 1 k_Mo_barsOf 0 [some (.ref 178), some (.int x1), none] [] h (runF OI S_Mo_barsOf [] 1 k_Mo_barsOf 400) :=
  (x_bif (x_bI (f := sF_Mo_isA) rfl (w_Mo_isA _ _ _) fun v2 h1 => (x_ite (x_bif (x_ite rfl (x_bif (x_ite rfl rfl)))) rfl)))
def k_Mo_mayCarry : List Ent := [(0, .aload_n 0, 1, [], .null), (1, .iload_n 1, 1, [], .null), (2, .invokevirtual 150, 3, [102, 2, 1, 7], .null), (5, .iload_n 2, 1, [], .null), (6, .iand, 1, [], .null), (7, .ifCond .ne (7), 3, [14], .null), (10, .iconst 1, 1, [], .int (1)), (11, .goto (4), 3, [15], .null), (14, .iconst 0, 1, [], .int (0)), (15, .ireturn, 1, [], .null)]
def F_Mo_mayCarry (x1 : Int32) (x2 : Int32) (h : Hp) : Res Hp :=
  bI (F_Mo_barsOf x1 h) fun v2 h1 =>
  if (v2 &&& x2) = (0 : Int32) then
  (retZ (1 : Int32) h1)
  else
  (retZ (0 : Int32) h1)
def sF_Mo_mayCarry : List Value → Hp → Res Hp := fun as h => match as with | [.ref f0, .int x1, .int x2] => (match Nat.beq f0 178 with | true => F_Mo_mayCarry x1 x2 h | false => none) | _ => none
theorem w_Mo_mayCarry (x1 : Int32) (x2 : Int32) (h : Hp) : sF_Mo_mayCarry [.ref 178, .int x1, .int x2] h = F_Mo_mayCarry x1 x2 h := rfl
def S_Mo_mayCarry : Sem Hp := [(102, sF_Mo_barsOf)]
set_option maxRecDepth 100000 in
theorem e_Mo_mayCarry_0 (x1 : Int32) (x2 : Int32) (h : Hp) : F_Mo_mayCarry x1 x2 h = exec1 OI S_Mo_mayCarry 2 k_Mo_mayCarry 0 [some (.ref 178), some (.int x1), some (.int x2)] [] h (runF OI S_Mo_mayCarry [] 2 k_Mo_mayCarry 400) :=
  (x_bI (f := sF_Mo_barsOf) rfl (w_Mo_barsOf _ _) fun v2 h1 => (x_ite rfl rfl))
def k_Mo_metBy : List Ent := [(0, .iconst 0, 1, [], .int (0)), (1, .istore_n 3, 1, [], .null), (2, .iconst 0, 1, [], .int (0)), (3, .istore 4, 2, [], .null), (5, .iload 4, 2, [], .null), (7, .aload_n 0, 1, [], .null), (8, .getfield 134, 3, [7, 11, 0], .null), (11, .if_icmp .ge (116), 3, [127], .null), (14, .iload_n 2, 1, [], .null), (15, .bipush (-9), 2, [], .int (-9)), (17, .if_icmp .eq (21), 3, [38], .null), (20, .aload_n 0, 1, [], .null), (21, .getfield 34, 3, [7, 12, 1], .null), (24, .iconst 3, 1, [], .int (3)), (25, .iload 4, 2, [], .null), (27, .imul, 1, [], .null), (28, .iconst 2, 1, [], .int (2)), (29, .iadd, 1, [], .null), (30, .iaload, 1, [], .null), (31, .iload_n 2, 1, [], .null), (32, .bipush (8), 2, [], .int (8)), (34, .irem, 1, [], .null), (35, .if_icmp .ne (7), 3, [42], .null), (38, .iconst 1, 1, [], .int (1)), (39, .goto (4), 3, [43], .null), (42, .iconst 0, 1, [], .int (0)), (43, .istore 5, 2, [], .null), (45, .iload_n 3, 1, [], .null), (46, .iload 5, 2, [], .null), (48, .ifCond .eq (32), 3, [80], .null), (51, .aload_n 0, 1, [], .null), (52, .getfield 34, 3, [7, 12, 1], .null), (55, .iconst 3, 1, [], .int (3)), (56, .iload 4, 2, [], .null), (58, .imul, 1, [], .null), (59, .iaload, 1, [], .null), (60, .iload_n 1, 1, [], .null), (61, .if_icmp .ne (19), 3, [80], .null), (64, .iconst 1, 1, [], .int (1)), (65, .aload_n 0, 1, [], .null), (66, .getfield 34, 3, [7, 12, 1], .null), (69, .iconst 3, 1, [], .int (3)), (70, .iload 4, 2, [], .null), (72, .imul, 1, [], .null), (73, .iconst 1, 1, [], .int (1)), (74, .iadd, 1, [], .null), (75, .iaload, 1, [], .null), (76, .ishl, 1, [], .null), (77, .goto (4), 3, [81], .null), (80, .iconst 0, 1, [], .int (0)), (81, .ior, 1, [], .null), (82, .istore_n 3, 1, [], .null), (83, .iload_n 3, 1, [], .null), (84, .iload 5, 2, [], .null), (86, .ifCond .eq (32), 3, [118], .null), (89, .aload_n 0, 1, [], .null), (90, .getfield 34, 3, [7, 12, 1], .null), (93, .iconst 3, 1, [], .int (3)), (94, .iload 4, 2, [], .null), (96, .imul, 1, [], .null), (97, .iconst 1, 1, [], .int (1)), (98, .iadd, 1, [], .null), (99, .iaload, 1, [], .null), (100, .iload_n 1, 1, [], .null), (101, .if_icmp .ne (17), 3, [118], .null), (104, .iconst 1, 1, [], .int (1)), (105, .aload_n 0, 1, [], .null), (106, .getfield 34, 3, [7, 12, 1], .null), (109, .iconst 3, 1, [], .int (3)), (110, .iload 4, 2, [], .null), (112, .imul, 1, [], .null), (113, .iaload, 1, [], .null), (114, .ishl, 1, [], .null), (115, .goto (4), 3, [119], .null), (118, .iconst 0, 1, [], .int (0)), (119, .ior, 1, [], .null), (120, .istore_n 3, 1, [], .null), (121, .iinc 4 (1), 3, [], .int (1)), (124, .goto (-119), 3, [5], .null), (127, .iload_n 3, 1, [], .null), (128, .ireturn, 1, [], .null)]
def Mo_metBy_5    : (Int32 × Int32 × Int32 × Int32 × Hp) → ((Int32 × Int32 × Int32 × Int32 × Hp) → Res Hp) → Res Hp := fun s κ5 => match s with
  | (x1, x2, x3, x4, h) =>
  if (hg h 178 11) ≤ x4 then
  (retI x3 h)
  else
  (if x2 = (-9 : Int32) then
  (bif okA 187 100 ((3 : Int32) * x4) then
  if (hg h 187 ((3 : Int32) * x4).toNatClampNeg) = x1 then
  (bif okA 187 100 (((3 : Int32) * x4) + (1 : Int32)) then
  bif okA 187 100 (((3 : Int32) * x4) + (1 : Int32)) then
  if (hg h 187 (((3 : Int32) * x4) + (1 : Int32)).toNatClampNeg) = x1 then
  (bif okA 187 100 ((3 : Int32) * x4) then
  κ5 (x1, x2, ((x3 ||| ((1 : Int32) <<< ((hg h 187 (((3 : Int32) * x4) + (1 : Int32)).toNatClampNeg) &&& 31))) ||| ((1 : Int32) <<< ((hg h 187 ((3 : Int32) * x4).toNatClampNeg) &&& 31))), (x4 + (1 : Int32)), h)
  else none)
  else
  (κ5 (x1, x2, ((x3 ||| ((1 : Int32) <<< ((hg h 187 (((3 : Int32) * x4) + (1 : Int32)).toNatClampNeg) &&& 31))) ||| (0 : Int32)), (x4 + (1 : Int32)), h))
  else none
  else none)
  else
  (bif okA 187 100 (((3 : Int32) * x4) + (1 : Int32)) then
  if (hg h 187 (((3 : Int32) * x4) + (1 : Int32)).toNatClampNeg) = x1 then
  (bif okA 187 100 ((3 : Int32) * x4) then
  κ5 (x1, x2, ((x3 ||| (0 : Int32)) ||| ((1 : Int32) <<< ((hg h 187 ((3 : Int32) * x4).toNatClampNeg) &&& 31))), (x4 + (1 : Int32)), h)
  else none)
  else
  (κ5 (x1, x2, ((x3 ||| (0 : Int32)) ||| (0 : Int32)), (x4 + (1 : Int32)), h))
  else none)
  else none)
  else
  (bif okA 187 100 (((3 : Int32) * x4) + (2 : Int32)) then
  if (hg h 187 (((3 : Int32) * x4) + (2 : Int32)).toNatClampNeg) = (x2 - x2 / (8 : Int32) * (8 : Int32)) then
  (bif okA 187 100 ((3 : Int32) * x4) then
  if (hg h 187 ((3 : Int32) * x4).toNatClampNeg) = x1 then
  (bif okA 187 100 (((3 : Int32) * x4) + (1 : Int32)) then
  bif okA 187 100 (((3 : Int32) * x4) + (1 : Int32)) then
  if (hg h 187 (((3 : Int32) * x4) + (1 : Int32)).toNatClampNeg) = x1 then
  (bif okA 187 100 ((3 : Int32) * x4) then
  κ5 (x1, x2, ((x3 ||| ((1 : Int32) <<< ((hg h 187 (((3 : Int32) * x4) + (1 : Int32)).toNatClampNeg) &&& 31))) ||| ((1 : Int32) <<< ((hg h 187 ((3 : Int32) * x4).toNatClampNeg) &&& 31))), (x4 + (1 : Int32)), h)
  else none)
  else
  (κ5 (x1, x2, ((x3 ||| ((1 : Int32) <<< ((hg h 187 (((3 : Int32) * x4) + (1 : Int32)).toNatClampNeg) &&& 31))) ||| (0 : Int32)), (x4 + (1 : Int32)), h))
  else none
  else none)
  else
  (bif okA 187 100 (((3 : Int32) * x4) + (1 : Int32)) then
  if (hg h 187 (((3 : Int32) * x4) + (1 : Int32)).toNatClampNeg) = x1 then
  (bif okA 187 100 ((3 : Int32) * x4) then
  κ5 (x1, x2, ((x3 ||| (0 : Int32)) ||| ((1 : Int32) <<< ((hg h 187 ((3 : Int32) * x4).toNatClampNeg) &&& 31))), (x4 + (1 : Int32)), h)
  else none)
  else
  (κ5 (x1, x2, ((x3 ||| (0 : Int32)) ||| (0 : Int32)), (x4 + (1 : Int32)), h))
  else none)
  else none)
  else
  (κ5 (x1, x2, ((x3 ||| (0 : Int32)) ||| (0 : Int32)), (x4 + (1 : Int32)), h))
  else none))
def F_Mo_metBy (x1 : Int32) (x2 : Int32) (h : Hp) : Res Hp :=
  loopC (Mo_metBy_5   ) FU (x1, x2, (0 : Int32), (0 : Int32), h)
def sF_Mo_metBy : List Value → Hp → Res Hp := fun as h => match as with | [.ref f0, .int x1, .int x2] => (match Nat.beq f0 178 with | true => F_Mo_metBy x1 x2 h | false => none) | _ => none
theorem w_Mo_metBy (x1 : Int32) (x2 : Int32) (h : Hp) : sF_Mo_metBy [.ref 178, .int x1, .int x2] h = F_Mo_metBy x1 x2 h := rfl
def S_Mo_metBy : Sem Hp := []
set_option maxRecDepth 100000 in
theorem e_Mo_metBy_0 (x1 : Int32) (x2 : Int32) (h : Hp) : F_Mo_metBy x1 x2 h = exec1 OI S_Mo_metBy 1 k_Mo_metBy 0 [some (.ref 178), some (.int x1), some (.int x2), none, none, none] [] h (runF OI S_Mo_metBy [(5, [0, 1, 2, 3, 4], fun vs st h => match vs, st with | [.ref f0, .int x1, .int x2, .int x3, .int x4], [] => (match Nat.beq f0 178 with | true => loopC (Mo_metBy_5   ) FU (x1, x2, x3, x4, h) | false => none) | _, _ => none)] 1 k_Mo_metBy 400) :=
  rfl
set_option maxRecDepth 100000 in
theorem e_Mo_metBy_5 (κ5 : (Int32 × Int32 × Int32 × Int32 × Hp) → Res Hp) (x1 : Int32) (x2 : Int32) (x3 : Int32) (x4 : Int32)  (h : Hp) : Mo_metBy_5    (x1, x2, x3, x4, h) κ5 = exec1 OI S_Mo_metBy 1 k_Mo_metBy 5 [some (.ref 178), some (.int x1), some (.int x2), some (.int x3), some (.int x4), none] [] h (runF OI S_Mo_metBy [(5, [0, 1, 2, 3, 4], fun vs st h => match vs, st with | [.ref f0, .int x1, .int x2, .int x3, .int x4], [] => (match Nat.beq f0 178 with | true => κ5 (x1, x2, x3, x4, h) | false => none) | _, _ => none)] 1 k_Mo_metBy 400) :=
  (x_ite rfl (x_ite (x_bif (x_ite (x_bif (x_bif (x_ite (x_bif rfl) rfl))) (x_bif (x_ite (x_bif rfl) rfl)))) (x_bif (x_ite (x_bif (x_ite (x_bif (x_bif (x_ite (x_bif rfl) rfl))) (x_bif (x_ite (x_bif rfl) rfl)))) rfl))))
def k_Mo_letterOf : List Ent := [(0, .aload_n 0, 1, [], .null), (1, .getfield 37, 3, [7, 15, 1], .null), (4, .bipush (17), 2, [], .int (17)), (6, .iload_n 1, 1, [], .null), (7, .imul, 1, [], .null), (8, .iload_n 2, 1, [], .null), (9, .iadd, 1, [], .null), (10, .iaload, 1, [], .null), (11, .ireturn, 1, [], .null)]
def F_Mo_letterOf (x1 : Int32) (x2 : Int32) (h : Hp) : Res Hp :=
  bif okA 188 100 (((17 : Int32) * x1) + x2) then
  retI (hg h 188 (((17 : Int32) * x1) + x2).toNatClampNeg) h
  else none
def sF_Mo_letterOf : List Value → Hp → Res Hp := fun as h => match as with | [.ref f0, .int x1, .int x2] => (match Nat.beq f0 178 with | true => F_Mo_letterOf x1 x2 h | false => none) | _ => none
theorem w_Mo_letterOf (x1 : Int32) (x2 : Int32) (h : Hp) : sF_Mo_letterOf [.ref 178, .int x1, .int x2] h = F_Mo_letterOf x1 x2 h := rfl
def S_Mo_letterOf : Sem Hp := []
set_option maxRecDepth 100000 in
theorem e_Mo_letterOf_0 (x1 : Int32) (x2 : Int32) (h : Hp) : F_Mo_letterOf x1 x2 h = exec1 OI S_Mo_letterOf 1 k_Mo_letterOf 0 [some (.ref 178), some (.int x1), some (.int x2)] [] h (runF OI S_Mo_letterOf [] 1 k_Mo_letterOf 400) :=
  (x_bif rfl)
def k_Mo_holderOf : List Ent := [(0, .aload_n 0, 1, [], .null), (1, .iload_n 1, 1, [], .null), (2, .iconst 3, 1, [], .int (3)), (3, .aload_n 0, 1, [], .null), (4, .iload_n 1, 1, [], .null), (5, .iconst 2, 1, [], .int (2)), (6, .invokevirtual 153, 3, [105, 3, 1, 7], .null), (9, .iadd, 1, [], .null), (10, .iconst 1, 1, [], .int (1)), (11, .isub, 1, [], .null), (12, .invokevirtual 153, 3, [105, 3, 1, 7], .null), (15, .ireturn, 1, [], .null)]
def F_Mo_holderOf (x1 : Int32) (h : Hp) : Res Hp :=
  bI (F_Mo_letterOf x1 (2 : Int32) h) fun v2 h1 =>
  bI (F_Mo_letterOf x1 (((3 : Int32) + v2) - (1 : Int32)) h1) fun v4 h3 =>
  retI v4 h3
def sF_Mo_holderOf : List Value → Hp → Res Hp := fun as h => match as with | [.ref f0, .int x1] => (match Nat.beq f0 178 with | true => F_Mo_holderOf x1 h | false => none) | _ => none
theorem w_Mo_holderOf (x1 : Int32) (h : Hp) : sF_Mo_holderOf [.ref 178, .int x1] h = F_Mo_holderOf x1 h := rfl
def S_Mo_holderOf : Sem Hp := [(105, sF_Mo_letterOf)]
set_option maxRecDepth 100000 in
theorem e_Mo_holderOf_0 (x1 : Int32) (h : Hp) : F_Mo_holderOf x1 h = exec1 OI S_Mo_holderOf 1 k_Mo_holderOf 0 [some (.ref 178), some (.int x1)] [] h (runF OI S_Mo_holderOf [] 1 k_Mo_holderOf 400) :=
  (x_bI (f := sF_Mo_letterOf) rfl (w_Mo_letterOf _ _ _) fun v2 h1 => (x_bI (f := sF_Mo_letterOf) rfl (w_Mo_letterOf _ _ _) fun v4 h3 => rfl))
def k_Mo_isThere : List Ent := [(0, .aload_n 0, 1, [], .null), (1, .iload_n 1, 1, [], .null), (2, .invokevirtual 156, 3, [106, 2, 1, 7], .null), (5, .aload_n 0, 1, [], .null), (6, .iload_n 1, 1, [], .null), (7, .iconst 0, 1, [], .int (0)), (8, .invokevirtual 153, 3, [105, 3, 1, 7], .null), (11, .if_icmp .ne (7), 3, [18], .null), (14, .iconst 1, 1, [], .int (1)), (15, .goto (4), 3, [19], .null), (18, .iconst 0, 1, [], .int (0)), (19, .ireturn, 1, [], .null)]
def F_Mo_isThere (x1 : Int32) (h : Hp) : Res Hp :=
  bI (F_Mo_holderOf x1 h) fun v2 h1 =>
  bI (F_Mo_letterOf x1 (0 : Int32) h1) fun v4 h3 =>
  if v2 = v4 then
  (retZ (1 : Int32) h3)
  else
  (retZ (0 : Int32) h3)
def sF_Mo_isThere : List Value → Hp → Res Hp := fun as h => match as with | [.ref f0, .int x1] => (match Nat.beq f0 178 with | true => F_Mo_isThere x1 h | false => none) | _ => none
theorem w_Mo_isThere (x1 : Int32) (h : Hp) : sF_Mo_isThere [.ref 178, .int x1] h = F_Mo_isThere x1 h := rfl
def S_Mo_isThere : Sem Hp := [(106, sF_Mo_holderOf), (105, sF_Mo_letterOf)]
set_option maxRecDepth 100000 in
theorem e_Mo_isThere_0 (x1 : Int32) (h : Hp) : F_Mo_isThere x1 h = exec1 OI S_Mo_isThere 2 k_Mo_isThere 0 [some (.ref 178), some (.int x1)] [] h (runF OI S_Mo_isThere [] 2 k_Mo_isThere 400) :=
  (x_bI (f := sF_Mo_holderOf) rfl (w_Mo_holderOf _ _) fun v2 h1 => (x_bI (f := sF_Mo_letterOf) rfl (w_Mo_letterOf _ _ _) fun v4 h3 => (x_ite rfl rfl)))
def k_Mo_handOf : List Ent := [(0, .iconst 0, 1, [], .int (0)), (1, .istore_n 3, 1, [], .null), (2, .iconst 0, 1, [], .int (0)), (3, .istore 4, 2, [], .null), (5, .iload 4, 2, [], .null), (7, .aload_n 0, 1, [], .null), (8, .getfield 134, 3, [7, 11, 0], .null), (11, .if_icmp .ge (50), 3, [61], .null), (14, .iload_n 2, 1, [], .null), (15, .iconst 2, 1, [], .int (2)), (16, .if_icmp .ne (45), 3, [61], .null), (19, .iload_n 3, 1, [], .null), (20, .aload_n 0, 1, [], .null), (21, .getfield 34, 3, [7, 12, 1], .null), (24, .iconst 3, 1, [], .int (3)), (25, .iload 4, 2, [], .null), (27, .imul, 1, [], .null), (28, .iaload, 1, [], .null), (29, .iload_n 1, 1, [], .null), (30, .if_icmp .eq (18), 3, [48], .null), (33, .aload_n 0, 1, [], .null), (34, .getfield 34, 3, [7, 12, 1], .null), (37, .iconst 3, 1, [], .int (3)), (38, .iload 4, 2, [], .null), (40, .imul, 1, [], .null), (41, .iconst 1, 1, [], .int (1)), (42, .iadd, 1, [], .null), (43, .iaload, 1, [], .null), (44, .iload_n 1, 1, [], .null), (45, .if_icmp .ne (7), 3, [52], .null), (48, .iconst 1, 1, [], .int (1)), (49, .goto (4), 3, [53], .null), (52, .iconst 0, 1, [], .int (0)), (53, .iadd, 1, [], .null), (54, .istore_n 3, 1, [], .null), (55, .iinc 4 (1), 3, [], .int (1)), (58, .goto (-53), 3, [5], .null), (61, .iconst 0, 1, [], .int (0)), (62, .istore 4, 2, [], .null), (64, .iload 4, 2, [], .null), (66, .aload_n 0, 1, [], .null), (67, .getfield 140, 3, [7, 14, 0], .null), (70, .if_icmp .ge (41), 3, [111], .null), (73, .iload_n 2, 1, [], .null), (74, .iconst 3, 1, [], .int (3)), (75, .if_icmp .ne (36), 3, [111], .null), (78, .iload_n 3, 1, [], .null), (79, .aload_n 0, 1, [], .null), (80, .iload 4, 2, [], .null), (82, .invokevirtual 156, 3, [106, 2, 1, 7], .null), (85, .iload_n 1, 1, [], .null), (86, .if_icmp .ne (16), 3, [102], .null), (89, .aload_n 0, 1, [], .null), (90, .iload 4, 2, [], .null), (92, .invokevirtual 159, 3, [107, 2, 2, 7], .null), (95, .ifCond .ne (7), 3, [102], .null), (98, .iconst 1, 1, [], .int (1)), (99, .goto (4), 3, [103], .null), (102, .iconst 0, 1, [], .int (0)), (103, .iadd, 1, [], .null), (104, .istore_n 3, 1, [], .null), (105, .iinc 4 (1), 3, [], .int (1)), (108, .goto (-44), 3, [64], .null), (111, .iload_n 2, 1, [], .null), (112, .ifCond .ne (12), 3, [124], .null), (115, .aload_n 0, 1, [], .null), (116, .getfield 28, 3, [7, 9, 1], .null), (119, .iload_n 1, 1, [], .null), (120, .iaload, 1, [], .null), (121, .goto (18), 3, [139], .null), (124, .iload_n 2, 1, [], .null), (125, .iconst 1, 1, [], .int (1)), (126, .if_icmp .ne (12), 3, [138], .null), (129, .aload_n 0, 1, [], .null), (130, .getfield 31, 3, [7, 10, 1], .null), (133, .iload_n 1, 1, [], .null), (134, .iaload, 1, [], .null), (135, .goto (4), 3, [139], .null), (138, .iload_n 3, 1, [], .null), (139, .ireturn, 1, [], .null)]
def Mo_handOf_64    : (Int32 × Int32 × Int32 × Int32 × Hp) → ((Int32 × Int32 × Int32 × Int32 × Hp) → Res Hp) → Res Hp := fun s κ64 => match s with
  | (x1, x2, x3, x4, h) =>
  if (hg h 178 14) ≤ x4 then
  (if x2 = (0 : Int32) then
  (bif okA 185 100 x1 then
  retI (hg h 185 x1.toNatClampNeg) h
  else none)
  else
  (if x2 = (1 : Int32) then
  (bif okA 186 100 x1 then
  retI (hg h 186 x1.toNatClampNeg) h
  else none)
  else
  (retI x3 h)))
  else
  (if x2 = (3 : Int32) then
  (bI (F_Mo_holderOf x4 h) fun v2 h1 =>
  if v2 = x1 then
  (bI (F_Mo_isThere x4 h1) fun v4 h3 =>
  if v4 = (0 : Int32) then
  (κ64 (x1, x2, (x3 + (1 : Int32)), (x4 + (1 : Int32)), h3))
  else
  (κ64 (x1, x2, (x3 + (0 : Int32)), (x4 + (1 : Int32)), h3)))
  else
  (κ64 (x1, x2, (x3 + (0 : Int32)), (x4 + (1 : Int32)), h1)))
  else
  (if x2 = (0 : Int32) then
  (bif okA 185 100 x1 then
  retI (hg h 185 x1.toNatClampNeg) h
  else none)
  else
  (if x2 = (1 : Int32) then
  (bif okA 186 100 x1 then
  retI (hg h 186 x1.toNatClampNeg) h
  else none)
  else
  (retI x3 h))))
def Mo_handOf_5    : (Int32 × Int32 × Int32 × Int32 × Hp) → ((Int32 × Int32 × Int32 × Int32 × Hp) → Res Hp) → Res Hp := fun s κ5 => match s with
  | (x1, x2, x3, x4, h) =>
  if (hg h 178 11) ≤ x4 then
  (loopC (Mo_handOf_64   ) FU (x1, x2, x3, (0 : Int32), h))
  else
  (if x2 = (2 : Int32) then
  (bif okA 187 100 ((3 : Int32) * x4) then
  if (hg h 187 ((3 : Int32) * x4).toNatClampNeg) = x1 then
  (κ5 (x1, x2, (x3 + (1 : Int32)), (x4 + (1 : Int32)), h))
  else
  (bif okA 187 100 (((3 : Int32) * x4) + (1 : Int32)) then
  if (hg h 187 (((3 : Int32) * x4) + (1 : Int32)).toNatClampNeg) = x1 then
  (κ5 (x1, x2, (x3 + (1 : Int32)), (x4 + (1 : Int32)), h))
  else
  (κ5 (x1, x2, (x3 + (0 : Int32)), (x4 + (1 : Int32)), h))
  else none)
  else none)
  else
  (loopC (Mo_handOf_64   ) FU (x1, x2, x3, (0 : Int32), h)))
def F_Mo_handOf (x1 : Int32) (x2 : Int32) (h : Hp) : Res Hp :=
  loopC (Mo_handOf_5   ) FU (x1, x2, (0 : Int32), (0 : Int32), h)
def sF_Mo_handOf : List Value → Hp → Res Hp := fun as h => match as with | [.ref f0, .int x1, .int x2] => (match Nat.beq f0 178 with | true => F_Mo_handOf x1 x2 h | false => none) | _ => none
theorem w_Mo_handOf (x1 : Int32) (x2 : Int32) (h : Hp) : sF_Mo_handOf [.ref 178, .int x1, .int x2] h = F_Mo_handOf x1 x2 h := rfl
def S_Mo_handOf : Sem Hp := [(106, sF_Mo_holderOf), (107, sF_Mo_isThere)]
set_option maxRecDepth 100000 in
theorem e_Mo_handOf_0 (x1 : Int32) (x2 : Int32) (h : Hp) : F_Mo_handOf x1 x2 h = exec1 OI S_Mo_handOf 1 k_Mo_handOf 0 [some (.ref 178), some (.int x1), some (.int x2), none, none] [] h (runF OI S_Mo_handOf [(5, [0, 1, 2, 3, 4], fun vs st h => match vs, st with | [.ref f0, .int x1, .int x2, .int x3, .int x4], [] => (match Nat.beq f0 178 with | true => loopC (Mo_handOf_5   ) FU (x1, x2, x3, x4, h) | false => none) | _, _ => none)] 1 k_Mo_handOf 400) :=
  rfl
set_option maxRecDepth 100000 in
theorem e_Mo_handOf_5 (κ5 : (Int32 × Int32 × Int32 × Int32 × Hp) → Res Hp) (x1 : Int32) (x2 : Int32) (x3 : Int32) (x4 : Int32)  (h : Hp) : Mo_handOf_5    (x1, x2, x3, x4, h) κ5 = exec1 OI S_Mo_handOf 1 k_Mo_handOf 5 [some (.ref 178), some (.int x1), some (.int x2), some (.int x3), some (.int x4)] [] h (runF OI S_Mo_handOf [(64, [0, 1, 2, 3, 4], fun vs st h => match vs, st with | [.ref f0, .int x1, .int x2, .int x3, .int x4], [] => (match Nat.beq f0 178 with | true => loopC (Mo_handOf_64   ) FU (x1, x2, x3, x4, h) | false => none) | _, _ => none), (5, [0, 1, 2, 3, 4], fun vs st h => match vs, st with | [.ref f0, .int x1, .int x2, .int x3, .int x4], [] => (match Nat.beq f0 178 with | true => κ5 (x1, x2, x3, x4, h) | false => none) | _, _ => none)] 1 k_Mo_handOf 400) :=
  (x_ite rfl (x_ite (x_bif (x_ite rfl (x_bif (x_ite rfl rfl)))) rfl))
set_option maxRecDepth 100000 in
theorem e_Mo_handOf_64 (κ64 : (Int32 × Int32 × Int32 × Int32 × Hp) → Res Hp) (x1 : Int32) (x2 : Int32) (x3 : Int32) (x4 : Int32)  (h : Hp) : Mo_handOf_64    (x1, x2, x3, x4, h) κ64 = exec1 OI S_Mo_handOf 1 k_Mo_handOf 64 [some (.ref 178), some (.int x1), some (.int x2), some (.int x3), some (.int x4)] [] h (runF OI S_Mo_handOf [(64, [0, 1, 2, 3, 4], fun vs st h => match vs, st with | [.ref f0, .int x1, .int x2, .int x3, .int x4], [] => (match Nat.beq f0 178 with | true => κ64 (x1, x2, x3, x4, h) | false => none) | _, _ => none)] 1 k_Mo_handOf 400) :=
  (x_ite (x_ite (x_bif rfl) (x_ite (x_bif rfl) rfl)) (x_ite (x_bI (f := sF_Mo_holderOf) rfl (w_Mo_holderOf _ _) fun v2 h1 => (x_ite (x_bI (f := sF_Mo_isThere) rfl (w_Mo_isThere _ _) fun v4 h3 => (x_ite rfl rfl)) rfl)) (x_ite (x_bif rfl) (x_ite (x_bif rfl) rfl))))
def k_Mo_hand : List Ent := [(0, .aload_n 0, 1, [], .null), (1, .iload_n 1, 1, [], .null), (2, .invokevirtual 143, 3, [97, 2, 2, 7], .null), (5, .ifCond .eq (26), 3, [31], .null), (8, .iload_n 2, 1, [], .null), (9, .iconst 0, 1, [], .int (0)), (10, .iconst 3, 1, [], .int (3)), (11, .invokestatic 72, 3, [71, 3, 2], .null), (14, .ifCond .eq (17), 3, [31], .null), (17, .aload_n 0, 1, [], .null), (18, .aload_n 0, 1, [], .null), (19, .iload_n 1, 1, [], .null), (20, .iload_n 2, 1, [], .null), (21, .invokevirtual 162, 3, [108, 3, 1, 7], .null), (24, .iconst 1, 1, [], .int (1)), (25, .invokevirtual 98, 3, [73, 3, 1, 7], .null), (28, .goto (4), 3, [32], .null), (31, .iconst (-1), 1, [], .int (-1)), (32, .ireturn, 1, [], .null)]
def F_Mo_hand (x1 : Int32) (x2 : Int32) (h : Hp) : Res Hp :=
  bI (F_Mo_isOne x1 h) fun v2 h1 =>
  if v2 = (0 : Int32) then
  (retI (-1 : Int32) h1)
  else
  (bI (F_Mo_in x2 (0 : Int32) (3 : Int32) h1) fun v4 h3 =>
  if v4 = (0 : Int32) then
  (retI (-1 : Int32) h3)
  else
  (bI (F_Mo_handOf x1 x2 h3) fun v6 h5 =>
  bI (F_Mo_ask v6 (1 : Int32) h5) fun v8 h7 =>
  retI v8 h7))
def sF_Mo_hand : List Value → Hp → Res Hp := fun as h => match as with | [.ref f0, .int x1, .int x2] => (match Nat.beq f0 178 with | true => F_Mo_hand x1 x2 h | false => none) | _ => none
theorem w_Mo_hand (x1 : Int32) (x2 : Int32) (h : Hp) : sF_Mo_hand [.ref 178, .int x1, .int x2] h = F_Mo_hand x1 x2 h := rfl
def S_Mo_hand : Sem Hp := [(97, sF_Mo_isOne), (71, sF_Mo_in), (108, sF_Mo_handOf), (73, sF_Mo_ask)]
set_option maxRecDepth 100000 in
theorem e_Mo_hand_0 (x1 : Int32) (x2 : Int32) (h : Hp) : F_Mo_hand x1 x2 h = exec1 OI S_Mo_hand 1 k_Mo_hand 0 [some (.ref 178), some (.int x1), some (.int x2)] [] h (runF OI S_Mo_hand [] 1 k_Mo_hand 400) :=
  (x_bI (f := sF_Mo_isOne) rfl (w_Mo_isOne _ _) fun v2 h1 => (x_ite rfl (x_bI (f := sF_Mo_in) rfl (w_Mo_in _ _ _ _) fun v4 h3 => (x_ite rfl (x_bI (f := sF_Mo_handOf) rfl (w_Mo_handOf _ _ _) fun v6 h5 => (x_bI (f := sF_Mo_ask) rfl (w_Mo_ask _ _ _) fun v8 h7 => rfl))))))
end
