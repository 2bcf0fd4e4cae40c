noncomputable section
def k_Mo_cutNow : List Ent := [(0, .iconst 0, 1, [], .int (0)), (1, .istore_n 1, 1, [], .null), (2, .aload_n 0, 1, [], .null), (3, .iconst 0, 1, [], .int (0)), (4, .putfield 250, 3, [7, 30, 0], .null), (7, .iconst 0, 1, [], .int (0)), (8, .istore_n 2, 1, [], .null), (9, .iload_n 2, 1, [], .null), (10, .aload_n 0, 1, [], .null), (11, .getfield 131, 3, [7, 8, 0], .null), (14, .if_icmp .ge (73), 3, [87], .null), (17, .iconst 0, 1, [], .int (0)), (18, .istore_n 3, 1, [], .null), (19, .iload_n 3, 1, [], .null), (20, .aload_n 0, 1, [], .null), (21, .getfield 131, 3, [7, 8, 0], .null), (24, .if_icmp .ge (57), 3, [81], .null), (27, .iload_n 2, 1, [], .null), (28, .iload_n 3, 1, [], .null), (29, .if_icmp .eq (46), 3, [75], .null), (32, .aload_n 0, 1, [], .null), (33, .getfield 31, 3, [7, 10, 1], .null), (36, .iload_n 2, 1, [], .null), (37, .iaload, 1, [], .null), (38, .aload_n 0, 1, [], .null), (39, .getfield 31, 3, [7, 10, 1], .null), (42, .iload_n 3, 1, [], .null), (43, .iaload, 1, [], .null), (44, .iand, 1, [], .null), (45, .ifCond .eq (30), 3, [75], .null), (48, .aload_n 0, 1, [], .null), (49, .dup, 1, [], .null), (50, .getfield 250, 3, [7, 30, 0], .null), (53, .iconst 1, 1, [], .int (1)), (54, .iadd, 1, [], .null), (55, .putfield 250, 3, [7, 30, 0], .null), (58, .iload_n 1, 1, [], .null), (59, .aload_n 0, 1, [], .null), (60, .iload_n 2, 1, [], .null), (61, .iload_n 3, 1, [], .null), (62, .invokevirtual 253, 3, [147, 3, 1, 7], .null), (65, .ifCond .ne (7), 3, [72], .null), (68, .iconst 1, 1, [], .int (1)), (69, .goto (4), 3, [73], .null), (72, .iconst 0, 1, [], .int (0)), (73, .iadd, 1, [], .null), (74, .istore_n 1, 1, [], .null), (75, .iinc 3 (1), 3, [], .int (1)), (78, .goto (-59), 3, [19], .null), (81, .iinc 2 (1), 3, [], .int (1)), (84, .goto (-75), 3, [9], .null), (87, .iload_n 1, 1, [], .null), (88, .ireturn, 1, [], .null)]
def Mo_cutNow_19 (κ9 : (Int32 × Int32 × Hp) → Res Hp)   : (Int32 × Int32 × Int32 × Hp) → ((Int32 × Int32 × Int32 × Hp) → Res Hp) → Res Hp := fun s κ19 => match s with
  | (x1, x2, x3, h) =>
  if (hg h 178 8) ≤ x3 then
  (κ9 (x1, (x2 + (1 : Int32)), h))
  else
  (if x2 = x3 then
  (κ19 (x1, x2, (x3 + (1 : Int32)), h))
  else
  (bif okA 186 100 x2 then
  bif okA 186 100 x3 then
  if ((hg h 186 x2.toNatClampNeg) &&& (hg h 186 x3.toNatClampNeg)) = (0 : Int32) then
  (κ19 (x1, x2, (x3 + (1 : Int32)), h))
  else
  (bH (hs h 178 30 ((hg h 178 30) + (1 : Int32))) fun h1 =>
  bI (F_Mo_tonguesOf x2 x3 h1) fun v3 h2 =>
  if v3 = (0 : Int32) then
  (κ19 ((x1 + (1 : Int32)), x2, (x3 + (1 : Int32)), h2))
  else
  (κ19 ((x1 + (0 : Int32)), x2, (x3 + (1 : Int32)), h2)))
  else none
  else none))
def Mo_cutNow_9    : (Int32 × Int32 × Hp) → ((Int32 × Int32 × Hp) → Res Hp) → Res Hp := fun s κ9 => match s with
  | (x1, x2, h) =>
  if (hg h 178 8) ≤ x2 then
  (retI x1 h)
  else
  (loopC (Mo_cutNow_19 κ9  ) FU (x1, x2, (0 : Int32), h))
def F_Mo_cutNow  (h : Hp) : Res Hp :=
  bH (hs h 178 30 (0 : Int32)) fun h1 =>
  loopC (Mo_cutNow_9   ) FU ((0 : Int32), (0 : Int32), h1)
def sF_Mo_cutNow : List Value → Hp → Res Hp := fun as h => match as with | [.ref f0] => (match Nat.beq f0 178 with | true => F_Mo_cutNow  h | false => none) | _ => none
theorem w_Mo_cutNow  (h : Hp) : sF_Mo_cutNow [.ref 178] h = F_Mo_cutNow  h := rfl
def S_Mo_cutNow : Sem Hp := [(147, sF_Mo_tonguesOf)]
set_option maxRecDepth 100000 in
theorem e_Mo_cutNow_0  (h : Hp) : F_Mo_cutNow  h = exec1 OI S_Mo_cutNow 1 k_Mo_cutNow 0 [some (.ref 178), none, none, none] [] h (runF OI S_Mo_cutNow [(9, [0, 1, 2], fun vs st h => match vs, st with | [.ref f0, .int x1, .int x2], [] => (match Nat.beq f0 178 with | true => loopC (Mo_cutNow_9   ) FU (x1, x2, h) | false => none) | _, _ => none)] 1 k_Mo_cutNow 400) :=
  (x_bH fun h1 => rfl)
set_option maxRecDepth 100000 in
theorem e_Mo_cutNow_9 (κ9 : (Int32 × Int32 × Hp) → Res Hp) (x1 : Int32) (x2 : Int32)  (h : Hp) : Mo_cutNow_9    (x1, x2, h) κ9 = exec1 OI S_Mo_cutNow 1 k_Mo_cutNow 9 [some (.ref 178), some (.int x1), some (.int x2), none] [] h (runF OI S_Mo_cutNow [(19, [0, 1, 2, 3], fun vs st h => match vs, st with | [.ref f0, .int x1, .int x2, .int x3], [] => (match Nat.beq f0 178 with | true => loopC (Mo_cutNow_19 κ9  ) FU (x1, x2, x3, h) | false => none) | _, _ => none)] 1 k_Mo_cutNow 400) :=
  (x_ite rfl rfl)
set_option maxRecDepth 100000 in
theorem e_Mo_cutNow_19 (κ9 : (Int32 × Int32 × Hp) → Res Hp) (κ19 : (Int32 × Int32 × Int32 × Hp) → Res Hp) (x1 : Int32) (x2 : Int32) (x3 : Int32)  (h : Hp) : Mo_cutNow_19 κ9   (x1, x2, x3, h) κ19 = exec1 OI S_Mo_cutNow 1 k_Mo_cutNow 19 [some (.ref 178), some (.int x1), some (.int x2), some (.int x3)] [] h (runF OI S_Mo_cutNow [(9, [0, 1, 2], fun vs st h => match vs, st with | [.ref f0, .int x1, .int x2], [] => (match Nat.beq f0 178 with | true => κ9 (x1, x2, h) | false => none) | _, _ => none), (19, [0, 1, 2, 3], fun vs st h => match vs, st with | [.ref f0, .int x1, .int x2, .int x3], [] => (match Nat.beq f0 178 with | true => κ19 (x1, x2, x3, h) | false => none) | _, _ => none)] 1 k_Mo_cutNow 400) :=
  (x_ite rfl (x_ite rfl (x_bif (x_bif (x_ite rfl (x_bH fun h1 => (x_bI (f := sF_Mo_tonguesOf) rfl (w_Mo_tonguesOf _ _ _) fun v3 h2 => (x_ite rfl rfl))))))))
def k_Mo_cutOff : List Ent := [(0, .aload_n 0, 1, [], .null), (1, .invokevirtual 256, 3, [148, 1, 1, 7], .null), (4, .istore_n 1, 1, [], .null), (5, .aload_n 0, 1, [], .null), (6, .aload_n 0, 1, [], .null), (7, .getfield 250, 3, [7, 30, 0], .null), (10, .iload_n 1, 1, [], .null), (11, .invokevirtual 98, 3, [73, 3, 1, 7], .null), (14, .ireturn, 1, [], .null)]
def F_Mo_cutOff  (h : Hp) : Res Hp :=
  bI (F_Mo_cutNow  h) fun v2 h1 =>
  bI (F_Mo_ask (hg h1 178 30) v2 h1) fun v4 h3 =>
  retI v4 h3
def sF_Mo_cutOff : List Value → Hp → Res Hp := fun as h => match as with | [.ref f0] => (match Nat.beq f0 178 with | true => F_Mo_cutOff  h | false => none) | _ => none
theorem w_Mo_cutOff  (h : Hp) : sF_Mo_cutOff [.ref 178] h = F_Mo_cutOff  h := rfl
def S_Mo_cutOff : Sem Hp := [(148, sF_Mo_cutNow), (73, sF_Mo_ask)]
set_option maxRecDepth 100000 in
theorem e_Mo_cutOff_0  (h : Hp) : F_Mo_cutOff  h = exec1 OI S_Mo_cutOff 1 k_Mo_cutOff 0 [some (.ref 178), none] [] h (runF OI S_Mo_cutOff [] 1 k_Mo_cutOff 400) :=
  (x_bI (f := sF_Mo_cutNow) rfl (w_Mo_cutNow  _) fun v2 h1 => (x_bI (f := sF_Mo_ask) rfl (w_Mo_ask _ _ _) fun v4 h3 => rfl))
def k_Mo_cutIf : List Ent := [(0, .aload_n 0, 1, [], .null), (1, .getfield 31, 3, [7, 10, 1], .null), (4, .iload_n 1, 1, [], .null), (5, .iaload, 1, [], .null), (6, .istore_n 3, 1, [], .null), (7, .aload_n 0, 1, [], .null), (8, .getfield 31, 3, [7, 10, 1], .null), (11, .iload_n 1, 1, [], .null), (12, .dup2, 1, [], .null), (13, .iaload, 1, [], .null), (14, .iconst 1, 1, [], .int (1)), (15, .iload_n 2, 1, [], .null), (16, .ishl, 1, [], .null), (17, .ior, 1, [], .null), (18, .iastore, 1, [], .null), (19, .aload_n 0, 1, [], .null), (20, .invokevirtual 256, 3, [148, 1, 1, 7], .null), (23, .istore 4, 2, [], .null), (25, .aload_n 0, 1, [], .null), (26, .getfield 31, 3, [7, 10, 1], .null), (29, .iload_n 1, 1, [], .null), (30, .iload_n 3, 1, [], .null), (31, .iastore, 1, [], .null), (32, .iload 4, 2, [], .null), (34, .ireturn, 1, [], .null)]
def F_Mo_cutIf (x1 : Int32) (x2 : Int32) (h : Hp) : Res Hp :=
  bif okA 186 100 x1 then
  bif okA 186 100 x1 then
  bif okA 186 100 x1 then
  bH (hs h 186 x1.toNatClampNeg ((hg h 186 x1.toNatClampNeg) ||| ((1 : Int32) <<< (x2 &&& 31)))) fun h1 =>
  bI (F_Mo_cutNow  h1) fun v3 h2 =>
  bif okA 186 100 x1 then
  bH (hs h2 186 x1.toNatClampNeg (hg h 186 x1.toNatClampNeg)) fun h4 =>
  retI v3 h4
  else none
  else none
  else none
  else none
def sF_Mo_cutIf : List Value → Hp → Res Hp := fun as h => match as with | [.ref f0, .int x1, .int x2] => (match Nat.beq f0 178 with | true => F_Mo_cutIf x1 x2 h | false => none) | _ => none
theorem w_Mo_cutIf (x1 : Int32) (x2 : Int32) (h : Hp) : sF_Mo_cutIf [.ref 178, .int x1, .int x2] h = F_Mo_cutIf x1 x2 h := rfl
def S_Mo_cutIf : Sem Hp := [(148, sF_Mo_cutNow)]
set_option maxRecDepth 100000 in
theorem e_Mo_cutIf_0 (x1 : Int32) (x2 : Int32) (h : Hp) : F_Mo_cutIf x1 x2 h = exec1 OI S_Mo_cutIf 1 k_Mo_cutIf 0 [some (.ref 178), some (.int x1), some (.int x2), none, none] [] h (runF OI S_Mo_cutIf [] 1 k_Mo_cutIf 400) :=
  (x_bif (x_bif (x_bif (x_bH fun h1 => (x_bI (f := sF_Mo_cutNow) rfl (w_Mo_cutNow  _) fun v3 h2 => (x_bif (x_bH fun h4 => rfl)))))))
def k_Mo_taught : List Ent := [(0, .aload_n 0, 1, [], .null), (1, .iload_n 1, 1, [], .null), (2, .invokevirtual 143, 3, [97, 2, 2, 7], .null), (5, .ifCond .eq (10), 3, [15], .null), (8, .iload_n 2, 1, [], .null), (9, .invokestatic 174, 3, [99, 1, 2], .null), (12, .ifCond .ne (5), 3, [17], .null), (15, .iconst (-1), 1, [], .int (-1)), (16, .ireturn, 1, [], .null), (17, .aload_n 0, 1, [], .null), (18, .invokevirtual 256, 3, [148, 1, 1, 7], .null), (21, .istore_n 3, 1, [], .null), (22, .aload_n 0, 1, [], .null), (23, .aload_n 0, 1, [], .null), (24, .iload_n 1, 1, [], .null), (25, .iload_n 2, 1, [], .null), (26, .invokevirtual 260, 3, [150, 3, 1, 7], .null), (29, .iload_n 3, 1, [], .null), (30, .isub, 1, [], .null), (31, .iconst 1, 1, [], .int (1)), (32, .invokevirtual 98, 3, [73, 3, 1, 7], .null), (35, .ireturn, 1, [], .null)]
def F_Mo_taught (x1 : Int32) (x2 : Int32) (h : Hp) : Res Hp :=
  bI (F_Mo_isOne x1 h) fun v2 h1 =>
  if v2 = (0 : Int32) then
  (retI (-1 : Int32) h1)
  else
  (bI (F_Mo_isTongue x2 h1) fun v4 h3 =>
  if v4 = (0 : Int32) then
  (retI (-1 : Int32) h3)
  else
  (bI (F_Mo_cutNow  h3) fun v6 h5 =>
  bI (F_Mo_cutIf x1 x2 h5) fun v8 h7 =>
  bI (F_Mo_ask (v8 - v6) (1 : Int32) h7) fun v10 h9 =>
  retI v10 h9))
def sF_Mo_taught : List Value → Hp → Res Hp := fun as h => match as with | [.ref f0, .int x1, .int x2] => (match Nat.beq f0 178 with | true => F_Mo_taught x1 x2 h | false => none) | _ => none
theorem w_Mo_taught (x1 : Int32) (x2 : Int32) (h : Hp) : sF_Mo_taught [.ref 178, .int x1, .int x2] h = F_Mo_taught x1 x2 h := rfl
def S_Mo_taught : Sem Hp := [(97, sF_Mo_isOne), (99, sF_Mo_isTongue), (148, sF_Mo_cutNow), (150, sF_Mo_cutIf), (73, sF_Mo_ask)]
set_option maxRecDepth 100000 in
theorem e_Mo_taught_0 (x1 : Int32) (x2 : Int32) (h : Hp) : F_Mo_taught x1 x2 h = exec1 OI S_Mo_taught 1 k_Mo_taught 0 [some (.ref 178), some (.int x1), some (.int x2), none] [] h (runF OI S_Mo_taught [] 1 k_Mo_taught 400) :=
  (x_bI (f := sF_Mo_isOne) rfl (w_Mo_isOne _ _) fun v2 h1 => (x_ite rfl (x_bI (f := sF_Mo_isTongue) rfl (w_Mo_isTongue _ _) fun v4 h3 => (x_ite rfl (x_bI (f := sF_Mo_cutNow) rfl (w_Mo_cutNow  _) fun v6 h5 => (x_bI (f := sF_Mo_cutIf) rfl (w_Mo_cutIf _ _ _) fun v8 h7 => (x_bI (f := sF_Mo_ask) rfl (w_Mo_ask _ _ _) fun v10 h9 => rfl)))))))
def k_Mo_best : List Ent := [(0, .bipush (-9), 2, [], .int (-9)), (2, .istore_n 1, 1, [], .null), (3, .ldc 226, 2, [], .int (1048576)), (5, .istore_n 2, 1, [], .null), (6, .iconst 0, 1, [], .int (0)), (7, .istore_n 3, 1, [], .null), (8, .iload_n 3, 1, [], .null), (9, .aload_n 0, 1, [], .null), (10, .getfield 131, 3, [7, 8, 0], .null), (13, .if_icmp .ge (78), 3, [91], .null), (16, .iconst 0, 1, [], .int (0)), (17, .istore 4, 2, [], .null), (19, .iload 4, 2, [], .null), (21, .iconst 5, 1, [], .int (5)), (22, .if_icmp .ge (63), 3, [85], .null), (25, .aload_n 0, 1, [], .null), (26, .getfield 31, 3, [7, 10, 1], .null), (29, .iload_n 3, 1, [], .null), (30, .iaload, 1, [], .null), (31, .iload 4, 2, [], .null), (33, .invokestatic 195, 3, [74, 2, 2], .null), (36, .ifCond .ne (43), 3, [79], .null), (39, .aload_n 0, 1, [], .null), (40, .iload_n 3, 1, [], .null), (41, .iload 4, 2, [], .null), (43, .invokevirtual 260, 3, [150, 3, 1, 7], .null), (46, .istore 5, 2, [], .null), (48, .iload 5, 2, [], .null), (50, .iload_n 2, 1, [], .null), (51, .if_icmp .ge (13), 3, [64], .null), (54, .bipush (10), 2, [], .int (10)), (56, .iload_n 3, 1, [], .null), (57, .imul, 1, [], .null), (58, .iload 4, 2, [], .null), (60, .iadd, 1, [], .null), (61, .goto (4), 3, [65], .null), (64, .iload_n 1, 1, [], .null), (65, .istore_n 1, 1, [], .null), (66, .iload 5, 2, [], .null), (68, .iload_n 2, 1, [], .null), (69, .if_icmp .ge (8), 3, [77], .null), (72, .iload 5, 2, [], .null), (74, .goto (4), 3, [78], .null), (77, .iload_n 2, 1, [], .null), (78, .istore_n 2, 1, [], .null), (79, .iinc 4 (1), 3, [], .int (1)), (82, .goto (-63), 3, [19], .null), (85, .iinc 3 (1), 3, [], .int (1)), (88, .goto (-80), 3, [8], .null), (91, .iload_n 1, 1, [], .null), (92, .bipush (-9), 2, [], .int (-9)), (94, .if_icmp .ne (8), 3, [102], .null), (97, .bipush (-9), 2, [], .int (-9)), (99, .goto (9), 3, [108], .null), (102, .aload_n 0, 1, [], .null), (103, .iload_n 2, 1, [], .null), (104, .iload_n 1, 1, [], .null), (105, .invokevirtual 98, 3, [73, 3, 1, 7], .null), (108, .ireturn, 1, [], .null)]
def Mo_best_19 (κ8 : (Int32 × Int32 × Int32 × Hp) → Res Hp)   : (Int32 × Int32 × Int32 × Int32 × Hp) → ((Int32 × Int32 × Int32 × Int32 × Hp) → Res Hp) → Res Hp := fun s κ19 => match s with
  | (x1, x2, x3, x4, h) =>
  if (5 : Int32) ≤ x4 then
  (κ8 (x1, x2, (x3 + (1 : Int32)), h))
  else
  (bif okA 186 100 x3 then
  bI (F_Mo_has (hg h 186 x3.toNatClampNeg) x4 h) fun v2 h1 =>
  if v2 = (0 : Int32) then
  (bI (F_Mo_cutIf x3 x4 h1) fun v4 h3 =>
  if x2 ≤ v4 then
  (if x2 ≤ v4 then
  (κ19 (x1, x2, x3, (x4 + (1 : Int32)), h3))
  else
  (κ19 (x1, v4, x3, (x4 + (1 : Int32)), h3)))
  else
  (if x2 ≤ v4 then
  (κ19 ((((10 : Int32) * x3) + x4), x2, x3, (x4 + (1 : Int32)), h3))
  else
  (κ19 ((((10 : Int32) * x3) + x4), v4, x3, (x4 + (1 : Int32)), h3))))
  else
  (κ19 (x1, x2, x3, (x4 + (1 : Int32)), h1))
  else none)
def Mo_best_8    : (Int32 × Int32 × Int32 × Hp) → ((Int32 × Int32 × Int32 × Hp) → Res Hp) → Res Hp := fun s κ8 => match s with
  | (x1, x2, x3, h) =>
  if (hg h 178 8) ≤ x3 then
  (if x1 = (-9 : Int32) then
  (retI (-9 : Int32) h)
  else
  (bI (F_Mo_ask x2 x1 h) fun v2 h1 =>
  retI v2 h1))
  else
  (loopC (Mo_best_19 κ8  ) FU (x1, x2, x3, (0 : Int32), h))
def F_Mo_best  (h : Hp) : Res Hp :=
  loopC (Mo_best_8   ) FU ((-9 : Int32), (1048576 : Int32), (0 : Int32), h)
def sF_Mo_best : List Value → Hp → Res Hp := fun as h => match as with | [.ref f0] => (match Nat.beq f0 178 with | true => F_Mo_best  h | false => none) | _ => none
theorem w_Mo_best  (h : Hp) : sF_Mo_best [.ref 178] h = F_Mo_best  h := rfl
def S_Mo_best : Sem Hp := [(73, sF_Mo_ask), (74, sF_Mo_has), (150, sF_Mo_cutIf)]
set_option maxRecDepth 100000 in
theorem e_Mo_best_0  (h : Hp) : F_Mo_best  h = exec1 OI S_Mo_best 1 k_Mo_best 0 [some (.ref 178), none, none, none, none, none] [] h (runF OI S_Mo_best [(8, [0, 1, 2, 3], fun vs st h => match vs, st with | [.ref f0, .int x1, .int x2, .int x3], [] => (match Nat.beq f0 178 with | true => loopC (Mo_best_8   ) FU (x1, x2, x3, h) | false => none) | _, _ => none)] 1 k_Mo_best 400) :=
  rfl
set_option maxRecDepth 100000 in
theorem e_Mo_best_8 (κ8 : (Int32 × Int32 × Int32 × Hp) → Res Hp) (x1 : Int32) (x2 : Int32) (x3 : Int32)  (h : Hp) : Mo_best_8    (x1, x2, x3, h) κ8 = exec1 OI S_Mo_best 1 k_Mo_best 8 [some (.ref 178), some (.int x1), some (.int x2), some (.int x3), none, none] [] h (runF OI S_Mo_best [(19, [0, 1, 2, 3, 4], fun vs st h => match vs, st with | [.ref f0, .int x1, .int x2, .int x3, .int x4], [] => (match Nat.beq f0 178 with | true => loopC (Mo_best_19 κ8  ) FU (x1, x2, x3, x4, h) | false => none) | _, _ => none)] 1 k_Mo_best 400) :=
  (x_ite (x_ite rfl (x_bI (f := sF_Mo_ask) rfl (w_Mo_ask _ _ _) fun v2 h1 => rfl)) rfl)
set_option maxRecDepth 100000 in
theorem e_Mo_best_19 (κ8 : (Int32 × Int32 × Int32 × Hp) → Res Hp) (κ19 : (Int32 × Int32 × Int32 × Int32 × Hp) → Res Hp) (x1 : Int32) (x2 : Int32) (x3 : Int32) (x4 : Int32)  (h : Hp) : Mo_best_19 κ8   (x1, x2, x3, x4, h) κ19 = exec1 OI S_Mo_best 1 k_Mo_best 19 [some (.ref 178), some (.int x1), some (.int x2), some (.int x3), some (.int x4), none] [] h (runF OI S_Mo_best [(8, [0, 1, 2, 3], fun vs st h => match vs, st with | [.ref f0, .int x1, .int x2, .int x3], [] => (match Nat.beq f0 178 with | true => κ8 (x1, x2, x3, h) | false => none) | _, _ => none), (19, [0, 1, 2, 3, 4], fun vs st h => match vs, st with | [.ref f0, .int x1, .int x2, .int x3, .int x4], [] => (match Nat.beq f0 178 with | true => κ19 (x1, x2, x3, x4, h) | false => none) | _, _ => none)] 1 k_Mo_best 400) :=
  (x_ite rfl (x_bif (x_bI (f := sF_Mo_has) rfl (w_Mo_has _ _ _) fun v2 h1 => (x_ite (x_bI (f := sF_Mo_cutIf) rfl (w_Mo_cutIf _ _ _) fun v4 h3 => (x_ite (x_ite rfl rfl) (x_ite rfl rfl))) rfl))))
def k_Mo_worth : List Ent := [(0, .aload_n 0, 1, [], .null), (1, .iload_n 1, 1, [], .null), (2, .invokevirtual 143, 3, [97, 2, 2, 7], .null), (5, .ifCond .ne (5), 3, [10], .null), (8, .iconst (-1), 1, [], .int (-1)), (9, .ireturn, 1, [], .null), (10, .iconst 0, 1, [], .int (0)), (11, .istore_n 2, 1, [], .null), (12, .iconst 0, 1, [], .int (0)), (13, .istore_n 3, 1, [], .null), (14, .iload_n 3, 1, [], .null), (15, .aload_n 0, 1, [], .null), (16, .getfield 131, 3, [7, 8, 0], .null), (19, .if_icmp .ge (79), 3, [98], .null), (22, .iconst 0, 1, [], .int (0)), (23, .istore 4, 2, [], .null), (25, .iload 4, 2, [], .null), (27, .aload_n 0, 1, [], .null), (28, .getfield 131, 3, [7, 8, 0], .null), (31, .if_icmp .ge (61), 3, [92], .null), (34, .iconst 0, 1, [], .int (0)), (35, .istore 5, 2, [], .null), (37, .iload 5, 2, [], .null), (39, .iconst 5, 1, [], .int (5)), (40, .if_icmp .ge (46), 3, [86], .null), (43, .iload_n 2, 1, [], .null), (44, .iload_n 3, 1, [], .null), (45, .iload 4, 2, [], .null), (47, .if_icmp .eq (30), 3, [77], .null), (50, .aload_n 0, 1, [], .null), (51, .iload_n 3, 1, [], .null), (52, .iload 4, 2, [], .null), (54, .iload 5, 2, [], .null), (56, .invokevirtual 247, 3, [145, 4, 2, 7], .null), (59, .ifCond .eq (18), 3, [77], .null), (62, .aload_n 0, 1, [], .null), (63, .getfield 220, 3, [7, 28, 0], .null), (66, .iload_n 1, 1, [], .null), (67, .invokestatic 195, 3, [74, 2, 2], .null), (70, .ifCond .eq (7), 3, [77], .null), (73, .iconst 1, 1, [], .int (1)), (74, .goto (4), 3, [78], .null), (77, .iconst 0, 1, [], .int (0)), (78, .iadd, 1, [], .null), (79, .istore_n 2, 1, [], .null), (80, .iinc 5 (1), 3, [], .int (1)), (83, .goto (-46), 3, [37], .null), (86, .iinc 4 (1), 3, [], .int (1)), (89, .goto (-64), 3, [25], .null), (92, .iinc 3 (1), 3, [], .int (1)), (95, .goto (-81), 3, [14], .null), (98, .iload_n 2, 1, [], .null), (99, .ireturn, 1, [], .null)]
def Mo_worth_37 (κ14 : (Int32 × Int32 × Int32 × Hp) → Res Hp) (κ25 : (Int32 × Int32 × Int32 × Int32 × Hp) → Res Hp)   : (Int32 × Int32 × Int32 × Int32 × Int32 × Hp) → ((Int32 × Int32 × Int32 × Int32 × Int32 × Hp) → Res Hp) → Res Hp := fun s κ37 => match s with
  | (x1, x2, x3, x4, x5, h) =>
  if (5 : Int32) ≤ x5 then
  (κ25 (x1, x2, x3, (x4 + (1 : Int32)), h))
  else
  (if x3 = x4 then
  (κ37 (x1, (x2 + (0 : Int32)), x3, x4, (x5 + (1 : Int32)), h))
  else
  (bI (F_Mo_isWayIn x3 x4 x5 h) fun v2 h1 =>
  if v2 = (0 : Int32) then
  (κ37 (x1, (x2 + (0 : Int32)), x3, x4, (x5 + (1 : Int32)), h1))
  else
  (bI (F_Mo_has (hg h1 178 28) x1 h1) fun v4 h3 =>
  if v4 = (0 : Int32) then
  (κ37 (x1, (x2 + (0 : Int32)), x3, x4, (x5 + (1 : Int32)), h3))
  else
  (κ37 (x1, (x2 + (1 : Int32)), x3, x4, (x5 + (1 : Int32)), h3)))))
def Mo_worth_25 (κ14 : (Int32 × Int32 × Int32 × Hp) → Res Hp)   : (Int32 × Int32 × Int32 × Int32 × Hp) → ((Int32 × Int32 × Int32 × Int32 × Hp) → Res Hp) → Res Hp := fun s κ25 => match s with
  | (x1, x2, x3, x4, h) =>
  if (hg h 178 8) ≤ x4 then
  (κ14 (x1, x2, (x3 + (1 : Int32)), h))
  else
  (loopC (Mo_worth_37 κ14 κ25  ) FU (x1, x2, x3, x4, (0 : Int32), h))
def Mo_worth_14    : (Int32 × Int32 × Int32 × Hp) → ((Int32 × Int32 × Int32 × Hp) → Res Hp) → Res Hp := fun s κ14 => match s with
  | (x1, x2, x3, h) =>
  if (hg h 178 8) ≤ x3 then
  (retI x2 h)
  else
  (loopC (Mo_worth_25 κ14  ) FU (x1, x2, x3, (0 : Int32), h))
def F_Mo_worth (x1 : Int32) (h : Hp) : Res Hp :=
  bI (F_Mo_isOne x1 h) fun v2 h1 =>
  if v2 = (0 : Int32) then
  (retI (-1 : Int32) h1)
  else
  (loopC (Mo_worth_14   ) FU (x1, (0 : Int32), (0 : Int32), h1))
def sF_Mo_worth : List Value → Hp → Res Hp := fun as h => match as with | [.ref f0, .int x1] => (match Nat.beq f0 178 with | true => F_Mo_worth x1 h | false => none) | _ => none
theorem w_Mo_worth (x1 : Int32) (h : Hp) : sF_Mo_worth [.ref 178, .int x1] h = F_Mo_worth x1 h := rfl
def S_Mo_worth : Sem Hp := [(97, sF_Mo_isOne), (145, sF_Mo_isWayIn), (74, sF_Mo_has)]
set_option maxRecDepth 100000 in
theorem e_Mo_worth_0 (x1 : Int32) (h : Hp) : F_Mo_worth x1 h = exec1 OI S_Mo_worth 1 k_Mo_worth 0 [some (.ref 178), some (.int x1), none, none, none, none] [] h (runF OI S_Mo_worth [(14, [0, 1, 2, 3], fun vs st h => match vs, st with | [.ref f0, .int x1, .int x2, .int x3], [] => (match Nat.beq f0 178 with | true => loopC (Mo_worth_14   ) FU (x1, x2, x3, h) | false => none) | _, _ => none)] 1 k_Mo_worth 400) :=
  (x_bI (f := sF_Mo_isOne) rfl (w_Mo_isOne _ _) fun v2 h1 => (x_ite rfl rfl))
set_option maxRecDepth 100000 in
theorem e_Mo_worth_14 (κ14 : (Int32 × Int32 × Int32 × Hp) → Res Hp) (x1 : Int32) (x2 : Int32) (x3 : Int32)  (h : Hp) : Mo_worth_14    (x1, x2, x3, h) κ14 = exec1 OI S_Mo_worth 1 k_Mo_worth 14 [some (.ref 178), some (.int x1), some (.int x2), some (.int x3), none, none] [] h (runF OI S_Mo_worth [(25, [0, 1, 2, 3, 4], fun vs st h => match vs, st with | [.ref f0, .int x1, .int x2, .int x3, .int x4], [] => (match Nat.beq f0 178 with | true => loopC (Mo_worth_25 κ14  ) FU (x1, x2, x3, x4, h) | false => none) | _, _ => none)] 1 k_Mo_worth 400) :=
  (x_ite rfl rfl)
set_option maxRecDepth 100000 in
theorem e_Mo_worth_25 (κ14 : (Int32 × Int32 × Int32 × Hp) → Res Hp) (κ25 : (Int32 × Int32 × Int32 × Int32 × Hp) → Res Hp) (x1 : Int32) (x2 : Int32) (x3 : Int32) (x4 : Int32)  (h : Hp) : Mo_worth_25 κ14   (x1, x2, x3, x4, h) κ25 = exec1 OI S_Mo_worth 1 k_Mo_worth 25 [some (.ref 178), some (.int x1), some (.int x2), some (.int x3), some (.int x4), none] [] h (runF OI S_Mo_worth [(14, [0, 1, 2, 3], fun vs st h => match vs, st with | [.ref f0, .int x1, .int x2, .int x3], [] => (match Nat.beq f0 178 with | true => κ14 (x1, x2, x3, h) | false => none) | _, _ => none), (37, [0, 1, 2, 3, 4, 5], fun vs st h => match vs, st with | [.ref f0, .int x1, .int x2, .int x3, .int x4, .int x5], [] => (match Nat.beq f0 178 with | true => loopC (Mo_worth_37 κ14 κ25  ) FU (x1, x2, x3, x4, x5, h) | false => none) | _, _ => none)] 1 k_Mo_worth 400) :=
  (x_ite rfl rfl)
set_option maxRecDepth 100000 in
theorem e_Mo_worth_37 (κ14 : (Int32 × Int32 × Int32 × Hp) → Res Hp) (κ25 : (Int32 × Int32 × Int32 × Int32 × Hp) → Res Hp) (κ37 : (Int32 × Int32 × Int32 × Int32 × Int32 × Hp) → Res Hp) (x1 : Int32) (x2 : Int32) (x3 : Int32) (x4 : Int32) (x5 : Int32)  (h : Hp) : Mo_worth_37 κ14 κ25   (x1, x2, x3, x4, x5, h) κ37 = exec1 OI S_Mo_worth 1 k_Mo_worth 37 [some (.ref 178), some (.int x1), some (.int x2), some (.int x3), some (.int x4), some (.int x5)] [] h (runF OI S_Mo_worth [(25, [0, 1, 2, 3, 4], fun vs st h => match vs, st with | [.ref f0, .int x1, .int x2, .int x3, .int x4], [] => (match Nat.beq f0 178 with | true => κ25 (x1, x2, x3, x4, h) | false => none) | _, _ => none), (37, [0, 1, 2, 3, 4, 5], fun vs st h => match vs, st with | [.ref f0, .int x1, .int x2, .int x3, .int x4, .int x5], [] => (match Nat.beq f0 178 with | true => κ37 (x1, x2, x3, x4, x5, h) | false => none) | _, _ => none)] 1 k_Mo_worth 400) :=
  (x_ite rfl (x_ite rfl (x_bI (f := sF_Mo_isWayIn) rfl (w_Mo_isWayIn _ _ _ _) fun v2 h1 => (x_ite rfl (x_bI (f := sF_Mo_has) rfl (w_Mo_has _ _ _) fun v4 h3 => (x_ite rfl rfl))))))
def k_Mo_fewest : List Ent := [(0, .iconst 0, 1, [], .int (0)), (1, .istore_n 1, 1, [], .null), (2, .iload_n 1, 1, [], .null), (3, .aload_n 0, 1, [], .null), (4, .getfield 131, 3, [7, 8, 0], .null), (7, .if_icmp .ge (51), 3, [58], .null), (10, .iconst 0, 1, [], .int (0)), (11, .istore_n 2, 1, [], .null), (12, .iload_n 2, 1, [], .null), (13, .aload_n 0, 1, [], .null), (14, .getfield 131, 3, [7, 8, 0], .null), (17, .if_icmp .ge (35), 3, [52], .null), (20, .aload_n 0, 1, [], .null), (21, .getfield 62, 3, [7, 31, 1], .null), (24, .bipush (7), 2, [], .int (7)), (26, .iload_n 1, 1, [], .null), (27, .imul, 1, [], .null), (28, .iload_n 2, 1, [], .null), (29, .iadd, 1, [], .null), (30, .iload_n 1, 1, [], .null), (31, .iload_n 2, 1, [], .null), (32, .if_icmp .ne (7), 3, [39], .null), (35, .iconst 0, 1, [], .int (0)), (36, .goto (9), 3, [45], .null), (39, .aload_n 0, 1, [], .null), (40, .iload_n 1, 1, [], .null), (41, .iload_n 2, 1, [], .null), (42, .invokevirtual 253, 3, [147, 3, 1, 7], .null), (45, .iastore, 1, [], .null), (46, .iinc 2 (1), 3, [], .int (1)), (49, .goto (-37), 3, [12], .null), (52, .iinc 1 (1), 3, [], .int (1)), (55, .goto (-53), 3, [2], .null), (58, .bipush (31), 2, [], .int (31)), (60, .istore_n 1, 1, [], .null), (61, .bipush (31), 2, [], .int (31)), (63, .istore_n 2, 1, [], .null), (64, .iload_n 2, 1, [], .null), (65, .ifCond .lt (109), 3, [174], .null), (68, .iload_n 2, 1, [], .null), (69, .invokestatic 165, 3, [75, 1, 1], .null), (72, .iload_n 1, 1, [], .null), (73, .invokestatic 165, 3, [75, 1, 1], .null), (76, .if_icmp .gt (7), 3, [83], .null), (79, .iconst 1, 1, [], .int (1)), (80, .goto (4), 3, [84], .null), (83, .iconst 0, 1, [], .int (0)), (84, .istore_n 3, 1, [], .null), (85, .iconst 0, 1, [], .int (0)), (86, .istore 4, 2, [], .null), (88, .iload 4, 2, [], .null), (90, .aload_n 0, 1, [], .null), (91, .getfield 131, 3, [7, 8, 0], .null), (94, .if_icmp .ge (64), 3, [158], .null), (97, .iconst 0, 1, [], .int (0)), (98, .istore 5, 2, [], .null), (100, .iload 5, 2, [], .null), (102, .aload_n 0, 1, [], .null), (103, .getfield 131, 3, [7, 8, 0], .null), (106, .if_icmp .ge (46), 3, [152], .null), (109, .aload_n 0, 1, [], .null), (110, .getfield 62, 3, [7, 31, 1], .null), (113, .bipush (7), 2, [], .int (7)), (115, .iload 4, 2, [], .null), (117, .imul, 1, [], .null), (118, .iload 5, 2, [], .null), (120, .iadd, 1, [], .null), (121, .iaload, 1, [], .null), (122, .istore 6, 2, [], .null), (124, .iload_n 3, 1, [], .null), (125, .ifCond .eq (19), 3, [144], .null), (128, .iload 6, 2, [], .null), (130, .ifCond .eq (10), 3, [140], .null), (133, .iload 6, 2, [], .null), (135, .iload_n 2, 1, [], .null), (136, .iand, 1, [], .null), (137, .ifCond .eq (7), 3, [144], .null), (140, .iconst 1, 1, [], .int (1)), (141, .goto (4), 3, [145], .null), (144, .iconst 0, 1, [], .int (0)), (145, .istore_n 3, 1, [], .null), (146, .iinc 5 (1), 3, [], .int (1)), (149, .goto (-49), 3, [100], .null), (152, .iinc 4 (1), 3, [], .int (1)), (155, .goto (-67), 3, [88], .null), (158, .iload_n 3, 1, [], .null), (159, .ifCond .eq (7), 3, [166], .null), (162, .iload_n 2, 1, [], .null), (163, .goto (4), 3, [167], .null), (166, .iload_n 1, 1, [], .null), (167, .istore_n 1, 1, [], .null), (168, .iinc 2 (-1), 3, [], .int (-1)), (171, .goto (-107), 3, [64], .null), (174, .aload_n 0, 1, [], .null), (175, .iload_n 1, 1, [], .null), (176, .iload_n 1, 1, [], .null), (177, .invokestatic 165, 3, [75, 1, 1], .null), (180, .invokevirtual 98, 3, [73, 3, 1, 7], .null), (183, .ireturn, 1, [], .null)]
def Mo_fewest_100 (κ64 : (Int32 × Int32 × Hp) → Res Hp) (κ88 : (Int32 × Int32 × Int32 × Int32 × Hp) → Res Hp)   : (Int32 × Int32 × Int32 × Int32 × Int32 × Hp) → ((Int32 × Int32 × Int32 × Int32 × Int32 × Hp) → Res Hp) → Res Hp := fun s κ100 => match s with
  | (x1, x2, x3, x4, x5, h) =>
  if (hg h 178 8) ≤ x5 then
  (κ88 (x1, x2, x3, (x4 + (1 : Int32)), h))
  else
  (bif okA 196 100 (((7 : Int32) * x4) + x5) then
  if x3 = (0 : Int32) then
  (κ100 (x1, x2, (0 : Int32), x4, (x5 + (1 : Int32)), h))
  else
  (if (hg h 196 (((7 : Int32) * x4) + x5).toNatClampNeg) = (0 : Int32) then
  (κ100 (x1, x2, (1 : Int32), x4, (x5 + (1 : Int32)), h))
  else
  (if ((hg h 196 (((7 : Int32) * x4) + x5).toNatClampNeg) &&& x2) = (0 : Int32) then
  (κ100 (x1, x2, (0 : Int32), x4, (x5 + (1 : Int32)), h))
  else
  (κ100 (x1, x2, (1 : Int32), x4, (x5 + (1 : Int32)), h))))
  else none)
def Mo_fewest_88 (κ64 : (Int32 × Int32 × Hp) → Res Hp)   : (Int32 × Int32 × Int32 × Int32 × Hp) → ((Int32 × Int32 × Int32 × Int32 × Hp) → Res Hp) → Res Hp := fun s κ88 => match s with
  | (x1, x2, x3, x4, h) =>
  if (hg h 178 8) ≤ x4 then
  (if x3 = (0 : Int32) then
  (κ64 (x1, (x2 + (-1 : Int32)), h))
  else
  (κ64 (x2, (x2 + (-1 : Int32)), h)))
  else
  (loopC (Mo_fewest_100 κ64 κ88  ) FU (x1, x2, x3, x4, (0 : Int32), h))
def Mo_fewest_64    : (Int32 × Int32 × Hp) → ((Int32 × Int32 × Hp) → Res Hp) → Res Hp := fun s κ64 => match s with
  | (x1, x2, h) =>
  if x2 < (0 : Int32) then
  (bI (F_Mo_sizeOf x1 h) fun v2 h1 =>
  bI (F_Mo_ask x1 v2 h1) fun v4 h3 =>
  retI v4 h3)
  else
  (bI (F_Mo_sizeOf x2 h) fun v6 h5 =>
  bI (F_Mo_sizeOf x1 h5) fun v8 h7 =>
  if v8 < v6 then
  (loopC (Mo_fewest_88 κ64  ) FU (x1, x2, (0 : Int32), (0 : Int32), h7))
  else
  (loopC (Mo_fewest_88 κ64  ) FU (x1, x2, (1 : Int32), (0 : Int32), h7)))
def Mo_fewest_12 (κ2 : (Int32 × Hp) → Res Hp)   : (Int32 × Int32 × Hp) → ((Int32 × Int32 × Hp) → Res Hp) → Res Hp := fun s κ12 => match s with
  | (x1, x2, h) =>
  if (hg h 178 8) ≤ x2 then
  (κ2 ((x1 + (1 : Int32)), h))
  else
  (if x1 = x2 then
  (bif okA 196 100 (((7 : Int32) * x1) + x2) then
  bH (hs h 196 (((7 : Int32) * x1) + x2).toNatClampNeg (0 : Int32)) fun h4 =>
  κ12 (x1, (x2 + (1 : Int32)), h4)
  else none)
  else
  (bI (F_Mo_tonguesOf x1 x2 h) fun v2 h1 =>
  bif okA 196 100 (((7 : Int32) * x1) + x2) then
  bH (hs h1 196 (((7 : Int32) * x1) + x2).toNatClampNeg v2) fun h3 =>
  κ12 (x1, (x2 + (1 : Int32)), h3)
  else none))
def Mo_fewest_2    : (Int32 × Hp) → ((Int32 × Hp) → Res Hp) → Res Hp := fun s κ2 => match s with
  | (x1, h) =>
  if (hg h 178 8) ≤ x1 then
  (loopC (Mo_fewest_64   ) FU ((31 : Int32), (31 : Int32), h))
  else
  (loopC (Mo_fewest_12 κ2  ) FU (x1, (0 : Int32), h))
def F_Mo_fewest  (h : Hp) : Res Hp :=
  loopC (Mo_fewest_2   ) FU ((0 : Int32), h)
def sF_Mo_fewest : List Value → Hp → Res Hp := fun as h => match as with | [.ref f0] => (match Nat.beq f0 178 with | true => F_Mo_fewest  h | false => none) | _ => none
theorem w_Mo_fewest  (h : Hp) : sF_Mo_fewest [.ref 178] h = F_Mo_fewest  h := rfl
def S_Mo_fewest : Sem Hp := [(75, sF_Mo_sizeOf), (73, sF_Mo_ask), (147, sF_Mo_tonguesOf)]
set_option maxRecDepth 100000 in
theorem e_Mo_fewest_0  (h : Hp) : F_Mo_fewest  h = exec1 OI S_Mo_fewest 1 k_Mo_fewest 0 [some (.ref 178), none, none, none, none, none, none] [] h (runF OI S_Mo_fewest [(2, [0, 1], fun vs st h => match vs, st with | [.ref f0, .int x1], [] => (match Nat.beq f0 178 with | true => loopC (Mo_fewest_2   ) FU (x1, h) | false => none) | _, _ => none)] 1 k_Mo_fewest 400) :=
  rfl
set_option maxRecDepth 100000 in
theorem e_Mo_fewest_2 (κ2 : (Int32 × Hp) → Res Hp) (x1 : Int32)  (h : Hp) : Mo_fewest_2    (x1, h) κ2 = exec1 OI S_Mo_fewest 1 k_Mo_fewest 2 [some (.ref 178), some (.int x1), none, none, none, none, none] [] h (runF OI S_Mo_fewest [(64, [0, 1, 2], fun vs st h => match vs, st with | [.ref f0, .int x1, .int x2], [] => (match Nat.beq f0 178 with | true => loopC (Mo_fewest_64   ) FU (x1, x2, h) | false => none) | _, _ => none), (12, [0, 1, 2], fun vs st h => match vs, st with | [.ref f0, .int x1, .int x2], [] => (match Nat.beq f0 178 with | true => loopC (Mo_fewest_12 κ2  ) FU (x1, x2, h) | false => none) | _, _ => none)] 1 k_Mo_fewest 400) :=
  (x_ite rfl rfl)
set_option maxRecDepth 100000 in
theorem e_Mo_fewest_64 (κ64 : (Int32 × Int32 × Hp) → Res Hp) (x1 : Int32) (x2 : Int32)  (h : Hp) : Mo_fewest_64    (x1, x2, h) κ64 = exec1 OI S_Mo_fewest 1 k_Mo_fewest 64 [some (.ref 178), some (.int x1), some (.int x2), none, none, none, none] [] h (runF OI S_Mo_fewest [(88, [0, 1, 2, 3, 4], fun vs st h => match vs, st with | [.ref f0, .int x1, .int x2, .int x3, .int x4], [] => (match Nat.beq f0 178 with | true => loopC (Mo_fewest_88 κ64  ) FU (x1, x2, x3, x4, h) | false => none) | _, _ => none)] 1 k_Mo_fewest 400) :=
  (x_ite (x_bI (f := sF_Mo_sizeOf) rfl (w_Mo_sizeOf _ _) fun v2 h1 => (x_bI (f := sF_Mo_ask) rfl (w_Mo_ask _ _ _) fun v4 h3 => rfl)) (x_bI (f := sF_Mo_sizeOf) rfl (w_Mo_sizeOf _ _) fun v6 h5 => (x_bI (f := sF_Mo_sizeOf) rfl (w_Mo_sizeOf _ _) fun v8 h7 => (x_ite rfl rfl))))
set_option maxRecDepth 100000 in
theorem e_Mo_fewest_88 (κ64 : (Int32 × Int32 × Hp) → Res Hp) (κ88 : (Int32 × Int32 × Int32 × Int32 × Hp) → Res Hp) (x1 : Int32) (x2 : Int32) (x3 : Int32) (x4 : Int32)  (h : Hp) : Mo_fewest_88 κ64   (x1, x2, x3, x4, h) κ88 = exec1 OI S_Mo_fewest 1 k_Mo_fewest 88 [some (.ref 178), some (.int x1), some (.int x2), some (.int x3), some (.int x4), none, none] [] h (runF OI S_Mo_fewest [(64, [0, 1, 2], fun vs st h => match vs, st with | [.ref f0, .int x1, .int x2], [] => (match Nat.beq f0 178 with | true => κ64 (x1, x2, h) | false => none) | _, _ => none), (100, [0, 1, 2, 3, 4, 5], fun vs st h => match vs, st with | [.ref f0, .int x1, .int x2, .int x3, .int x4, .int x5], [] => (match Nat.beq f0 178 with | true => loopC (Mo_fewest_100 κ64 κ88  ) FU (x1, x2, x3, x4, x5, h) | false => none) | _, _ => none)] 1 k_Mo_fewest 400) :=
  (x_ite (x_ite rfl rfl) rfl)
set_option maxRecDepth 100000 in
theorem e_Mo_fewest_100 (κ64 : (Int32 × Int32 × Hp) → Res Hp) (κ88 : (Int32 × Int32 × Int32 × Int32 × Hp) → Res Hp) (κ100 : (Int32 × Int32 × Int32 × Int32 × Int32 × Hp) → Res Hp) (x1 : Int32) (x2 : Int32) (x3 : Int32) (x4 : Int32) (x5 : Int32)  (h : Hp) : Mo_fewest_100 κ64 κ88   (x1, x2, x3, x4, x5, h) κ100 = exec1 OI S_Mo_fewest 1 k_Mo_fewest 100 [some (.ref 178), some (.int x1), some (.int x2), some (.int x3), some (.int x4), some (.int x5), none] [] h (runF OI S_Mo_fewest [(88, [0, 1, 2, 3, 4], fun vs st h => match vs, st with | [.ref f0, .int x1, .int x2, .int x3, .int x4], [] => (match Nat.beq f0 178 with | true => κ88 (x1, x2, x3, x4, h) | false => none) | _, _ => none), (100, [0, 1, 2, 3, 4, 5], fun vs st h => match vs, st with | [.ref f0, .int x1, .int x2, .int x3, .int x4, .int x5], [] => (match Nat.beq f0 178 with | true => κ100 (x1, x2, x3, x4, x5, h) | false => none) | _, _ => none)] 1 k_Mo_fewest 400) :=
  (x_ite rfl (x_bif (x_ite rfl (x_ite rfl (x_ite rfl rfl)))))
set_option maxRecDepth 100000 in
theorem e_Mo_fewest_12 (κ2 : (Int32 × Hp) → Res Hp) (κ12 : (Int32 × Int32 × Hp) → Res Hp) (x1 : Int32) (x2 : Int32)  (h : Hp) : Mo_fewest_12 κ2   (x1, x2, h) κ12 = exec1 OI S_Mo_fewest 1 k_Mo_fewest 12 [some (.ref 178), some (.int x1), some (.int x2), none, none, none, none] [] h (runF OI S_Mo_fewest [(2, [0, 1], fun vs st h => match vs, st with | [.ref f0, .int x1], [] => (match Nat.beq f0 178 with | true => κ2 (x1, h) | false => none) | _, _ => none), (12, [0, 1, 2], fun vs st h => match vs, st with | [.ref f0, .int x1, .int x2], [] => (match Nat.beq f0 178 with | true => κ12 (x1, x2, h) | false => none) | _, _ => none)] 1 k_Mo_fewest 400) :=
  (x_ite rfl (x_ite (x_bif (x_bH fun h4 => rfl)) (x_bI (f := sF_Mo_tonguesOf) rfl (w_Mo_tonguesOf _ _ _) fun v2 h1 => (x_bif (x_bH fun h3 => rfl)))))
def k_Mo_askedPairs : List Ent := [(0, .aload_n 0, 1, [], .null), (1, .iload_n 1, 1, [], .null), (2, .invokevirtual 91, 3, [78, 2, 1, 7], .null), (5, .istore_n 2, 1, [], .null), (6, .iload_n 2, 1, [], .null), (7, .ifCond .ge (5), 3, [12], .null), (10, .iload_n 2, 1, [], .null), (11, .ireturn, 1, [], .null), (12, .aload_n 0, 1, [], .null), (13, .getfield 13, 3, [7, 3, 1], .null), (16, .iload_n 1, 1, [], .null), (17, .iaload, 1, [], .null), (18, .iconst 2, 1, [], .int (2)), (19, .irem, 1, [], .null), (20, .iconst 1, 1, [], .int (1)), (21, .if_icmp .ne (9), 3, [30], .null), (24, .aload_n 0, 1, [], .null), (25, .iconst 5, 1, [], .int (5)), (26, .invokevirtual 80, 3, [72, 2, 1, 7], .null), (29, .ireturn, 1, [], .null), (30, .iconst 0, 1, [], .int (0)), (31, .istore_n 3, 1, [], .null), (32, .iload_n 3, 1, [], .null), (33, .aload_n 0, 1, [], .null), (34, .getfield 13, 3, [7, 3, 1], .null), (37, .iload_n 1, 1, [], .null), (38, .iaload, 1, [], .null), (39, .if_icmp .ge (52), 3, [91], .null), (42, .aload_n 0, 1, [], .null), (43, .iload_n 1, 1, [], .null), (44, .iload_n 3, 1, [], .null), (45, .invokevirtual 94, 3, [80, 3, 1, 7], .null), (48, .iconst 0, 1, [], .int (0)), (49, .iconst 1, 1, [], .int (1)), (50, .aload_n 0, 1, [], .null), (51, .getfield 131, 3, [7, 8, 0], .null), (54, .ishl, 1, [], .null), (55, .iconst 1, 1, [], .int (1)), (56, .isub, 1, [], .null), (57, .invokestatic 72, 3, [71, 3, 2], .null), (60, .ifCond .eq (19), 3, [79], .null), (63, .aload_n 0, 1, [], .null), (64, .iload_n 1, 1, [], .null), (65, .iload_n 3, 1, [], .null), (66, .iconst 1, 1, [], .int (1)), (67, .iadd, 1, [], .null), (68, .invokevirtual 94, 3, [80, 3, 1, 7], .null), (71, .iconst 0, 1, [], .int (0)), (72, .iconst 1, 1, [], .int (1)), (73, .invokestatic 72, 3, [71, 3, 2], .null), (76, .ifCond .ne (9), 3, [85], .null), (79, .aload_n 0, 1, [], .null), (80, .iconst 3, 1, [], .int (3)), (81, .invokevirtual 80, 3, [72, 2, 1, 7], .null), (84, .ireturn, 1, [], .null), (85, .iinc 3 (2), 3, [], .int (2)), (88, .goto (-56), 3, [32], .null), (91, .iconst 0, 1, [], .int (0)), (92, .ireturn, 1, [], .null)]
def Mo_askedPairs_32    : (Int32 × Int32 × Hp) → ((Int32 × Int32 × Hp) → Res Hp) → Res Hp := fun s κ32 => match s with
  | (x1, x3, h) =>
  bif okA 180 100 x1 then
  if (hg h 180 x1.toNatClampNeg) ≤ x3 then
  (retI (0 : Int32) h)
  else
  (bI (F_Mo_rowAt x1 x3 h) fun v2 h1 =>
  bI (F_Mo_in v2 (0 : Int32) (((1 : Int32) <<< ((hg h1 178 8) &&& 31)) - (1 : Int32)) h1) fun v4 h3 =>
  if v4 = (0 : Int32) then
  (bI (F_Mo_meetWith (3 : Int32) h3) fun v6 h5 =>
  retI v6 h5)
  else
  (bI (F_Mo_rowAt x1 (x3 + (1 : Int32)) h3) fun v8 h7 =>
  bI (F_Mo_in v8 (0 : Int32) (1 : Int32) h7) fun v10 h9 =>
  if v10 = (0 : Int32) then
  (bI (F_Mo_meetWith (3 : Int32) h9) fun v12 h11 =>
  retI v12 h11)
  else
  (κ32 (x1, (x3 + (2 : Int32)), h9))))
  else none
def F_Mo_askedPairs (x1 : Int32) (h : Hp) : Res Hp :=
  bI (F_Mo_askedRow x1 h) fun v2 h1 =>
  if (0 : Int32) ≤ v2 then
  (bif okA 180 100 x1 then
  if ((hg h1 180 x1.toNatClampNeg) - (hg h1 180 x1.toNatClampNeg) / (2 : Int32) * (2 : Int32)) = (1 : Int32) then
  (bI (F_Mo_meetWith (5 : Int32) h1) fun v4 h3 =>
  retI v4 h3)
  else
  (loopC (Mo_askedPairs_32   ) FU (x1, (0 : Int32), h1))
  else none)
  else
  (retI v2 h1)
def sF_Mo_askedPairs : List Value → Hp → Res Hp := fun as h => match as with | [.ref f0, .int x1] => (match Nat.beq f0 178 with | true => F_Mo_askedPairs x1 h | false => none) | _ => none
theorem w_Mo_askedPairs (x1 : Int32) (h : Hp) : sF_Mo_askedPairs [.ref 178, .int x1] h = F_Mo_askedPairs x1 h := rfl
def S_Mo_askedPairs : Sem Hp := [(78, sF_Mo_askedRow), (80, sF_Mo_rowAt), (71, sF_Mo_in), (72, sF_Mo_meetWith)]
set_option maxRecDepth 100000 in
theorem e_Mo_askedPairs_0 (x1 : Int32) (h : Hp) : F_Mo_askedPairs x1 h = exec1 OI S_Mo_askedPairs 1 k_Mo_askedPairs 0 [some (.ref 178), some (.int x1), none, none] [] h (runF OI S_Mo_askedPairs [(32, [0, 1, 3], fun vs st h => match vs, st with | [.ref f0, .int x1, .int x3], [] => (match Nat.beq f0 178 with | true => loopC (Mo_askedPairs_32   ) FU (x1, x3, h) | false => none) | _, _ => none)] 1 k_Mo_askedPairs 400) :=
  (x_bI (f := sF_Mo_askedRow) rfl (w_Mo_askedRow _ _) fun v2 h1 => (x_ite (x_bif (x_ite (x_bI (f := sF_Mo_meetWith) rfl (w_Mo_meetWith _ _) fun v4 h3 => rfl) rfl)) rfl))
set_option maxRecDepth 100000 in
theorem e_Mo_askedPairs_32 (κ32 : (Int32 × Int32 × Hp) → Res Hp) (x1 : Int32) (x3 : Int32)  (h : Hp) : Mo_askedPairs_32    (x1, x3, h) κ32 = exec1 OI S_Mo_askedPairs 1 k_Mo_askedPairs 32 [some (.ref 178), some (.int x1), none, some (.int x3)] [] h (runF OI S_Mo_askedPairs [(32, [0, 1, 3], fun vs st h => match vs, st with | [.ref f0, .int x1, .int x3], [] => (match Nat.beq f0 178 with | true => κ32 (x1, x3, h) | false => none) | _, _ => none)] 1 k_Mo_askedPairs 400) :=
  (x_bif (x_ite rfl (x_bI (f := sF_Mo_rowAt) rfl (w_Mo_rowAt _ _ _) fun v2 h1 => (x_bI (f := sF_Mo_in) rfl (w_Mo_in _ _ _ _) fun v4 h3 => (x_ite (x_bI (f := sF_Mo_meetWith) rfl (w_Mo_meetWith _ _) fun v6 h5 => rfl) (x_bI (f := sF_Mo_rowAt) rfl (w_Mo_rowAt _ _ _) fun v8 h7 => (x_bI (f := sF_Mo_in) rfl (w_Mo_in _ _ _ _) fun v10 h9 => (x_ite (x_bI (f := sF_Mo_meetWith) rfl (w_Mo_meetWith _ _) fun v12 h11 => rfl) rfl))))))))
def k_Mo_isRead : List Ent := [(0, .iconst 1, 1, [], .int (1)), (1, .istore_n 3, 1, [], .null), (2, .iconst 0, 1, [], .int (0)), (3, .istore 4, 2, [], .null), (5, .iload 4, 2, [], .null), (7, .aload_n 0, 1, [], .null), (8, .getfield 13, 3, [7, 3, 1], .null), (11, .iload_n 1, 1, [], .null), (12, .iaload, 1, [], .null), (13, .if_icmp .ge (57), 3, [70], .null), (16, .iload_n 3, 1, [], .null), (17, .ifCond .eq (45), 3, [62], .null), (20, .aload_n 0, 1, [], .null), (21, .iload_n 1, 1, [], .null), (22, .iload 4, 2, [], .null), (24, .invokevirtual 94, 3, [80, 3, 1, 7], .null), (27, .iload_n 2, 1, [], .null), (28, .iand, 1, [], .null), (29, .ifCond .eq (7), 3, [36], .null), (32, .iconst 1, 1, [], .int (1)), (33, .goto (4), 3, [37], .null), (36, .iconst 0, 1, [], .int (0)), (37, .aload_n 0, 1, [], .null), (38, .iload_n 1, 1, [], .null), (39, .iload 4, 2, [], .null), (41, .iconst 1, 1, [], .int (1)), (42, .iadd, 1, [], .null), (43, .invokevirtual 94, 3, [80, 3, 1, 7], .null), (46, .iconst 1, 1, [], .int (1)), (47, .if_icmp .ne (7), 3, [54], .null), (50, .iconst 1, 1, [], .int (1)), (51, .goto (4), 3, [55], .null), (54, .iconst 0, 1, [], .int (0)), (55, .if_icmp .ne (7), 3, [62], .null), (58, .iconst 1, 1, [], .int (1)), (59, .goto (4), 3, [63], .null), (62, .iconst 0, 1, [], .int (0)), (63, .istore_n 3, 1, [], .null), (64, .iinc 4 (2), 3, [], .int (2)), (67, .goto (-62), 3, [5], .null), (70, .iload_n 3, 1, [], .null), (71, .ireturn, 1, [], .null)]
def Mo_isRead_5    : (Int32 × Int32 × Int32 × Int32 × Hp) → ((Int32 × Int32 × Int32 × Int32 × Hp) → Res Hp) → Res Hp := fun s κ5 => match s with
  | (x1, x2, x3, x4, h) =>
  bif okA 180 100 x1 then
  if (hg h 180 x1.toNatClampNeg) ≤ x4 then
  (retZ x3 h)
  else
  (if x3 = (0 : Int32) then
  (κ5 (x1, x2, (0 : Int32), (x4 + (2 : Int32)), h))
  else
  (bI (F_Mo_rowAt x1 x4 h) fun v2 h1 =>
  if (v2 &&& x2) = (0 : Int32) then
  (bI (F_Mo_rowAt x1 (x4 + (1 : Int32)) h1) fun v4 h3 =>
  if v4 = (1 : Int32) then
  (κ5 (x1, x2, (0 : Int32), (x4 + (2 : Int32)), h3))
  else
  (κ5 (x1, x2, (1 : Int32), (x4 + (2 : Int32)), h3)))
  else
  (bI (F_Mo_rowAt x1 (x4 + (1 : Int32)) h1) fun v6 h5 =>
  if v6 = (1 : Int32) then
  (κ5 (x1, x2, (1 : Int32), (x4 + (2 : Int32)), h5))
  else
  (κ5 (x1, x2, (0 : Int32), (x4 + (2 : Int32)), h5)))))
  else none
def F_Mo_isRead (x1 : Int32) (x2 : Int32) (h : Hp) : Res Hp :=
  loopC (Mo_isRead_5   ) FU (x1, x2, (1 : Int32), (0 : Int32), h)
def sF_Mo_isRead : List Value → Hp → Res Hp := fun as h => match as with | [.ref f0, .int x1, .int x2] => (match Nat.beq f0 178 with | true => F_Mo_isRead x1 x2 h | false => none) | _ => none
theorem w_Mo_isRead (x1 : Int32) (x2 : Int32) (h : Hp) : sF_Mo_isRead [.ref 178, .int x1, .int x2] h = F_Mo_isRead x1 x2 h := rfl
def S_Mo_isRead : Sem Hp := [(80, sF_Mo_rowAt)]
set_option maxRecDepth 100000 in
theorem e_Mo_isRead_0 (x1 : Int32) (x2 : Int32) (h : Hp) : F_Mo_isRead x1 x2 h = exec1 OI S_Mo_isRead 2 k_Mo_isRead 0 [some (.ref 178), some (.int x1), some (.int x2), none, none] [] h (runF OI S_Mo_isRead [(5, [0, 1, 2, 3, 4], fun vs st h => match vs, st with | [.ref f0, .int x1, .int x2, .int x3, .int x4], [] => (match Nat.beq f0 178 with | true => loopC (Mo_isRead_5   ) FU (x1, x2, x3, x4, h) | false => none) | _, _ => none)] 2 k_Mo_isRead 400) :=
  rfl
set_option maxRecDepth 100000 in
theorem e_Mo_isRead_5 (κ5 : (Int32 × Int32 × Int32 × Int32 × Hp) → Res Hp) (x1 : Int32) (x2 : Int32) (x3 : Int32) (x4 : Int32)  (h : Hp) : Mo_isRead_5    (x1, x2, x3, x4, h) κ5 = exec1 OI S_Mo_isRead 2 k_Mo_isRead 5 [some (.ref 178), some (.int x1), some (.int x2), some (.int x3), some (.int x4)] [] h (runF OI S_Mo_isRead [(5, [0, 1, 2, 3, 4], fun vs st h => match vs, st with | [.ref f0, .int x1, .int x2, .int x3, .int x4], [] => (match Nat.beq f0 178 with | true => κ5 (x1, x2, x3, x4, h) | false => none) | _, _ => none)] 2 k_Mo_isRead 400) :=
  (x_bif (x_ite rfl (x_ite rfl (x_bI (f := sF_Mo_rowAt) rfl (w_Mo_rowAt _ _ _) fun v2 h1 => (x_ite (x_bI (f := sF_Mo_rowAt) rfl (w_Mo_rowAt _ _ _) fun v4 h3 => (x_ite rfl rfl)) (x_bI (f := sF_Mo_rowAt) rfl (w_Mo_rowAt _ _ _) fun v6 h5 => (x_ite rfl rfl)))))))
def k_Mo_reader : List Ent := [(0, .aload_n 0, 1, [], .null), (1, .iload_n 1, 1, [], .null), (2, .invokevirtual 263, 3, [155, 2, 1, 7], .null), (5, .istore_n 2, 1, [], .null), (6, .iload_n 2, 1, [], .null), (7, .ifCond .ge (5), 3, [12], .null), (10, .iload_n 2, 1, [], .null), (11, .ireturn, 1, [], .null), (12, .iconst 0, 1, [], .int (0)), (13, .istore_n 3, 1, [], .null), (14, .iconst 0, 1, [], .int (0)), (15, .istore 4, 2, [], .null), (17, .iload 4, 2, [], .null), (19, .aload_n 0, 1, [], .null), (20, .getfield 131, 3, [7, 8, 0], .null), (23, .if_icmp .ge (32), 3, [55], .null), (26, .iload_n 3, 1, [], .null), (27, .aload_n 0, 1, [], .null), (28, .iload_n 1, 1, [], .null), (29, .iconst 1, 1, [], .int (1)), (30, .iload 4, 2, [], .null), (32, .ishl, 1, [], .null), (33, .invokevirtual 266, 3, [156, 3, 2, 7], .null), (36, .ifCond .eq (10), 3, [46], .null), (39, .iconst 1, 1, [], .int (1)), (40, .iload 4, 2, [], .null), (42, .ishl, 1, [], .null), (43, .goto (4), 3, [47], .null), (46, .iconst 0, 1, [], .int (0)), (47, .ior, 1, [], .null), (48, .istore_n 3, 1, [], .null), (49, .iinc 4 (1), 3, [], .int (1)), (52, .goto (-35), 3, [17], .null), (55, .iload_n 3, 1, [], .null), (56, .ireturn, 1, [], .null)]
def Mo_reader_17    : (Int32 × Int32 × Int32 × Hp) → ((Int32 × Int32 × Int32 × Hp) → Res Hp) → Res Hp := fun s κ17 => match s with
  | (x1, x3, x4, h) =>
  if (hg h 178 8) ≤ x4 then
  (retI x3 h)
  else
  (bI (F_Mo_isRead x1 ((1 : Int32) <<< (x4 &&& 31)) h) fun v2 h1 =>
  if v2 = (0 : Int32) then
  (κ17 (x1, (x3 ||| (0 : Int32)), (x4 + (1 : Int32)), h1))
  else
  (κ17 (x1, (x3 ||| ((1 : Int32) <<< (x4 &&& 31))), (x4 + (1 : Int32)), h1)))
def F_Mo_reader (x1 : Int32) (h : Hp) : Res Hp :=
  bI (F_Mo_askedPairs x1 h) fun v2 h1 =>
  if (0 : Int32) ≤ v2 then
  (loopC (Mo_reader_17   ) FU (x1, (0 : Int32), (0 : Int32), h1))
  else
  (retI v2 h1)
def sF_Mo_reader : List Value → Hp → Res Hp := fun as h => match as with | [.ref f0, .int x1] => (match Nat.beq f0 178 with | true => F_Mo_reader x1 h | false => none) | _ => none
theorem w_Mo_reader (x1 : Int32) (h : Hp) : sF_Mo_reader [.ref 178, .int x1] h = F_Mo_reader x1 h := rfl
def S_Mo_reader : Sem Hp := [(155, sF_Mo_askedPairs), (156, sF_Mo_isRead)]
set_option maxRecDepth 100000 in
theorem e_Mo_reader_0 (x1 : Int32) (h : Hp) : F_Mo_reader x1 h = exec1 OI S_Mo_reader 1 k_Mo_reader 0 [some (.ref 178), some (.int x1), none, none, none] [] h (runF OI S_Mo_reader [(17, [0, 1, 3, 4], fun vs st h => match vs, st with | [.ref f0, .int x1, .int x3, .int x4], [] => (match Nat.beq f0 178 with | true => loopC (Mo_reader_17   ) FU (x1, x3, x4, h) | false => none) | _, _ => none)] 1 k_Mo_reader 400) :=
  (x_bI (f := sF_Mo_askedPairs) rfl (w_Mo_askedPairs _ _) fun v2 h1 => (x_ite rfl rfl))
set_option maxRecDepth 100000 in
theorem e_Mo_reader_17 (κ17 : (Int32 × Int32 × Int32 × Hp) → Res Hp) (x1 : Int32) (x3 : Int32) (x4 : Int32)  (h : Hp) : Mo_reader_17    (x1, x3, x4, h) κ17 = exec1 OI S_Mo_reader 1 k_Mo_reader 17 [some (.ref 178), some (.int x1), none, some (.int x3), some (.int x4)] [] h (runF OI S_Mo_reader [(17, [0, 1, 3, 4], fun vs st h => match vs, st with | [.ref f0, .int x1, .int x3, .int x4], [] => (match Nat.beq f0 178 with | true => κ17 (x1, x3, x4, h) | false => none) | _, _ => none)] 1 k_Mo_reader 400) :=
  (x_ite rfl (x_bI (f := sF_Mo_isRead) rfl (w_Mo_isRead _ _ _) fun v2 h1 => (x_ite rfl rfl)))
def k_Mo_readers : List Ent := [(0, .aload_n 0, 1, [], .null), (1, .iload_n 1, 1, [], .null), (2, .invokevirtual 263, 3, [155, 2, 1, 7], .null), (5, .istore_n 2, 1, [], .null), (6, .iload_n 2, 1, [], .null), (7, .ifCond .ge (5), 3, [12], .null), (10, .iload_n 2, 1, [], .null), (11, .ireturn, 1, [], .null), (12, .iconst 0, 1, [], .int (0)), (13, .istore_n 3, 1, [], .null), (14, .iconst 0, 1, [], .int (0)), (15, .istore 4, 2, [], .null), (17, .iload 4, 2, [], .null), (19, .aload_n 0, 1, [], .null), (20, .getfield 131, 3, [7, 8, 0], .null), (23, .if_icmp .ge (55), 3, [78], .null), (26, .iload 4, 2, [], .null), (28, .iconst 1, 1, [], .int (1)), (29, .iadd, 1, [], .null), (30, .istore 5, 2, [], .null), (32, .iload 5, 2, [], .null), (34, .aload_n 0, 1, [], .null), (35, .getfield 131, 3, [7, 8, 0], .null), (38, .if_icmp .ge (34), 3, [72], .null), (41, .iload_n 3, 1, [], .null), (42, .aload_n 0, 1, [], .null), (43, .iload_n 1, 1, [], .null), (44, .iconst 1, 1, [], .int (1)), (45, .iload 4, 2, [], .null), (47, .ishl, 1, [], .null), (48, .iconst 1, 1, [], .int (1)), (49, .iload 5, 2, [], .null), (51, .ishl, 1, [], .null), (52, .ior, 1, [], .null), (53, .invokevirtual 266, 3, [156, 3, 2, 7], .null), (56, .ifCond .eq (7), 3, [63], .null), (59, .iconst 1, 1, [], .int (1)), (60, .goto (4), 3, [64], .null), (63, .iconst 0, 1, [], .int (0)), (64, .iadd, 1, [], .null), (65, .istore_n 3, 1, [], .null), (66, .iinc 5 (1), 3, [], .int (1)), (69, .goto (-37), 3, [32], .null), (72, .iinc 4 (1), 3, [], .int (1)), (75, .goto (-58), 3, [17], .null), (78, .iload_n 3, 1, [], .null), (79, .ireturn, 1, [], .null)]
def Mo_readers_32 (κ17 : (Int32 × Int32 × Int32 × Hp) → Res Hp)   : (Int32 × Int32 × Int32 × Int32 × Hp) → ((Int32 × Int32 × Int32 × Int32 × Hp) → Res Hp) → Res Hp := fun s κ32 => match s with
  | (x1, x3, x4, x5, h) =>
  if (hg h 178 8) ≤ x5 then
  (κ17 (x1, x3, (x4 + (1 : Int32)), h))
  else
  (bI (F_Mo_isRead x1 (((1 : Int32) <<< (x4 &&& 31)) ||| ((1 : Int32) <<< (x5 &&& 31))) h) fun v2 h1 =>
  if v2 = (0 : Int32) then
  (κ32 (x1, (x3 + (0 : Int32)), x4, (x5 + (1 : Int32)), h1))
  else
  (κ32 (x1, (x3 + (1 : Int32)), x4, (x5 + (1 : Int32)), h1)))
def Mo_readers_17    : (Int32 × Int32 × Int32 × Hp) → ((Int32 × Int32 × Int32 × Hp) → Res Hp) → Res Hp := fun s κ17 => match s with
  | (x1, x3, x4, h) =>
  if (hg h 178 8) ≤ x4 then
  (retI x3 h)
  else
  (loopC (Mo_readers_32 κ17  ) FU (x1, x3, x4, (x4 + (1 : Int32)), h))
def F_Mo_readers (x1 : Int32) (h : Hp) : Res Hp :=
  bI (F_Mo_askedPairs x1 h) fun v2 h1 =>
  if (0 : Int32) ≤ v2 then
  (loopC (Mo_readers_17   ) FU (x1, (0 : Int32), (0 : Int32), h1))
  else
  (retI v2 h1)
def sF_Mo_readers : List Value → Hp → Res Hp := fun as h => match as with | [.ref f0, .int x1] => (match Nat.beq f0 178 with | true => F_Mo_readers x1 h | false => none) | _ => none
theorem w_Mo_readers (x1 : Int32) (h : Hp) : sF_Mo_readers [.ref 178, .int x1] h = F_Mo_readers x1 h := rfl
def S_Mo_readers : Sem Hp := [(155, sF_Mo_askedPairs), (156, sF_Mo_isRead)]
set_option maxRecDepth 100000 in
theorem e_Mo_readers_0 (x1 : Int32) (h : Hp) : F_Mo_readers x1 h = exec1 OI S_Mo_readers 1 k_Mo_readers 0 [some (.ref 178), some (.int x1), none, none, none, none] [] h (runF OI S_Mo_readers [(17, [0, 1, 3, 4], fun vs st h => match vs, st with | [.ref f0, .int x1, .int x3, .int x4], [] => (match Nat.beq f0 178 with | true => loopC (Mo_readers_17   ) FU (x1, x3, x4, h) | false => none) | _, _ => none)] 1 k_Mo_readers 400) :=
  (x_bI (f := sF_Mo_askedPairs) rfl (w_Mo_askedPairs _ _) fun v2 h1 => (x_ite rfl rfl))
set_option maxRecDepth 100000 in
theorem e_Mo_readers_17 (κ17 : (Int32 × Int32 × Int32 × Hp) → Res Hp) (x1 : Int32) (x3 : Int32) (x4 : Int32)  (h : Hp) : Mo_readers_17    (x1, x3, x4, h) κ17 = exec1 OI S_Mo_readers 1 k_Mo_readers 17 [some (.ref 178), some (.int x1), none, some (.int x3), some (.int x4), none] [] h (runF OI S_Mo_readers [(32, [0, 1, 3, 4, 5], fun vs st h => match vs, st with | [.ref f0, .int x1, .int x3, .int x4, .int x5], [] => (match Nat.beq f0 178 with | true => loopC (Mo_readers_32 κ17  ) FU (x1, x3, x4, x5, h) | false => none) | _, _ => none)] 1 k_Mo_readers 400) :=
  (x_ite rfl rfl)
set_option maxRecDepth 100000 in
theorem e_Mo_readers_32 (κ17 : (Int32 × Int32 × Int32 × Hp) → Res Hp) (κ32 : (Int32 × Int32 × Int32 × Int32 × Hp) → Res Hp) (x1 : Int32) (x3 : Int32) (x4 : Int32) (x5 : Int32)  (h : Hp) : Mo_readers_32 κ17   (x1, x3, x4, x5, h) κ32 = exec1 OI S_Mo_readers 1 k_Mo_readers 32 [some (.ref 178), some (.int x1), none, some (.int x3), some (.int x4), some (.int x5)] [] h (runF OI S_Mo_readers [(17, [0, 1, 3, 4], fun vs st h => match vs, st with | [.ref f0, .int x1, .int x3, .int x4], [] => (match Nat.beq f0 178 with | true => κ17 (x1, x3, x4, h) | false => none) | _, _ => none), (32, [0, 1, 3, 4, 5], fun vs st h => match vs, st with | [.ref f0, .int x1, .int x3, .int x4, .int x5], [] => (match Nat.beq f0 178 with | true => κ32 (x1, x3, x4, x5, h) | false => none) | _, _ => none)] 1 k_Mo_readers 400) :=
  (x_ite rfl (x_bI (f := sF_Mo_isRead) rfl (w_Mo_isRead _ _ _) fun v2 h1 => (x_ite rfl rfl)))
def k_Mo_knows : List Ent := [(0, .aload_n 0, 1, [], .null), (1, .iload_n 1, 1, [], .null), (2, .invokevirtual 91, 3, [78, 2, 1, 7], .null), (5, .istore_n 2, 1, [], .null), (6, .iload_n 2, 1, [], .null), (7, .ifCond .ge (5), 3, [12], .null), (10, .iload_n 2, 1, [], .null), (11, .ireturn, 1, [], .null), (12, .iconst 0, 1, [], .int (0)), (13, .istore_n 3, 1, [], .null), (14, .iconst 0, 1, [], .int (0)), (15, .istore 4, 2, [], .null), (17, .iload 4, 2, [], .null), (19, .aload_n 0, 1, [], .null), (20, .getfield 13, 3, [7, 3, 1], .null), (23, .iload_n 1, 1, [], .null), (24, .iaload, 1, [], .null), (25, .if_icmp .ge (38), 3, [63], .null), (28, .aload_n 0, 1, [], .null), (29, .iload_n 1, 1, [], .null), (30, .iload 4, 2, [], .null), (32, .invokevirtual 94, 3, [80, 3, 1, 7], .null), (35, .invokestatic 180, 3, [100, 1, 2], .null), (38, .ifCond .ne (9), 3, [47], .null), (41, .aload_n 0, 1, [], .null), (42, .iconst 3, 1, [], .int (3)), (43, .invokevirtual 80, 3, [72, 2, 1, 7], .null), (46, .ireturn, 1, [], .null), (47, .iload_n 3, 1, [], .null), (48, .aload_n 0, 1, [], .null), (49, .iload_n 1, 1, [], .null), (50, .iload 4, 2, [], .null), (52, .invokevirtual 94, 3, [80, 3, 1, 7], .null), (55, .ior, 1, [], .null), (56, .istore_n 3, 1, [], .null), (57, .iinc 4 (1), 3, [], .int (1)), (60, .goto (-43), 3, [17], .null), (63, .aload_n 0, 1, [], .null), (64, .bipush (31), 2, [], .int (31)), (66, .iload_n 3, 1, [], .null), (67, .iconst (-1), 1, [], .int (-1)), (68, .ixor, 1, [], .null), (69, .iand, 1, [], .null), (70, .iconst 1, 1, [], .int (1)), (71, .iconst 5, 1, [], .int (5)), (72, .iload_n 3, 1, [], .null), (73, .invokestatic 165, 3, [75, 1, 1], .null), (76, .isub, 1, [], .null), (77, .ishl, 1, [], .null), (78, .invokevirtual 98, 3, [73, 3, 1, 7], .null), (81, .ireturn, 1, [], .null)]
def Mo_knows_17    : (Int32 × Int32 × Int32 × Hp) → ((Int32 × Int32 × Int32 × Hp) → Res Hp) → Res Hp := fun s κ17 => match s with
  | (x1, x3, x4, h) =>
  bif okA 180 100 x1 then
  if (hg h 180 x1.toNatClampNeg) ≤ x4 then
  (bI (F_Mo_sizeOf x3 h) fun v2 h1 =>
  bI (F_Mo_ask ((31 : Int32) &&& (x3 ^^^ (-1 : Int32))) ((1 : Int32) <<< (((5 : Int32) - v2) &&& 31)) h1) fun v4 h3 =>
  retI v4 h3)
  else
  (bI (F_Mo_rowAt x1 x4 h) fun v6 h5 =>
  bI (F_Mo_isSet v6 h5) fun v8 h7 =>
  if v8 = (0 : Int32) then
  (bI (F_Mo_meetWith (3 : Int32) h7) fun v12 h11 =>
  retI v12 h11)
  else
  (bI (F_Mo_rowAt x1 x4 h7) fun v10 h9 =>
  κ17 (x1, (x3 ||| v10), (x4 + (1 : Int32)), h9)))
  else none
def F_Mo_knows (x1 : Int32) (h : Hp) : Res Hp :=
  bI (F_Mo_askedRow x1 h) fun v2 h1 =>
  if (0 : Int32) ≤ v2 then
  (loopC (Mo_knows_17   ) FU (x1, (0 : Int32), (0 : Int32), h1))
  else
  (retI v2 h1)
def sF_Mo_knows : List Value → Hp → Res Hp := fun as h => match as with | [.ref f0, .int x1] => (match Nat.beq f0 178 with | true => F_Mo_knows x1 h | false => none) | _ => none
theorem w_Mo_knows (x1 : Int32) (h : Hp) : sF_Mo_knows [.ref 178, .int x1] h = F_Mo_knows x1 h := rfl
def S_Mo_knows : Sem Hp := [(78, sF_Mo_askedRow), (75, sF_Mo_sizeOf), (73, sF_Mo_ask), (80, sF_Mo_rowAt), (100, sF_Mo_isSet), (72, sF_Mo_meetWith)]
set_option maxRecDepth 100000 in
theorem e_Mo_knows_0 (x1 : Int32) (h : Hp) : F_Mo_knows x1 h = exec1 OI S_Mo_knows 1 k_Mo_knows 0 [some (.ref 178), some (.int x1), none, none, none] [] h (runF OI S_Mo_knows [(17, [0, 1, 3, 4], fun vs st h => match vs, st with | [.ref f0, .int x1, .int x3, .int x4], [] => (match Nat.beq f0 178 with | true => loopC (Mo_knows_17   ) FU (x1, x3, x4, h) | false => none) | _, _ => none)] 1 k_Mo_knows 400) :=
  (x_bI (f := sF_Mo_askedRow) rfl (w_Mo_askedRow _ _) fun v2 h1 => (x_ite rfl rfl))
set_option maxRecDepth 100000 in
theorem e_Mo_knows_17 (κ17 : (Int32 × Int32 × Int32 × Hp) → Res Hp) (x1 : Int32) (x3 : Int32) (x4 : Int32)  (h : Hp) : Mo_knows_17    (x1, x3, x4, h) κ17 = exec1 OI S_Mo_knows 1 k_Mo_knows 17 [some (.ref 178), some (.int x1), none, some (.int x3), some (.int x4)] [] h (runF OI S_Mo_knows [(17, [0, 1, 3, 4], fun vs st h => match vs, st with | [.ref f0, .int x1, .int x3, .int x4], [] => (match Nat.beq f0 178 with | true => κ17 (x1, x3, x4, h) | false => none) | _, _ => none)] 1 k_Mo_knows 400) :=
  (x_bif (x_ite (x_bI (f := sF_Mo_sizeOf) rfl (w_Mo_sizeOf _ _) fun v2 h1 => (x_bI (f := sF_Mo_ask) rfl (w_Mo_ask _ _ _) fun v4 h3 => rfl)) (x_bI (f := sF_Mo_rowAt) rfl (w_Mo_rowAt _ _ _) fun v6 h5 => (x_bI (f := sF_Mo_isSet) rfl (w_Mo_isSet _ _) fun v8 h7 => (x_ite (x_bI (f := sF_Mo_meetWith) rfl (w_Mo_meetWith _ _) fun v12 h11 => rfl) (x_bI (f := sF_Mo_rowAt) rfl (w_Mo_rowAt _ _ _) fun v10 h9 => rfl))))))
def k_Mo_days : List Ent := [(0, .iload_n 1, 1, [], .null), (1, .iconst 1, 1, [], .int (1)), (2, .bipush (60), 2, [], .int (60)), (4, .invokestatic 72, 3, [71, 3, 2], .null), (7, .ifCond .eq (14), 3, [21], .null), (10, .iload_n 2, 1, [], .null), (11, .iconst 1, 1, [], .int (1)), (12, .ldc_w 269, 3, [], .int (2147483646)), (15, .invokestatic 72, 3, [71, 3, 2], .null), (18, .ifCond .ne (5), 3, [23], .null), (21, .iconst (-1), 1, [], .int (-1)), (22, .ireturn, 1, [], .null), (23, .aload_n 0, 1, [], .null), (24, .getfield 131, 3, [7, 8, 0], .null), (27, .ifCond .ne (6), 3, [33], .null), (30, .bipush (-4), 2, [], .int (-4)), (32, .ireturn, 1, [], .null), (33, .aload_n 0, 1, [], .null), (34, .getfield 137, 3, [7, 13, 0], .null), (37, .iload_n 1, 1, [], .null), (38, .iadd, 1, [], .null), (39, .bipush (99), 2, [], .int (99)), (41, .if_icmp .le (6), 3, [47], .null), (44, .bipush (-2), 2, [], .int (-2)), (46, .ireturn, 1, [], .null), (47, .iload_n 2, 1, [], .null), (48, .i2l, 1, [], .null), (49, .lstore_n 3, 1, [], .null), (50, .iconst 0, 1, [], .int (0)), (51, .istore 5, 2, [], .null), (53, .iconst 0, 1, [], .int (0)), (54, .istore 6, 2, [], .null), (56, .iload 6, 2, [], .null), (58, .iload_n 1, 1, [], .null), (59, .if_icmp .ge (128), 3, [187], .null), (62, .iconst 0, 1, [], .int (0)), (63, .istore 7, 2, [], .null), (65, .iload 7, 2, [], .null), (67, .aload_n 0, 1, [], .null), (68, .getfield 140, 3, [7, 14, 0], .null), (71, .if_icmp .ge (100), 3, [171], .null), (74, .aload_n 0, 1, [], .null), (75, .iload 7, 2, [], .null), (77, .invokevirtual 201, 3, [121, 2, 1, 7], .null), (80, .istore 8, 2, [], .null), (82, .iload 8, 2, [], .null), (84, .ifCond .eq (81), 3, [165], .null), (87, .ldc2_w 270, 3, [], .long 48271), (90, .lload_n 3, 1, [], .null), (91, .lmul, 1, [], .null), (92, .ldc2_w 272, 3, [], .long 2147483647), (95, .lrem, 1, [], .null), (96, .lstore_n 3, 1, [], .null), (97, .lload_n 3, 1, [], .null), (98, .iload 8, 2, [], .null), (100, .invokestatic 165, 3, [75, 1, 1], .null), (103, .i2l, 1, [], .null), (104, .lrem, 1, [], .null), (105, .l2i, 1, [], .null), (106, .istore 9, 2, [], .null), (108, .iconst 0, 1, [], .int (0)), (109, .istore 10, 2, [], .null), (111, .iload 8, 2, [], .null), (113, .iload 10, 2, [], .null), (115, .invokestatic 195, 3, [74, 2, 2], .null), (118, .ifCond .eq (8), 3, [126], .null), (121, .iload 9, 2, [], .null), (123, .ifCond .le (29), 3, [152], .null), (126, .iload 9, 2, [], .null), (128, .iload 8, 2, [], .null), (130, .iload 10, 2, [], .null), (132, .invokestatic 195, 3, [74, 2, 2], .null), (135, .ifCond .eq (7), 3, [142], .null), (138, .iconst 1, 1, [], .int (1)), (139, .goto (4), 3, [143], .null), (142, .iconst 0, 1, [], .int (0)), (143, .isub, 1, [], .null), (144, .istore 9, 2, [], .null), (146, .iinc 10 (1), 3, [], .int (1)), (149, .goto (-38), 3, [111], .null), (152, .iload 5, 2, [], .null), (154, .aload_n 0, 1, [], .null), (155, .iload 7, 2, [], .null), (157, .iload 10, 2, [], .null), (159, .invokevirtual 204, 3, [122, 3, 1, 7], .null), (162, .iadd, 1, [], .null), (163, .istore 5, 2, [], .null), (165, .iinc 7 (1), 3, [], .int (1)), (168, .goto (-103), 3, [65], .null), (171, .aload_n 0, 1, [], .null), (172, .dup, 1, [], .null), (173, .getfield 137, 3, [7, 13, 0], .null), (176, .iconst 1, 1, [], .int (1)), (177, .iadd, 1, [], .null), (178, .putfield 137, 3, [7, 13, 0], .null), (181, .iinc 6 (1), 3, [], .int (1)), (184, .goto (-128), 3, [56], .null), (187, .iload 5, 2, [], .null), (189, .ireturn, 1, [], .null)]
def Mo_days_111 (κ56 : (Int32 × Int64 × Int32 × Int32 × Hp) → Res Hp) (κ65 : (Int32 × Int64 × Int32 × Int32 × Int32 × Hp) → Res Hp)   : (Int32 × Int64 × Int32 × Int32 × Int32 × Int32 × Int32 × Int32 × Hp) → ((Int32 × Int64 × Int32 × Int32 × Int32 × Int32 × Int32 × Int32 × Hp) → Res Hp) → Res Hp := fun s κ111 => match s with
  | (x1, y3, x5, x6, x7, x8, x9, x10, h) =>
  bI (F_Mo_has x8 x10 h) fun v2 h1 =>
  if v2 = (0 : Int32) then
  (bI (F_Mo_has x8 x10 h1) fun v4 h3 =>
  if v4 = (0 : Int32) then
  (κ111 (x1, y3, x5, x6, x7, x8, (x9 - (0 : Int32)), (x10 + (1 : Int32)), h3))
  else
  (κ111 (x1, y3, x5, x6, x7, x8, (x9 - (1 : Int32)), (x10 + (1 : Int32)), h3)))
  else
  (if x9 ≤ (0 : Int32) then
  (bI (F_Mo_giveTo x7 x10 h1) fun v6 h5 =>
  κ65 (x1, y3, (x5 + v6), x6, (x7 + (1 : Int32)), h5))
  else
  (bI (F_Mo_has x8 x10 h1) fun v8 h7 =>
  if v8 = (0 : Int32) then
  (κ111 (x1, y3, x5, x6, x7, x8, (x9 - (0 : Int32)), (x10 + (1 : Int32)), h7))
  else
  (κ111 (x1, y3, x5, x6, x7, x8, (x9 - (1 : Int32)), (x10 + (1 : Int32)), h7))))
def Mo_days_65 (κ56 : (Int32 × Int64 × Int32 × Int32 × Hp) → Res Hp)   : (Int32 × Int64 × Int32 × Int32 × Int32 × Hp) → ((Int32 × Int64 × Int32 × Int32 × Int32 × Hp) → Res Hp) → Res Hp := fun s κ65 => match s with
  | (x1, y3, x5, x6, x7, h) =>
  if (hg h 178 14) ≤ x7 then
  (bH (hs h 178 13 ((hg h 178 13) + (1 : Int32))) fun h1 =>
  κ56 (x1, y3, x5, (x6 + (1 : Int32)), h1))
  else
  (bI (F_Mo_givable x7 h) fun v3 h2 =>
  if v3 = (0 : Int32) then
  (κ65 (x1, y3, x5, x6, (x7 + (1 : Int32)), h2))
  else
  (bI (F_Mo_sizeOf v3 h2) fun v5 h4 =>
  if v5.toInt64 = 0 then none else
  loopC (Mo_days_111 κ56 κ65  ) FU (x1, (((48271 : Int64) * y3) - ((48271 : Int64) * y3) / (2147483647 : Int64) * (2147483647 : Int64)), x5, x6, x7, v3, (((((48271 : Int64) * y3) - ((48271 : Int64) * y3) / (2147483647 : Int64) * (2147483647 : Int64)) - (((48271 : Int64) * y3) - ((48271 : Int64) * y3) / (2147483647 : Int64) * (2147483647 : Int64)) / v5.toInt64 * v5.toInt64)).toInt32, (0 : Int32), h4)))
def Mo_days_56    : (Int32 × Int64 × Int32 × Int32 × Hp) → ((Int32 × Int64 × Int32 × Int32 × Hp) → Res Hp) → Res Hp := fun s κ56 => match s with
  | (x1, y3, x5, x6, h) =>
  if x1 ≤ x6 then
  (retI x5 h)
  else
  (loopC (Mo_days_65 κ56  ) FU (x1, y3, x5, x6, (0 : Int32), h))
def F_Mo_days (x1 : Int32) (x2 : Int32) (h : Hp) : Res Hp :=
  bI (F_Mo_in x1 (1 : Int32) (60 : Int32) h) fun v2 h1 =>
  if v2 = (0 : Int32) then
  (retI (-1 : Int32) h1)
  else
  (bI (F_Mo_in x2 (1 : Int32) (2147483646 : Int32) h1) fun v4 h3 =>
  if v4 = (0 : Int32) then
  (retI (-1 : Int32) h3)
  else
  (if (hg h3 178 8) = (0 : Int32) then
  (retI (-4 : Int32) h3)
  else
  (if ((hg h3 178 13) + x1) ≤ (99 : Int32) then
  (loopC (Mo_days_56   ) FU (x1, x2.toInt64, (0 : Int32), (0 : Int32), h3))
  else
  (retI (-2 : Int32) h3))))
def sF_Mo_days : List Value → Hp → Res Hp := fun as h => match as with | [.ref f0, .int x1, .int x2] => (match Nat.beq f0 178 with | true => F_Mo_days x1 x2 h | false => none) | _ => none
theorem w_Mo_days (x1 : Int32) (x2 : Int32) (h : Hp) : sF_Mo_days [.ref 178, .int x1, .int x2] h = F_Mo_days x1 x2 h := rfl
def S_Mo_days : Sem Hp := [(71, sF_Mo_in), (121, sF_Mo_givable), (75, sF_Mo_sizeOf), (74, sF_Mo_has), (122, sF_Mo_giveTo)]
set_option maxRecDepth 100000 in
theorem e_Mo_days_0 (x1 : Int32) (x2 : Int32) (h : Hp) : F_Mo_days x1 x2 h = exec1 OI S_Mo_days 1 k_Mo_days 0 [some (.ref 178), some (.int x1), some (.int x2), none, none, none, none, none, none, none, none] [] h (runF OI S_Mo_days [(56, [0, 1, 3, 5, 6], fun vs st h => match vs, st with | [.ref f0, .int x1, .long y3, .int x5, .int x6], [] => (match Nat.beq f0 178 with | true => loopC (Mo_days_56   ) FU (x1, y3, x5, x6, h) | false => none) | _, _ => none)] 1 k_Mo_days 400) :=
  (x_bI (f := sF_Mo_in) rfl (w_Mo_in _ _ _ _) fun v2 h1 => (x_ite rfl (x_bI (f := sF_Mo_in) rfl (w_Mo_in _ _ _ _) fun v4 h3 => (x_ite rfl (x_ite rfl (x_ite rfl rfl))))))
set_option maxRecDepth 100000 in
theorem e_Mo_days_56 (κ56 : (Int32 × Int64 × Int32 × Int32 × Hp) → Res Hp) (x1 : Int32) (y3 : Int64) (x5 : Int32) (x6 : Int32)  (h : Hp) : Mo_days_56    (x1, y3, x5, x6, h) κ56 = exec1 OI S_Mo_days 1 k_Mo_days 56 [some (.ref 178), some (.int x1), none, some (.long y3), none, some (.int x5), some (.int x6), none, none, none, none] [] h (runF OI S_Mo_days [(65, [0, 1, 3, 5, 6, 7], fun vs st h => match vs, st with | [.ref f0, .int x1, .long y3, .int x5, .int x6, .int x7], [] => (match Nat.beq f0 178 with | true => loopC (Mo_days_65 κ56  ) FU (x1, y3, x5, x6, x7, h) | false => none) | _, _ => none)] 1 k_Mo_days 400) :=
  (x_ite rfl rfl)
set_option maxRecDepth 100000 in
theorem e_Mo_days_65 (κ56 : (Int32 × Int64 × Int32 × Int32 × Hp) → Res Hp) (κ65 : (Int32 × Int64 × Int32 × Int32 × Int32 × Hp) → Res Hp) (x1 : Int32) (y3 : Int64) (x5 : Int32) (x6 : Int32) (x7 : Int32)  (h : Hp) : Mo_days_65 κ56   (x1, y3, x5, x6, x7, h) κ65 = exec1 OI S_Mo_days 1 k_Mo_days 65 [some (.ref 178), some (.int x1), none, some (.long y3), none, some (.int x5), some (.int x6), some (.int x7), none, none, none] [] h (runF OI S_Mo_days [(56, [0, 1, 3, 5, 6], fun vs st h => match vs, st with | [.ref f0, .int x1, .long y3, .int x5, .int x6], [] => (match Nat.beq f0 178 with | true => κ56 (x1, y3, x5, x6, h) | false => none) | _, _ => none), (65, [0, 1, 3, 5, 6, 7], fun vs st h => match vs, st with | [.ref f0, .int x1, .long y3, .int x5, .int x6, .int x7], [] => (match Nat.beq f0 178 with | true => κ65 (x1, y3, x5, x6, x7, h) | false => none) | _, _ => none), (111, [0, 1, 3, 5, 6, 7, 8, 9, 10], fun vs st h => match vs, st with | [.ref f0, .int x1, .long y3, .int x5, .int x6, .int x7, .int x8, .int x9, .int x10], [] => (match Nat.beq f0 178 with | true => loopC (Mo_days_111 κ56 κ65  ) FU (x1, y3, x5, x6, x7, x8, x9, x10, h) | false => none) | _, _ => none)] 1 k_Mo_days 400) :=
  (x_ite (x_bH fun h1 => rfl) (x_bI (f := sF_Mo_givable) rfl (w_Mo_givable _ _) fun v3 h2 => (x_ite rfl (x_bI (f := sF_Mo_sizeOf) rfl (w_Mo_sizeOf _ _) fun v5 h4 => (x_if0 rfl)))))
set_option maxRecDepth 100000 in
theorem e_Mo_days_111 (κ56 : (Int32 × Int64 × Int32 × Int32 × Hp) → Res Hp) (κ65 : (Int32 × Int64 × Int32 × Int32 × Int32 × Hp) → Res Hp) (κ111 : (Int32 × Int64 × Int32 × Int32 × Int32 × Int32 × Int32 × Int32 × Hp) → Res Hp) (x1 : Int32) (y3 : Int64) (x5 : Int32) (x6 : Int32) (x7 : Int32) (x8 : Int32) (x9 : Int32) (x10 : Int32)  (h : Hp) : Mo_days_111 κ56 κ65   (x1, y3, x5, x6, x7, x8, x9, x10, h) κ111 = exec1 OI S_Mo_days 1 k_Mo_days 111 [some (.ref 178), some (.int x1), none, some (.long y3), none, some (.int x5), some (.int x6), some (.int x7), some (.int x8), some (.int x9), some (.int x10)] [] h (runF OI S_Mo_days [(111, [0, 1, 3, 5, 6, 7, 8, 9, 10], fun vs st h => match vs, st with | [.ref f0, .int x1, .long y3, .int x5, .int x6, .int x7, .int x8, .int x9, .int x10], [] => (match Nat.beq f0 178 with | true => κ111 (x1, y3, x5, x6, x7, x8, x9, x10, h) | false => none) | _, _ => none), (65, [0, 1, 3, 5, 6, 7], fun vs st h => match vs, st with | [.ref f0, .int x1, .long y3, .int x5, .int x6, .int x7], [] => (match Nat.beq f0 178 with | true => κ65 (x1, y3, x5, x6, x7, h) | false => none) | _, _ => none)] 1 k_Mo_days 400) :=
  (x_bI (f := sF_Mo_has) rfl (w_Mo_has _ _ _) fun v2 h1 => (x_ite (x_bI (f := sF_Mo_has) rfl (w_Mo_has _ _ _) fun v4 h3 => (x_ite rfl rfl)) (x_ite (x_bI (f := sF_Mo_giveTo) rfl (w_Mo_giveTo _ _ _) fun v6 h5 => rfl) (x_bI (f := sF_Mo_has) rfl (w_Mo_has _ _ _) fun v8 h7 => (x_ite rfl rfl)))))
def k_Mo_asked : List Ent := [(0, .aload_n 0, 1, [], .null), (1, .getfield 69, 3, [7, 2, 0], .null), (4, .ireturn, 1, [], .null)]
def F_Mo_asked  (h : Hp) : Res Hp :=
  retI (hg h 178 2) h
def sF_Mo_asked : List Value → Hp → Res Hp := fun as h => match as with | [.ref f0] => (match Nat.beq f0 178 with | true => F_Mo_asked  h | false => none) | _ => none
theorem w_Mo_asked  (h : Hp) : sF_Mo_asked [.ref 178] h = F_Mo_asked  h := rfl
def S_Mo_asked : Sem Hp := []
set_option maxRecDepth 100000 in
theorem e_Mo_asked_0  (h : Hp) : F_Mo_asked  h = exec1 OI S_Mo_asked 1 k_Mo_asked 0 [some (.ref 178)] [] h (runF OI S_Mo_asked [] 1 k_Mo_asked 400) :=
  rfl
def k_Mo_divisor : List Ent := [(0, .iload_n 0, 1, [], .null), (1, .istore_n 2, 1, [], .null), (2, .iload_n 1, 1, [], .null), (3, .istore_n 3, 1, [], .null), (4, .iload_n 3, 1, [], .null), (5, .ifCond .eq (16), 3, [21], .null), (8, .iload_n 2, 1, [], .null), (9, .iload_n 3, 1, [], .null), (10, .irem, 1, [], .null), (11, .istore 4, 2, [], .null), (13, .iload_n 3, 1, [], .null), (14, .istore_n 2, 1, [], .null), (15, .iload 4, 2, [], .null), (17, .istore_n 3, 1, [], .null), (18, .goto (-14), 3, [4], .null), (21, .iload_n 2, 1, [], .null), (22, .ireturn, 1, [], .null)]
def Mo_divisor_4    : (Int32 × Int32 × Hp) → ((Int32 × Int32 × Hp) → Res Hp) → Res Hp := fun s κ4 => match s with
  | (x2, x3, h) =>
  if x3 = (0 : Int32) then
  (retI x2 h)
  else
  (if x3 = 0 then none else
  κ4 (x3, (x2 - x2 / x3 * x3), h))
def F_Mo_divisor (x0 : Int32) (x1 : Int32) (h : Hp) : Res Hp :=
  loopC (Mo_divisor_4   ) FU (x0, x1, h)
def sF_Mo_divisor : List Value → Hp → Res Hp := fun as h => match as with | [.int x0, .int x1] => F_Mo_divisor x0 x1 h | _ => none
theorem w_Mo_divisor (x0 : Int32) (x1 : Int32) (h : Hp) : sF_Mo_divisor [.int x0, .int x1] h = F_Mo_divisor x0 x1 h := rfl
def S_Mo_divisor : Sem Hp := []
set_option maxRecDepth 100000 in
theorem e_Mo_divisor_0 (x0 : Int32) (x1 : Int32) (h : Hp) : F_Mo_divisor x0 x1 h = exec1 OI S_Mo_divisor 1 k_Mo_divisor 0 [some (.int x0), some (.int x1), none, none, none] [] h (runF OI S_Mo_divisor [(4, [2, 3], fun vs st h => match vs, st with | [.int x2, .int x3], [] => loopC (Mo_divisor_4   ) FU (x2, x3, h) | _, _ => none)] 1 k_Mo_divisor 400) :=
  rfl
set_option maxRecDepth 100000 in
theorem e_Mo_divisor_4 (κ4 : (Int32 × Int32 × Hp) → Res Hp) (x2 : Int32) (x3 : Int32)  (h : Hp) : Mo_divisor_4    (x2, x3, h) κ4 = exec1 OI S_Mo_divisor 1 k_Mo_divisor 4 [none, none, some (.int x2), some (.int x3), none] [] h (runF OI S_Mo_divisor [(4, [2, 3], fun vs st h => match vs, st with | [.int x2, .int x3], [] => κ4 (x2, x3, h) | _, _ => none)] 1 k_Mo_divisor 400) :=
  (x_ite rfl (x_if0 rfl))
def k_Mo_upper : List Ent := [(0, .aload_n 0, 1, [], .null), (1, .invokevirtual 256, 3, [148, 1, 1, 7], .null), (4, .istore_n 1, 1, [], .null), (5, .aload_n 0, 1, [], .null), (6, .getfield 250, 3, [7, 30, 0], .null), (9, .ifCond .ne (7), 3, [16], .null), (12, .lconst 0, 1, [], .long 0), (13, .goto (24), 3, [37], .null), (16, .aload_n 0, 1, [], .null), (17, .getfield 250, 3, [7, 30, 0], .null), (20, .iload_n 1, 1, [], .null), (21, .isub, 1, [], .null), (22, .aload_n 0, 1, [], .null), (23, .getfield 250, 3, [7, 30, 0], .null), (26, .iload_n 1, 1, [], .null), (27, .isub, 1, [], .null), (28, .aload_n 0, 1, [], .null), (29, .getfield 250, 3, [7, 30, 0], .null), (32, .invokestatic 274, 3, [162, 2, 1], .null), (35, .idiv, 1, [], .null), (36, .i2l, 1, [], .null), (37, .lreturn, 1, [], .null)]
def F_Mo_upper  (h : Hp) : Res Hp :=
  bI (F_Mo_cutNow  h) fun v2 h1 =>
  if (hg h1 178 30) = (0 : Int32) then
  (retL (0 : Int64) h1)
  else
  (bI (F_Mo_divisor ((hg h1 178 30) - v2) (hg h1 178 30) h1) fun v4 h3 =>
  if v4 = 0 then none else
  retL (((hg h1 178 30) - v2) / v4).toInt64 h3)
def sF_Mo_upper : List Value → Hp → Res Hp := fun as h => match as with | [.ref f0] => (match Nat.beq f0 178 with | true => F_Mo_upper  h | false => none) | _ => none
theorem w_Mo_upper  (h : Hp) : sF_Mo_upper [.ref 178] h = F_Mo_upper  h := rfl
def S_Mo_upper : Sem Hp := [(148, sF_Mo_cutNow), (162, sF_Mo_divisor)]
set_option maxRecDepth 100000 in
theorem e_Mo_upper_0  (h : Hp) : F_Mo_upper  h = exec1 OI S_Mo_upper 3 k_Mo_upper 0 [some (.ref 178), none] [] h (runF OI S_Mo_upper [] 3 k_Mo_upper 400) :=
  (x_bI (f := sF_Mo_cutNow) rfl (w_Mo_cutNow  _) fun v2 h1 => (x_ite rfl (x_bI (f := sF_Mo_divisor) rfl (w_Mo_divisor _ _ _) fun v4 h3 => (x_if0 rfl))))
def k_Mo_lower : List Ent := [(0, .aload_n 0, 1, [], .null), (1, .invokevirtual 256, 3, [148, 1, 1, 7], .null), (4, .istore_n 1, 1, [], .null), (5, .aload_n 0, 1, [], .null), (6, .getfield 250, 3, [7, 30, 0], .null), (9, .ifCond .ne (7), 3, [16], .null), (12, .lconst 1, 1, [], .long 1), (13, .goto (22), 3, [35], .null), (16, .aload_n 0, 1, [], .null), (17, .getfield 250, 3, [7, 30, 0], .null), (20, .aload_n 0, 1, [], .null), (21, .getfield 250, 3, [7, 30, 0], .null), (24, .iload_n 1, 1, [], .null), (25, .isub, 1, [], .null), (26, .aload_n 0, 1, [], .null), (27, .getfield 250, 3, [7, 30, 0], .null), (30, .invokestatic 274, 3, [162, 2, 1], .null), (33, .idiv, 1, [], .null), (34, .i2l, 1, [], .null), (35, .lreturn, 1, [], .null)]
def F_Mo_lower  (h : Hp) : Res Hp :=
  bI (F_Mo_cutNow  h) fun v2 h1 =>
  if (hg h1 178 30) = (0 : Int32) then
  (retL (1 : Int64) h1)
  else
  (bI (F_Mo_divisor ((hg h1 178 30) - v2) (hg h1 178 30) h1) fun v4 h3 =>
  if v4 = 0 then none else
  retL ((hg h1 178 30) / v4).toInt64 h3)
def sF_Mo_lower : List Value → Hp → Res Hp := fun as h => match as with | [.ref f0] => (match Nat.beq f0 178 with | true => F_Mo_lower  h | false => none) | _ => none
theorem w_Mo_lower  (h : Hp) : sF_Mo_lower [.ref 178] h = F_Mo_lower  h := rfl
def S_Mo_lower : Sem Hp := [(148, sF_Mo_cutNow), (162, sF_Mo_divisor)]
set_option maxRecDepth 100000 in
theorem e_Mo_lower_0  (h : Hp) : F_Mo_lower  h = exec1 OI S_Mo_lower 3 k_Mo_lower 0 [some (.ref 178), none] [] h (runF OI S_Mo_lower [] 3 k_Mo_lower 400) :=
  (x_bI (f := sF_Mo_cutNow) rfl (w_Mo_cutNow  _) fun v2 h1 => (x_ite rfl (x_bI (f := sF_Mo_divisor) rfl (w_Mo_divisor _ _ _) fun v4 h3 => (x_if0 rfl))))
def k_Mo_tells : List Ent := [(0, .iconst 0, 1, [], .int (0)), (1, .istore_n 2, 1, [], .null), (2, .iconst 0, 1, [], .int (0)), (3, .istore_n 3, 1, [], .null), (4, .iload_n 3, 1, [], .null), (5, .bipush (7), 2, [], .int (7)), (7, .if_icmp .ge (127), 3, [134], .null), (10, .iload_n 2, 1, [], .null), (11, .iload_n 1, 1, [], .null), (12, .iconst 4, 1, [], .int (4)), (13, .if_icmp .ne (19), 3, [32], .null), (16, .iload_n 3, 1, [], .null), (17, .aload_n 0, 1, [], .null), (18, .getfield 140, 3, [7, 14, 0], .null), (21, .if_icmp .ge (11), 3, [32], .null), (24, .aload_n 0, 1, [], .null), (25, .iload_n 3, 1, [], .null), (26, .invokevirtual 159, 3, [107, 2, 2, 7], .null), (29, .ifCond .ne (92), 3, [121], .null), (32, .iload_n 1, 1, [], .null), (33, .iconst 5, 1, [], .int (5)), (34, .if_icmp .ne (20), 3, [54], .null), (37, .iload_n 3, 1, [], .null), (38, .aload_n 0, 1, [], .null), (39, .getfield 131, 3, [7, 8, 0], .null), (42, .if_icmp .ge (12), 3, [54], .null), (45, .aload_n 0, 1, [], .null), (46, .iload_n 3, 1, [], .null), (47, .iconst 1, 1, [], .int (1)), (48, .invokevirtual 146, 3, [101, 3, 2, 7], .null), (51, .ifCond .ne (70), 3, [121], .null), (54, .iload_n 1, 1, [], .null), (55, .bipush (6), 2, [], .int (6)), (57, .if_icmp .ne (18), 3, [75], .null), (60, .iload_n 3, 1, [], .null), (61, .bipush (6), 2, [], .int (6)), (63, .if_icmp .ge (12), 3, [75], .null), (66, .aload_n 0, 1, [], .null), (67, .getfield 13, 3, [7, 3, 1], .null), (70, .iload_n 3, 1, [], .null), (71, .iaload, 1, [], .null), (72, .ifCond .ge (49), 3, [121], .null), (75, .iload_n 1, 1, [], .null), (76, .bipush (7), 2, [], .int (7)), (78, .if_icmp .ne (17), 3, [95], .null), (81, .iload_n 3, 1, [], .null), (82, .iconst 4, 1, [], .int (4)), (83, .if_icmp .ge (12), 3, [95], .null), (86, .aload_n 0, 1, [], .null), (87, .getfield 22, 3, [7, 6, 1], .null), (90, .iload_n 3, 1, [], .null), (91, .iaload, 1, [], .null), (92, .ifCond .ge (29), 3, [121], .null), (95, .iload_n 1, 1, [], .null), (96, .bipush (8), 2, [], .int (8)), (98, .if_icmp .ne (27), 3, [125], .null), (101, .iload_n 3, 1, [], .null), (102, .iconst 3, 1, [], .int (3)), (103, .if_icmp .ge (22), 3, [125], .null), (106, .aload_n 0, 1, [], .null), (107, .getfield 49, 3, [7, 22, 1], .null), (110, .sipush (140), 3, [], .int (140)), (113, .iload_n 3, 1, [], .null), (114, .imul, 1, [], .null), (115, .iaload, 1, [], .null), (116, .bipush (-9), 2, [], .int (-9)), (118, .if_icmp .eq (7), 3, [125], .null), (121, .iconst 1, 1, [], .int (1)), (122, .goto (4), 3, [126], .null), (125, .iconst 0, 1, [], .int (0)), (126, .iadd, 1, [], .null), (127, .istore_n 2, 1, [], .null), (128, .iinc 3 (1), 3, [], .int (1)), (131, .goto (-127), 3, [4], .null), (134, .iload_n 1, 1, [], .null), (135, .tableswitch (49) 0 3 #[29, 34, 39, 44], 29, [184, 0, 164, 1, 169, 2, 174, 3, 179], .null), (164, .aload_n 0, 1, [], .null), (165, .getfield 131, 3, [7, 8, 0], .null), (168, .ireturn, 1, [], .null), (169, .aload_n 0, 1, [], .null), (170, .getfield 134, 3, [7, 11, 0], .null), (173, .ireturn, 1, [], .null), (174, .aload_n 0, 1, [], .null), (175, .getfield 137, 3, [7, 13, 0], .null), (178, .ireturn, 1, [], .null), (179, .aload_n 0, 1, [], .null), (180, .getfield 140, 3, [7, 14, 0], .null), (183, .ireturn, 1, [], .null), (184, .iload_n 2, 1, [], .null), (185, .ireturn, 1, [], .null)]
def Mo_tells_54 (κ4 : (Int32 × Int32 × Int32 × Hp) → Res Hp) (x1 : Int32) (x3 : Int32) (s0 : Int32) (h : Hp) : Res Hp :=
  if x1 = (6 : Int32) then
  (if (6 : Int32) ≤ x3 then
  (if x1 = (7 : Int32) then
  (if (4 : Int32) ≤ x3 then
  (if x1 = (8 : Int32) then
  (if (3 : Int32) ≤ x3 then
  (κ4 (x1, (s0 + (0 : Int32)), (x3 + (1 : Int32)), h))
  else
  (bif okA 192 100 ((140 : Int32) * x3) then
  if (hg h 192 ((140 : Int32) * x3).toNatClampNeg) = (-9 : Int32) then
  (κ4 (x1, (s0 + (0 : Int32)), (x3 + (1 : Int32)), h))
  else
  (κ4 (x1, (s0 + (1 : Int32)), (x3 + (1 : Int32)), h))
  else none))
  else
  (κ4 (x1, (s0 + (0 : Int32)), (x3 + (1 : Int32)), h)))
  else
  (bif okA 183 100 x3 then
  if (0 : Int32) ≤ (hg h 183 x3.toNatClampNeg) then
  (κ4 (x1, (s0 + (1 : Int32)), (x3 + (1 : Int32)), h))
  else
  (if x1 = (8 : Int32) then
  (if (3 : Int32) ≤ x3 then
  (κ4 (x1, (s0 + (0 : Int32)), (x3 + (1 : Int32)), h))
  else
  (bif okA 192 100 ((140 : Int32) * x3) then
  if (hg h 192 ((140 : Int32) * x3).toNatClampNeg) = (-9 : Int32) then
  (κ4 (x1, (s0 + (0 : Int32)), (x3 + (1 : Int32)), h))
  else
  (κ4 (x1, (s0 + (1 : Int32)), (x3 + (1 : Int32)), h))
  else none))
  else
  (κ4 (x1, (s0 + (0 : Int32)), (x3 + (1 : Int32)), h)))
  else none))
  else
  (if x1 = (8 : Int32) then
  (if (3 : Int32) ≤ x3 then
  (κ4 (x1, (s0 + (0 : Int32)), (x3 + (1 : Int32)), h))
  else
  (bif okA 192 100 ((140 : Int32) * x3) then
  if (hg h 192 ((140 : Int32) * x3).toNatClampNeg) = (-9 : Int32) then
  (κ4 (x1, (s0 + (0 : Int32)), (x3 + (1 : Int32)), h))
  else
  (κ4 (x1, (s0 + (1 : Int32)), (x3 + (1 : Int32)), h))
  else none))
  else
  (κ4 (x1, (s0 + (0 : Int32)), (x3 + (1 : Int32)), h))))
  else
  (bif okA 180 100 x3 then
  if (0 : Int32) ≤ (hg h 180 x3.toNatClampNeg) then
  (κ4 (x1, (s0 + (1 : Int32)), (x3 + (1 : Int32)), h))
  else
  (if x1 = (7 : Int32) then
  (if (4 : Int32) ≤ x3 then
  (if x1 = (8 : Int32) then
  (if (3 : Int32) ≤ x3 then
  (κ4 (x1, (s0 + (0 : Int32)), (x3 + (1 : Int32)), h))
  else
  (bif okA 192 100 ((140 : Int32) * x3) then
  if (hg h 192 ((140 : Int32) * x3).toNatClampNeg) = (-9 : Int32) then
  (κ4 (x1, (s0 + (0 : Int32)), (x3 + (1 : Int32)), h))
  else
  (κ4 (x1, (s0 + (1 : Int32)), (x3 + (1 : Int32)), h))
  else none))
  else
  (κ4 (x1, (s0 + (0 : Int32)), (x3 + (1 : Int32)), h)))
  else
  (bif okA 183 100 x3 then
  if (0 : Int32) ≤ (hg h 183 x3.toNatClampNeg) then
  (κ4 (x1, (s0 + (1 : Int32)), (x3 + (1 : Int32)), h))
  else
  (if x1 = (8 : Int32) then
  (if (3 : Int32) ≤ x3 then
  (κ4 (x1, (s0 + (0 : Int32)), (x3 + (1 : Int32)), h))
  else
  (bif okA 192 100 ((140 : Int32) * x3) then
  if (hg h 192 ((140 : Int32) * x3).toNatClampNeg) = (-9 : Int32) then
  (κ4 (x1, (s0 + (0 : Int32)), (x3 + (1 : Int32)), h))
  else
  (κ4 (x1, (s0 + (1 : Int32)), (x3 + (1 : Int32)), h))
  else none))
  else
  (κ4 (x1, (s0 + (0 : Int32)), (x3 + (1 : Int32)), h)))
  else none))
  else
  (if x1 = (8 : Int32) then
  (if (3 : Int32) ≤ x3 then
  (κ4 (x1, (s0 + (0 : Int32)), (x3 + (1 : Int32)), h))
  else
  (bif okA 192 100 ((140 : Int32) * x3) then
  if (hg h 192 ((140 : Int32) * x3).toNatClampNeg) = (-9 : Int32) then
  (κ4 (x1, (s0 + (0 : Int32)), (x3 + (1 : Int32)), h))
  else
  (κ4 (x1, (s0 + (1 : Int32)), (x3 + (1 : Int32)), h))
  else none))
  else
  (κ4 (x1, (s0 + (0 : Int32)), (x3 + (1 : Int32)), h))))
  else none))
  else
  (if x1 = (7 : Int32) then
  (if (4 : Int32) ≤ x3 then
  (if x1 = (8 : Int32) then
  (if (3 : Int32) ≤ x3 then
  (κ4 (x1, (s0 + (0 : Int32)), (x3 + (1 : Int32)), h))
  else
  (bif okA 192 100 ((140 : Int32) * x3) then
  if (hg h 192 ((140 : Int32) * x3).toNatClampNeg) = (-9 : Int32) then
  (κ4 (x1, (s0 + (0 : Int32)), (x3 + (1 : Int32)), h))
  else
  (κ4 (x1, (s0 + (1 : Int32)), (x3 + (1 : Int32)), h))
  else none))
  else
  (κ4 (x1, (s0 + (0 : Int32)), (x3 + (1 : Int32)), h)))
  else
  (bif okA 183 100 x3 then
  if (0 : Int32) ≤ (hg h 183 x3.toNatClampNeg) then
  (κ4 (x1, (s0 + (1 : Int32)), (x3 + (1 : Int32)), h))
  else
  (if x1 = (8 : Int32) then
  (if (3 : Int32) ≤ x3 then
  (κ4 (x1, (s0 + (0 : Int32)), (x3 + (1 : Int32)), h))
  else
  (bif okA 192 100 ((140 : Int32) * x3) then
  if (hg h 192 ((140 : Int32) * x3).toNatClampNeg) = (-9 : Int32) then
  (κ4 (x1, (s0 + (0 : Int32)), (x3 + (1 : Int32)), h))
  else
  (κ4 (x1, (s0 + (1 : Int32)), (x3 + (1 : Int32)), h))
  else none))
  else
  (κ4 (x1, (s0 + (0 : Int32)), (x3 + (1 : Int32)), h)))
  else none))
  else
  (if x1 = (8 : Int32) then
  (if (3 : Int32) ≤ x3 then
  (κ4 (x1, (s0 + (0 : Int32)), (x3 + (1 : Int32)), h))
  else
  (bif okA 192 100 ((140 : Int32) * x3) then
  if (hg h 192 ((140 : Int32) * x3).toNatClampNeg) = (-9 : Int32) then
  (κ4 (x1, (s0 + (0 : Int32)), (x3 + (1 : Int32)), h))
  else
  (κ4 (x1, (s0 + (1 : Int32)), (x3 + (1 : Int32)), h))
  else none))
  else
  (κ4 (x1, (s0 + (0 : Int32)), (x3 + (1 : Int32)), h))))
def Mo_tells_32 (κ4 : (Int32 × Int32 × Int32 × Hp) → Res Hp) (x1 : Int32) (x3 : Int32) (s0 : Int32) (h : Hp) : Res Hp :=
  if x1 = (5 : Int32) then
  (if (hg h 178 8) ≤ x3 then
  (Mo_tells_54 κ4 x1 x3 s0 h)
  else
  (bI (F_Mo_isA x3 (1 : Int32) h) fun v2 h1 =>
  if v2 = (0 : Int32) then
  (Mo_tells_54 κ4 x1 x3 s0 h1)
  else
  (κ4 (x1, (s0 + (1 : Int32)), (x3 + (1 : Int32)), h1))))
  else
  (Mo_tells_54 κ4 x1 x3 s0 h)
def Mo_tells_4    : (Int32 × Int32 × Int32 × Hp) → ((Int32 × Int32 × Int32 × Hp) → Res Hp) → Res Hp := fun s κ4 => match s with
  | (x1, x2, x3, h) =>
  if (7 : Int32) ≤ x3 then
  (if x1 = (0 : Int32) then
  (retI (hg h 178 8) h)
  else if x1 = (1 : Int32) then
  (retI (hg h 178 11) h)
  else if x1 = (2 : Int32) then
  (retI (hg h 178 13) h)
  else if x1 = (3 : Int32) then
  (retI (hg h 178 14) h)
  else 
  (retI x2 h))
  else
  (if x1 = (4 : Int32) then
  (if (hg h 178 14) ≤ x3 then
  (Mo_tells_32 κ4 x1 x3 x2 h)
  else
  (bI (F_Mo_isThere x3 h) fun v2 h1 =>
  if v2 = (0 : Int32) then
  (Mo_tells_32 κ4 x1 x3 x2 h1)
  else
  (κ4 (x1, (x2 + (1 : Int32)), (x3 + (1 : Int32)), h1))))
  else
  (Mo_tells_32 κ4 x1 x3 x2 h))
def F_Mo_tells (x1 : Int32) (h : Hp) : Res Hp :=
  loopC (Mo_tells_4   ) FU (x1, (0 : Int32), (0 : Int32), h)
def sF_Mo_tells : List Value → Hp → Res Hp := fun as h => match as with | [.ref f0, .int x1] => (match Nat.beq f0 178 with | true => F_Mo_tells x1 h | false => none) | _ => none
theorem w_Mo_tells (x1 : Int32) (h : Hp) : sF_Mo_tells [.ref 178, .int x1] h = F_Mo_tells x1 h := rfl
def S_Mo_tells : Sem Hp := [(101, sF_Mo_isA), (107, sF_Mo_isThere)]
set_option maxRecDepth 100000 in
theorem e_Mo_tells_0 (x1 : Int32) (h : Hp) : F_Mo_tells x1 h = exec1 OI S_Mo_tells 1 k_Mo_tells 0 [some (.ref 178), some (.int x1), none, none] [] h (runF OI S_Mo_tells [(4, [0, 1, 2, 3], fun vs st h => match vs, st with | [.ref f0, .int x1, .int x2, .int x3], [] => (match Nat.beq f0 178 with | true => loopC (Mo_tells_4   ) FU (x1, x2, x3, h) | false => none) | _, _ => none)] 1 k_Mo_tells 400) :=
  rfl
set_option maxRecDepth 100000 in
theorem e_Mo_tells_4 (κ4 : (Int32 × Int32 × Int32 × Hp) → Res Hp) (x1 : Int32) (x2 : Int32) (x3 : Int32)  (h : Hp) : Mo_tells_4    (x1, x2, x3, h) κ4 = exec1 OI S_Mo_tells 1 k_Mo_tells 4 [some (.ref 178), some (.int x1), some (.int x2), some (.int x3)] [] h (runF OI S_Mo_tells [(32, [0, 1, 3], fun vs st h => match vs, st with | [.ref f0, .int x1, .int x3], [.int s0] => (match Nat.beq f0 178 with | true => Mo_tells_32 κ4 x1 x3 s0 h | false => none) | _, _ => none), (4, [0, 1, 2, 3], fun vs st h => match vs, st with | [.ref f0, .int x1, .int x2, .int x3], [] => (match Nat.beq f0 178 with | true => κ4 (x1, x2, x3, h) | false => none) | _, _ => none)] 1 k_Mo_tells 400) :=
  (x_ite (x_ite rfl (x_ite rfl (x_ite rfl (x_ite rfl rfl)))) (x_ite (x_ite rfl (x_bI (f := sF_Mo_isThere) rfl (w_Mo_isThere _ _) fun v2 h1 => (x_ite rfl rfl))) rfl))
set_option maxRecDepth 100000 in
theorem e_Mo_tells_32 (κ4 : (Int32 × Int32 × Int32 × Hp) → Res Hp) (x1 : Int32) (x3 : Int32) (s0 : Int32) (h : Hp) : Mo_tells_32 κ4 x1 x3 s0 h = exec1 OI S_Mo_tells 1 k_Mo_tells 32 [some (.ref 178), some (.int x1), none, some (.int x3)] [.int s0] h (runF OI S_Mo_tells [(54, [0, 1, 3], fun vs st h => match vs, st with | [.ref f0, .int x1, .int x3], [.int s0] => (match Nat.beq f0 178 with | true => Mo_tells_54 κ4 x1 x3 s0 h | false => none) | _, _ => none), (4, [0, 1, 2, 3], fun vs st h => match vs, st with | [.ref f0, .int x1, .int x2, .int x3], [] => (match Nat.beq f0 178 with | true => κ4 (x1, x2, x3, h) | false => none) | _, _ => none)] 1 k_Mo_tells 400) :=
  (x_ite (x_ite rfl (x_bI (f := sF_Mo_isA) rfl (w_Mo_isA _ _ _) fun v2 h1 => (x_ite rfl rfl))) rfl)
set_option maxRecDepth 100000 in
theorem e_Mo_tells_54 (κ4 : (Int32 × Int32 × Int32 × Hp) → Res Hp) (x1 : Int32) (x3 : Int32) (s0 : Int32) (h : Hp) : Mo_tells_54 κ4 x1 x3 s0 h = exec1 OI S_Mo_tells 1 k_Mo_tells 54 [some (.ref 178), some (.int x1), none, some (.int x3)] [.int s0] h (runF OI S_Mo_tells [(4, [0, 1, 2, 3], fun vs st h => match vs, st with | [.ref f0, .int x1, .int x2, .int x3], [] => (match Nat.beq f0 178 with | true => κ4 (x1, x2, x3, h) | false => none) | _, _ => none)] 1 k_Mo_tells 400) :=
  (x_ite (x_ite (x_ite (x_ite (x_ite (x_ite rfl (x_bif (x_ite rfl rfl))) rfl) (x_bif (x_ite rfl (x_ite (x_ite rfl (x_bif (x_ite rfl rfl))) rfl)))) (x_ite (x_ite rfl (x_bif (x_ite rfl rfl))) rfl)) (x_bif (x_ite rfl (x_ite (x_ite (x_ite (x_ite rfl (x_bif (x_ite rfl rfl))) rfl) (x_bif (x_ite rfl (x_ite (x_ite rfl (x_bif (x_ite rfl rfl))) rfl)))) (x_ite (x_ite rfl (x_bif (x_ite rfl rfl))) rfl))))) (x_ite (x_ite (x_ite (x_ite rfl (x_bif (x_ite rfl rfl))) rfl) (x_bif (x_ite rfl (x_ite (x_ite rfl (x_bif (x_ite rfl rfl))) rfl)))) (x_ite (x_ite rfl (x_bif (x_ite rfl rfl))) rfl)))
def k_Mo_count : List Ent := [(0, .iload_n 1, 1, [], .null), (1, .iconst 0, 1, [], .int (0)), (2, .bipush (8), 2, [], .int (8)), (4, .invokestatic 72, 3, [71, 3, 2], .null), (7, .ifCond .eq (11), 3, [18], .null), (10, .aload_n 0, 1, [], .null), (11, .iload_n 1, 1, [], .null), (12, .invokevirtual 277, 3, [165, 2, 1, 7], .null), (15, .goto (4), 3, [19], .null), (18, .iconst (-1), 1, [], .int (-1)), (19, .ireturn, 1, [], .null)]
def F_Mo_count (x1 : Int32) (h : Hp) : Res Hp :=
  bI (F_Mo_in x1 (0 : Int32) (8 : Int32) h) fun v2 h1 =>
  if v2 = (0 : Int32) then
  (retI (-1 : Int32) h1)
  else
  (bI (F_Mo_tells x1 h1) fun v4 h3 =>
  retI v4 h3)
def sF_Mo_count : List Value → Hp → Res Hp := fun as h => match as with | [.ref f0, .int x1] => (match Nat.beq f0 178 with | true => F_Mo_count x1 h | false => none) | _ => none
theorem w_Mo_count (x1 : Int32) (h : Hp) : sF_Mo_count [.ref 178, .int x1] h = F_Mo_count x1 h := rfl
def S_Mo_count : Sem Hp := [(71, sF_Mo_in), (165, sF_Mo_tells)]
set_option maxRecDepth 100000 in
theorem e_Mo_count_0 (x1 : Int32) (h : Hp) : F_Mo_count x1 h = exec1 OI S_Mo_count 1 k_Mo_count 0 [some (.ref 178), some (.int x1)] [] h (runF OI S_Mo_count [] 1 k_Mo_count 400) :=
  (x_bI (f := sF_Mo_in) rfl (w_Mo_in _ _ _ _) fun v2 h1 => (x_ite rfl (x_bI (f := sF_Mo_tells) rfl (w_Mo_tells _ _) fun v4 h3 => rfl)))
def k_Mo_finding : List Ent := [(0, .aload_n 0, 1, [], .null), (1, .getfield 65, 3, [7, 0, 0], .null), (4, .ireturn, 1, [], .null)]
def F_Mo_finding  (h : Hp) : Res Hp :=
  retI (hg h 178 0) h
def sF_Mo_finding : List Value → Hp → Res Hp := fun as h => match as with | [.ref f0] => (match Nat.beq f0 178 with | true => F_Mo_finding  h | false => none) | _ => none
theorem w_Mo_finding  (h : Hp) : sF_Mo_finding [.ref 178] h = F_Mo_finding  h := rfl
def S_Mo_finding : Sem Hp := []
set_option maxRecDepth 100000 in
theorem e_Mo_finding_0  (h : Hp) : F_Mo_finding  h = exec1 OI S_Mo_finding 1 k_Mo_finding 0 [some (.ref 178)] [] h (runF OI S_Mo_finding [] 1 k_Mo_finding 400) :=
  rfl
def k_Mo_findings : List Ent := [(0, .iload_n 1, 1, [], .null), (1, .iconst 1, 1, [], .int (1)), (2, .iconst 5, 1, [], .int (5)), (3, .invokestatic 72, 3, [71, 3, 2], .null), (6, .ifCond .eq (12), 3, [18], .null), (9, .aload_n 0, 1, [], .null), (10, .getfield 7, 3, [7, 1, 1], .null), (13, .iload_n 1, 1, [], .null), (14, .iaload, 1, [], .null), (15, .goto (4), 3, [19], .null), (18, .iconst (-1), 1, [], .int (-1)), (19, .ireturn, 1, [], .null)]
def F_Mo_findings (x1 : Int32) (h : Hp) : Res Hp :=
  bI (F_Mo_in x1 (1 : Int32) (5 : Int32) h) fun v2 h1 =>
  if v2 = (0 : Int32) then
  (retI (-1 : Int32) h1)
  else
  (bif okA 179 100 x1 then
  retI (hg h1 179 x1.toNatClampNeg) h1
  else none)
def sF_Mo_findings : List Value → Hp → Res Hp := fun as h => match as with | [.ref f0, .int x1] => (match Nat.beq f0 178 with | true => F_Mo_findings x1 h | false => none) | _ => none
theorem w_Mo_findings (x1 : Int32) (h : Hp) : sF_Mo_findings [.ref 178, .int x1] h = F_Mo_findings x1 h := rfl
def S_Mo_findings : Sem Hp := [(71, sF_Mo_in)]
set_option maxRecDepth 100000 in
theorem e_Mo_findings_0 (x1 : Int32) (h : Hp) : F_Mo_findings x1 h = exec1 OI S_Mo_findings 1 k_Mo_findings 0 [some (.ref 178), some (.int x1)] [] h (runF OI S_Mo_findings [] 1 k_Mo_findings 400) :=
  (x_bI (f := sF_Mo_in) rfl (w_Mo_in _ _ _ _) fun v2 h1 => (x_ite rfl (x_bif rfl)))
def k_Mo_mix : List Ent := [(0, .aload_n 0, 1, [], .null), (1, .ldc2_w 280, 3, [], .long 31), (4, .aload_n 0, 1, [], .null), (5, .getfield 282, 3, [7, 32, 2], .null), (8, .lmul, 1, [], .null), (9, .iload_n 1, 1, [], .null), (10, .i2l, 1, [], .null), (11, .ladd, 1, [], .null), (12, .putfield 282, 3, [7, 32, 2], .null), (15, .return_, 1, [], .null)]
def F_Mo_mix (x1 : Int32) (h : Hp) : Res Hp :=
  bH (hsl h (((31 : Int64) * (hl h)) + x1.toInt64)) fun h1 =>
  retV h1
def sF_Mo_mix : List Value → Hp → Res Hp := fun as h => match as with | [.ref f0, .int x1] => (match Nat.beq f0 178 with | true => F_Mo_mix x1 h | false => none) | _ => none
theorem w_Mo_mix (x1 : Int32) (h : Hp) : sF_Mo_mix [.ref 178, .int x1] h = F_Mo_mix x1 h := rfl
def S_Mo_mix : Sem Hp := []
set_option maxRecDepth 100000 in
theorem e_Mo_mix_0 (x1 : Int32) (h : Hp) : F_Mo_mix x1 h = exec1 OI S_Mo_mix 0 k_Mo_mix 0 [some (.ref 178), some (.int x1)] [] h (runF OI S_Mo_mix [] 0 k_Mo_mix 400) :=
  (x_bH fun h1 => rfl)
end
