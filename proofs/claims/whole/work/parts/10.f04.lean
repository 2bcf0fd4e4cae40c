noncomputable section
def k_Bp_reader : List Ent := [(0, .aload_n 0, 1, [], .null), (1, .iload_n 1, 1, [], .null), (2, .invokevirtual 290, 3, [61, 2, 1, 6], .null), (5, .istore_n 2, 1, [], .null), (6, .iload_n 2, 1, [], .null), (7, .ifCond .eq (5), 3, [12], .null), (10, .iload_n 2, 1, [], .null), (11, .ireturn, 1, [], .null), (12, .iconst 0, 1, [], .int (0)), (13, .istore_n 3, 1, [], .null), (14, .iconst 0, 1, [], .int (0)), (15, .istore 4, 2, [], .null), (17, .iload 4, 2, [], .null), (19, .aload_n 0, 1, [], .null), (20, .getfield 21, 3, [6, 2, 1], .null), (23, .getfield 127, 3, [0, 8, 0], .null), (26, .if_icmp .ge (34), 3, [60], .null), (29, .aload_n 0, 1, [], .null), (30, .getfield 11, 3, [6, 0, 1], .null), (33, .iload_n 1, 1, [], .null), (34, .aaload, 1, [], .null), (35, .iload 4, 2, [], .null), (37, .invokestatic 152, 3, [64, 1, 1], .null), (40, .invokestatic 293, 3, [62, 2, 2], .null), (43, .ifCond .eq (11), 3, [54], .null), (46, .iload_n 3, 1, [], .null), (47, .iload 4, 2, [], .null), (49, .invokestatic 152, 3, [64, 1, 1], .null), (52, .ior, 1, [], .null), (53, .istore_n 3, 1, [], .null), (54, .iinc 4 (1), 3, [], .int (1)), (57, .goto (-40), 3, [17], .null), (60, .iload_n 3, 1, [], .null), (61, .ireturn, 1, [], .null)]
def Bp_reader_17    : (Int32 × Int32 × Int32 × Hp) → ((Int32 × Int32 × Int32 × Hp) → Res Hp) → Res Hp := fun s κ17 => match s with
  | (x1, x3, x4, h) =>
  if (hg h 3 8) ≤ x4 then
  (retI x3 h)
  else
  (bif okR 1 x1 then
  bI (F_Bp_bit x4 h) fun v2 h1 =>
  bI (F_Bp_readsSo (shR 1 x1.toNatClampNeg) v2 h1) fun v4 h3 =>
  if v4 = (0 : Int32) then
  (κ17 (x1, x3, (x4 + (1 : Int32)), h3))
  else
  (bI (F_Bp_bit x4 h3) fun v6 h5 =>
  κ17 (x1, (x3 ||| v6), (x4 + (1 : Int32)), h5))
  else none)
def F_Bp_reader (x1 : Int32) (h : Hp) : Res Hp :=
  bI (F_Bp_refusedPairs x1 h) fun v2 h1 =>
  if v2 = (0 : Int32) then
  (loopC (Bp_reader_17   ) FU (x1, (0 : Int32), (0 : Int32), h1))
  else
  (retI v2 h1)
def sF_Bp_reader : List Value → Hp → Res Hp := fun as h => match as with | [.ref f0, .int x1] => (match Nat.beq f0 0 with | true => F_Bp_reader x1 h | false => none) | _ => none
theorem w_Bp_reader (x1 : Int32) (h : Hp) : sF_Bp_reader [.ref 0, .int x1] h = F_Bp_reader x1 h := rfl
def S_Bp_reader : Sem Hp := [(61, sF_Bp_refusedPairs), (64, sF_Bp_bit), (62, sF_Bp_readsSo)]
set_option maxRecDepth 100000 in
theorem e_Bp_reader_0 (x1 : Int32) (h : Hp) : F_Bp_reader x1 h = exec1 OI S_Bp_reader 1 k_Bp_reader 0 [some (.ref 0), some (.int x1), none, none, none] [] h (runF OI S_Bp_reader [(17, [0, 1, 3, 4], fun vs st h => match vs, st with | [.ref f0, .int x1, .int x3, .int x4], [] => (match Nat.beq f0 0 with | true => loopC (Bp_reader_17   ) FU (x1, x3, x4, h) | false => none) | _, _ => none)] 1 k_Bp_reader 400) :=
  (x_bI (f := sF_Bp_refusedPairs) rfl (w_Bp_refusedPairs _ _) fun v2 h1 => (x_ite rfl rfl))
set_option maxRecDepth 100000 in
theorem e_Bp_reader_17 (κ17 : (Int32 × Int32 × Int32 × Hp) → Res Hp) (x1 : Int32) (x3 : Int32) (x4 : Int32)  (h : Hp) : Bp_reader_17    (x1, x3, x4, h) κ17 = exec1 OI S_Bp_reader 1 k_Bp_reader 17 [some (.ref 0), some (.int x1), none, some (.int x3), some (.int x4)] [] h (runF OI S_Bp_reader [(17, [0, 1, 3, 4], fun vs st h => match vs, st with | [.ref f0, .int x1, .int x3, .int x4], [] => (match Nat.beq f0 0 with | true => κ17 (x1, x3, x4, h) | false => none) | _, _ => none)] 1 k_Bp_reader 400) :=
  (x_ite rfl (x_bif (x_bI (f := sF_Bp_bit) rfl (w_Bp_bit _ _) fun v2 h1 => (x_bI (f := sF_Bp_readsSo) rfl (w_Bp_readsSo _ _ _) fun v4 h3 => (x_ite rfl (x_bI (f := sF_Bp_bit) rfl (w_Bp_bit _ _) fun v6 h5 => rfl))))))
def k_Bp_readers : List Ent := [(0, .aload_n 0, 1, [], .null), (1, .iload_n 1, 1, [], .null), (2, .invokevirtual 290, 3, [61, 2, 1, 6], .null), (5, .istore_n 2, 1, [], .null), (6, .iload_n 2, 1, [], .null), (7, .ifCond .eq (5), 3, [12], .null), (10, .iload_n 2, 1, [], .null), (11, .ireturn, 1, [], .null), (12, .iconst 0, 1, [], .int (0)), (13, .istore_n 3, 1, [], .null), (14, .iconst 0, 1, [], .int (0)), (15, .istore 4, 2, [], .null), (17, .iload 4, 2, [], .null), (19, .aload_n 0, 1, [], .null), (20, .getfield 21, 3, [6, 2, 1], .null), (23, .getfield 127, 3, [0, 8, 0], .null), (26, .if_icmp .ge (59), 3, [85], .null), (29, .iload 4, 2, [], .null), (31, .iconst 1, 1, [], .int (1)), (32, .iadd, 1, [], .null), (33, .istore 5, 2, [], .null), (35, .iload 5, 2, [], .null), (37, .aload_n 0, 1, [], .null), (38, .getfield 21, 3, [6, 2, 1], .null), (41, .getfield 127, 3, [0, 8, 0], .null), (44, .if_icmp .ge (35), 3, [79], .null), (47, .aload_n 0, 1, [], .null), (48, .getfield 11, 3, [6, 0, 1], .null), (51, .iload_n 1, 1, [], .null), (52, .aaload, 1, [], .null), (53, .iload 4, 2, [], .null), (55, .invokestatic 152, 3, [64, 1, 1], .null), (58, .iload 5, 2, [], .null), (60, .invokestatic 152, 3, [64, 1, 1], .null), (63, .ior, 1, [], .null), (64, .invokestatic 293, 3, [62, 2, 2], .null), (67, .ifCond .eq (6), 3, [73], .null), (70, .iinc 3 (1), 3, [], .int (1)), (73, .iinc 5 (1), 3, [], .int (1)), (76, .goto (-41), 3, [35], .null), (79, .iinc 4 (1), 3, [], .int (1)), (82, .goto (-65), 3, [17], .null), (85, .iload_n 3, 1, [], .null), (86, .ireturn, 1, [], .null)]
def Bp_readers_35 (κ17 : (Int32 × Int32 × Int32 × Hp) → Res Hp)   : (Int32 × Int32 × Int32 × Int32 × Hp) → ((Int32 × Int32 × Int32 × Int32 × Hp) → Res Hp) → Res Hp := fun s κ35 => match s with
  | (x1, x3, x4, x5, h) =>
  if (hg h 3 8) ≤ x5 then
  (κ17 (x1, x3, (x4 + (1 : Int32)), h))
  else
  (bif okR 1 x1 then
  bI (F_Bp_bit x4 h) fun v2 h1 =>
  bI (F_Bp_bit x5 h1) fun v4 h3 =>
  bI (F_Bp_readsSo (shR 1 x1.toNatClampNeg) (v2 ||| v4) h3) fun v6 h5 =>
  if v6 = (0 : Int32) then
  (κ35 (x1, x3, x4, (x5 + (1 : Int32)), h5))
  else
  (κ35 (x1, (x3 + (1 : Int32)), x4, (x5 + (1 : Int32)), h5))
  else none)
def Bp_readers_17    : (Int32 × Int32 × Int32 × Hp) → ((Int32 × Int32 × Int32 × Hp) → Res Hp) → Res Hp := fun s κ17 => match s with
  | (x1, x3, x4, h) =>
  if (hg h 3 8) ≤ x4 then
  (retI x3 h)
  else
  (loopC (Bp_readers_35 κ17  ) FU (x1, x3, x4, (x4 + (1 : Int32)), h))
def F_Bp_readers (x1 : Int32) (h : Hp) : Res Hp :=
  bI (F_Bp_refusedPairs x1 h) fun v2 h1 =>
  if v2 = (0 : Int32) then
  (loopC (Bp_readers_17   ) FU (x1, (0 : Int32), (0 : Int32), h1))
  else
  (retI v2 h1)
def sF_Bp_readers : List Value → Hp → Res Hp := fun as h => match as with | [.ref f0, .int x1] => (match Nat.beq f0 0 with | true => F_Bp_readers x1 h | false => none) | _ => none
theorem w_Bp_readers (x1 : Int32) (h : Hp) : sF_Bp_readers [.ref 0, .int x1] h = F_Bp_readers x1 h := rfl
def S_Bp_readers : Sem Hp := [(61, sF_Bp_refusedPairs), (64, sF_Bp_bit), (62, sF_Bp_readsSo)]
set_option maxRecDepth 100000 in
theorem e_Bp_readers_0 (x1 : Int32) (h : Hp) : F_Bp_readers x1 h = exec1 OI S_Bp_readers 1 k_Bp_readers 0 [some (.ref 0), some (.int x1), none, none, none, none] [] h (runF OI S_Bp_readers [(17, [0, 1, 3, 4], fun vs st h => match vs, st with | [.ref f0, .int x1, .int x3, .int x4], [] => (match Nat.beq f0 0 with | true => loopC (Bp_readers_17   ) FU (x1, x3, x4, h) | false => none) | _, _ => none)] 1 k_Bp_readers 400) :=
  (x_bI (f := sF_Bp_refusedPairs) rfl (w_Bp_refusedPairs _ _) fun v2 h1 => (x_ite rfl rfl))
set_option maxRecDepth 100000 in
theorem e_Bp_readers_17 (κ17 : (Int32 × Int32 × Int32 × Hp) → Res Hp) (x1 : Int32) (x3 : Int32) (x4 : Int32)  (h : Hp) : Bp_readers_17    (x1, x3, x4, h) κ17 = exec1 OI S_Bp_readers 1 k_Bp_readers 17 [some (.ref 0), some (.int x1), none, some (.int x3), some (.int x4), none] [] h (runF OI S_Bp_readers [(35, [0, 1, 3, 4, 5], fun vs st h => match vs, st with | [.ref f0, .int x1, .int x3, .int x4, .int x5], [] => (match Nat.beq f0 0 with | true => loopC (Bp_readers_35 κ17  ) FU (x1, x3, x4, x5, h) | false => none) | _, _ => none)] 1 k_Bp_readers 400) :=
  (x_ite rfl rfl)
set_option maxRecDepth 100000 in
theorem e_Bp_readers_35 (κ17 : (Int32 × Int32 × Int32 × Hp) → Res Hp) (κ35 : (Int32 × Int32 × Int32 × Int32 × Hp) → Res Hp) (x1 : Int32) (x3 : Int32) (x4 : Int32) (x5 : Int32)  (h : Hp) : Bp_readers_35 κ17   (x1, x3, x4, x5, h) κ35 = exec1 OI S_Bp_readers 1 k_Bp_readers 35 [some (.ref 0), some (.int x1), none, some (.int x3), some (.int x4), some (.int x5)] [] h (runF OI S_Bp_readers [(17, [0, 1, 3, 4], fun vs st h => match vs, st with | [.ref f0, .int x1, .int x3, .int x4], [] => (match Nat.beq f0 0 with | true => κ17 (x1, x3, x4, h) | false => none) | _, _ => none), (35, [0, 1, 3, 4, 5], fun vs st h => match vs, st with | [.ref f0, .int x1, .int x3, .int x4, .int x5], [] => (match Nat.beq f0 0 with | true => κ35 (x1, x3, x4, x5, h) | false => none) | _, _ => none)] 1 k_Bp_readers 400) :=
  (x_ite rfl (x_bif (x_bI (f := sF_Bp_bit) rfl (w_Bp_bit _ _) fun v2 h1 => (x_bI (f := sF_Bp_bit) rfl (w_Bp_bit _ _) fun v4 h3 => (x_bI (f := sF_Bp_readsSo) rfl (w_Bp_readsSo _ _ _) fun v6 h5 => (x_ite rfl rfl))))))
def k_Bp_knows : List Ent := [(0, .iload_n 1, 1, [], .null), (1, .invokestatic 75, 3, [52, 1, 2], .null), (4, .ifCond .eq (5), 3, [9], .null), (7, .iconst (-1), 1, [], .int (-1)), (8, .ireturn, 1, [], .null), (9, .aload_n 0, 1, [], .null), (10, .getfield 11, 3, [6, 0, 1], .null), (13, .iload_n 1, 1, [], .null), (14, .aaload, 1, [], .null), (15, .astore_n 2, 1, [], .null), (16, .aload_n 2, 1, [], .null), (17, .invokevirtual 96, 3, [225, 1, 2, 4], .null), (20, .ifCond .ne (9), 3, [29], .null), (23, .aload_n 0, 1, [], .null), (24, .iconst 1, 1, [], .int (1)), (25, .invokevirtual 79, 3, [50, 2, 1, 6], .null), (28, .ireturn, 1, [], .null), (29, .iconst 0, 1, [], .int (0)), (30, .istore_n 3, 1, [], .null), (31, .iconst 0, 1, [], .int (0)), (32, .istore 4, 2, [], .null), (34, .iload 4, 2, [], .null), (36, .aload_n 2, 1, [], .null), (37, .getfield 100, 3, [4, 1, 0], .null), (40, .if_icmp .ge (38), 3, [78], .null), (43, .aload_n 2, 1, [], .null), (44, .getfield 90, 3, [4, 0, 1], .null), (47, .iload 4, 2, [], .null), (49, .iaload, 1, [], .null), (50, .invokestatic 168, 3, [56, 1, 2], .null), (53, .ifCond .eq (9), 3, [62], .null), (56, .aload_n 0, 1, [], .null), (57, .iconst 3, 1, [], .int (3)), (58, .invokevirtual 79, 3, [50, 2, 1, 6], .null), (61, .ireturn, 1, [], .null), (62, .iload_n 3, 1, [], .null), (63, .aload_n 2, 1, [], .null), (64, .getfield 90, 3, [4, 0, 1], .null), (67, .iload 4, 2, [], .null), (69, .iaload, 1, [], .null), (70, .ior, 1, [], .null), (71, .istore_n 3, 1, [], .null), (72, .iinc 4 (1), 3, [], .int (1)), (75, .goto (-41), 3, [34], .null), (78, .aload_n 0, 1, [], .null), (79, .bipush (31), 2, [], .int (31)), (81, .iload_n 3, 1, [], .null), (82, .iconst (-1), 1, [], .int (-1)), (83, .ixor, 1, [], .null), (84, .iand, 1, [], .null), (85, .putfield 69, 3, [6, 11, 0], .null), (88, .iconst 1, 1, [], .int (1)), (89, .aload_n 0, 1, [], .null), (90, .getfield 69, 3, [6, 11, 0], .null), (93, .invokestatic 285, 3, [250, 1, 1], .null), (96, .ishl, 1, [], .null), (97, .ireturn, 1, [], .null)]
def Bp_knows_34    : (Nat × Int32 × Int32 × Hp) → ((Nat × Int32 × Int32 × Hp) → Res Hp) → Res Hp := fun s κ34 => match s with
  | (o2, x3, x4, h) =>
  bif okF o2 4 1 0 then
  if (hg h o2 1) ≤ x4 then
  (bH (hs h 0 11 ((31 : Int32) &&& (x3 ^^^ (-1 : Int32)))) fun h1 =>
  bI (F_Jint_bitCount (hg h1 0 11) h1) fun v3 h2 =>
  retI ((1 : Int32) <<< (v3 &&& 31)) h2)
  else
  (bif okF o2 4 0 1 then
  bif okA (shR o2 0) 100 x4 then
  bI (F_Bp_noTongues (hg h (shR o2 0) x4.toNatClampNeg) h) fun v5 h4 =>
  if v5 = (0 : Int32) then
  (bif okF o2 4 0 1 then
  bif okA (shR o2 0) 100 x4 then
  κ34 (o2, (x3 ||| (hg h4 (shR o2 0) x4.toNatClampNeg)), (x4 + (1 : Int32)), h4)
  else none
  else none)
  else
  (bI (F_Bp_found (3 : Int32) h4) fun v7 h6 =>
  retI v7 h6)
  else none
  else none)
  else none
def F_Bp_knows (x1 : Int32) (h : Hp) : Res Hp :=
  bI (F_Bp_noRow x1 h) fun v2 h1 =>
  if v2 = (0 : Int32) then
  (bif okR 1 x1 then
  bif okO (shR 1 x1.toNatClampNeg) 4 then
  bI (F_Sh_isThere (shR 1 x1.toNatClampNeg) h1) fun v4 h3 =>
  if v4 = (0 : Int32) then
  (bI (F_Bp_found (1 : Int32) h3) fun v6 h5 =>
  retI v6 h5)
  else
  (loopC (Bp_knows_34   ) FU ((shR 1 x1.toNatClampNeg), (0 : Int32), (0 : Int32), h3))
  else none
  else none)
  else
  (retI (-1 : Int32) h1)
def sF_Bp_knows : List Value → Hp → Res Hp := fun as h => match as with | [.ref f0, .int x1] => (match Nat.beq f0 0 with | true => F_Bp_knows x1 h | false => none) | _ => none
theorem w_Bp_knows (x1 : Int32) (h : Hp) : sF_Bp_knows [.ref 0, .int x1] h = F_Bp_knows x1 h := rfl
def S_Bp_knows : Sem Hp := [(52, sF_Bp_noRow), (225, sF_Sh_isThere), (250, sF_Jint_bitCount), (56, sF_Bp_noTongues), (50, sF_Bp_found)]
set_option maxRecDepth 100000 in
theorem e_Bp_knows_0 (x1 : Int32) (h : Hp) : F_Bp_knows x1 h = exec1 OI S_Bp_knows 1 k_Bp_knows 0 [some (.ref 0), some (.int x1), none, none, none] [] h (runF OI S_Bp_knows [(34, [0, 2, 3, 4], fun vs st h => match vs, st with | [.ref f0, .ref o2, .int x3, .int x4], [] => (match Nat.beq f0 0 with | true => loopC (Bp_knows_34   ) FU (o2, x3, x4, h) | false => none) | _, _ => none)] 1 k_Bp_knows 400) :=
  (x_bI (f := sF_Bp_noRow) rfl (w_Bp_noRow _ _) fun v2 h1 => (x_ite (x_bif (x_bif (x_bI (f := sF_Sh_isThere) rfl (w_Sh_isThere _ _) fun v4 h3 => (x_ite (x_bI (f := sF_Bp_found) rfl (w_Bp_found _ _) fun v6 h5 => rfl) rfl)))) rfl))
set_option maxRecDepth 100000 in
theorem e_Bp_knows_34 (κ34 : (Nat × Int32 × Int32 × Hp) → Res Hp) (o2 : Nat) (x3 : Int32) (x4 : Int32)  (h : Hp) : Bp_knows_34    (o2, x3, x4, h) κ34 = exec1 OI S_Bp_knows 1 k_Bp_knows 34 [some (.ref 0), none, some (.ref o2), some (.int x3), some (.int x4)] [] h (runF OI S_Bp_knows [(34, [0, 2, 3, 4], fun vs st h => match vs, st with | [.ref f0, .ref o2, .int x3, .int x4], [] => (match Nat.beq f0 0 with | true => κ34 (o2, x3, x4, h) | false => none) | _, _ => none)] 1 k_Bp_knows 400) :=
  (x_bif (x_ite (x_bH fun h1 => (x_bI (f := sF_Jint_bitCount) rfl (w_Jint_bitCount _ _) fun v3 h2 => rfl)) (x_bif (x_bif (x_bI (f := sF_Bp_noTongues) rfl (w_Bp_noTongues _ _) fun v5 h4 => (x_ite (x_bif (x_bif rfl)) (x_bI (f := sF_Bp_found) rfl (w_Bp_found _ _) fun v7 h6 => rfl)))))))
def k_Bp_memberAt : List Ent := [(0, .iconst 0, 1, [], .int (0)), (1, .istore_n 2, 1, [], .null), (2, .iconst 0, 1, [], .int (0)), (3, .istore_n 3, 1, [], .null), (4, .iload_n 3, 1, [], .null), (5, .bipush (7), 2, [], .int (7)), (7, .if_icmp .ge (27), 3, [34], .null), (10, .iload_n 0, 1, [], .null), (11, .iload_n 3, 1, [], .null), (12, .invokestatic 201, 3, [65, 2, 2], .null), (15, .ifCond .eq (13), 3, [28], .null), (18, .iload_n 2, 1, [], .null), (19, .iload_n 1, 1, [], .null), (20, .if_icmp .ne (5), 3, [25], .null), (23, .iload_n 3, 1, [], .null), (24, .ireturn, 1, [], .null), (25, .iinc 2 (1), 3, [], .int (1)), (28, .iinc 3 (1), 3, [], .int (1)), (31, .goto (-27), 3, [4], .null), (34, .bipush (-9), 2, [], .int (-9)), (36, .ireturn, 1, [], .null)]
def Bp_memberAt_4    : (Int32 × Int32 × Int32 × Int32 × Hp) → ((Int32 × Int32 × Int32 × Int32 × Hp) → Res Hp) → Res Hp := fun s κ4 => match s with
  | (x0, x1, x2, x3, h) =>
  if (7 : Int32) ≤ x3 then
  (retI (-9 : Int32) h)
  else
  (bI (F_Bp_has x0 x3 h) fun v2 h1 =>
  if v2 = (0 : Int32) then
  (κ4 (x0, x1, x2, (x3 + (1 : Int32)), h1))
  else
  (if x2 = x1 then
  (retI x3 h1)
  else
  (κ4 (x0, x1, (x2 + (1 : Int32)), (x3 + (1 : Int32)), h1))))
def F_Bp_memberAt (x0 : Int32) (x1 : Int32) (h : Hp) : Res Hp :=
  loopC (Bp_memberAt_4   ) FU (x0, x1, (0 : Int32), (0 : Int32), h)
def sF_Bp_memberAt : List Value → Hp → Res Hp := fun as h => match as with | [.int x0, .int x1] => F_Bp_memberAt x0 x1 h | _ => none
theorem w_Bp_memberAt (x0 : Int32) (x1 : Int32) (h : Hp) : sF_Bp_memberAt [.int x0, .int x1] h = F_Bp_memberAt x0 x1 h := rfl
def S_Bp_memberAt : Sem Hp := [(65, sF_Bp_has)]
set_option maxRecDepth 100000 in
theorem e_Bp_memberAt_0 (x0 : Int32) (x1 : Int32) (h : Hp) : F_Bp_memberAt x0 x1 h = exec1 OI S_Bp_memberAt 1 k_Bp_memberAt 0 [some (.int x0), some (.int x1), none, none] [] h (runF OI S_Bp_memberAt [(4, [0, 1, 2, 3], fun vs st h => match vs, st with | [.int x0, .int x1, .int x2, .int x3], [] => loopC (Bp_memberAt_4   ) FU (x0, x1, x2, x3, h) | _, _ => none)] 1 k_Bp_memberAt 400) :=
  rfl
set_option maxRecDepth 100000 in
theorem e_Bp_memberAt_4 (κ4 : (Int32 × Int32 × Int32 × Int32 × Hp) → Res Hp) (x0 : Int32) (x1 : Int32) (x2 : Int32) (x3 : Int32)  (h : Hp) : Bp_memberAt_4    (x0, x1, x2, x3, h) κ4 = exec1 OI S_Bp_memberAt 1 k_Bp_memberAt 4 [some (.int x0), some (.int x1), some (.int x2), some (.int x3)] [] h (runF OI S_Bp_memberAt [(4, [0, 1, 2, 3], fun vs st h => match vs, st with | [.int x0, .int x1, .int x2, .int x3], [] => κ4 (x0, x1, x2, x3, h) | _, _ => none)] 1 k_Bp_memberAt 400) :=
  (x_ite rfl (x_bI (f := sF_Bp_has) rfl (w_Bp_has _ _ _) fun v2 h1 => (x_ite rfl (x_ite rfl rfl))))
def k_La_goBy : List Ent := [(0, .iload_n 2, 1, [], .null), (1, .i2l, 1, [], .null), (2, .lstore_n 3, 1, [], .null), (3, .iconst 0, 1, [], .int (0)), (4, .istore 5, 2, [], .null), (6, .iconst 0, 1, [], .int (0)), (7, .istore 6, 2, [], .null), (9, .iload 6, 2, [], .null), (11, .iload_n 1, 1, [], .null), (12, .if_icmp .ge (118), 3, [130], .null), (15, .iconst 0, 1, [], .int (0)), (16, .istore 7, 2, [], .null), (18, .iload 7, 2, [], .null), (20, .aload_n 0, 1, [], .null), (21, .getfield 48, 3, [0, 10, 0], .null), (24, .if_icmp .ge (90), 3, [114], .null), (27, .aload_n 0, 1, [], .null), (28, .aload_n 0, 1, [], .null), (29, .getfield 37, 3, [0, 7, 1], .null), (32, .iload 7, 2, [], .null), (34, .aaload, 1, [], .null), (35, .invokevirtual 131, 3, [184, 2, 1, 0], .null), (38, .istore 8, 2, [], .null), (40, .iload 8, 2, [], .null), (42, .invokestatic 135, 3, [250, 1, 1], .null), (45, .istore 9, 2, [], .null), (47, .iload 9, 2, [], .null), (49, .ifCond .le (59), 3, [108], .null), (52, .lload_n 3, 1, [], .null), (53, .ldc2_w 140, 3, [], .long 48271), (56, .lmul, 1, [], .null), (57, .ldc2_w 142, 3, [], .long 2147483647), (60, .lrem, 1, [], .null), (61, .lstore_n 3, 1, [], .null), (62, .iload 8, 2, [], .null), (64, .lload_n 3, 1, [], .null), (65, .iload 9, 2, [], .null), (67, .i2l, 1, [], .null), (68, .lrem, 1, [], .null), (69, .l2i, 1, [], .null), (70, .invokestatic 144, 3, [66, 2, 1], .null), (73, .istore 10, 2, [], .null), (75, .iload 5, 2, [], .null), (77, .iload 10, 2, [], .null), (79, .bipush (-9), 2, [], .int (-9)), (81, .if_icmp .eq (23), 3, [104], .null), (84, .aload_n 0, 1, [], .null), (85, .aload_n 0, 1, [], .null), (86, .getfield 37, 3, [0, 7, 1], .null), (89, .iload 7, 2, [], .null), (91, .aaload, 1, [], .null), (92, .iload 10, 2, [], .null), (94, .invokevirtual 147, 3, [186, 3, 2, 0], .null), (97, .ifCond .eq (7), 3, [104], .null), (100, .iconst 1, 1, [], .int (1)), (101, .goto (4), 3, [105], .null), (104, .iconst 0, 1, [], .int (0)), (105, .iadd, 1, [], .null), (106, .istore 5, 2, [], .null), (108, .iinc 7 (1), 3, [], .int (1)), (111, .goto (-93), 3, [18], .null), (114, .aload_n 0, 1, [], .null), (115, .dup, 1, [], .null), (116, .getfield 51, 3, [0, 11, 0], .null), (119, .iconst 1, 1, [], .int (1)), (120, .iadd, 1, [], .null), (121, .putfield 51, 3, [0, 11, 0], .null), (124, .iinc 6 (1), 3, [], .int (1)), (127, .goto (-118), 3, [9], .null), (130, .iload 5, 2, [], .null), (132, .ireturn, 1, [], .null)]
def La_goBy_18 (κ9 : (Nat × Int32 × Int64 × Int32 × Int32 × Hp) → Res Hp)   : (Nat × Int32 × Int64 × Int32 × Int32 × Int32 × Hp) → ((Nat × Int32 × Int64 × Int32 × Int32 × Int32 × Hp) → Res Hp) → Res Hp := fun s κ18 => match s with
  | (o0, x1, y3, x5, x6, x7, h) =>
  bif okF o0 0 10 0 then
  if (hg h o0 10) ≤ x7 then
  (bif okF o0 0 11 0 then
  bif okF o0 0 11 0 then
  bH (hs h o0 11 ((hg h o0 11) + (1 : Int32))) fun h1 =>
  κ9 (o0, x1, y3, x5, (x6 + (1 : Int32)), h1)
  else none
  else none)
  else
  (bif okF o0 0 7 1 then
  bif okR (shR o0 7) x7 then
  bif okO o0 0 then
  bI (F_La_takers o0 (shR (shR o0 7) x7.toNatClampNeg) h) fun v3 h2 =>
  bI (F_Jint_bitCount v3 h2) fun v5 h4 =>
  if v5 ≤ (0 : Int32) then
  (κ18 (o0, x1, y3, x5, x6, (x7 + (1 : Int32)), h4))
  else
  (if v5.toInt64 = 0 then none else
  bI (F_Bp_memberAt v3 ((((y3 * (48271 : Int64)) - (y3 * (48271 : Int64)) / (2147483647 : Int64) * (2147483647 : Int64)) - ((y3 * (48271 : Int64)) - (y3 * (48271 : Int64)) / (2147483647 : Int64) * (2147483647 : Int64)) / v5.toInt64 * v5.toInt64)).toInt32 h4) fun v7 h6 =>
  if v7 = (-9 : Int32) then
  (κ18 (o0, x1, ((y3 * (48271 : Int64)) - (y3 * (48271 : Int64)) / (2147483647 : Int64) * (2147483647 : Int64)), (x5 + (0 : Int32)), x6, (x7 + (1 : Int32)), h6))
  else
  (bif okF o0 0 7 1 then
  bif okR (shR o0 7) x7 then
  bif okO o0 0 then
  bI (F_La_pass o0 (shR (shR o0 7) x7.toNatClampNeg) v7 h6) fun v9 h8 =>
  if v9 = (0 : Int32) then
  (κ18 (o0, x1, ((y3 * (48271 : Int64)) - (y3 * (48271 : Int64)) / (2147483647 : Int64) * (2147483647 : Int64)), (x5 + (0 : Int32)), x6, (x7 + (1 : Int32)), h8))
  else
  (κ18 (o0, x1, ((y3 * (48271 : Int64)) - (y3 * (48271 : Int64)) / (2147483647 : Int64) * (2147483647 : Int64)), (x5 + (1 : Int32)), x6, (x7 + (1 : Int32)), h8))
  else none
  else none
  else none))
  else none
  else none
  else none)
  else none
def La_goBy_9    : (Nat × Int32 × Int64 × Int32 × Int32 × Hp) → ((Nat × Int32 × Int64 × Int32 × Int32 × Hp) → Res Hp) → Res Hp := fun s κ9 => match s with
  | (o0, x1, y3, x5, x6, h) =>
  if x1 ≤ x6 then
  (retI x5 h)
  else
  (loopC (La_goBy_18 κ9  ) FU (o0, x1, y3, x5, x6, (0 : Int32), h))
def F_La_goBy (o0 : Nat) (x1 : Int32) (x2 : Int32) (h : Hp) : Res Hp :=
  loopC (La_goBy_9   ) FU (o0, x1, x2.toInt64, (0 : Int32), (0 : Int32), h)
def sF_La_goBy : List Value → Hp → Res Hp := fun as h => match as with | [.ref o0, .int x1, .int x2] => F_La_goBy o0 x1 x2 h | _ => none
theorem w_La_goBy (o0 : Nat) (x1 : Int32) (x2 : Int32) (h : Hp) : sF_La_goBy [.ref o0, .int x1, .int x2] h = F_La_goBy o0 x1 x2 h := rfl
def S_La_goBy : Sem Hp := [(184, sF_La_takers), (250, sF_Jint_bitCount), (66, sF_Bp_memberAt), (186, sF_La_pass)]
set_option maxRecDepth 100000 in
theorem e_La_goBy_0 (o0 : Nat) (x1 : Int32) (x2 : Int32) (h : Hp) : F_La_goBy o0 x1 x2 h = exec1 OI S_La_goBy 1 k_La_goBy 0 [some (.ref o0), some (.int x1), some (.int x2), none, none, none, none, none, none, none, none] [] h (runF OI S_La_goBy [(9, [0, 1, 3, 5, 6], fun vs st h => match vs, st with | [.ref o0, .int x1, .long y3, .int x5, .int x6], [] => loopC (La_goBy_9   ) FU (o0, x1, y3, x5, x6, h) | _, _ => none)] 1 k_La_goBy 400) :=
  rfl
set_option maxRecDepth 100000 in
theorem e_La_goBy_9 (κ9 : (Nat × Int32 × Int64 × Int32 × Int32 × Hp) → Res Hp) (o0 : Nat) (x1 : Int32) (y3 : Int64) (x5 : Int32) (x6 : Int32)  (h : Hp) : La_goBy_9    (o0, x1, y3, x5, x6, h) κ9 = exec1 OI S_La_goBy 1 k_La_goBy 9 [some (.ref o0), some (.int x1), none, some (.long y3), none, some (.int x5), some (.int x6), none, none, none, none] [] h (runF OI S_La_goBy [(18, [0, 1, 3, 5, 6, 7], fun vs st h => match vs, st with | [.ref o0, .int x1, .long y3, .int x5, .int x6, .int x7], [] => loopC (La_goBy_18 κ9  ) FU (o0, x1, y3, x5, x6, x7, h) | _, _ => none)] 1 k_La_goBy 400) :=
  (x_ite rfl rfl)
set_option maxRecDepth 100000 in
theorem e_La_goBy_18 (κ9 : (Nat × Int32 × Int64 × Int32 × Int32 × Hp) → Res Hp) (κ18 : (Nat × Int32 × Int64 × Int32 × Int32 × Int32 × Hp) → Res Hp) (o0 : Nat) (x1 : Int32) (y3 : Int64) (x5 : Int32) (x6 : Int32) (x7 : Int32)  (h : Hp) : La_goBy_18 κ9   (o0, x1, y3, x5, x6, x7, h) κ18 = exec1 OI S_La_goBy 1 k_La_goBy 18 [some (.ref o0), some (.int x1), none, some (.long y3), none, some (.int x5), some (.int x6), some (.int x7), none, none, none] [] h (runF OI S_La_goBy [(9, [0, 1, 3, 5, 6], fun vs st h => match vs, st with | [.ref o0, .int x1, .long y3, .int x5, .int x6], [] => κ9 (o0, x1, y3, x5, x6, h) | _, _ => none), (18, [0, 1, 3, 5, 6, 7], fun vs st h => match vs, st with | [.ref o0, .int x1, .long y3, .int x5, .int x6, .int x7], [] => κ18 (o0, x1, y3, x5, x6, x7, h) | _, _ => none)] 1 k_La_goBy 400) :=
  (x_bif (x_ite (x_bif (x_bif (x_bH fun h1 => rfl))) (x_bif (x_bif (x_bif (x_bI (f := sF_La_takers) rfl (w_La_takers _ _ _) fun v3 h2 => (x_bI (f := sF_Jint_bitCount) rfl (w_Jint_bitCount _ _) fun v5 h4 => (x_ite rfl (x_if0 (x_bI (f := sF_Bp_memberAt) rfl (w_Bp_memberAt _ _ _) fun v7 h6 => (x_ite rfl (x_bif (x_bif (x_bif (x_bI (f := sF_La_pass) rfl (w_La_pass _ _ _ _) fun v9 h8 => (x_ite rfl rfl))))))))))))))))
def k_Bp_days : List Ent := [(0, .iload_n 1, 1, [], .null), (1, .iconst 1, 1, [], .int (1)), (2, .if_icmp .lt (21), 3, [23], .null), (5, .iload_n 1, 1, [], .null), (6, .bipush (60), 2, [], .int (60)), (8, .if_icmp .gt (15), 3, [23], .null), (11, .iload_n 2, 1, [], .null), (12, .iconst 1, 1, [], .int (1)), (13, .if_icmp .lt (10), 3, [23], .null), (16, .iload_n 2, 1, [], .null), (17, .ldc_w 297, 3, [], .int (2147483647)), (20, .if_icmp .lt (5), 3, [25], .null), (23, .iconst (-1), 1, [], .int (-1)), (24, .ireturn, 1, [], .null), (25, .aload_n 0, 1, [], .null), (26, .getfield 21, 3, [6, 2, 1], .null), (29, .getfield 127, 3, [0, 8, 0], .null), (32, .ifCond .ne (6), 3, [38], .null), (35, .bipush (-4), 2, [], .int (-4)), (37, .ireturn, 1, [], .null), (38, .aload_n 0, 1, [], .null), (39, .getfield 21, 3, [6, 2, 1], .null), (42, .getfield 188, 3, [0, 11, 0], .null), (45, .iload_n 1, 1, [], .null), (46, .iadd, 1, [], .null), (47, .bipush (99), 2, [], .int (99)), (49, .if_icmp .le (6), 3, [55], .null), (52, .bipush (-2), 2, [], .int (-2)), (54, .ireturn, 1, [], .null), (55, .aload_n 0, 1, [], .null), (56, .getfield 21, 3, [6, 2, 1], .null), (59, .iload_n 1, 1, [], .null), (60, .iload_n 2, 1, [], .null), (61, .invokevirtual 298, 3, [187, 3, 1, 0], .null), (64, .ireturn, 1, [], .null)]
def F_Bp_days (x1 : Int32) (x2 : Int32) (h : Hp) : Res Hp :=
  if x1 < (1 : Int32) then
  (retI (-1 : Int32) h)
  else
  (if (60 : Int32) < x1 then
  (retI (-1 : Int32) h)
  else
  (if x2 < (1 : Int32) then
  (retI (-1 : Int32) h)
  else
  (if x2 < (2147483647 : Int32) then
  (if (hg h 3 8) = (0 : Int32) then
  (retI (-4 : Int32) h)
  else
  (if ((hg h 3 11) + x1) ≤ (99 : Int32) then
  (bI (F_La_goBy 3 x1 x2 h) fun v2 h1 =>
  retI v2 h1)
  else
  (retI (-2 : Int32) h)))
  else
  (retI (-1 : Int32) h))))
def sF_Bp_days : List Value → Hp → Res Hp := fun as h => match as with | [.ref f0, .int x1, .int x2] => (match Nat.beq f0 0 with | true => F_Bp_days x1 x2 h | false => none) | _ => none
theorem w_Bp_days (x1 : Int32) (x2 : Int32) (h : Hp) : sF_Bp_days [.ref 0, .int x1, .int x2] h = F_Bp_days x1 x2 h := rfl
def S_Bp_days : Sem Hp := [(187, sF_La_goBy)]
set_option maxRecDepth 100000 in
theorem e_Bp_days_0 (x1 : Int32) (x2 : Int32) (h : Hp) : F_Bp_days x1 x2 h = exec1 OI S_Bp_days 1 k_Bp_days 0 [some (.ref 0), some (.int x1), some (.int x2)] [] h (runF OI S_Bp_days [] 1 k_Bp_days 400) :=
  (x_ite rfl (x_ite rfl (x_ite rfl (x_ite (x_ite rfl (x_ite (x_bI (f := sF_La_goBy) rfl (w_La_goBy _ _ _ _) fun v2 h1 => rfl) rfl)) rfl))))
def k_Bp_asked : List Ent := [(0, .aload_n 0, 1, [], .null), (1, .getfield 69, 3, [6, 11, 0], .null), (4, .ireturn, 1, [], .null)]
def F_Bp_asked  (h : Hp) : Res Hp :=
  retI (hg h 0 11) h
def sF_Bp_asked : List Value → Hp → Res Hp := fun as h => match as with | [.ref f0] => (match Nat.beq f0 0 with | true => F_Bp_asked  h | false => none) | _ => none
theorem w_Bp_asked  (h : Hp) : sF_Bp_asked [.ref 0] h = F_Bp_asked  h := rfl
def S_Bp_asked : Sem Hp := []
set_option maxRecDepth 100000 in
theorem e_Bp_asked_0  (h : Hp) : F_Bp_asked  h = exec1 OI S_Bp_asked 1 k_Bp_asked 0 [some (.ref 0)] [] h (runF OI S_Bp_asked [] 1 k_Bp_asked 400) :=
  rfl
def k_Bp_commonDivisor : List Ent := [(0, .iload_n 0, 1, [], .null), (1, .istore_n 2, 1, [], .null), (2, .iload_n 1, 1, [], .null), (3, .istore_n 3, 1, [], .null), (4, .iconst 0, 1, [], .int (0)), (5, .istore 4, 2, [], .null), (7, .iload 4, 2, [], .null), (9, .bipush (64), 2, [], .int (64)), (11, .if_icmp .ge (23), 3, [34], .null), (14, .iload_n 3, 1, [], .null), (15, .ifCond .eq (19), 3, [34], .null), (18, .iload_n 2, 1, [], .null), (19, .iload_n 3, 1, [], .null), (20, .irem, 1, [], .null), (21, .istore 5, 2, [], .null), (23, .iload_n 3, 1, [], .null), (24, .istore_n 2, 1, [], .null), (25, .iload 5, 2, [], .null), (27, .istore_n 3, 1, [], .null), (28, .iinc 4 (1), 3, [], .int (1)), (31, .goto (-24), 3, [7], .null), (34, .iconst 1, 1, [], .int (1)), (35, .iload_n 2, 1, [], .null), (36, .invokestatic 240, 3, [0], .null), (39, .ireturn, 1, [], .null)]
def Bp_commonDivisor_7    : (Int32 × Int32 × Int32 × Hp) → ((Int32 × Int32 × Int32 × Hp) → Res Hp) → Res Hp := fun s κ7 => match s with
  | (x2, x3, x4, h) =>
  if (64 : Int32) ≤ x4 then
  (retI (if (1 : Int32) < x2 then x2 else (1 : Int32)) h)
  else
  (if x3 = (0 : Int32) then
  (retI (if (1 : Int32) < x2 then x2 else (1 : Int32)) h)
  else
  (if x3 = 0 then none else
  κ7 (x3, (x2 - x2 / x3 * x3), (x4 + (1 : Int32)), h)))
def F_Bp_commonDivisor (x0 : Int32) (x1 : Int32) (h : Hp) : Res Hp :=
  loopC (Bp_commonDivisor_7   ) FU (x0, x1, (0 : Int32), h)
def sF_Bp_commonDivisor : List Value → Hp → Res Hp := fun as h => match as with | [.int x0, .int x1] => F_Bp_commonDivisor x0 x1 h | _ => none
theorem w_Bp_commonDivisor (x0 : Int32) (x1 : Int32) (h : Hp) : sF_Bp_commonDivisor [.int x0, .int x1] h = F_Bp_commonDivisor x0 x1 h := rfl
def S_Bp_commonDivisor : Sem Hp := []
set_option maxRecDepth 100000 in
theorem e_Bp_commonDivisor_0 (x0 : Int32) (x1 : Int32) (h : Hp) : F_Bp_commonDivisor x0 x1 h = exec1 OI S_Bp_commonDivisor 1 k_Bp_commonDivisor 0 [some (.int x0), some (.int x1), none, none, none, none] [] h (runF OI S_Bp_commonDivisor [(7, [2, 3, 4], fun vs st h => match vs, st with | [.int x2, .int x3, .int x4], [] => loopC (Bp_commonDivisor_7   ) FU (x2, x3, x4, h) | _, _ => none)] 1 k_Bp_commonDivisor 400) :=
  rfl
set_option maxRecDepth 100000 in
theorem e_Bp_commonDivisor_7 (κ7 : (Int32 × Int32 × Int32 × Hp) → Res Hp) (x2 : Int32) (x3 : Int32) (x4 : Int32)  (h : Hp) : Bp_commonDivisor_7    (x2, x3, x4, h) κ7 = exec1 OI S_Bp_commonDivisor 1 k_Bp_commonDivisor 7 [none, none, some (.int x2), some (.int x3), some (.int x4), none] [] h (runF OI S_Bp_commonDivisor [(7, [2, 3, 4], fun vs st h => match vs, st with | [.int x2, .int x3, .int x4], [] => κ7 (x2, x3, x4, h) | _, _ => none)] 1 k_Bp_commonDivisor 400) :=
  (x_ite rfl (x_ite rfl (x_if0 rfl)))
def k_Bp_upper : List Ent := [(0, .aload_n 0, 1, [], .null), (1, .getfield 57, 3, [6, 8, 1], .null), (4, .invokevirtual 267, 3, [209, 1, 0, 2], .null), (7, .aload_n 0, 1, [], .null), (8, .getfield 57, 3, [6, 8, 1], .null), (11, .getfield 270, 3, [2, 3, 0], .null), (14, .ifCond .ne (5), 3, [19], .null), (17, .lconst 0, 1, [], .long 0), (18, .lreturn, 1, [], .null), (19, .aload_n 0, 1, [], .null), (20, .getfield 57, 3, [6, 8, 1], .null), (23, .getfield 270, 3, [2, 3, 0], .null), (26, .aload_n 0, 1, [], .null), (27, .getfield 57, 3, [6, 8, 1], .null), (30, .getfield 273, 3, [2, 4, 0], .null), (33, .isub, 1, [], .null), (34, .aload_n 0, 1, [], .null), (35, .getfield 57, 3, [6, 8, 1], .null), (38, .getfield 270, 3, [2, 3, 0], .null), (41, .aload_n 0, 1, [], .null), (42, .getfield 57, 3, [6, 8, 1], .null), (45, .getfield 270, 3, [2, 3, 0], .null), (48, .aload_n 0, 1, [], .null), (49, .getfield 57, 3, [6, 8, 1], .null), (52, .getfield 273, 3, [2, 4, 0], .null), (55, .isub, 1, [], .null), (56, .invokestatic 301, 3, [63, 2, 1], .null), (59, .idiv, 1, [], .null), (60, .i2l, 1, [], .null), (61, .lreturn, 1, [], .null)]
def F_Bp_upper  (h : Hp) : Res Hp :=
  bV (F_Pa_tally  h) fun h1 =>
  if (hg h1 68 3) = (0 : Int32) then
  (retL (0 : Int64) h1)
  else
  (bI (F_Bp_commonDivisor (hg h1 68 3) ((hg h1 68 3) - (hg h1 68 4)) h1) fun v3 h2 =>
  if v3 = 0 then none else
  retL (((hg h1 68 3) - (hg h1 68 4)) / v3).toInt64 h2)
def sF_Bp_upper : List Value → Hp → Res Hp := fun as h => match as with | [.ref f0] => (match Nat.beq f0 0 with | true => F_Bp_upper  h | false => none) | _ => none
theorem w_Bp_upper  (h : Hp) : sF_Bp_upper [.ref 0] h = F_Bp_upper  h := rfl
def S_Bp_upper : Sem Hp := [(209, sF_Pa_tally), (63, sF_Bp_commonDivisor)]
set_option maxRecDepth 100000 in
theorem e_Bp_upper_0  (h : Hp) : F_Bp_upper  h = exec1 OI S_Bp_upper 3 k_Bp_upper 0 [some (.ref 0)] [] h (runF OI S_Bp_upper [] 3 k_Bp_upper 400) :=
  (x_bV (f := sF_Pa_tally) rfl (w_Pa_tally  _) fun h1 => (x_ite rfl (x_bI (f := sF_Bp_commonDivisor) rfl (w_Bp_commonDivisor _ _ _) fun v3 h2 => (x_if0 rfl))))
def k_Bp_lower : List Ent := [(0, .aload_n 0, 1, [], .null), (1, .getfield 57, 3, [6, 8, 1], .null), (4, .invokevirtual 267, 3, [209, 1, 0, 2], .null), (7, .aload_n 0, 1, [], .null), (8, .getfield 57, 3, [6, 8, 1], .null), (11, .getfield 270, 3, [2, 3, 0], .null), (14, .ifCond .ne (5), 3, [19], .null), (17, .lconst 1, 1, [], .long 1), (18, .lreturn, 1, [], .null), (19, .aload_n 0, 1, [], .null), (20, .getfield 57, 3, [6, 8, 1], .null), (23, .getfield 270, 3, [2, 3, 0], .null), (26, .aload_n 0, 1, [], .null), (27, .getfield 57, 3, [6, 8, 1], .null), (30, .getfield 270, 3, [2, 3, 0], .null), (33, .aload_n 0, 1, [], .null), (34, .getfield 57, 3, [6, 8, 1], .null), (37, .getfield 270, 3, [2, 3, 0], .null), (40, .aload_n 0, 1, [], .null), (41, .getfield 57, 3, [6, 8, 1], .null), (44, .getfield 273, 3, [2, 4, 0], .null), (47, .isub, 1, [], .null), (48, .invokestatic 301, 3, [63, 2, 1], .null), (51, .idiv, 1, [], .null), (52, .i2l, 1, [], .null), (53, .lreturn, 1, [], .null)]
def F_Bp_lower  (h : Hp) : Res Hp :=
  bV (F_Pa_tally  h) fun h1 =>
  if (hg h1 68 3) = (0 : Int32) then
  (retL (1 : Int64) h1)
  else
  (bI (F_Bp_commonDivisor (hg h1 68 3) ((hg h1 68 3) - (hg h1 68 4)) h1) fun v3 h2 =>
  if v3 = 0 then none else
  retL ((hg h1 68 3) / v3).toInt64 h2)
def sF_Bp_lower : List Value → Hp → Res Hp := fun as h => match as with | [.ref f0] => (match Nat.beq f0 0 with | true => F_Bp_lower  h | false => none) | _ => none
theorem w_Bp_lower  (h : Hp) : sF_Bp_lower [.ref 0] h = F_Bp_lower  h := rfl
def S_Bp_lower : Sem Hp := [(209, sF_Pa_tally), (63, sF_Bp_commonDivisor)]
set_option maxRecDepth 100000 in
theorem e_Bp_lower_0  (h : Hp) : F_Bp_lower  h = exec1 OI S_Bp_lower 3 k_Bp_lower 0 [some (.ref 0)] [] h (runF OI S_Bp_lower [] 3 k_Bp_lower 400) :=
  (x_bV (f := sF_Pa_tally) rfl (w_Pa_tally  _) fun h1 => (x_ite rfl (x_bI (f := sF_Bp_commonDivisor) rfl (w_Bp_commonDivisor _ _ _) fun v3 h2 => (x_if0 rfl))))
def k_La_lettersThere : List Ent := [(0, .iconst 0, 1, [], .int (0)), (1, .istore_n 1, 1, [], .null), (2, .iconst 0, 1, [], .int (0)), (3, .istore_n 2, 1, [], .null), (4, .iload_n 2, 1, [], .null), (5, .aload_n 0, 1, [], .null), (6, .getfield 48, 3, [0, 10, 0], .null), (9, .if_icmp .ge (24), 3, [33], .null), (12, .aload_n 0, 1, [], .null), (13, .getfield 37, 3, [0, 7, 1], .null), (16, .iload_n 2, 1, [], .null), (17, .aaload, 1, [], .null), (18, .invokevirtual 96, 3, [200, 1, 2, 1], .null), (21, .ifCond .eq (6), 3, [27], .null), (24, .iinc 1 (1), 3, [], .int (1)), (27, .iinc 2 (1), 3, [], .int (1)), (30, .goto (-26), 3, [4], .null), (33, .iload_n 1, 1, [], .null), (34, .ireturn, 1, [], .null)]
def La_lettersThere_4    : (Nat × Int32 × Int32 × Hp) → ((Nat × Int32 × Int32 × Hp) → Res Hp) → Res Hp := fun s κ4 => match s with
  | (o0, x1, x2, h) =>
  bif okF o0 0 10 0 then
  if (hg h o0 10) ≤ x2 then
  (retI x1 h)
  else
  (bif okF o0 0 7 1 then
  bif okR (shR o0 7) x2 then
  bif okO (shR (shR o0 7) x2.toNatClampNeg) 1 then
  bI (F_Le_isThere (shR (shR o0 7) x2.toNatClampNeg) h) fun v2 h1 =>
  if v2 = (0 : Int32) then
  (κ4 (o0, x1, (x2 + (1 : Int32)), h1))
  else
  (κ4 (o0, (x1 + (1 : Int32)), (x2 + (1 : Int32)), h1))
  else none
  else none
  else none)
  else none
def F_La_lettersThere (o0 : Nat) (h : Hp) : Res Hp :=
  loopC (La_lettersThere_4   ) FU (o0, (0 : Int32), (0 : Int32), h)
def sF_La_lettersThere : List Value → Hp → Res Hp := fun as h => match as with | [.ref o0] => F_La_lettersThere o0 h | _ => none
theorem w_La_lettersThere (o0 : Nat) (h : Hp) : sF_La_lettersThere [.ref o0] h = F_La_lettersThere o0 h := rfl
def S_La_lettersThere : Sem Hp := [(200, sF_Le_isThere)]
set_option maxRecDepth 100000 in
theorem e_La_lettersThere_0 (o0 : Nat) (h : Hp) : F_La_lettersThere o0 h = exec1 OI S_La_lettersThere 1 k_La_lettersThere 0 [some (.ref o0), none, none] [] h (runF OI S_La_lettersThere [(4, [0, 1, 2], fun vs st h => match vs, st with | [.ref o0, .int x1, .int x2], [] => loopC (La_lettersThere_4   ) FU (o0, x1, x2, h) | _, _ => none)] 1 k_La_lettersThere 400) :=
  rfl
set_option maxRecDepth 100000 in
theorem e_La_lettersThere_4 (κ4 : (Nat × Int32 × Int32 × Hp) → Res Hp) (o0 : Nat) (x1 : Int32) (x2 : Int32)  (h : Hp) : La_lettersThere_4    (o0, x1, x2, h) κ4 = exec1 OI S_La_lettersThere 1 k_La_lettersThere 4 [some (.ref o0), some (.int x1), some (.int x2)] [] h (runF OI S_La_lettersThere [(4, [0, 1, 2], fun vs st h => match vs, st with | [.ref o0, .int x1, .int x2], [] => κ4 (o0, x1, x2, h) | _, _ => none)] 1 k_La_lettersThere 400) :=
  (x_bif (x_ite rfl (x_bif (x_bif (x_bif (x_bI (f := sF_Le_isThere) rfl (w_Le_isThere _ _) fun v2 h1 => (x_ite rfl rfl)))))))
def k_Bp_sheetsThere : List Ent := [(0, .iconst 0, 1, [], .int (0)), (1, .istore_n 2, 1, [], .null), (2, .iconst 0, 1, [], .int (0)), (3, .istore_n 3, 1, [], .null), (4, .iload_n 3, 1, [], .null), (5, .aload_n 1, 1, [], .null), (6, .arraylength, 1, [], .null), (7, .if_icmp .ge (21), 3, [28], .null), (10, .aload_n 1, 1, [], .null), (11, .iload_n 3, 1, [], .null), (12, .aaload, 1, [], .null), (13, .invokevirtual 96, 3, [225, 1, 2, 4], .null), (16, .ifCond .eq (6), 3, [22], .null), (19, .iinc 2 (1), 3, [], .int (1)), (22, .iinc 3 (1), 3, [], .int (1)), (25, .goto (-21), 3, [4], .null), (28, .iload_n 2, 1, [], .null), (29, .ireturn, 1, [], .null)]
def Bp_sheetsThere_4    : (Nat × Int32 × Int32 × Hp) → ((Nat × Int32 × Int32 × Hp) → Res Hp) → Res Hp := fun s κ4 => match s with
  | (o1, x2, x3, h) =>
  bif okN o1 then
  if (Int32.ofNat (shN o1)) ≤ x3 then
  (retI x2 h)
  else
  (bif okR o1 x3 then
  bif okO (shR o1 x3.toNatClampNeg) 4 then
  bI (F_Sh_isThere (shR o1 x3.toNatClampNeg) h) fun v2 h1 =>
  if v2 = (0 : Int32) then
  (κ4 (o1, x2, (x3 + (1 : Int32)), h1))
  else
  (κ4 (o1, (x2 + (1 : Int32)), (x3 + (1 : Int32)), h1))
  else none
  else none)
  else none
def F_Bp_sheetsThere (o1 : Nat) (h : Hp) : Res Hp :=
  loopC (Bp_sheetsThere_4   ) FU (o1, (0 : Int32), (0 : Int32), h)
def sF_Bp_sheetsThere : List Value → Hp → Res Hp := fun as h => match as with | [.ref f0, .ref o1] => (match Nat.beq f0 0 with | true => F_Bp_sheetsThere o1 h | false => none) | _ => none
theorem w_Bp_sheetsThere (o1 : Nat) (h : Hp) : sF_Bp_sheetsThere [.ref 0, .ref o1] h = F_Bp_sheetsThere o1 h := rfl
def S_Bp_sheetsThere : Sem Hp := [(225, sF_Sh_isThere)]
set_option maxRecDepth 100000 in
theorem e_Bp_sheetsThere_0 (o1 : Nat) (h : Hp) : F_Bp_sheetsThere o1 h = exec1 OI S_Bp_sheetsThere 1 k_Bp_sheetsThere 0 [some (.ref 0), some (.ref o1), none, none] [] h (runF OI S_Bp_sheetsThere [(4, [1, 2, 3], fun vs st h => match vs, st with | [.ref o1, .int x2, .int x3], [] => loopC (Bp_sheetsThere_4   ) FU (o1, x2, x3, h) | _, _ => none)] 1 k_Bp_sheetsThere 400) :=
  rfl
set_option maxRecDepth 100000 in
theorem e_Bp_sheetsThere_4 (κ4 : (Nat × Int32 × Int32 × Hp) → Res Hp) (o1 : Nat) (x2 : Int32) (x3 : Int32)  (h : Hp) : Bp_sheetsThere_4    (o1, x2, x3, h) κ4 = exec1 OI S_Bp_sheetsThere 1 k_Bp_sheetsThere 4 [none, some (.ref o1), some (.int x2), some (.int x3)] [] h (runF OI S_Bp_sheetsThere [(4, [1, 2, 3], fun vs st h => match vs, st with | [.ref o1, .int x2, .int x3], [] => κ4 (o1, x2, x3, h) | _, _ => none)] 1 k_Bp_sheetsThere 400) :=
  (x_bif (x_ite rfl (x_bif (x_bif (x_bI (f := sF_Sh_isThere) rfl (w_Sh_isThere _ _) fun v2 h1 => (x_ite rfl rfl))))))
def k_Bp_landsKept : List Ent := [(0, .iconst 0, 1, [], .int (0)), (1, .istore_n 1, 1, [], .null), (2, .iconst 0, 1, [], .int (0)), (3, .istore_n 2, 1, [], .null), (4, .iload_n 2, 1, [], .null), (5, .iconst 3, 1, [], .int (3)), (6, .if_icmp .ge (21), 3, [27], .null), (9, .aload_n 0, 1, [], .null), (10, .getfield 32, 3, [6, 5, 1], .null), (13, .iload_n 2, 1, [], .null), (14, .baload, 1, [], .null), (15, .ifCond .eq (6), 3, [21], .null), (18, .iinc 1 (1), 3, [], .int (1)), (21, .iinc 2 (1), 3, [], .int (1)), (24, .goto (-20), 3, [4], .null), (27, .iload_n 1, 1, [], .null), (28, .ireturn, 1, [], .null)]
def Bp_landsKept_4    : (Int32 × Int32 × Hp) → ((Int32 × Int32 × Hp) → Res Hp) → Res Hp := fun s κ4 => match s with
  | (x1, x2, h) =>
  if (3 : Int32) ≤ x2 then
  (retI x1 h)
  else
  (bif okA 62 101 x2 then
  if (hg h 62 x2.toNatClampNeg) = (0 : Int32) then
  (κ4 (x1, (x2 + (1 : Int32)), h))
  else
  (κ4 ((x1 + (1 : Int32)), (x2 + (1 : Int32)), h))
  else none)
def F_Bp_landsKept  (h : Hp) : Res Hp :=
  loopC (Bp_landsKept_4   ) FU ((0 : Int32), (0 : Int32), h)
def sF_Bp_landsKept : List Value → Hp → Res Hp := fun as h => match as with | [.ref f0] => (match Nat.beq f0 0 with | true => F_Bp_landsKept  h | false => none) | _ => none
theorem w_Bp_landsKept  (h : Hp) : sF_Bp_landsKept [.ref 0] h = F_Bp_landsKept  h := rfl
def S_Bp_landsKept : Sem Hp := []
set_option maxRecDepth 100000 in
theorem e_Bp_landsKept_0  (h : Hp) : F_Bp_landsKept  h = exec1 OI S_Bp_landsKept 1 k_Bp_landsKept 0 [some (.ref 0), none, none] [] h (runF OI S_Bp_landsKept [(4, [0, 1, 2], fun vs st h => match vs, st with | [.ref f0, .int x1, .int x2], [] => (match Nat.beq f0 0 with | true => loopC (Bp_landsKept_4   ) FU (x1, x2, h) | false => none) | _, _ => none)] 1 k_Bp_landsKept 400) :=
  rfl
set_option maxRecDepth 100000 in
theorem e_Bp_landsKept_4 (κ4 : (Int32 × Int32 × Hp) → Res Hp) (x1 : Int32) (x2 : Int32)  (h : Hp) : Bp_landsKept_4    (x1, x2, h) κ4 = exec1 OI S_Bp_landsKept 1 k_Bp_landsKept 4 [some (.ref 0), some (.int x1), some (.int x2)] [] h (runF OI S_Bp_landsKept [(4, [0, 1, 2], fun vs st h => match vs, st with | [.ref f0, .int x1, .int x2], [] => (match Nat.beq f0 0 with | true => κ4 (x1, x2, h) | false => none) | _, _ => none)] 1 k_Bp_landsKept 400) :=
  (x_ite rfl (x_bif (x_ite rfl rfl)))
def k_Bp_count : List Ent := [(0, .iload_n 1, 1, [], .null), (1, .tableswitch (126) 0 8 #[51, 59, 67, 75, 83, 91, 103, 112, 121], 51, [127, 0, 52, 1, 60, 2, 68, 3, 76, 4, 84, 5, 92, 6, 104, 7, 113, 8, 122], .null), (52, .aload_n 0, 1, [], .null), (53, .getfield 21, 3, [6, 2, 1], .null), (56, .getfield 127, 3, [0, 8, 0], .null), (59, .ireturn, 1, [], .null), (60, .aload_n 0, 1, [], .null), (61, .getfield 21, 3, [6, 2, 1], .null), (64, .getfield 158, 3, [0, 9, 0], .null), (67, .ireturn, 1, [], .null), (68, .aload_n 0, 1, [], .null), (69, .getfield 21, 3, [6, 2, 1], .null), (72, .getfield 188, 3, [0, 11, 0], .null), (75, .ireturn, 1, [], .null), (76, .aload_n 0, 1, [], .null), (77, .getfield 21, 3, [6, 2, 1], .null), (80, .getfield 181, 3, [0, 10, 0], .null), (83, .ireturn, 1, [], .null), (84, .aload_n 0, 1, [], .null), (85, .getfield 21, 3, [6, 2, 1], .null), (88, .invokevirtual 304, 3, [191, 1, 1, 0], .null), (91, .ireturn, 1, [], .null), (92, .aload_n 0, 1, [], .null), (93, .getfield 21, 3, [6, 2, 1], .null), (96, .iconst 1, 1, [], .int (1)), (97, .invokevirtual 307, 3, [180, 2, 1, 0], .null), (100, .invokestatic 285, 3, [250, 1, 1], .null), (103, .ireturn, 1, [], .null), (104, .aload_n 0, 1, [], .null), (105, .aload_n 0, 1, [], .null), (106, .getfield 11, 3, [6, 0, 1], .null), (109, .invokevirtual 310, 3, [59, 2, 1, 6], .null), (112, .ireturn, 1, [], .null), (113, .aload_n 0, 1, [], .null), (114, .aload_n 0, 1, [], .null), (115, .getfield 15, 3, [6, 1, 1], .null), (118, .invokevirtual 310, 3, [59, 2, 1, 6], .null), (121, .ireturn, 1, [], .null), (122, .aload_n 0, 1, [], .null), (123, .invokevirtual 314, 3, [60, 1, 1, 6], .null), (126, .ireturn, 1, [], .null), (127, .iconst (-1), 1, [], .int (-1)), (128, .ireturn, 1, [], .null)]
def F_Bp_count (x1 : Int32) (h : Hp) : Res Hp :=
  if x1 = (0 : Int32) then
  (retI (hg h 3 8) h)
  else if x1 = (1 : Int32) then
  (retI (hg h 3 9) h)
  else if x1 = (2 : Int32) then
  (retI (hg h 3 11) h)
  else if x1 = (3 : Int32) then
  (retI (hg h 3 10) h)
  else if x1 = (4 : Int32) then
  (bI (F_La_lettersThere 3 h) fun v2 h1 =>
  retI v2 h1)
  else if x1 = (5 : Int32) then
  (bI (F_La_ofKind 3 (1 : Int32) h) fun v4 h3 =>
  bI (F_Jint_bitCount v4 h3) fun v6 h5 =>
  retI v6 h5)
  else if x1 = (6 : Int32) then
  (bI (F_Bp_sheetsThere 1 h) fun v8 h7 =>
  retI v8 h7)
  else if x1 = (7 : Int32) then
  (bI (F_Bp_sheetsThere 2 h) fun v10 h9 =>
  retI v10 h9)
  else if x1 = (8 : Int32) then
  (bI (F_Bp_landsKept  h) fun v12 h11 =>
  retI v12 h11)
  else 
  (retI (-1 : Int32) h)
def sF_Bp_count : List Value → Hp → Res Hp := fun as h => match as with | [.ref f0, .int x1] => (match Nat.beq f0 0 with | true => F_Bp_count x1 h | false => none) | _ => none
theorem w_Bp_count (x1 : Int32) (h : Hp) : sF_Bp_count [.ref 0, .int x1] h = F_Bp_count x1 h := rfl
def S_Bp_count : Sem Hp := [(191, sF_La_lettersThere), (180, sF_La_ofKind), (250, sF_Jint_bitCount), (59, sF_Bp_sheetsThere), (60, sF_Bp_landsKept)]
set_option maxRecDepth 100000 in
theorem e_Bp_count_0 (x1 : Int32) (h : Hp) : F_Bp_count x1 h = exec1 OI S_Bp_count 1 k_Bp_count 0 [some (.ref 0), some (.int x1)] [] h (runF OI S_Bp_count [] 1 k_Bp_count 400) :=
  (x_ite rfl (x_ite rfl (x_ite rfl (x_ite rfl (x_ite (x_bI (f := sF_La_lettersThere) rfl (w_La_lettersThere _ _) fun v2 h1 => rfl) (x_ite (x_bI (f := sF_La_ofKind) rfl (w_La_ofKind _ _ _) fun v4 h3 => (x_bI (f := sF_Jint_bitCount) rfl (w_Jint_bitCount _ _) fun v6 h5 => rfl)) (x_ite (x_bI (f := sF_Bp_sheetsThere) rfl (w_Bp_sheetsThere _ _) fun v8 h7 => rfl) (x_ite (x_bI (f := sF_Bp_sheetsThere) rfl (w_Bp_sheetsThere _ _) fun v10 h9 => rfl) (x_ite (x_bI (f := sF_Bp_landsKept) rfl (w_Bp_landsKept  _) fun v12 h11 => rfl) rfl)))))))))
def k_Bp_finding : List Ent := [(0, .aload_n 0, 1, [], .null), (1, .getfield 65, 3, [6, 10, 0], .null), (4, .ireturn, 1, [], .null)]
def F_Bp_finding  (h : Hp) : Res Hp :=
  retI (hg h 0 10) h
def sF_Bp_finding : List Value → Hp → Res Hp := fun as h => match as with | [.ref f0] => (match Nat.beq f0 0 with | true => F_Bp_finding  h | false => none) | _ => none
theorem w_Bp_finding  (h : Hp) : sF_Bp_finding [.ref 0] h = F_Bp_finding  h := rfl
def S_Bp_finding : Sem Hp := []
set_option maxRecDepth 100000 in
theorem e_Bp_finding_0  (h : Hp) : F_Bp_finding  h = exec1 OI S_Bp_finding 1 k_Bp_finding 0 [some (.ref 0)] [] h (runF OI S_Bp_finding [] 1 k_Bp_finding 400) :=
  rfl
def k_Bp_findings : List Ent := [(0, .iload_n 1, 1, [], .null), (1, .iconst 1, 1, [], .int (1)), (2, .if_icmp .lt (8), 3, [10], .null), (5, .iload_n 1, 1, [], .null), (6, .iconst 5, 1, [], .int (5)), (7, .if_icmp .le (5), 3, [12], .null), (10, .iconst (-1), 1, [], .int (-1)), (11, .ireturn, 1, [], .null), (12, .aload_n 0, 1, [], .null), (13, .getfield 61, 3, [6, 9, 1], .null), (16, .iload_n 1, 1, [], .null), (17, .iaload, 1, [], .null), (18, .ireturn, 1, [], .null)]
def F_Bp_findings (x1 : Int32) (h : Hp) : Res Hp :=
  if x1 < (1 : Int32) then
  (retI (-1 : Int32) h)
  else
  (if x1 ≤ (5 : Int32) then
  (bif okA 70 100 x1 then
  retI (hg h 70 x1.toNatClampNeg) h
  else none)
  else
  (retI (-1 : Int32) h))
def sF_Bp_findings : List Value → Hp → Res Hp := fun as h => match as with | [.ref f0, .int x1] => (match Nat.beq f0 0 with | true => F_Bp_findings x1 h | false => none) | _ => none
theorem w_Bp_findings (x1 : Int32) (h : Hp) : sF_Bp_findings [.ref 0, .int x1] h = F_Bp_findings x1 h := rfl
def S_Bp_findings : Sem Hp := []
set_option maxRecDepth 100000 in
theorem e_Bp_findings_0 (x1 : Int32) (h : Hp) : F_Bp_findings x1 h = exec1 OI S_Bp_findings 1 k_Bp_findings 0 [some (.ref 0), some (.int x1)] [] h (runF OI S_Bp_findings [] 1 k_Bp_findings 400) :=
  (x_ite rfl (x_ite (x_bif rfl) rfl))
def k_La_digestFrom : List Ent := [(0, .lload_n 1, 1, [], .null), (1, .lstore_n 3, 1, [], .null), (2, .iconst 0, 1, [], .int (0)), (3, .istore 5, 2, [], .null), (5, .iload 5, 2, [], .null), (7, .aload_n 0, 1, [], .null), (8, .getfield 41, 3, [0, 8, 0], .null), (11, .if_icmp .ge (40), 3, [51], .null), (14, .iconst 0, 1, [], .int (0)), (15, .istore 6, 2, [], .null), (17, .iload 6, 2, [], .null), (19, .iconst 3, 1, [], .int (3)), (20, .if_icmp .gt (25), 3, [45], .null), (23, .ldc2_w 163, 3, [], .long 31), (26, .lload_n 3, 1, [], .null), (27, .lmul, 1, [], .null), (28, .aload_n 0, 1, [], .null), (29, .iload 5, 2, [], .null), (31, .iload 6, 2, [], .null), (33, .invokevirtual 165, 3, [188, 3, 1, 0], .null), (36, .i2l, 1, [], .null), (37, .ladd, 1, [], .null), (38, .lstore_n 3, 1, [], .null), (39, .iinc 6 (1), 3, [], .int (1)), (42, .goto (-25), 3, [17], .null), (45, .iinc 5 (1), 3, [], .int (1)), (48, .goto (-43), 3, [5], .null), (51, .iconst 0, 1, [], .int (0)), (52, .istore 5, 2, [], .null), (54, .iload 5, 2, [], .null), (56, .aload_n 0, 1, [], .null), (57, .getfield 45, 3, [0, 9, 0], .null), (60, .if_icmp .ge (54), 3, [114], .null), (63, .ldc2_w 163, 3, [], .long 31), (66, .lload_n 3, 1, [], .null), (67, .lmul, 1, [], .null), (68, .aload_n 0, 1, [], .null), (69, .getfield 18, 3, [0, 2, 1], .null), (72, .iload 5, 2, [], .null), (74, .iaload, 1, [], .null), (75, .i2l, 1, [], .null), (76, .ladd, 1, [], .null), (77, .lstore_n 3, 1, [], .null), (78, .ldc2_w 163, 3, [], .long 31), (81, .lload_n 3, 1, [], .null), (82, .lmul, 1, [], .null), (83, .aload_n 0, 1, [], .null), (84, .getfield 21, 3, [0, 3, 1], .null), (87, .iload 5, 2, [], .null), (89, .iaload, 1, [], .null), (90, .i2l, 1, [], .null), (91, .ladd, 1, [], .null), (92, .lstore_n 3, 1, [], .null), (93, .ldc2_w 163, 3, [], .long 31), (96, .lload_n 3, 1, [], .null), (97, .lmul, 1, [], .null), (98, .aload_n 0, 1, [], .null), (99, .getfield 24, 3, [0, 4, 1], .null), (102, .iload 5, 2, [], .null), (104, .iaload, 1, [], .null), (105, .i2l, 1, [], .null), (106, .ladd, 1, [], .null), (107, .lstore_n 3, 1, [], .null), (108, .iinc 5 (1), 3, [], .int (1)), (111, .goto (-57), 3, [54], .null), (114, .iconst 0, 1, [], .int (0)), (115, .istore 5, 2, [], .null), (117, .iload 5, 2, [], .null), (119, .aload_n 0, 1, [], .null), (120, .getfield 48, 3, [0, 10, 0], .null), (123, .if_icmp .ge (90), 3, [213], .null), (126, .ldc2_w 163, 3, [], .long 31), (129, .lload_n 3, 1, [], .null), (130, .lmul, 1, [], .null), (131, .aload_n 0, 1, [], .null), (132, .getfield 37, 3, [0, 7, 1], .null), (135, .iload 5, 2, [], .null), (137, .aaload, 1, [], .null), (138, .getfield 111, 3, [1, 3, 0], .null), (141, .i2l, 1, [], .null), (142, .ladd, 1, [], .null), (143, .lstore_n 3, 1, [], .null), (144, .ldc2_w 163, 3, [], .long 31), (147, .lload_n 3, 1, [], .null), (148, .lmul, 1, [], .null), (149, .aload_n 0, 1, [], .null), (150, .getfield 37, 3, [0, 7, 1], .null), (153, .iload 5, 2, [], .null), (155, .aaload, 1, [], .null), (156, .getfield 118, 3, [1, 4, 0], .null), (159, .i2l, 1, [], .null), (160, .ladd, 1, [], .null), (161, .lstore_n 3, 1, [], .null), (162, .iconst 0, 1, [], .int (0)), (163, .istore 6, 2, [], .null), (165, .iload 6, 2, [], .null), (167, .aload_n 0, 1, [], .null), (168, .getfield 37, 3, [0, 7, 1], .null), (171, .iload 5, 2, [], .null), (173, .aaload, 1, [], .null), (174, .getfield 168, 3, [1, 2, 0], .null), (177, .if_icmp .ge (30), 3, [207], .null), (180, .ldc2_w 163, 3, [], .long 31), (183, .lload_n 3, 1, [], .null), (184, .lmul, 1, [], .null), (185, .aload_n 0, 1, [], .null), (186, .getfield 37, 3, [0, 7, 1], .null), (189, .iload 5, 2, [], .null), (191, .aaload, 1, [], .null), (192, .getfield 171, 3, [1, 0, 1], .null), (195, .iload 6, 2, [], .null), (197, .iaload, 1, [], .null), (198, .i2l, 1, [], .null), (199, .ladd, 1, [], .null), (200, .lstore_n 3, 1, [], .null), (201, .iinc 6 (1), 3, [], .int (1)), (204, .goto (-39), 3, [165], .null), (207, .iinc 5 (1), 3, [], .int (1)), (210, .goto (-93), 3, [117], .null), (213, .lload_n 3, 1, [], .null), (214, .lreturn, 1, [], .null)]
def La_digestFrom_165 (κ117 : (Nat × Int64 × Int32 × Hp) → Res Hp)   : (Nat × Int64 × Int32 × Int32 × Hp) → ((Nat × Int64 × Int32 × Int32 × Hp) → Res Hp) → Res Hp := fun s κ165 => match s with
  | (o0, y3, x5, x6, h) =>
  bif okF o0 0 7 1 then
  bif okR (shR o0 7) x5 then
  bif okF (shR (shR o0 7) x5.toNatClampNeg) 1 2 0 then
  if (hg h (shR (shR o0 7) x5.toNatClampNeg) 2) ≤ x6 then
  (κ117 (o0, y3, (x5 + (1 : Int32)), h))
  else
  (bif okF o0 0 7 1 then
  bif okR (shR o0 7) x5 then
  bif okF (shR (shR o0 7) x5.toNatClampNeg) 1 0 1 then
  bif okA (shR (shR (shR o0 7) x5.toNatClampNeg) 0) 100 x6 then
  κ165 (o0, (((31 : Int64) * y3) + (hg h (shR (shR (shR o0 7) x5.toNatClampNeg) 0) x6.toNatClampNeg).toInt64), x5, (x6 + (1 : Int32)), h)
  else none
  else none
  else none
  else none)
  else none
  else none
  else none
def La_digestFrom_117    : (Nat × Int64 × Int32 × Hp) → ((Nat × Int64 × Int32 × Hp) → Res Hp) → Res Hp := fun s κ117 => match s with
  | (o0, y3, x5, h) =>
  bif okF o0 0 10 0 then
  if (hg h o0 10) ≤ x5 then
  (retL y3 h)
  else
  (bif okF o0 0 7 1 then
  bif okR (shR o0 7) x5 then
  bif okF (shR (shR o0 7) x5.toNatClampNeg) 1 3 0 then
  bif okF o0 0 7 1 then
  bif okR (shR o0 7) x5 then
  bif okF (shR (shR o0 7) x5.toNatClampNeg) 1 4 0 then
  loopC (La_digestFrom_165 κ117  ) FU (o0, (((31 : Int64) * (((31 : Int64) * y3) + (hg h (shR (shR o0 7) x5.toNatClampNeg) 3).toInt64)) + (hg h (shR (shR o0 7) x5.toNatClampNeg) 4).toInt64), x5, (0 : Int32), h)
  else none
  else none
  else none
  else none
  else none
  else none)
  else none
def La_digestFrom_54    : (Nat × Int64 × Int32 × Hp) → ((Nat × Int64 × Int32 × Hp) → Res Hp) → Res Hp := fun s κ54 => match s with
  | (o0, y3, x5, h) =>
  bif okF o0 0 9 0 then
  if (hg h o0 9) ≤ x5 then
  (loopC (La_digestFrom_117   ) FU (o0, y3, (0 : Int32), h))
  else
  (bif okF o0 0 2 1 then
  bif okA (shR o0 2) 100 x5 then
  bif okF o0 0 3 1 then
  bif okA (shR o0 3) 100 x5 then
  bif okF o0 0 4 1 then
  bif okA (shR o0 4) 100 x5 then
  κ54 (o0, (((31 : Int64) * (((31 : Int64) * (((31 : Int64) * y3) + (hg h (shR o0 2) x5.toNatClampNeg).toInt64)) + (hg h (shR o0 3) x5.toNatClampNeg).toInt64)) + (hg h (shR o0 4) x5.toNatClampNeg).toInt64), (x5 + (1 : Int32)), h)
  else none
  else none
  else none
  else none
  else none
  else none)
  else none
def La_digestFrom_17 (κ5 : (Nat × Int64 × Int32 × Hp) → Res Hp)   : (Nat × Int64 × Int32 × Int32 × Hp) → ((Nat × Int64 × Int32 × Int32 × Hp) → Res Hp) → Res Hp := fun s κ17 => match s with
  | (o0, y3, x5, x6, h) =>
  if (3 : Int32) < x6 then
  (κ5 (o0, y3, (x5 + (1 : Int32)), h))
  else
  (bif okO o0 0 then
  bI (F_La_factOf o0 x5 x6 h) fun v2 h1 =>
  κ17 (o0, (((31 : Int64) * y3) + v2.toInt64), x5, (x6 + (1 : Int32)), h1)
  else none)
def La_digestFrom_5    : (Nat × Int64 × Int32 × Hp) → ((Nat × Int64 × Int32 × Hp) → Res Hp) → Res Hp := fun s κ5 => match s with
  | (o0, y3, x5, h) =>
  bif okF o0 0 8 0 then
  if (hg h o0 8) ≤ x5 then
  (loopC (La_digestFrom_54   ) FU (o0, y3, (0 : Int32), h))
  else
  (loopC (La_digestFrom_17 κ5  ) FU (o0, y3, x5, (0 : Int32), h))
  else none
def F_La_digestFrom (o0 : Nat) (y1 : Int64) (h : Hp) : Res Hp :=
  loopC (La_digestFrom_5   ) FU (o0, y1, (0 : Int32), h)
def sF_La_digestFrom : List Value → Hp → Res Hp := fun as h => match as with | [.ref o0, .long y1] => F_La_digestFrom o0 y1 h | _ => none
theorem w_La_digestFrom (o0 : Nat) (y1 : Int64) (h : Hp) : sF_La_digestFrom [.ref o0, .long y1] h = F_La_digestFrom o0 y1 h := rfl
def S_La_digestFrom : Sem Hp := [(188, sF_La_factOf)]
set_option maxRecDepth 100000 in
theorem e_La_digestFrom_0 (o0 : Nat) (y1 : Int64) (h : Hp) : F_La_digestFrom o0 y1 h = exec1 OI S_La_digestFrom 3 k_La_digestFrom 0 [some (.ref o0), some (.long y1), none, none, none, none, none] [] h (runF OI S_La_digestFrom [(5, [0, 3, 5], fun vs st h => match vs, st with | [.ref o0, .long y3, .int x5], [] => loopC (La_digestFrom_5   ) FU (o0, y3, x5, h) | _, _ => none)] 3 k_La_digestFrom 400) :=
  rfl
set_option maxRecDepth 100000 in
theorem e_La_digestFrom_5 (κ5 : (Nat × Int64 × Int32 × Hp) → Res Hp) (o0 : Nat) (y3 : Int64) (x5 : Int32)  (h : Hp) : La_digestFrom_5    (o0, y3, x5, h) κ5 = exec1 OI S_La_digestFrom 3 k_La_digestFrom 5 [some (.ref o0), none, none, some (.long y3), none, some (.int x5), none] [] h (runF OI S_La_digestFrom [(54, [0, 3, 5], fun vs st h => match vs, st with | [.ref o0, .long y3, .int x5], [] => loopC (La_digestFrom_54   ) FU (o0, y3, x5, h) | _, _ => none), (17, [0, 3, 5, 6], fun vs st h => match vs, st with | [.ref o0, .long y3, .int x5, .int x6], [] => loopC (La_digestFrom_17 κ5  ) FU (o0, y3, x5, x6, h) | _, _ => none)] 3 k_La_digestFrom 400) :=
  (x_bif (x_ite rfl rfl))
set_option maxRecDepth 100000 in
theorem e_La_digestFrom_54 (κ54 : (Nat × Int64 × Int32 × Hp) → Res Hp) (o0 : Nat) (y3 : Int64) (x5 : Int32)  (h : Hp) : La_digestFrom_54    (o0, y3, x5, h) κ54 = exec1 OI S_La_digestFrom 3 k_La_digestFrom 54 [some (.ref o0), none, none, some (.long y3), none, some (.int x5), none] [] h (runF OI S_La_digestFrom [(117, [0, 3, 5], fun vs st h => match vs, st with | [.ref o0, .long y3, .int x5], [] => loopC (La_digestFrom_117   ) FU (o0, y3, x5, h) | _, _ => none), (54, [0, 3, 5], fun vs st h => match vs, st with | [.ref o0, .long y3, .int x5], [] => κ54 (o0, y3, x5, h) | _, _ => none)] 3 k_La_digestFrom 400) :=
  (x_bif (x_ite rfl (x_bif (x_bif (x_bif (x_bif (x_bif (x_bif rfl))))))))
set_option maxRecDepth 100000 in
theorem e_La_digestFrom_117 (κ117 : (Nat × Int64 × Int32 × Hp) → Res Hp) (o0 : Nat) (y3 : Int64) (x5 : Int32)  (h : Hp) : La_digestFrom_117    (o0, y3, x5, h) κ117 = exec1 OI S_La_digestFrom 3 k_La_digestFrom 117 [some (.ref o0), none, none, some (.long y3), none, some (.int x5), none] [] h (runF OI S_La_digestFrom [(165, [0, 3, 5, 6], fun vs st h => match vs, st with | [.ref o0, .long y3, .int x5, .int x6], [] => loopC (La_digestFrom_165 κ117  ) FU (o0, y3, x5, x6, h) | _, _ => none)] 3 k_La_digestFrom 400) :=
  (x_bif (x_ite rfl (x_bif (x_bif (x_bif (x_bif (x_bif (x_bif rfl))))))))
set_option maxRecDepth 100000 in
theorem e_La_digestFrom_165 (κ117 : (Nat × Int64 × Int32 × Hp) → Res Hp) (κ165 : (Nat × Int64 × Int32 × Int32 × Hp) → Res Hp) (o0 : Nat) (y3 : Int64) (x5 : Int32) (x6 : Int32)  (h : Hp) : La_digestFrom_165 κ117   (o0, y3, x5, x6, h) κ165 = exec1 OI S_La_digestFrom 3 k_La_digestFrom 165 [some (.ref o0), none, none, some (.long y3), none, some (.int x5), some (.int x6)] [] h (runF OI S_La_digestFrom [(117, [0, 3, 5], fun vs st h => match vs, st with | [.ref o0, .long y3, .int x5], [] => κ117 (o0, y3, x5, h) | _, _ => none), (165, [0, 3, 5, 6], fun vs st h => match vs, st with | [.ref o0, .long y3, .int x5, .int x6], [] => κ165 (o0, y3, x5, x6, h) | _, _ => none)] 3 k_La_digestFrom 400) :=
  (x_bif (x_bif (x_bif (x_ite rfl (x_bif (x_bif (x_bif (x_bif rfl))))))))
set_option maxRecDepth 100000 in
theorem e_La_digestFrom_17 (κ5 : (Nat × Int64 × Int32 × Hp) → Res Hp) (κ17 : (Nat × Int64 × Int32 × Int32 × Hp) → Res Hp) (o0 : Nat) (y3 : Int64) (x5 : Int32) (x6 : Int32)  (h : Hp) : La_digestFrom_17 κ5   (o0, y3, x5, x6, h) κ17 = exec1 OI S_La_digestFrom 3 k_La_digestFrom 17 [some (.ref o0), none, none, some (.long y3), none, some (.int x5), some (.int x6)] [] h (runF OI S_La_digestFrom [(5, [0, 3, 5], fun vs st h => match vs, st with | [.ref o0, .long y3, .int x5], [] => κ5 (o0, y3, x5, h) | _, _ => none), (17, [0, 3, 5, 6], fun vs st h => match vs, st with | [.ref o0, .long y3, .int x5, .int x6], [] => κ17 (o0, y3, x5, x6, h) | _, _ => none)] 3 k_La_digestFrom 400) :=
  (x_ite rfl (x_bif (x_bI (f := sF_La_factOf) rfl (w_La_factOf _ _ _ _) fun v2 h1 => rfl)))
def k_Sh_digestFrom : List Ent := [(0, .ldc2_w 29, 3, [], .long 31), (3, .lload_n 1, 1, [], .null), (4, .lmul, 1, [], .null), (5, .aload_n 0, 1, [], .null), (6, .getfield 11, 3, [4, 1, 0], .null), (9, .i2l, 1, [], .null), (10, .ladd, 1, [], .null), (11, .lstore_n 3, 1, [], .null), (12, .iconst 0, 1, [], .int (0)), (13, .istore 5, 2, [], .null), (15, .iload 5, 2, [], .null), (17, .aload_n 0, 1, [], .null), (18, .getfield 11, 3, [4, 1, 0], .null), (21, .if_icmp .ge (24), 3, [45], .null), (24, .ldc2_w 29, 3, [], .long 31), (27, .lload_n 3, 1, [], .null), (28, .lmul, 1, [], .null), (29, .aload_n 0, 1, [], .null), (30, .getfield 15, 3, [4, 0, 1], .null), (33, .iload 5, 2, [], .null), (35, .iaload, 1, [], .null), (36, .i2l, 1, [], .null), (37, .ladd, 1, [], .null), (38, .lstore_n 3, 1, [], .null), (39, .iinc 5 (1), 3, [], .int (1)), (42, .goto (-27), 3, [15], .null), (45, .lload_n 3, 1, [], .null), (46, .lreturn, 1, [], .null)]
def Sh_digestFrom_15    : (Nat × Int64 × Int32 × Hp) → ((Nat × Int64 × Int32 × Hp) → Res Hp) → Res Hp := fun s κ15 => match s with
  | (o0, y3, x5, h) =>
  bif okF o0 4 1 0 then
  if (hg h o0 1) ≤ x5 then
  (retL y3 h)
  else
  (bif okF o0 4 0 1 then
  bif okA (shR o0 0) 100 x5 then
  κ15 (o0, (((31 : Int64) * y3) + (hg h (shR o0 0) x5.toNatClampNeg).toInt64), (x5 + (1 : Int32)), h)
  else none
  else none)
  else none
def F_Sh_digestFrom (o0 : Nat) (y1 : Int64) (h : Hp) : Res Hp :=
  bif okF o0 4 1 0 then
  loopC (Sh_digestFrom_15   ) FU (o0, (((31 : Int64) * y1) + (hg h o0 1).toInt64), (0 : Int32), h)
  else none
def sF_Sh_digestFrom : List Value → Hp → Res Hp := fun as h => match as with | [.ref o0, .long y1] => F_Sh_digestFrom o0 y1 h | _ => none
theorem w_Sh_digestFrom (o0 : Nat) (y1 : Int64) (h : Hp) : sF_Sh_digestFrom [.ref o0, .long y1] h = F_Sh_digestFrom o0 y1 h := rfl
def S_Sh_digestFrom : Sem Hp := []
set_option maxRecDepth 100000 in
theorem e_Sh_digestFrom_0 (o0 : Nat) (y1 : Int64) (h : Hp) : F_Sh_digestFrom o0 y1 h = exec1 OI S_Sh_digestFrom 3 k_Sh_digestFrom 0 [some (.ref o0), some (.long y1), none, none, none, none] [] h (runF OI S_Sh_digestFrom [(15, [0, 3, 5], fun vs st h => match vs, st with | [.ref o0, .long y3, .int x5], [] => loopC (Sh_digestFrom_15   ) FU (o0, y3, x5, h) | _, _ => none)] 3 k_Sh_digestFrom 400) :=
  (x_bif rfl)
set_option maxRecDepth 100000 in
theorem e_Sh_digestFrom_15 (κ15 : (Nat × Int64 × Int32 × Hp) → Res Hp) (o0 : Nat) (y3 : Int64) (x5 : Int32)  (h : Hp) : Sh_digestFrom_15    (o0, y3, x5, h) κ15 = exec1 OI S_Sh_digestFrom 3 k_Sh_digestFrom 15 [some (.ref o0), none, none, some (.long y3), none, some (.int x5)] [] h (runF OI S_Sh_digestFrom [(15, [0, 3, 5], fun vs st h => match vs, st with | [.ref o0, .long y3, .int x5], [] => κ15 (o0, y3, x5, h) | _, _ => none)] 3 k_Sh_digestFrom 400) :=
  (x_bif (x_ite rfl (x_bif (x_bif rfl))))
def k_Bp_digest : List Ent := [(0, .ldc2_w 317, 3, [], .long 17), (3, .lstore_n 1, 1, [], .null), (4, .iconst 0, 1, [], .int (0)), (5, .istore_n 3, 1, [], .null), (6, .iload_n 3, 1, [], .null), (7, .bipush (8), 2, [], .int (8)), (9, .if_icmp .gt (22), 3, [31], .null), (12, .ldc2_w 319, 3, [], .long 31), (15, .lload_n 1, 1, [], .null), (16, .lmul, 1, [], .null), (17, .aload_n 0, 1, [], .null), (18, .iload_n 3, 1, [], .null), (19, .invokevirtual 321, 3, [46, 2, 1, 6], .null), (22, .i2l, 1, [], .null), (23, .ladd, 1, [], .null), (24, .lstore_n 1, 1, [], .null), (25, .iinc 3 (1), 3, [], .int (1)), (28, .goto (-22), 3, [6], .null), (31, .aload_n 0, 1, [], .null), (32, .getfield 21, 3, [6, 2, 1], .null), (35, .lload_n 1, 1, [], .null), (36, .invokevirtual 324, 3, [194, 2, 3, 0], .null), (39, .lstore_n 1, 1, [], .null), (40, .iconst 0, 1, [], .int (0)), (41, .istore_n 3, 1, [], .null), (42, .iload_n 3, 1, [], .null), (43, .iconst 3, 1, [], .int (3)), (44, .if_icmp .ge (39), 3, [83], .null), (47, .ldc2_w 319, 3, [], .long 31), (50, .lload_n 1, 1, [], .null), (51, .lmul, 1, [], .null), (52, .aload_n 0, 1, [], .null), (53, .getfield 32, 3, [6, 5, 1], .null), (56, .iload_n 3, 1, [], .null), (57, .baload, 1, [], .null), (58, .ifCond .eq (15), 3, [73], .null), (61, .aload_n 0, 1, [], .null), (62, .getfield 28, 3, [6, 4, 1], .null), (65, .iload_n 3, 1, [], .null), (66, .aaload, 1, [], .null), (67, .getfield 188, 3, [0, 11, 0], .null), (70, .goto (4), 3, [74], .null), (73, .iconst (-1), 1, [], .int (-1)), (74, .i2l, 1, [], .null), (75, .ladd, 1, [], .null), (76, .lstore_n 1, 1, [], .null), (77, .iinc 3 (1), 3, [], .int (1)), (80, .goto (-38), 3, [42], .null), (83, .iconst 0, 1, [], .int (0)), (84, .istore_n 3, 1, [], .null), (85, .iload_n 3, 1, [], .null), (86, .bipush (6), 2, [], .int (6)), (88, .if_icmp .ge (20), 3, [108], .null), (91, .aload_n 0, 1, [], .null), (92, .getfield 11, 3, [6, 0, 1], .null), (95, .iload_n 3, 1, [], .null), (96, .aaload, 1, [], .null), (97, .lload_n 1, 1, [], .null), (98, .invokevirtual 328, 3, [231, 2, 3, 4], .null), (101, .lstore_n 1, 1, [], .null), (102, .iinc 3 (1), 3, [], .int (1)), (105, .goto (-20), 3, [85], .null), (108, .iconst 0, 1, [], .int (0)), (109, .istore_n 3, 1, [], .null), (110, .iload_n 3, 1, [], .null), (111, .iconst 4, 1, [], .int (4)), (112, .if_icmp .ge (20), 3, [132], .null), (115, .aload_n 0, 1, [], .null), (116, .getfield 15, 3, [6, 1, 1], .null), (119, .iload_n 3, 1, [], .null), (120, .aaload, 1, [], .null), (121, .lload_n 1, 1, [], .null), (122, .invokevirtual 328, 3, [231, 2, 3, 4], .null), (125, .lstore_n 1, 1, [], .null), (126, .iinc 3 (1), 3, [], .int (1)), (129, .goto (-19), 3, [110], .null), (132, .lload_n 1, 1, [], .null), (133, .lreturn, 1, [], .null)]
def Bp_digest_110    : (Int64 × Int32 × Hp) → ((Int64 × Int32 × Hp) → Res Hp) → Res Hp := fun s κ110 => match s with
  | (y1, x3, h) =>
  if (4 : Int32) ≤ x3 then
  (retL y1 h)
  else
  (bif okR 2 x3 then
  bif okO (shR 2 x3.toNatClampNeg) 4 then
  bL (F_Sh_digestFrom (shR 2 x3.toNatClampNeg) y1 h) fun w2 h1 =>
  κ110 (w2, (x3 + (1 : Int32)), h1)
  else none
  else none)
def Bp_digest_85    : (Int64 × Int32 × Hp) → ((Int64 × Int32 × Hp) → Res Hp) → Res Hp := fun s κ85 => match s with
  | (y1, x3, h) =>
  if (6 : Int32) ≤ x3 then
  (loopC (Bp_digest_110   ) FU (y1, (0 : Int32), h))
  else
  (bif okR 1 x3 then
  bif okO (shR 1 x3.toNatClampNeg) 4 then
  bL (F_Sh_digestFrom (shR 1 x3.toNatClampNeg) y1 h) fun w2 h1 =>
  κ85 (w2, (x3 + (1 : Int32)), h1)
  else none
  else none)
def Bp_digest_42    : (Int64 × Int32 × Hp) → ((Int64 × Int32 × Hp) → Res Hp) → Res Hp := fun s κ42 => match s with
  | (y1, x3, h) =>
  if (3 : Int32) ≤ x3 then
  (loopC (Bp_digest_85   ) FU (y1, (0 : Int32), h))
  else
  (bif okA 62 101 x3 then
  if (hg h 62 x3.toNatClampNeg) = (0 : Int32) then
  (κ42 ((((31 : Int64) * y1) + (-1 : Int32).toInt64), (x3 + (1 : Int32)), h))
  else
  (bif okR 61 x3 then
  bif okF (shR 61 x3.toNatClampNeg) 0 11 0 then
  κ42 ((((31 : Int64) * y1) + (hg h (shR 61 x3.toNatClampNeg) 11).toInt64), (x3 + (1 : Int32)), h)
  else none
  else none)
  else none)
def Bp_digest_6    : (Int64 × Int32 × Hp) → ((Int64 × Int32 × Hp) → Res Hp) → Res Hp := fun s κ6 => match s with
  | (y1, x3, h) =>
  if (8 : Int32) < x3 then
  (bL (F_La_digestFrom 3 y1 h) fun w2 h1 =>
  loopC (Bp_digest_42   ) FU (w2, (0 : Int32), h1))
  else
  (bI (F_Bp_count x3 h) fun v4 h3 =>
  κ6 ((((31 : Int64) * y1) + v4.toInt64), (x3 + (1 : Int32)), h3))
def F_Bp_digest  (h : Hp) : Res Hp :=
  loopC (Bp_digest_6   ) FU ((17 : Int64), (0 : Int32), h)
def sF_Bp_digest : List Value → Hp → Res Hp := fun as h => match as with | [.ref f0] => (match Nat.beq f0 0 with | true => F_Bp_digest  h | false => none) | _ => none
theorem w_Bp_digest  (h : Hp) : sF_Bp_digest [.ref 0] h = F_Bp_digest  h := rfl
def S_Bp_digest : Sem Hp := [(194, sF_La_digestFrom), (231, sF_Sh_digestFrom), (46, sF_Bp_count)]
set_option maxRecDepth 100000 in
theorem e_Bp_digest_0  (h : Hp) : F_Bp_digest  h = exec1 OI S_Bp_digest 3 k_Bp_digest 0 [some (.ref 0), none, none, none] [] h (runF OI S_Bp_digest [(6, [0, 1, 3], fun vs st h => match vs, st with | [.ref f0, .long y1, .int x3], [] => (match Nat.beq f0 0 with | true => loopC (Bp_digest_6   ) FU (y1, x3, h) | false => none) | _, _ => none)] 3 k_Bp_digest 400) :=
  rfl
set_option maxRecDepth 100000 in
theorem e_Bp_digest_6 (κ6 : (Int64 × Int32 × Hp) → Res Hp) (y1 : Int64) (x3 : Int32)  (h : Hp) : Bp_digest_6    (y1, x3, h) κ6 = exec1 OI S_Bp_digest 3 k_Bp_digest 6 [some (.ref 0), some (.long y1), none, some (.int x3)] [] h (runF OI S_Bp_digest [(42, [0, 1, 3], fun vs st h => match vs, st with | [.ref f0, .long y1, .int x3], [] => (match Nat.beq f0 0 with | true => loopC (Bp_digest_42   ) FU (y1, x3, h) | false => none) | _, _ => none), (6, [0, 1, 3], fun vs st h => match vs, st with | [.ref f0, .long y1, .int x3], [] => (match Nat.beq f0 0 with | true => κ6 (y1, x3, h) | false => none) | _, _ => none)] 3 k_Bp_digest 400) :=
  (x_ite (x_bL (f := sF_La_digestFrom) rfl (w_La_digestFrom _ _ _) fun w2 h1 => rfl) (x_bI (f := sF_Bp_count) rfl (w_Bp_count _ _) fun v4 h3 => rfl))
set_option maxRecDepth 100000 in
theorem e_Bp_digest_42 (κ42 : (Int64 × Int32 × Hp) → Res Hp) (y1 : Int64) (x3 : Int32)  (h : Hp) : Bp_digest_42    (y1, x3, h) κ42 = exec1 OI S_Bp_digest 3 k_Bp_digest 42 [some (.ref 0), some (.long y1), none, some (.int x3)] [] h (runF OI S_Bp_digest [(85, [0, 1, 3], fun vs st h => match vs, st with | [.ref f0, .long y1, .int x3], [] => (match Nat.beq f0 0 with | true => loopC (Bp_digest_85   ) FU (y1, x3, h) | false => none) | _, _ => none), (42, [0, 1, 3], fun vs st h => match vs, st with | [.ref f0, .long y1, .int x3], [] => (match Nat.beq f0 0 with | true => κ42 (y1, x3, h) | false => none) | _, _ => none)] 3 k_Bp_digest 400) :=
  (x_ite rfl (x_bif (x_ite rfl (x_bif (x_bif rfl)))))
set_option maxRecDepth 100000 in
theorem e_Bp_digest_85 (κ85 : (Int64 × Int32 × Hp) → Res Hp) (y1 : Int64) (x3 : Int32)  (h : Hp) : Bp_digest_85    (y1, x3, h) κ85 = exec1 OI S_Bp_digest 3 k_Bp_digest 85 [some (.ref 0), some (.long y1), none, some (.int x3)] [] h (runF OI S_Bp_digest [(110, [0, 1, 3], fun vs st h => match vs, st with | [.ref f0, .long y1, .int x3], [] => (match Nat.beq f0 0 with | true => loopC (Bp_digest_110   ) FU (y1, x3, h) | false => none) | _, _ => none), (85, [0, 1, 3], fun vs st h => match vs, st with | [.ref f0, .long y1, .int x3], [] => (match Nat.beq f0 0 with | true => κ85 (y1, x3, h) | false => none) | _, _ => none)] 3 k_Bp_digest 400) :=
  (x_ite rfl (x_bif (x_bif (x_bL (f := sF_Sh_digestFrom) rfl (w_Sh_digestFrom _ _ _) fun w2 h1 => rfl))))
set_option maxRecDepth 100000 in
theorem e_Bp_digest_110 (κ110 : (Int64 × Int32 × Hp) → Res Hp) (y1 : Int64) (x3 : Int32)  (h : Hp) : Bp_digest_110    (y1, x3, h) κ110 = exec1 OI S_Bp_digest 3 k_Bp_digest 110 [some (.ref 0), some (.long y1), none, some (.int x3)] [] h (runF OI S_Bp_digest [(110, [0, 1, 3], fun vs st h => match vs, st with | [.ref f0, .long y1, .int x3], [] => (match Nat.beq f0 0 with | true => κ110 (y1, x3, h) | false => none) | _, _ => none)] 3 k_Bp_digest 400) :=
  (x_ite rfl (x_bif (x_bif (x_bL (f := sF_Sh_digestFrom) rfl (w_Sh_digestFrom _ _ _) fun w2 h1 => rfl))))
def k_Mo_in : List Ent := [(0, .iload_n 0, 1, [], .null), (1, .iload_n 1, 1, [], .null), (2, .if_icmp .lt (12), 3, [14], .null), (5, .iload_n 0, 1, [], .null), (6, .iload_n 2, 1, [], .null), (7, .if_icmp .gt (7), 3, [14], .null), (10, .iconst 1, 1, [], .int (1)), (11, .goto (4), 3, [15], .null), (14, .iconst 0, 1, [], .int (0)), (15, .ireturn, 1, [], .null)]
def F_Mo_in (x0 : Int32) (x1 : Int32) (x2 : Int32) (h : Hp) : Res Hp :=
  if x0 < x1 then
  (retZ (0 : Int32) h)
  else
  (if x2 < x0 then
  (retZ (0 : Int32) h)
  else
  (retZ (1 : Int32) h))
def sF_Mo_in : List Value → Hp → Res Hp := fun as h => match as with | [.int x0, .int x1, .int x2] => F_Mo_in x0 x1 x2 h | _ => none
theorem w_Mo_in (x0 : Int32) (x1 : Int32) (x2 : Int32) (h : Hp) : sF_Mo_in [.int x0, .int x1, .int x2] h = F_Mo_in x0 x1 x2 h := rfl
def S_Mo_in : Sem Hp := []
set_option maxRecDepth 100000 in
theorem e_Mo_in_0 (x0 : Int32) (x1 : Int32) (x2 : Int32) (h : Hp) : F_Mo_in x0 x1 x2 h = exec1 OI S_Mo_in 2 k_Mo_in 0 [some (.int x0), some (.int x1), some (.int x2)] [] h (runF OI S_Mo_in [] 2 k_Mo_in 400) :=
  (x_ite rfl (x_ite rfl rfl))
def k_Mo_meetWith : List Ent := [(0, .aload_n 0, 1, [], .null), (1, .iload_n 1, 1, [], .null), (2, .putfield 65, 3, [7, 0, 0], .null), (5, .aload_n 0, 1, [], .null), (6, .getfield 7, 3, [7, 1, 1], .null), (9, .iload_n 1, 1, [], .null), (10, .dup2, 1, [], .null), (11, .iaload, 1, [], .null), (12, .iconst 1, 1, [], .int (1)), (13, .iadd, 1, [], .null), (14, .iastore, 1, [], .null), (15, .bipush (-3), 2, [], .int (-3)), (17, .ireturn, 1, [], .null)]
def F_Mo_meetWith (x1 : Int32) (h : Hp) : Res Hp :=
  bH (hs h 178 0 x1) fun h1 =>
  bif okA 179 100 x1 then
  bif okA 179 100 x1 then
  bH (hs h1 179 x1.toNatClampNeg ((hg h1 179 x1.toNatClampNeg) + (1 : Int32))) fun h2 =>
  retI (-3 : Int32) h2
  else none
  else none
def sF_Mo_meetWith : List Value → Hp → Res Hp := fun as h => match as with | [.ref f0, .int x1] => (match Nat.beq f0 178 with | true => F_Mo_meetWith x1 h | false => none) | _ => none
theorem w_Mo_meetWith (x1 : Int32) (h : Hp) : sF_Mo_meetWith [.ref 178, .int x1] h = F_Mo_meetWith x1 h := rfl
def S_Mo_meetWith : Sem Hp := []
set_option maxRecDepth 100000 in
theorem e_Mo_meetWith_0 (x1 : Int32) (h : Hp) : F_Mo_meetWith x1 h = exec1 OI S_Mo_meetWith 1 k_Mo_meetWith 0 [some (.ref 178), some (.int x1)] [] h (runF OI S_Mo_meetWith [] 1 k_Mo_meetWith 400) :=
  (x_bH fun h1 => (x_bif (x_bif (x_bH fun h2 => rfl))))
def k_Mo_ask : List Ent := [(0, .aload_n 0, 1, [], .null), (1, .iload_n 1, 1, [], .null), (2, .putfield 69, 3, [7, 2, 0], .null), (5, .iload_n 2, 1, [], .null), (6, .ireturn, 1, [], .null)]
def F_Mo_ask (x1 : Int32) (x2 : Int32) (h : Hp) : Res Hp :=
  bH (hs h 178 2 x1) fun h1 =>
  retI x2 h1
def sF_Mo_ask : List Value → Hp → Res Hp := fun as h => match as with | [.ref f0, .int x1, .int x2] => (match Nat.beq f0 178 with | true => F_Mo_ask x1 x2 h | false => none) | _ => none
theorem w_Mo_ask (x1 : Int32) (x2 : Int32) (h : Hp) : sF_Mo_ask [.ref 178, .int x1, .int x2] h = F_Mo_ask x1 x2 h := rfl
def S_Mo_ask : Sem Hp := []
set_option maxRecDepth 100000 in
theorem e_Mo_ask_0 (x1 : Int32) (x2 : Int32) (h : Hp) : F_Mo_ask x1 x2 h = exec1 OI S_Mo_ask 1 k_Mo_ask 0 [some (.ref 178), some (.int x1), some (.int x2)] [] h (runF OI S_Mo_ask [] 1 k_Mo_ask 400) :=
  (x_bH fun h1 => rfl)
def k_Mo_has : List Ent := [(0, .iload_n 0, 1, [], .null), (1, .iload_n 1, 1, [], .null), (2, .ishr, 1, [], .null), (3, .iconst 1, 1, [], .int (1)), (4, .iand, 1, [], .null), (5, .iconst 1, 1, [], .int (1)), (6, .if_icmp .ne (7), 3, [13], .null), (9, .iconst 1, 1, [], .int (1)), (10, .goto (4), 3, [14], .null), (13, .iconst 0, 1, [], .int (0)), (14, .ireturn, 1, [], .null)]
def F_Mo_has (x0 : Int32) (x1 : Int32) (h : Hp) : Res Hp :=
  if ((x0 >>> (x1 &&& 31)) &&& (1 : Int32)) = (1 : Int32) then
  (retZ (1 : Int32) h)
  else
  (retZ (0 : Int32) h)
def sF_Mo_has : List Value → Hp → Res Hp := fun as h => match as with | [.int x0, .int x1] => F_Mo_has x0 x1 h | _ => none
theorem w_Mo_has (x0 : Int32) (x1 : Int32) (h : Hp) : sF_Mo_has [.int x0, .int x1] h = F_Mo_has x0 x1 h := rfl
def S_Mo_has : Sem Hp := []
set_option maxRecDepth 100000 in
theorem e_Mo_has_0 (x0 : Int32) (x1 : Int32) (h : Hp) : F_Mo_has x0 x1 h = exec1 OI S_Mo_has 2 k_Mo_has 0 [some (.int x0), some (.int x1)] [] h (runF OI S_Mo_has [] 2 k_Mo_has 400) :=
  (x_ite rfl rfl)
def k_Mo_sizeOf : List Ent := [(0, .iconst 0, 1, [], .int (0)), (1, .istore_n 1, 1, [], .null), (2, .iconst 0, 1, [], .int (0)), (3, .istore_n 2, 1, [], .null), (4, .iload_n 2, 1, [], .null), (5, .bipush (10), 2, [], .int (10)), (7, .if_icmp .ge (17), 3, [24], .null), (10, .iload_n 1, 1, [], .null), (11, .iload_n 0, 1, [], .null), (12, .iload_n 2, 1, [], .null), (13, .ishr, 1, [], .null), (14, .iconst 1, 1, [], .int (1)), (15, .iand, 1, [], .null), (16, .iadd, 1, [], .null), (17, .istore_n 1, 1, [], .null), (18, .iinc 2 (1), 3, [], .int (1)), (21, .goto (-17), 3, [4], .null), (24, .iload_n 1, 1, [], .null), (25, .ireturn, 1, [], .null)]
def Mo_sizeOf_4    : (Int32 × Int32 × Int32 × Hp) → ((Int32 × Int32 × Int32 × Hp) → Res Hp) → Res Hp := fun s κ4 => match s with
  | (x0, x1, x2, h) =>
  if (10 : Int32) ≤ x2 then
  (retI x1 h)
  else
  (κ4 (x0, (x1 + ((x0 >>> (x2 &&& 31)) &&& (1 : Int32))), (x2 + (1 : Int32)), h))
def F_Mo_sizeOf (x0 : Int32) (h : Hp) : Res Hp :=
  loopC (Mo_sizeOf_4   ) FU (x0, (0 : Int32), (0 : Int32), h)
def sF_Mo_sizeOf : List Value → Hp → Res Hp := fun as h => match as with | [.int x0] => F_Mo_sizeOf x0 h | _ => none
theorem w_Mo_sizeOf (x0 : Int32) (h : Hp) : sF_Mo_sizeOf [.int x0] h = F_Mo_sizeOf x0 h := rfl
def S_Mo_sizeOf : Sem Hp := []
set_option maxRecDepth 100000 in
theorem e_Mo_sizeOf_0 (x0 : Int32) (h : Hp) : F_Mo_sizeOf x0 h = exec1 OI S_Mo_sizeOf 1 k_Mo_sizeOf 0 [some (.int x0), none, none] [] h (runF OI S_Mo_sizeOf [(4, [0, 1, 2], fun vs st h => match vs, st with | [.int x0, .int x1, .int x2], [] => loopC (Mo_sizeOf_4   ) FU (x0, x1, x2, h) | _, _ => none)] 1 k_Mo_sizeOf 400) :=
  rfl
set_option maxRecDepth 100000 in
theorem e_Mo_sizeOf_4 (κ4 : (Int32 × Int32 × Int32 × Hp) → Res Hp) (x0 : Int32) (x1 : Int32) (x2 : Int32)  (h : Hp) : Mo_sizeOf_4    (x0, x1, x2, h) κ4 = exec1 OI S_Mo_sizeOf 1 k_Mo_sizeOf 4 [some (.int x0), some (.int x1), some (.int x2)] [] h (runF OI S_Mo_sizeOf [(4, [0, 1, 2], fun vs st h => match vs, st with | [.int x0, .int x1, .int x2], [] => κ4 (x0, x1, x2, h) | _, _ => none)] 1 k_Mo_sizeOf 400) :=
  (x_ite rfl rfl)
def k_Mo_isRow : List Ent := [(0, .iload_n 0, 1, [], .null), (1, .iconst 0, 1, [], .int (0)), (2, .iconst 5, 1, [], .int (5)), (3, .invokestatic 72, 3, [71, 3, 2], .null), (6, .ireturn, 1, [], .null)]
def F_Mo_isRow (x0 : Int32) (h : Hp) : Res Hp :=
  bI (F_Mo_in x0 (0 : Int32) (5 : Int32) h) fun v2 h1 =>
  retZ v2 h1
def sF_Mo_isRow : List Value → Hp → Res Hp := fun as h => match as with | [.int x0] => F_Mo_isRow x0 h | _ => none
theorem w_Mo_isRow (x0 : Int32) (h : Hp) : sF_Mo_isRow [.int x0] h = F_Mo_isRow x0 h := rfl
def S_Mo_isRow : Sem Hp := [(71, sF_Mo_in)]
set_option maxRecDepth 100000 in
theorem e_Mo_isRow_0 (x0 : Int32) (h : Hp) : F_Mo_isRow x0 h = exec1 OI S_Mo_isRow 2 k_Mo_isRow 0 [some (.int x0)] [] h (runF OI S_Mo_isRow [] 2 k_Mo_isRow 400) :=
  (x_bI (f := sF_Mo_in) rfl (w_Mo_in _ _ _ _) fun v2 h1 => rfl)
def k_Mo_isText : List Ent := [(0, .iload_n 0, 1, [], .null), (1, .iconst 0, 1, [], .int (0)), (2, .iconst 3, 1, [], .int (3)), (3, .invokestatic 72, 3, [71, 3, 2], .null), (6, .ireturn, 1, [], .null)]
def F_Mo_isText (x0 : Int32) (h : Hp) : Res Hp :=
  bI (F_Mo_in x0 (0 : Int32) (3 : Int32) h) fun v2 h1 =>
  retZ v2 h1
def sF_Mo_isText : List Value → Hp → Res Hp := fun as h => match as with | [.int x0] => F_Mo_isText x0 h | _ => none
theorem w_Mo_isText (x0 : Int32) (h : Hp) : sF_Mo_isText [.int x0] h = F_Mo_isText x0 h := rfl
def S_Mo_isText : Sem Hp := [(71, sF_Mo_in)]
set_option maxRecDepth 100000 in
theorem e_Mo_isText_0 (x0 : Int32) (h : Hp) : F_Mo_isText x0 h = exec1 OI S_Mo_isText 2 k_Mo_isText 0 [some (.int x0)] [] h (runF OI S_Mo_isText [] 2 k_Mo_isText 400) :=
  (x_bI (f := sF_Mo_in) rfl (w_Mo_in _ _ _ _) fun v2 h1 => rfl)
def k_Mo_askedRow : List Ent := [(0, .iload_n 1, 1, [], .null), (1, .invokestatic 76, 3, [76, 1, 2], .null), (4, .ifCond .ne (7), 3, [11], .null), (7, .iconst (-1), 1, [], .int (-1)), (8, .goto (21), 3, [29], .null), (11, .aload_n 0, 1, [], .null), (12, .getfield 13, 3, [7, 3, 1], .null), (15, .iload_n 1, 1, [], .null), (16, .iaload, 1, [], .null), (17, .ifCond .ge (11), 3, [28], .null), (20, .aload_n 0, 1, [], .null), (21, .iconst 1, 1, [], .int (1)), (22, .invokevirtual 80, 3, [72, 2, 1, 7], .null), (25, .goto (4), 3, [29], .null), (28, .iconst 0, 1, [], .int (0)), (29, .ireturn, 1, [], .null)]
def F_Mo_askedRow (x1 : Int32) (h : Hp) : Res Hp :=
  bI (F_Mo_isRow x1 h) fun v2 h1 =>
  if v2 = (0 : Int32) then
  (retI (-1 : Int32) h1)
  else
  (bif okA 180 100 x1 then
  if (0 : Int32) ≤ (hg h1 180 x1.toNatClampNeg) then
  (retI (0 : Int32) h1)
  else
  (bI (F_Mo_meetWith (1 : Int32) h1) fun v4 h3 =>
  retI v4 h3)
  else none)
def sF_Mo_askedRow : List Value → Hp → Res Hp := fun as h => match as with | [.ref f0, .int x1] => (match Nat.beq f0 178 with | true => F_Mo_askedRow x1 h | false => none) | _ => none
theorem w_Mo_askedRow (x1 : Int32) (h : Hp) : sF_Mo_askedRow [.ref 178, .int x1] h = F_Mo_askedRow x1 h := rfl
def S_Mo_askedRow : Sem Hp := [(76, sF_Mo_isRow), (72, sF_Mo_meetWith)]
set_option maxRecDepth 100000 in
theorem e_Mo_askedRow_0 (x1 : Int32) (h : Hp) : F_Mo_askedRow x1 h = exec1 OI S_Mo_askedRow 1 k_Mo_askedRow 0 [some (.ref 178), some (.int x1)] [] h (runF OI S_Mo_askedRow [] 1 k_Mo_askedRow 400) :=
  (x_bI (f := sF_Mo_isRow) rfl (w_Mo_isRow _ _) fun v2 h1 => (x_ite rfl (x_bif (x_ite rfl (x_bI (f := sF_Mo_meetWith) rfl (w_Mo_meetWith _ _) fun v4 h3 => rfl)))))
def k_Mo_askedText : List Ent := [(0, .iload_n 1, 1, [], .null), (1, .invokestatic 84, 3, [77, 1, 2], .null), (4, .ifCond .ne (7), 3, [11], .null), (7, .iconst (-1), 1, [], .int (-1)), (8, .goto (21), 3, [29], .null), (11, .aload_n 0, 1, [], .null), (12, .getfield 22, 3, [7, 6, 1], .null), (15, .iload_n 1, 1, [], .null), (16, .iaload, 1, [], .null), (17, .ifCond .ge (11), 3, [28], .null), (20, .aload_n 0, 1, [], .null), (21, .iconst 1, 1, [], .int (1)), (22, .invokevirtual 80, 3, [72, 2, 1, 7], .null), (25, .goto (4), 3, [29], .null), (28, .iconst 0, 1, [], .int (0)), (29, .ireturn, 1, [], .null)]
def F_Mo_askedText (x1 : Int32) (h : Hp) : Res Hp :=
  bI (F_Mo_isText x1 h) fun v2 h1 =>
  if v2 = (0 : Int32) then
  (retI (-1 : Int32) h1)
  else
  (bif okA 183 100 x1 then
  if (0 : Int32) ≤ (hg h1 183 x1.toNatClampNeg) then
  (retI (0 : Int32) h1)
  else
  (bI (F_Mo_meetWith (1 : Int32) h1) fun v4 h3 =>
  retI v4 h3)
  else none)
def sF_Mo_askedText : List Value → Hp → Res Hp := fun as h => match as with | [.ref f0, .int x1] => (match Nat.beq f0 178 with | true => F_Mo_askedText x1 h | false => none) | _ => none
theorem w_Mo_askedText (x1 : Int32) (h : Hp) : sF_Mo_askedText [.ref 178, .int x1] h = F_Mo_askedText x1 h := rfl
def S_Mo_askedText : Sem Hp := [(77, sF_Mo_isText), (72, sF_Mo_meetWith)]
set_option maxRecDepth 100000 in
theorem e_Mo_askedText_0 (x1 : Int32) (h : Hp) : F_Mo_askedText x1 h = exec1 OI S_Mo_askedText 1 k_Mo_askedText 0 [some (.ref 178), some (.int x1)] [] h (runF OI S_Mo_askedText [] 1 k_Mo_askedText 400) :=
  (x_bI (f := sF_Mo_isText) rfl (w_Mo_isText _ _) fun v2 h1 => (x_ite rfl (x_bif (x_ite rfl (x_bI (f := sF_Mo_meetWith) rfl (w_Mo_meetWith _ _) fun v4 h3 => rfl)))))
def k_Mo_rowAt : List Ent := [(0, .aload_n 0, 1, [], .null), (1, .getfield 16, 3, [7, 4, 1], .null), (4, .bipush (40), 2, [], .int (40)), (6, .iload_n 1, 1, [], .null), (7, .imul, 1, [], .null), (8, .iload_n 2, 1, [], .null), (9, .iadd, 1, [], .null), (10, .iaload, 1, [], .null), (11, .ireturn, 1, [], .null)]
def F_Mo_rowAt (x1 : Int32) (x2 : Int32) (h : Hp) : Res Hp :=
  bif okA 181 100 (((40 : Int32) * x1) + x2) then
  retI (hg h 181 (((40 : Int32) * x1) + x2).toNatClampNeg) h
  else none
def sF_Mo_rowAt : List Value → Hp → Res Hp := fun as h => match as with | [.ref f0, .int x1, .int x2] => (match Nat.beq f0 178 with | true => F_Mo_rowAt x1 x2 h | false => none) | _ => none
theorem w_Mo_rowAt (x1 : Int32) (x2 : Int32) (h : Hp) : sF_Mo_rowAt [.ref 178, .int x1, .int x2] h = F_Mo_rowAt x1 x2 h := rfl
def S_Mo_rowAt : Sem Hp := []
set_option maxRecDepth 100000 in
theorem e_Mo_rowAt_0 (x1 : Int32) (x2 : Int32) (h : Hp) : F_Mo_rowAt x1 x2 h = exec1 OI S_Mo_rowAt 1 k_Mo_rowAt 0 [some (.ref 178), some (.int x1), some (.int x2)] [] h (runF OI S_Mo_rowAt [] 1 k_Mo_rowAt 400) :=
  (x_bif rfl)
def k_Mo_setRow : List Ent := [(0, .aload_n 0, 1, [], .null), (1, .getfield 16, 3, [7, 4, 1], .null), (4, .bipush (40), 2, [], .int (40)), (6, .iload_n 1, 1, [], .null), (7, .imul, 1, [], .null), (8, .iload_n 2, 1, [], .null), (9, .iadd, 1, [], .null), (10, .iload_n 3, 1, [], .null), (11, .iastore, 1, [], .null), (12, .return_, 1, [], .null)]
def F_Mo_setRow (x1 : Int32) (x2 : Int32) (x3 : Int32) (h : Hp) : Res Hp :=
  bif okA 181 100 (((40 : Int32) * x1) + x2) then
  bH (hs h 181 (((40 : Int32) * x1) + x2).toNatClampNeg x3) fun h1 =>
  retV h1
  else none
def sF_Mo_setRow : List Value → Hp → Res Hp := fun as h => match as with | [.ref f0, .int x1, .int x2, .int x3] => (match Nat.beq f0 178 with | true => F_Mo_setRow x1 x2 x3 h | false => none) | _ => none
theorem w_Mo_setRow (x1 : Int32) (x2 : Int32) (x3 : Int32) (h : Hp) : sF_Mo_setRow [.ref 178, .int x1, .int x2, .int x3] h = F_Mo_setRow x1 x2 x3 h := rfl
def S_Mo_setRow : Sem Hp := []
set_option maxRecDepth 100000 in
theorem e_Mo_setRow_0 (x1 : Int32) (x2 : Int32) (x3 : Int32) (h : Hp) : F_Mo_setRow x1 x2 x3 h = exec1 OI S_Mo_setRow 0 k_Mo_setRow 0 [some (.ref 178), some (.int x1), some (.int x2), some (.int x3)] [] h (runF OI S_Mo_setRow [] 0 k_Mo_setRow 400) :=
  (x_bif (x_bH fun h1 => rfl))
def k_Mo_row : List Ent := [(0, .iload_n 1, 1, [], .null), (1, .invokestatic 76, 3, [76, 1, 2], .null), (4, .ifCond .eq (9), 3, [13], .null), (7, .iload_n 2, 1, [], .null), (8, .bipush (40), 2, [], .int (40)), (10, .if_icmp .le (5), 3, [15], .null), (13, .iconst (-1), 1, [], .int (-1)), (14, .ireturn, 1, [], .null), (15, .iload_n 2, 1, [], .null), (16, .ifCond .ge (9), 3, [25], .null), (19, .aload_n 0, 1, [], .null), (20, .iconst 5, 1, [], .int (5)), (21, .invokevirtual 80, 3, [72, 2, 1, 7], .null), (24, .ireturn, 1, [], .null), (25, .aload_n 0, 1, [], .null), (26, .getfield 13, 3, [7, 3, 1], .null), (29, .iload_n 1, 1, [], .null), (30, .iload_n 2, 1, [], .null), (31, .iastore, 1, [], .null), (32, .iconst 0, 1, [], .int (0)), (33, .istore_n 3, 1, [], .null), (34, .iload_n 3, 1, [], .null), (35, .bipush (40), 2, [], .int (40)), (37, .if_icmp .ge (16), 3, [53], .null), (40, .aload_n 0, 1, [], .null), (41, .iload_n 1, 1, [], .null), (42, .iload_n 3, 1, [], .null), (43, .iconst 0, 1, [], .int (0)), (44, .invokevirtual 87, 3, [81, 4, 0, 7], .null), (47, .iinc 3 (1), 3, [], .int (1)), (50, .goto (-16), 3, [34], .null), (53, .iload_n 2, 1, [], .null), (54, .ireturn, 1, [], .null)]
def Mo_row_34    : (Int32 × Int32 × Int32 × Hp) → ((Int32 × Int32 × Int32 × Hp) → Res Hp) → Res Hp := fun s κ34 => match s with
  | (x1, x2, x3, h) =>
  if (40 : Int32) ≤ x3 then
  (retI x2 h)
  else
  (bV (F_Mo_setRow x1 x3 (0 : Int32) h) fun h1 =>
  κ34 (x1, x2, (x3 + (1 : Int32)), h1))
def F_Mo_row (x1 : Int32) (x2 : Int32) (h : Hp) : Res Hp :=
  bI (F_Mo_isRow x1 h) fun v2 h1 =>
  if v2 = (0 : Int32) then
  (retI (-1 : Int32) h1)
  else
  (if x2 ≤ (40 : Int32) then
  (if (0 : Int32) ≤ x2 then
  (bif okA 180 100 x1 then
  bH (hs h1 180 x1.toNatClampNeg x2) fun h3 =>
  loopC (Mo_row_34   ) FU (x1, x2, (0 : Int32), h3)
  else none)
  else
  (bI (F_Mo_meetWith (5 : Int32) h1) fun v5 h4 =>
  retI v5 h4))
  else
  (retI (-1 : Int32) h1))
def sF_Mo_row : List Value → Hp → Res Hp := fun as h => match as with | [.ref f0, .int x1, .int x2] => (match Nat.beq f0 178 with | true => F_Mo_row x1 x2 h | false => none) | _ => none
theorem w_Mo_row (x1 : Int32) (x2 : Int32) (h : Hp) : sF_Mo_row [.ref 178, .int x1, .int x2] h = F_Mo_row x1 x2 h := rfl
def S_Mo_row : Sem Hp := [(76, sF_Mo_isRow), (81, sF_Mo_setRow), (72, sF_Mo_meetWith)]
set_option maxRecDepth 100000 in
theorem e_Mo_row_0 (x1 : Int32) (x2 : Int32) (h : Hp) : F_Mo_row x1 x2 h = exec1 OI S_Mo_row 1 k_Mo_row 0 [some (.ref 178), some (.int x1), some (.int x2), none] [] h (runF OI S_Mo_row [(34, [0, 1, 2, 3], fun vs st h => match vs, st with | [.ref f0, .int x1, .int x2, .int x3], [] => (match Nat.beq f0 178 with | true => loopC (Mo_row_34   ) FU (x1, x2, x3, h) | false => none) | _, _ => none)] 1 k_Mo_row 400) :=
  (x_bI (f := sF_Mo_isRow) rfl (w_Mo_isRow _ _) fun v2 h1 => (x_ite rfl (x_ite (x_ite (x_bif (x_bH fun h3 => rfl)) (x_bI (f := sF_Mo_meetWith) rfl (w_Mo_meetWith _ _) fun v5 h4 => rfl)) rfl)))
set_option maxRecDepth 100000 in
theorem e_Mo_row_34 (κ34 : (Int32 × Int32 × Int32 × Hp) → Res Hp) (x1 : Int32) (x2 : Int32) (x3 : Int32)  (h : Hp) : Mo_row_34    (x1, x2, x3, h) κ34 = exec1 OI S_Mo_row 1 k_Mo_row 34 [some (.ref 178), some (.int x1), some (.int x2), some (.int x3)] [] h (runF OI S_Mo_row [(34, [0, 1, 2, 3], fun vs st h => match vs, st with | [.ref f0, .int x1, .int x2, .int x3], [] => (match Nat.beq f0 178 with | true => κ34 (x1, x2, x3, h) | false => none) | _, _ => none)] 1 k_Mo_row 400) :=
  (x_ite rfl (x_bV (f := sF_Mo_setRow) rfl (w_Mo_setRow _ _ _ _) fun h1 => rfl))
def k_Mo_at : List Ent := [(0, .aload_n 0, 1, [], .null), (1, .iload_n 1, 1, [], .null), (2, .invokevirtual 91, 3, [78, 2, 1, 7], .null), (5, .istore_n 3, 1, [], .null), (6, .iload_n 3, 1, [], .null), (7, .ifCond .ge (5), 3, [12], .null), (10, .iload_n 3, 1, [], .null), (11, .ireturn, 1, [], .null), (12, .iload_n 2, 1, [], .null), (13, .iconst 0, 1, [], .int (0)), (14, .aload_n 0, 1, [], .null), (15, .getfield 13, 3, [7, 3, 1], .null), (18, .iload_n 1, 1, [], .null), (19, .iaload, 1, [], .null), (20, .iconst 1, 1, [], .int (1)), (21, .isub, 1, [], .null), (22, .invokestatic 72, 3, [71, 3, 2], .null), (25, .ifCond .eq (17), 3, [42], .null), (28, .aload_n 0, 1, [], .null), (29, .aload_n 0, 1, [], .null), (30, .iload_n 1, 1, [], .null), (31, .iload_n 2, 1, [], .null), (32, .invokevirtual 94, 3, [80, 3, 1, 7], .null), (35, .iconst 1, 1, [], .int (1)), (36, .invokevirtual 98, 3, [73, 3, 1, 7], .null), (39, .goto (8), 3, [47], .null), (42, .aload_n 0, 1, [], .null), (43, .iconst 2, 1, [], .int (2)), (44, .invokevirtual 80, 3, [72, 2, 1, 7], .null), (47, .ireturn, 1, [], .null)]
def F_Mo_at (x1 : Int32) (x2 : Int32) (h : Hp) : Res Hp :=
  bI (F_Mo_askedRow x1 h) fun v2 h1 =>
  if (0 : Int32) ≤ v2 then
  (bif okA 180 100 x1 then
  bI (F_Mo_in x2 (0 : Int32) ((hg h1 180 x1.toNatClampNeg) - (1 : Int32)) h1) fun v4 h3 =>
  if v4 = (0 : Int32) then
  (bI (F_Mo_meetWith (2 : Int32) h3) fun v6 h5 =>
  retI v6 h5)
  else
  (bI (F_Mo_rowAt x1 x2 h3) fun v8 h7 =>
  bI (F_Mo_ask v8 (1 : Int32) h7) fun v10 h9 =>
  retI v10 h9)
  else none)
  else
  (retI v2 h1)
def sF_Mo_at : List Value → Hp → Res Hp := fun as h => match as with | [.ref f0, .int x1, .int x2] => (match Nat.beq f0 178 with | true => F_Mo_at x1 x2 h | false => none) | _ => none
theorem w_Mo_at (x1 : Int32) (x2 : Int32) (h : Hp) : sF_Mo_at [.ref 178, .int x1, .int x2] h = F_Mo_at x1 x2 h := rfl
def S_Mo_at : Sem Hp := [(78, sF_Mo_askedRow), (71, sF_Mo_in), (72, sF_Mo_meetWith), (80, sF_Mo_rowAt), (73, sF_Mo_ask)]
set_option maxRecDepth 100000 in
theorem e_Mo_at_0 (x1 : Int32) (x2 : Int32) (h : Hp) : F_Mo_at x1 x2 h = exec1 OI S_Mo_at 1 k_Mo_at 0 [some (.ref 178), some (.int x1), some (.int x2), none] [] h (runF OI S_Mo_at [] 1 k_Mo_at 400) :=
  (x_bI (f := sF_Mo_askedRow) rfl (w_Mo_askedRow _ _) fun v2 h1 => (x_ite (x_bif (x_bI (f := sF_Mo_in) rfl (w_Mo_in _ _ _ _) fun v4 h3 => (x_ite (x_bI (f := sF_Mo_meetWith) rfl (w_Mo_meetWith _ _) fun v6 h5 => rfl) (x_bI (f := sF_Mo_rowAt) rfl (w_Mo_rowAt _ _ _) fun v8 h7 => (x_bI (f := sF_Mo_ask) rfl (w_Mo_ask _ _ _) fun v10 h9 => rfl))))) rfl))
def k_Mo_lay : List Ent := [(0, .aload_n 0, 1, [], .null), (1, .iload_n 1, 1, [], .null), (2, .iload_n 2, 1, [], .null), (3, .invokevirtual 101, 3, [83, 3, 1, 7], .null), (6, .istore 4, 2, [], .null), (8, .iload 4, 2, [], .null), (10, .ifCond .ge (6), 3, [16], .null), (13, .iload 4, 2, [], .null), (15, .ireturn, 1, [], .null), (16, .aload_n 0, 1, [], .null), (17, .iload_n 1, 1, [], .null), (18, .iload_n 2, 1, [], .null), (19, .iload_n 3, 1, [], .null), (20, .invokevirtual 87, 3, [81, 4, 0, 7], .null), (23, .iconst 1, 1, [], .int (1)), (24, .ireturn, 1, [], .null)]
def F_Mo_lay (x1 : Int32) (x2 : Int32) (x3 : Int32) (h : Hp) : Res Hp :=
  bI (F_Mo_at x1 x2 h) fun v2 h1 =>
  if (0 : Int32) ≤ v2 then
  (bV (F_Mo_setRow x1 x2 x3 h1) fun h3 =>
  retI (1 : Int32) h3)
  else
  (retI v2 h1)
def sF_Mo_lay : List Value → Hp → Res Hp := fun as h => match as with | [.ref f0, .int x1, .int x2, .int x3] => (match Nat.beq f0 178 with | true => F_Mo_lay x1 x2 x3 h | false => none) | _ => none
theorem w_Mo_lay (x1 : Int32) (x2 : Int32) (x3 : Int32) (h : Hp) : sF_Mo_lay [.ref 178, .int x1, .int x2, .int x3] h = F_Mo_lay x1 x2 x3 h := rfl
def S_Mo_lay : Sem Hp := [(83, sF_Mo_at), (81, sF_Mo_setRow)]
set_option maxRecDepth 100000 in
theorem e_Mo_lay_0 (x1 : Int32) (x2 : Int32) (x3 : Int32) (h : Hp) : F_Mo_lay x1 x2 x3 h = exec1 OI S_Mo_lay 1 k_Mo_lay 0 [some (.ref 178), some (.int x1), some (.int x2), some (.int x3), none] [] h (runF OI S_Mo_lay [] 1 k_Mo_lay 400) :=
  (x_bI (f := sF_Mo_at) rfl (w_Mo_at _ _ _) fun v2 h1 => (x_ite (x_bV (f := sF_Mo_setRow) rfl (w_Mo_setRow _ _ _ _) fun h3 => rfl) rfl))
def k_Mo_tear : List Ent := [(0, .aload_n 0, 1, [], .null), (1, .iload_n 1, 1, [], .null), (2, .invokevirtual 91, 3, [78, 2, 1, 7], .null), (5, .istore_n 2, 1, [], .null), (6, .iload_n 2, 1, [], .null), (7, .ifCond .ge (5), 3, [12], .null), (10, .iload_n 2, 1, [], .null), (11, .ireturn, 1, [], .null), (12, .aload_n 0, 1, [], .null), (13, .getfield 13, 3, [7, 3, 1], .null), (16, .iload_n 1, 1, [], .null), (17, .bipush (-9), 2, [], .int (-9)), (19, .iastore, 1, [], .null), (20, .iconst 1, 1, [], .int (1)), (21, .ireturn, 1, [], .null)]
def F_Mo_tear (x1 : Int32) (h : Hp) : Res Hp :=
  bI (F_Mo_askedRow x1 h) fun v2 h1 =>
  if (0 : Int32) ≤ v2 then
  (bif okA 180 100 x1 then
  bH (hs h1 180 x1.toNatClampNeg (-9 : Int32)) fun h3 =>
  retI (1 : Int32) h3
  else none)
  else
  (retI v2 h1)
def sF_Mo_tear : List Value → Hp → Res Hp := fun as h => match as with | [.ref f0, .int x1] => (match Nat.beq f0 178 with | true => F_Mo_tear x1 h | false => none) | _ => none
theorem w_Mo_tear (x1 : Int32) (h : Hp) : sF_Mo_tear [.ref 178, .int x1] h = F_Mo_tear x1 h := rfl
def S_Mo_tear : Sem Hp := [(78, sF_Mo_askedRow)]
set_option maxRecDepth 100000 in
theorem e_Mo_tear_0 (x1 : Int32) (h : Hp) : F_Mo_tear x1 h = exec1 OI S_Mo_tear 1 k_Mo_tear 0 [some (.ref 178), some (.int x1), none] [] h (runF OI S_Mo_tear [] 1 k_Mo_tear 400) :=
  (x_bI (f := sF_Mo_askedRow) rfl (w_Mo_askedRow _ _) fun v2 h1 => (x_ite (x_bif (x_bH fun h3 => rfl)) rfl))
end
