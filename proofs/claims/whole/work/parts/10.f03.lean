noncomputable section
def k_Wa_mostApart : List Ent := [(0, .aload_n 0, 1, [], .null), (1, .iload_n 3, 1, [], .null), (2, .invokevirtual 58, 3, [233, 2, 1, 5], .null), (5, .iload_n 1, 1, [], .null), (6, .invokestatic 41, 3, [64, 1, 1], .null), (9, .iconst (-1), 1, [], .int (-1)), (10, .ixor, 1, [], .null), (11, .iand, 1, [], .null), (12, .iload_n 2, 1, [], .null), (13, .invokestatic 41, 3, [64, 1, 1], .null), (16, .iconst (-1), 1, [], .int (-1)), (17, .ixor, 1, [], .null), (18, .iand, 1, [], .null), (19, .istore 4, 2, [], .null), (21, .bipush (7), 2, [], .int (7)), (23, .istore 5, 2, [], .null), (25, .iconst 0, 1, [], .int (0)), (26, .istore 6, 2, [], .null), (28, .iload 6, 2, [], .null), (30, .bipush (7), 2, [], .int (7)), (32, .invokestatic 41, 3, [64, 1, 1], .null), (35, .if_icmp .ge (64), 3, [99], .null), (38, .iload 6, 2, [], .null), (40, .iload 4, 2, [], .null), (42, .iconst (-1), 1, [], .int (-1)), (43, .ixor, 1, [], .null), (44, .iand, 1, [], .null), (45, .ifCond .ne (7), 3, [52], .null), (48, .iconst 1, 1, [], .int (1)), (49, .goto (4), 3, [53], .null), (52, .iconst 0, 1, [], .int (0)), (53, .istore 7, 2, [], .null), (55, .iload 7, 2, [], .null), (57, .ifCond .eq (36), 3, [93], .null), (60, .iload 6, 2, [], .null), (62, .invokestatic 65, 3, [250, 1, 1], .null), (65, .iload 5, 2, [], .null), (67, .if_icmp .ge (26), 3, [93], .null), (70, .aload_n 0, 1, [], .null), (71, .iload_n 1, 1, [], .null), (72, .iload_n 2, 1, [], .null), (73, .iload 4, 2, [], .null), (75, .iload 6, 2, [], .null), (77, .iconst (-1), 1, [], .int (-1)), (78, .ixor, 1, [], .null), (79, .iand, 1, [], .null), (80, .invokevirtual 70, 3, [238, 4, 2, 5], .null), (83, .ifCond .ne (10), 3, [93], .null), (86, .iload 6, 2, [], .null), (88, .invokestatic 65, 3, [250, 1, 1], .null), (91, .istore 5, 2, [], .null), (93, .iinc 6 (1), 3, [], .int (1)), (96, .goto (-68), 3, [28], .null), (99, .iload 5, 2, [], .null), (101, .aload_n 0, 1, [], .null), (102, .getfield 28, 3, [5, 0, 1], .null), (105, .getfield 48, 3, [0, 6, 1], .null), (108, .iload_n 1, 1, [], .null), (109, .iaload, 1, [], .null), (110, .iload_n 2, 1, [], .null), (111, .invokestatic 54, 3, [65, 2, 2], .null), (114, .ifCond .eq (7), 3, [121], .null), (117, .iconst 1, 1, [], .int (1)), (118, .goto (4), 3, [122], .null), (121, .iconst 0, 1, [], .int (0)), (122, .iadd, 1, [], .null), (123, .ireturn, 1, [], .null)]
def Wa_mostApart_28    : (Int32 × Int32 × Int32 × Int32 × Int32 × Hp) → ((Int32 × Int32 × Int32 × Int32 × Int32 × Hp) → Res Hp) → Res Hp := fun s κ28 => match s with
  | (x1, x2, x4, x5, x6, h) =>
  bI (F_Bp_bit (7 : Int32) h) fun v2 h1 =>
  if v2 ≤ x6 then
  (bif okA 18 100 x1 then
  bI (F_Bp_has (hg h1 18 x1.toNatClampNeg) x2 h1) fun v4 h3 =>
  if v4 = (0 : Int32) then
  (retI (x5 + (0 : Int32)) h3)
  else
  (retI (x5 + (1 : Int32)) h3)
  else none)
  else
  (if (x6 &&& (x4 ^^^ (-1 : Int32))) = (0 : Int32) then
  (bI (F_Jint_bitCount x6 h1) fun v6 h5 =>
  if x5 ≤ v6 then
  (κ28 (x1, x2, x4, x5, (x6 + (1 : Int32)), h5))
  else
  (bI (F_Wa_leadsOver x1 x2 (x4 &&& (x6 ^^^ (-1 : Int32))) h5) fun v8 h7 =>
  if v8 = (0 : Int32) then
  (bI (F_Jint_bitCount x6 h7) fun v10 h9 =>
  κ28 (x1, x2, x4, v10, (x6 + (1 : Int32)), h9))
  else
  (κ28 (x1, x2, x4, x5, (x6 + (1 : Int32)), h7))))
  else
  (κ28 (x1, x2, x4, x5, (x6 + (1 : Int32)), h1)))
def F_Wa_mostApart (x1 : Int32) (x2 : Int32) (x3 : Int32) (h : Hp) : Res Hp :=
  bI (F_Wa_carriers x3 h) fun v2 h1 =>
  bI (F_Bp_bit x1 h1) fun v4 h3 =>
  bI (F_Bp_bit x2 h3) fun v6 h5 =>
  loopC (Wa_mostApart_28   ) FU (x1, x2, ((v2 &&& (v4 ^^^ (-1 : Int32))) &&& (v6 ^^^ (-1 : Int32))), (7 : Int32), (0 : Int32), h5)
def sF_Wa_mostApart : List Value → Hp → Res Hp := fun as h => match as with | [.ref f0, .int x1, .int x2, .int x3] => (match Nat.beq f0 64 with | true => F_Wa_mostApart x1 x2 x3 h | false => none) | _ => none
theorem w_Wa_mostApart (x1 : Int32) (x2 : Int32) (x3 : Int32) (h : Hp) : sF_Wa_mostApart [.ref 64, .int x1, .int x2, .int x3] h = F_Wa_mostApart x1 x2 x3 h := rfl
def S_Wa_mostApart : Sem Hp := [(233, sF_Wa_carriers), (64, sF_Bp_bit), (65, sF_Bp_has), (250, sF_Jint_bitCount), (238, sF_Wa_leadsOver)]
set_option maxRecDepth 100000 in
theorem e_Wa_mostApart_0 (x1 : Int32) (x2 : Int32) (x3 : Int32) (h : Hp) : F_Wa_mostApart x1 x2 x3 h = exec1 OI S_Wa_mostApart 1 k_Wa_mostApart 0 [some (.ref 64), some (.int x1), some (.int x2), some (.int x3), none, none, none, none] [] h (runF OI S_Wa_mostApart [(28, [0, 1, 2, 4, 5, 6], fun vs st h => match vs, st with | [.ref f0, .int x1, .int x2, .int x4, .int x5, .int x6], [] => (match Nat.beq f0 64 with | true => loopC (Wa_mostApart_28   ) FU (x1, x2, x4, x5, x6, h) | false => none) | _, _ => none)] 1 k_Wa_mostApart 400) :=
  (x_bI (f := sF_Wa_carriers) rfl (w_Wa_carriers _ _) fun v2 h1 => (x_bI (f := sF_Bp_bit) rfl (w_Bp_bit _ _) fun v4 h3 => (x_bI (f := sF_Bp_bit) rfl (w_Bp_bit _ _) fun v6 h5 => rfl)))
set_option maxRecDepth 100000 in
theorem e_Wa_mostApart_28 (κ28 : (Int32 × Int32 × Int32 × Int32 × Int32 × Hp) → Res Hp) (x1 : Int32) (x2 : Int32) (x4 : Int32) (x5 : Int32) (x6 : Int32)  (h : Hp) : Wa_mostApart_28    (x1, x2, x4, x5, x6, h) κ28 = exec1 OI S_Wa_mostApart 1 k_Wa_mostApart 28 [some (.ref 64), some (.int x1), some (.int x2), none, some (.int x4), some (.int x5), some (.int x6), none] [] h (runF OI S_Wa_mostApart [(28, [0, 1, 2, 4, 5, 6], fun vs st h => match vs, st with | [.ref f0, .int x1, .int x2, .int x4, .int x5, .int x6], [] => (match Nat.beq f0 64 with | true => κ28 (x1, x2, x4, x5, x6, h) | false => none) | _, _ => none)] 1 k_Wa_mostApart 400) :=
  (x_bI (f := sF_Bp_bit) rfl (w_Bp_bit _ _) fun v2 h1 => (x_ite (x_bif (x_bI (f := sF_Bp_has) rfl (w_Bp_has _ _ _) fun v4 h3 => (x_ite rfl rfl))) (x_ite (x_bI (f := sF_Jint_bitCount) rfl (w_Jint_bitCount _ _) fun v6 h5 => (x_ite rfl (x_bI (f := sF_Wa_leadsOver) rfl (w_Wa_leadsOver _ _ _ _) fun v8 h7 => (x_ite (x_bI (f := sF_Jint_bitCount) rfl (w_Jint_bitCount _ _) fun v10 h9 => rfl) rfl)))) rfl)))
def k_Bp_apart : List Ent := [(0, .aload_n 0, 1, [], .null), (1, .iload_n 1, 1, [], .null), (2, .iload_n 2, 1, [], .null), (3, .invokevirtual 155, 3, [58, 3, 2, 6], .null), (6, .ifCond .ne (10), 3, [16], .null), (9, .iload_n 3, 1, [], .null), (10, .invokestatic 168, 3, [56, 1, 2], .null), (13, .ifCond .eq (5), 3, [18], .null), (16, .iconst (-1), 1, [], .int (-1)), (17, .ireturn, 1, [], .null), (18, .aload_n 0, 1, [], .null), (19, .getfield 48, 3, [6, 7, 1], .null), (22, .iload_n 1, 1, [], .null), (23, .iload_n 2, 1, [], .null), (24, .iload_n 3, 1, [], .null), (25, .invokevirtual 245, 3, [237, 4, 1, 5], .null), (28, .ireturn, 1, [], .null)]
def F_Bp_apart (x1 : Int32) (x2 : Int32) (x3 : Int32) (h : Hp) : Res Hp :=
  bI (F_Bp_noPair x1 x2 h) fun v2 h1 =>
  if v2 = (0 : Int32) then
  (bI (F_Bp_noTongues x3 h1) fun v4 h3 =>
  if v4 = (0 : Int32) then
  (bI (F_Wa_mostApart x1 x2 x3 h3) fun v6 h5 =>
  retI v6 h5)
  else
  (retI (-1 : Int32) h3))
  else
  (retI (-1 : Int32) h1)
def sF_Bp_apart : List Value → Hp → Res Hp := fun as h => match as with | [.ref f0, .int x1, .int x2, .int x3] => (match Nat.beq f0 0 with | true => F_Bp_apart x1 x2 x3 h | false => none) | _ => none
theorem w_Bp_apart (x1 : Int32) (x2 : Int32) (x3 : Int32) (h : Hp) : sF_Bp_apart [.ref 0, .int x1, .int x2, .int x3] h = F_Bp_apart x1 x2 x3 h := rfl
def S_Bp_apart : Sem Hp := [(58, sF_Bp_noPair), (56, sF_Bp_noTongues), (237, sF_Wa_mostApart)]
set_option maxRecDepth 100000 in
theorem e_Bp_apart_0 (x1 : Int32) (x2 : Int32) (x3 : Int32) (h : Hp) : F_Bp_apart x1 x2 x3 h = exec1 OI S_Bp_apart 1 k_Bp_apart 0 [some (.ref 0), some (.int x1), some (.int x2), some (.int x3)] [] h (runF OI S_Bp_apart [] 1 k_Bp_apart 400) :=
  (x_bI (f := sF_Bp_noPair) rfl (w_Bp_noPair _ _ _) fun v2 h1 => (x_ite (x_bI (f := sF_Bp_noTongues) rfl (w_Bp_noTongues _ _) fun v4 h3 => (x_ite (x_bI (f := sF_Wa_mostApart) rfl (w_Wa_mostApart _ _ _ _) fun v6 h5 => rfl) rfl)) rfl))
def k_Wa_endsFrom : List Ent := [(0, .iload_n 2, 1, [], .null), (1, .iload_n 1, 1, [], .null), (2, .invokestatic 41, 3, [64, 1, 1], .null), (5, .iconst (-1), 1, [], .int (-1)), (6, .ixor, 1, [], .null), (7, .iand, 1, [], .null), (8, .istore_n 3, 1, [], .null), (9, .iload_n 3, 1, [], .null), (10, .aload_n 0, 1, [], .null), (11, .getfield 28, 3, [5, 0, 1], .null), (14, .iconst 4, 1, [], .int (4)), (15, .invokevirtual 45, 3, [180, 2, 1, 0], .null), (18, .iconst (-1), 1, [], .int (-1)), (19, .ixor, 1, [], .null), (20, .iand, 1, [], .null), (21, .istore 4, 2, [], .null), (23, .aload_n 0, 1, [], .null), (24, .getfield 28, 3, [5, 0, 1], .null), (27, .getfield 48, 3, [0, 6, 1], .null), (30, .iload_n 1, 1, [], .null), (31, .iaload, 1, [], .null), (32, .istore 5, 2, [], .null), (34, .iload 5, 2, [], .null), (36, .iload_n 3, 1, [], .null), (37, .iand, 1, [], .null), (38, .istore 6, 2, [], .null), (40, .iload 6, 2, [], .null), (42, .istore 7, 2, [], .null), (44, .iconst 0, 1, [], .int (0)), (45, .istore 8, 2, [], .null), (47, .iload 8, 2, [], .null), (49, .bipush (7), 2, [], .int (7)), (51, .if_icmp .ge (48), 3, [99], .null), (54, .iload 6, 2, [], .null), (56, .ifCond .eq (43), 3, [99], .null), (59, .aload_n 0, 1, [], .null), (60, .iload 6, 2, [], .null), (62, .invokevirtual 51, 3, [235, 2, 1, 5], .null), (65, .istore 9, 2, [], .null), (67, .iload 5, 2, [], .null), (69, .iload 9, 2, [], .null), (71, .ior, 1, [], .null), (72, .istore 5, 2, [], .null), (74, .iload 9, 2, [], .null), (76, .iload 4, 2, [], .null), (78, .iand, 1, [], .null), (79, .iload 7, 2, [], .null), (81, .iconst (-1), 1, [], .int (-1)), (82, .ixor, 1, [], .null), (83, .iand, 1, [], .null), (84, .istore 6, 2, [], .null), (86, .iload 7, 2, [], .null), (88, .iload 6, 2, [], .null), (90, .ior, 1, [], .null), (91, .istore 7, 2, [], .null), (93, .iinc 8 (1), 3, [], .int (1)), (96, .goto (-49), 3, [47], .null), (99, .iload 5, 2, [], .null), (101, .iload_n 1, 1, [], .null), (102, .invokestatic 41, 3, [64, 1, 1], .null), (105, .iconst (-1), 1, [], .int (-1)), (106, .ixor, 1, [], .null), (107, .iand, 1, [], .null), (108, .ireturn, 1, [], .null)]
def Wa_endsFrom_47    : (Int32 × Int32 × Int32 × Int32 × Int32 × Int32 × Hp) → ((Int32 × Int32 × Int32 × Int32 × Int32 × Int32 × Hp) → Res Hp) → Res Hp := fun s κ47 => match s with
  | (x1, x4, x5, x6, x7, x8, h) =>
  if (7 : Int32) ≤ x8 then
  (bI (F_Bp_bit x1 h) fun v2 h1 =>
  retI (x5 &&& (v2 ^^^ (-1 : Int32))) h1)
  else
  (if x6 = (0 : Int32) then
  (bI (F_Bp_bit x1 h) fun v4 h3 =>
  retI (x5 &&& (v4 ^^^ (-1 : Int32))) h3)
  else
  (bI (F_Wa_metByAny x6 h) fun v6 h5 =>
  κ47 (x1, x4, (x5 ||| v6), ((v6 &&& x4) &&& (x7 ^^^ (-1 : Int32))), (x7 ||| ((v6 &&& x4) &&& (x7 ^^^ (-1 : Int32)))), (x8 + (1 : Int32)), h5)))
def F_Wa_endsFrom (x1 : Int32) (x2 : Int32) (h : Hp) : Res Hp :=
  bI (F_Bp_bit x1 h) fun v2 h1 =>
  bI (F_La_ofKind 3 (4 : Int32) h1) fun v4 h3 =>
  bif okA 18 100 x1 then
  loopC (Wa_endsFrom_47   ) FU (x1, ((x2 &&& (v2 ^^^ (-1 : Int32))) &&& (v4 ^^^ (-1 : Int32))), (hg h3 18 x1.toNatClampNeg), ((hg h3 18 x1.toNatClampNeg) &&& (x2 &&& (v2 ^^^ (-1 : Int32)))), ((hg h3 18 x1.toNatClampNeg) &&& (x2 &&& (v2 ^^^ (-1 : Int32)))), (0 : Int32), h3)
  else none
def sF_Wa_endsFrom : List Value → Hp → Res Hp := fun as h => match as with | [.ref f0, .int x1, .int x2] => (match Nat.beq f0 64 with | true => F_Wa_endsFrom x1 x2 h | false => none) | _ => none
theorem w_Wa_endsFrom (x1 : Int32) (x2 : Int32) (h : Hp) : sF_Wa_endsFrom [.ref 64, .int x1, .int x2] h = F_Wa_endsFrom x1 x2 h := rfl
def S_Wa_endsFrom : Sem Hp := [(64, sF_Bp_bit), (180, sF_La_ofKind), (235, sF_Wa_metByAny)]
set_option maxRecDepth 100000 in
theorem e_Wa_endsFrom_0 (x1 : Int32) (x2 : Int32) (h : Hp) : F_Wa_endsFrom x1 x2 h = exec1 OI S_Wa_endsFrom 1 k_Wa_endsFrom 0 [some (.ref 64), some (.int x1), some (.int x2), none, none, none, none, none, none, none] [] h (runF OI S_Wa_endsFrom [(47, [0, 1, 4, 5, 6, 7, 8], fun vs st h => match vs, st with | [.ref f0, .int x1, .int x4, .int x5, .int x6, .int x7, .int x8], [] => (match Nat.beq f0 64 with | true => loopC (Wa_endsFrom_47   ) FU (x1, x4, x5, x6, x7, x8, h) | false => none) | _, _ => none)] 1 k_Wa_endsFrom 400) :=
  (x_bI (f := sF_Bp_bit) rfl (w_Bp_bit _ _) fun v2 h1 => (x_bI (f := sF_La_ofKind) rfl (w_La_ofKind _ _ _) fun v4 h3 => (x_bif rfl)))
set_option maxRecDepth 100000 in
theorem e_Wa_endsFrom_47 (κ47 : (Int32 × Int32 × Int32 × Int32 × Int32 × Int32 × Hp) → Res Hp) (x1 : Int32) (x4 : Int32) (x5 : Int32) (x6 : Int32) (x7 : Int32) (x8 : Int32)  (h : Hp) : Wa_endsFrom_47    (x1, x4, x5, x6, x7, x8, h) κ47 = exec1 OI S_Wa_endsFrom 1 k_Wa_endsFrom 47 [some (.ref 64), some (.int x1), none, none, some (.int x4), some (.int x5), some (.int x6), some (.int x7), some (.int x8), none] [] h (runF OI S_Wa_endsFrom [(47, [0, 1, 4, 5, 6, 7, 8], fun vs st h => match vs, st with | [.ref f0, .int x1, .int x4, .int x5, .int x6, .int x7, .int x8], [] => (match Nat.beq f0 64 with | true => κ47 (x1, x4, x5, x6, x7, x8, h) | false => none) | _, _ => none)] 1 k_Wa_endsFrom 400) :=
  (x_ite (x_bI (f := sF_Bp_bit) rfl (w_Bp_bit _ _) fun v2 h1 => rfl) (x_ite (x_bI (f := sF_Bp_bit) rfl (w_Bp_bit _ _) fun v4 h3 => rfl) (x_bI (f := sF_Wa_metByAny) rfl (w_Wa_metByAny _ _) fun v6 h5 => rfl)))
def k_Bp_needs : List Ent := [(0, .aload_n 0, 1, [], .null), (1, .iload_n 1, 1, [], .null), (2, .iload_n 2, 1, [], .null), (3, .invokevirtual 155, 3, [58, 3, 2, 6], .null), (6, .ifCond .ne (10), 3, [16], .null), (9, .iload_n 3, 1, [], .null), (10, .invokestatic 168, 3, [56, 1, 2], .null), (13, .ifCond .eq (5), 3, [18], .null), (16, .iconst (-1), 1, [], .int (-1)), (17, .ireturn, 1, [], .null), (18, .aload_n 0, 1, [], .null), (19, .getfield 48, 3, [6, 7, 1], .null), (22, .iload_n 3, 1, [], .null), (23, .invokevirtual 249, 3, [233, 2, 1, 5], .null), (26, .istore 4, 2, [], .null), (28, .aload_n 0, 1, [], .null), (29, .getfield 48, 3, [6, 7, 1], .null), (32, .iload_n 1, 1, [], .null), (33, .iload 4, 2, [], .null), (35, .invokevirtual 252, 3, [234, 3, 1, 5], .null), (38, .iload_n 2, 1, [], .null), (39, .invokestatic 201, 3, [65, 2, 2], .null), (42, .ifCond .ne (5), 3, [47], .null), (45, .iconst 0, 1, [], .int (0)), (46, .ireturn, 1, [], .null), (47, .iconst 0, 1, [], .int (0)), (48, .istore 5, 2, [], .null), (50, .iconst 0, 1, [], .int (0)), (51, .istore 6, 2, [], .null), (53, .iload 6, 2, [], .null), (55, .aload_n 0, 1, [], .null), (56, .getfield 21, 3, [6, 2, 1], .null), (59, .getfield 127, 3, [0, 8, 0], .null), (62, .if_icmp .ge (56), 3, [118], .null), (65, .iload 6, 2, [], .null), (67, .iload_n 1, 1, [], .null), (68, .if_icmp .eq (44), 3, [112], .null), (71, .iload 6, 2, [], .null), (73, .iload_n 2, 1, [], .null), (74, .if_icmp .eq (38), 3, [112], .null), (77, .aload_n 0, 1, [], .null), (78, .getfield 48, 3, [6, 7, 1], .null), (81, .iload_n 1, 1, [], .null), (82, .iload 4, 2, [], .null), (84, .iload 6, 2, [], .null), (86, .invokestatic 152, 3, [64, 1, 1], .null), (89, .iconst (-1), 1, [], .int (-1)), (90, .ixor, 1, [], .null), (91, .iand, 1, [], .null), (92, .invokevirtual 252, 3, [234, 3, 1, 5], .null), (95, .iload_n 2, 1, [], .null), (96, .invokestatic 201, 3, [65, 2, 2], .null), (99, .ifCond .ne (13), 3, [112], .null), (102, .iload 5, 2, [], .null), (104, .iload 6, 2, [], .null), (106, .invokestatic 152, 3, [64, 1, 1], .null), (109, .ior, 1, [], .null), (110, .istore 5, 2, [], .null), (112, .iinc 6 (1), 3, [], .int (1)), (115, .goto (-62), 3, [53], .null), (118, .iload 5, 2, [], .null), (120, .ireturn, 1, [], .null)]
def Bp_needs_53    : (Int32 × Int32 × Int32 × Int32 × Int32 × Hp) → ((Int32 × Int32 × Int32 × Int32 × Int32 × Hp) → Res Hp) → Res Hp := fun s κ53 => match s with
  | (x1, x2, x4, x5, x6, h) =>
  if (hg h 3 8) ≤ x6 then
  (retI x5 h)
  else
  (if x6 = x1 then
  (κ53 (x1, x2, x4, x5, (x6 + (1 : Int32)), h))
  else
  (if x6 = x2 then
  (κ53 (x1, x2, x4, x5, (x6 + (1 : Int32)), h))
  else
  (bI (F_Bp_bit x6 h) fun v2 h1 =>
  bI (F_Wa_endsFrom x1 (x4 &&& (v2 ^^^ (-1 : Int32))) h1) fun v4 h3 =>
  bI (F_Bp_has v4 x2 h3) fun v6 h5 =>
  if v6 = (0 : Int32) then
  (bI (F_Bp_bit x6 h5) fun v8 h7 =>
  κ53 (x1, x2, x4, (x5 ||| v8), (x6 + (1 : Int32)), h7))
  else
  (κ53 (x1, x2, x4, x5, (x6 + (1 : Int32)), h5)))))
def F_Bp_needs (x1 : Int32) (x2 : Int32) (x3 : Int32) (h : Hp) : Res Hp :=
  bI (F_Bp_noPair x1 x2 h) fun v2 h1 =>
  if v2 = (0 : Int32) then
  (bI (F_Bp_noTongues x3 h1) fun v4 h3 =>
  if v4 = (0 : Int32) then
  (bI (F_Wa_carriers x3 h3) fun v6 h5 =>
  bI (F_Wa_endsFrom x1 v6 h5) fun v8 h7 =>
  bI (F_Bp_has v8 x2 h7) fun v10 h9 =>
  if v10 = (0 : Int32) then
  (retI (0 : Int32) h9)
  else
  (loopC (Bp_needs_53   ) FU (x1, x2, v6, (0 : Int32), (0 : Int32), h9)))
  else
  (retI (-1 : Int32) h3))
  else
  (retI (-1 : Int32) h1)
def sF_Bp_needs : List Value → Hp → Res Hp := fun as h => match as with | [.ref f0, .int x1, .int x2, .int x3] => (match Nat.beq f0 0 with | true => F_Bp_needs x1 x2 x3 h | false => none) | _ => none
theorem w_Bp_needs (x1 : Int32) (x2 : Int32) (x3 : Int32) (h : Hp) : sF_Bp_needs [.ref 0, .int x1, .int x2, .int x3] h = F_Bp_needs x1 x2 x3 h := rfl
def S_Bp_needs : Sem Hp := [(58, sF_Bp_noPair), (56, sF_Bp_noTongues), (233, sF_Wa_carriers), (234, sF_Wa_endsFrom), (65, sF_Bp_has), (64, sF_Bp_bit)]
set_option maxRecDepth 100000 in
theorem e_Bp_needs_0 (x1 : Int32) (x2 : Int32) (x3 : Int32) (h : Hp) : F_Bp_needs x1 x2 x3 h = exec1 OI S_Bp_needs 1 k_Bp_needs 0 [some (.ref 0), some (.int x1), some (.int x2), some (.int x3), none, none, none] [] h (runF OI S_Bp_needs [(53, [0, 1, 2, 4, 5, 6], fun vs st h => match vs, st with | [.ref f0, .int x1, .int x2, .int x4, .int x5, .int x6], [] => (match Nat.beq f0 0 with | true => loopC (Bp_needs_53   ) FU (x1, x2, x4, x5, x6, h) | false => none) | _, _ => none)] 1 k_Bp_needs 400) :=
  (x_bI (f := sF_Bp_noPair) rfl (w_Bp_noPair _ _ _) fun v2 h1 => (x_ite (x_bI (f := sF_Bp_noTongues) rfl (w_Bp_noTongues _ _) fun v4 h3 => (x_ite (x_bI (f := sF_Wa_carriers) rfl (w_Wa_carriers _ _) fun v6 h5 => (x_bI (f := sF_Wa_endsFrom) rfl (w_Wa_endsFrom _ _ _) fun v8 h7 => (x_bI (f := sF_Bp_has) rfl (w_Bp_has _ _ _) fun v10 h9 => (x_ite rfl rfl)))) rfl)) rfl))
set_option maxRecDepth 100000 in
theorem e_Bp_needs_53 (κ53 : (Int32 × Int32 × Int32 × Int32 × Int32 × Hp) → Res Hp) (x1 : Int32) (x2 : Int32) (x4 : Int32) (x5 : Int32) (x6 : Int32)  (h : Hp) : Bp_needs_53    (x1, x2, x4, x5, x6, h) κ53 = exec1 OI S_Bp_needs 1 k_Bp_needs 53 [some (.ref 0), some (.int x1), some (.int x2), none, some (.int x4), some (.int x5), some (.int x6)] [] h (runF OI S_Bp_needs [(53, [0, 1, 2, 4, 5, 6], fun vs st h => match vs, st with | [.ref f0, .int x1, .int x2, .int x4, .int x5, .int x6], [] => (match Nat.beq f0 0 with | true => κ53 (x1, x2, x4, x5, x6, h) | false => none) | _, _ => none)] 1 k_Bp_needs 400) :=
  (x_ite rfl (x_ite rfl (x_ite rfl (x_bI (f := sF_Bp_bit) rfl (w_Bp_bit _ _) fun v2 h1 => (x_bI (f := sF_Wa_endsFrom) rfl (w_Wa_endsFrom _ _ _) fun v4 h3 => (x_bI (f := sF_Bp_has) rfl (w_Bp_has _ _ _) fun v6 h5 => (x_ite (x_bI (f := sF_Bp_bit) rfl (w_Bp_bit _ _) fun v8 h7 => rfl) rfl)))))))
def k_Wa_priceByForgetting : List Ent := [(0, .iconst 0, 1, [], .int (0)), (1, .istore_n 2, 1, [], .null), (2, .iload_n 2, 1, [], .null), (3, .aload_n 0, 1, [], .null), (4, .getfield 28, 3, [5, 0, 1], .null), (7, .getfield 32, 3, [0, 8, 0], .null), (10, .if_icmp .ge (27), 3, [37], .null), (13, .aload_n 0, 1, [], .null), (14, .getfield 9, 3, [5, 1, 1], .null), (17, .iload_n 2, 1, [], .null), (18, .aload_n 0, 1, [], .null), (19, .getfield 28, 3, [5, 0, 1], .null), (22, .iload_n 2, 1, [], .null), (23, .iload_n 1, 1, [], .null), (24, .invokevirtual 37, 3, [182, 3, 1, 0], .null), (27, .invokestatic 65, 3, [250, 1, 1], .null), (30, .iastore, 1, [], .null), (31, .iinc 2 (1), 3, [], .int (1)), (34, .goto (-32), 3, [2], .null), (37, .return_, 1, [], .null)]
def Wa_priceByForgetting_2    : (Int32 × Int32 × Hp) → ((Int32 × Int32 × Hp) → Res Hp) → Res Hp := fun s κ2 => match s with
  | (x1, x2, h) =>
  if (hg h 3 8) ≤ x2 then
  (retV h)
  else
  (bI (F_La_bars 3 x2 x1 h) fun v2 h1 =>
  bI (F_Jint_bitCount v2 h1) fun v4 h3 =>
  bif okA 65 100 x2 then
  bH (hs h3 65 x2.toNatClampNeg v4) fun h5 =>
  κ2 (x1, (x2 + (1 : Int32)), h5)
  else none)
def F_Wa_priceByForgetting (x1 : Int32) (h : Hp) : Res Hp :=
  loopC (Wa_priceByForgetting_2   ) FU (x1, (0 : Int32), h)
def sF_Wa_priceByForgetting : List Value → Hp → Res Hp := fun as h => match as with | [.ref f0, .int x1] => (match Nat.beq f0 64 with | true => F_Wa_priceByForgetting x1 h | false => none) | _ => none
theorem w_Wa_priceByForgetting (x1 : Int32) (h : Hp) : sF_Wa_priceByForgetting [.ref 64, .int x1] h = F_Wa_priceByForgetting x1 h := rfl
def S_Wa_priceByForgetting : Sem Hp := [(182, sF_La_bars), (250, sF_Jint_bitCount)]
set_option maxRecDepth 100000 in
theorem e_Wa_priceByForgetting_0 (x1 : Int32) (h : Hp) : F_Wa_priceByForgetting x1 h = exec1 OI S_Wa_priceByForgetting 0 k_Wa_priceByForgetting 0 [some (.ref 64), some (.int x1), none] [] h (runF OI S_Wa_priceByForgetting [(2, [0, 1, 2], fun vs st h => match vs, st with | [.ref f0, .int x1, .int x2], [] => (match Nat.beq f0 64 with | true => loopC (Wa_priceByForgetting_2   ) FU (x1, x2, h) | false => none) | _, _ => none)] 0 k_Wa_priceByForgetting 400) :=
  rfl
set_option maxRecDepth 100000 in
theorem e_Wa_priceByForgetting_2 (κ2 : (Int32 × Int32 × Hp) → Res Hp) (x1 : Int32) (x2 : Int32)  (h : Hp) : Wa_priceByForgetting_2    (x1, x2, h) κ2 = exec1 OI S_Wa_priceByForgetting 0 k_Wa_priceByForgetting 2 [some (.ref 64), some (.int x1), some (.int x2)] [] h (runF OI S_Wa_priceByForgetting [(2, [0, 1, 2], fun vs st h => match vs, st with | [.ref f0, .int x1, .int x2], [] => (match Nat.beq f0 64 with | true => κ2 (x1, x2, h) | false => none) | _, _ => none)] 0 k_Wa_priceByForgetting 400) :=
  (x_ite rfl (x_bI (f := sF_La_bars) rfl (w_La_bars _ _ _ _) fun v2 h1 => (x_bI (f := sF_Jint_bitCount) rfl (w_Jint_bitCount _ _) fun v4 h3 => (x_bif (x_bH fun h5 => rfl)))))
def k_Wa_whoPay : List Ent := [(0, .iconst 0, 1, [], .int (0)), (1, .istore_n 1, 1, [], .null), (2, .iconst 1, 1, [], .int (1)), (3, .istore_n 2, 1, [], .null), (4, .iload_n 2, 1, [], .null), (5, .aload_n 0, 1, [], .null), (6, .getfield 25, 3, [5, 5, 0], .null), (9, .iconst 1, 1, [], .int (1)), (10, .isub, 1, [], .null), (11, .if_icmp .ge (35), 3, [46], .null), (14, .aload_n 0, 1, [], .null), (15, .getfield 9, 3, [5, 1, 1], .null), (18, .aload_n 0, 1, [], .null), (19, .getfield 22, 3, [5, 4, 1], .null), (22, .iload_n 2, 1, [], .null), (23, .iaload, 1, [], .null), (24, .iaload, 1, [], .null), (25, .ifCond .le (15), 3, [40], .null), (28, .iload_n 1, 1, [], .null), (29, .aload_n 0, 1, [], .null), (30, .getfield 22, 3, [5, 4, 1], .null), (33, .iload_n 2, 1, [], .null), (34, .iaload, 1, [], .null), (35, .invokestatic 41, 3, [64, 1, 1], .null), (38, .ior, 1, [], .null), (39, .istore_n 1, 1, [], .null), (40, .iinc 2 (1), 3, [], .int (1)), (43, .goto (-39), 3, [4], .null), (46, .iload_n 1, 1, [], .null), (47, .ireturn, 1, [], .null)]
def Wa_whoPay_4    : (Int32 × Int32 × Hp) → ((Int32 × Int32 × Hp) → Res Hp) → Res Hp := fun s κ4 => match s with
  | (x1, x2, h) =>
  if ((hg h 64 5) - (1 : Int32)) ≤ x2 then
  (retI x1 h)
  else
  (bif okA 67 100 x2 then
  bif okA 65 100 (hg h 67 x2.toNatClampNeg) then
  if (hg h 65 (hg h 67 x2.toNatClampNeg).toNatClampNeg) ≤ (0 : Int32) then
  (κ4 (x1, (x2 + (1 : Int32)), h))
  else
  (bif okA 67 100 x2 then
  bI (F_Bp_bit (hg h 67 x2.toNatClampNeg) h) fun v2 h1 =>
  κ4 ((x1 ||| v2), (x2 + (1 : Int32)), h1)
  else none)
  else none
  else none)
def F_Wa_whoPay  (h : Hp) : Res Hp :=
  loopC (Wa_whoPay_4   ) FU ((0 : Int32), (1 : Int32), h)
def sF_Wa_whoPay : List Value → Hp → Res Hp := fun as h => match as with | [.ref f0] => (match Nat.beq f0 64 with | true => F_Wa_whoPay  h | false => none) | _ => none
theorem w_Wa_whoPay  (h : Hp) : sF_Wa_whoPay [.ref 64] h = F_Wa_whoPay  h := rfl
def S_Wa_whoPay : Sem Hp := [(64, sF_Bp_bit)]
set_option maxRecDepth 100000 in
theorem e_Wa_whoPay_0  (h : Hp) : F_Wa_whoPay  h = exec1 OI S_Wa_whoPay 1 k_Wa_whoPay 0 [some (.ref 64), none, none] [] h (runF OI S_Wa_whoPay [(4, [0, 1, 2], fun vs st h => match vs, st with | [.ref f0, .int x1, .int x2], [] => (match Nat.beq f0 64 with | true => loopC (Wa_whoPay_4   ) FU (x1, x2, h) | false => none) | _, _ => none)] 1 k_Wa_whoPay 400) :=
  rfl
set_option maxRecDepth 100000 in
theorem e_Wa_whoPay_4 (κ4 : (Int32 × Int32 × Hp) → Res Hp) (x1 : Int32) (x2 : Int32)  (h : Hp) : Wa_whoPay_4    (x1, x2, h) κ4 = exec1 OI S_Wa_whoPay 1 k_Wa_whoPay 4 [some (.ref 64), some (.int x1), some (.int x2)] [] h (runF OI S_Wa_whoPay [(4, [0, 1, 2], fun vs st h => match vs, st with | [.ref f0, .int x1, .int x2], [] => (match Nat.beq f0 64 with | true => κ4 (x1, x2, h) | false => none) | _, _ => none)] 1 k_Wa_whoPay 400) :=
  (x_ite rfl (x_bif (x_bif (x_ite rfl (x_bif (x_bI (f := sF_Bp_bit) rfl (w_Bp_bit _ _) fun v2 h1 => rfl))))))
def k_Wa_wholePrice : List Ent := [(0, .iconst 0, 1, [], .int (0)), (1, .istore_n 1, 1, [], .null), (2, .iconst 1, 1, [], .int (1)), (3, .istore_n 2, 1, [], .null), (4, .iload_n 2, 1, [], .null), (5, .aload_n 0, 1, [], .null), (6, .getfield 25, 3, [5, 5, 0], .null), (9, .iconst 1, 1, [], .int (1)), (10, .isub, 1, [], .null), (11, .if_icmp .ge (23), 3, [34], .null), (14, .iload_n 1, 1, [], .null), (15, .aload_n 0, 1, [], .null), (16, .getfield 9, 3, [5, 1, 1], .null), (19, .aload_n 0, 1, [], .null), (20, .getfield 22, 3, [5, 4, 1], .null), (23, .iload_n 2, 1, [], .null), (24, .iaload, 1, [], .null), (25, .iaload, 1, [], .null), (26, .iadd, 1, [], .null), (27, .istore_n 1, 1, [], .null), (28, .iinc 2 (1), 3, [], .int (1)), (31, .goto (-27), 3, [4], .null), (34, .iload_n 1, 1, [], .null), (35, .ireturn, 1, [], .null)]
def Wa_wholePrice_4    : (Int32 × Int32 × Hp) → ((Int32 × Int32 × Hp) → Res Hp) → Res Hp := fun s κ4 => match s with
  | (x1, x2, h) =>
  if ((hg h 64 5) - (1 : Int32)) ≤ x2 then
  (retI x1 h)
  else
  (bif okA 67 100 x2 then
  bif okA 65 100 (hg h 67 x2.toNatClampNeg) then
  κ4 ((x1 + (hg h 65 (hg h 67 x2.toNatClampNeg).toNatClampNeg)), (x2 + (1 : Int32)), h)
  else none
  else none)
def F_Wa_wholePrice  (h : Hp) : Res Hp :=
  loopC (Wa_wholePrice_4   ) FU ((0 : Int32), (1 : Int32), h)
def sF_Wa_wholePrice : List Value → Hp → Res Hp := fun as h => match as with | [.ref f0] => (match Nat.beq f0 64 with | true => F_Wa_wholePrice  h | false => none) | _ => none
theorem w_Wa_wholePrice  (h : Hp) : sF_Wa_wholePrice [.ref 64] h = F_Wa_wholePrice  h := rfl
def S_Wa_wholePrice : Sem Hp := []
set_option maxRecDepth 100000 in
theorem e_Wa_wholePrice_0  (h : Hp) : F_Wa_wholePrice  h = exec1 OI S_Wa_wholePrice 1 k_Wa_wholePrice 0 [some (.ref 64), none, none] [] h (runF OI S_Wa_wholePrice [(4, [0, 1, 2], fun vs st h => match vs, st with | [.ref f0, .int x1, .int x2], [] => (match Nat.beq f0 64 with | true => loopC (Wa_wholePrice_4   ) FU (x1, x2, h) | false => none) | _, _ => none)] 1 k_Wa_wholePrice 400) :=
  rfl
set_option maxRecDepth 100000 in
theorem e_Wa_wholePrice_4 (κ4 : (Int32 × Int32 × Hp) → Res Hp) (x1 : Int32) (x2 : Int32)  (h : Hp) : Wa_wholePrice_4    (x1, x2, h) κ4 = exec1 OI S_Wa_wholePrice 1 k_Wa_wholePrice 4 [some (.ref 64), some (.int x1), some (.int x2)] [] h (runF OI S_Wa_wholePrice [(4, [0, 1, 2], fun vs st h => match vs, st with | [.ref f0, .int x1, .int x2], [] => (match Nat.beq f0 64 with | true => κ4 (x1, x2, h) | false => none) | _, _ => none)] 1 k_Wa_wholePrice 400) :=
  (x_ite rfl (x_bif (x_bif rfl)))
def k_Bp_forget : List Ent := [(0, .aload_n 0, 1, [], .null), (1, .iload_n 1, 1, [], .null), (2, .iload_n 2, 1, [], .null), (3, .invokevirtual 155, 3, [58, 3, 2, 6], .null), (6, .ifCond .ne (10), 3, [16], .null), (9, .iload_n 3, 1, [], .null), (10, .invokestatic 168, 3, [56, 1, 2], .null), (13, .ifCond .eq (5), 3, [18], .null), (16, .iconst (-1), 1, [], .int (-1)), (17, .ireturn, 1, [], .null), (18, .aload_n 0, 1, [], .null), (19, .getfield 48, 3, [6, 7, 1], .null), (22, .iload_n 3, 1, [], .null), (23, .invokevirtual 255, 3, [240, 2, 0, 5], .null), (26, .aload_n 0, 1, [], .null), (27, .getfield 48, 3, [6, 7, 1], .null), (30, .iload_n 1, 1, [], .null), (31, .iload_n 2, 1, [], .null), (32, .invokevirtual 235, 3, [241, 3, 2, 5], .null), (35, .ifCond .ne (6), 3, [41], .null), (38, .bipush (-9), 2, [], .int (-9)), (40, .ireturn, 1, [], .null), (41, .aload_n 0, 1, [], .null), (42, .aload_n 0, 1, [], .null), (43, .getfield 48, 3, [6, 7, 1], .null), (46, .invokevirtual 258, 3, [247, 1, 1, 5], .null), (49, .putfield 69, 3, [6, 11, 0], .null), (52, .aload_n 0, 1, [], .null), (53, .getfield 48, 3, [6, 7, 1], .null), (56, .invokevirtual 261, 3, [246, 1, 1, 5], .null), (59, .ireturn, 1, [], .null)]
def F_Bp_forget (x1 : Int32) (x2 : Int32) (x3 : Int32) (h : Hp) : Res Hp :=
  bI (F_Bp_noPair x1 x2 h) fun v2 h1 =>
  if v2 = (0 : Int32) then
  (bI (F_Bp_noTongues x3 h1) fun v4 h3 =>
  if v4 = (0 : Int32) then
  (bV (F_Wa_priceByForgetting x3 h3) fun h5 =>
  bI (F_Wa_find x1 x2 h5) fun v7 h6 =>
  if v7 = (0 : Int32) then
  (retI (-9 : Int32) h6)
  else
  (bI (F_Wa_whoPay  h6) fun v9 h8 =>
  bH (hs h8 0 11 v9) fun h10 =>
  bI (F_Wa_wholePrice  h10) fun v12 h11 =>
  retI v12 h11))
  else
  (retI (-1 : Int32) h3))
  else
  (retI (-1 : Int32) h1)
def sF_Bp_forget : List Value → Hp → Res Hp := fun as h => match as with | [.ref f0, .int x1, .int x2, .int x3] => (match Nat.beq f0 0 with | true => F_Bp_forget x1 x2 x3 h | false => none) | _ => none
theorem w_Bp_forget (x1 : Int32) (x2 : Int32) (x3 : Int32) (h : Hp) : sF_Bp_forget [.ref 0, .int x1, .int x2, .int x3] h = F_Bp_forget x1 x2 x3 h := rfl
def S_Bp_forget : Sem Hp := [(58, sF_Bp_noPair), (56, sF_Bp_noTongues), (240, sF_Wa_priceByForgetting), (241, sF_Wa_find), (247, sF_Wa_whoPay), (246, sF_Wa_wholePrice)]
set_option maxRecDepth 100000 in
theorem e_Bp_forget_0 (x1 : Int32) (x2 : Int32) (x3 : Int32) (h : Hp) : F_Bp_forget x1 x2 x3 h = exec1 OI S_Bp_forget 1 k_Bp_forget 0 [some (.ref 0), some (.int x1), some (.int x2), some (.int x3)] [] h (runF OI S_Bp_forget [] 1 k_Bp_forget 400) :=
  (x_bI (f := sF_Bp_noPair) rfl (w_Bp_noPair _ _ _) fun v2 h1 => (x_ite (x_bI (f := sF_Bp_noTongues) rfl (w_Bp_noTongues _ _) fun v4 h3 => (x_ite (x_bV (f := sF_Wa_priceByForgetting) rfl (w_Wa_priceByForgetting _ _) fun h5 => (x_bI (f := sF_Wa_find) rfl (w_Wa_find _ _ _) fun v7 h6 => (x_ite rfl (x_bI (f := sF_Wa_whoPay) rfl (w_Wa_whoPay  _) fun v9 h8 => (x_bH fun h10 => (x_bI (f := sF_Wa_wholePrice) rfl (w_Wa_wholePrice  _) fun v12 h11 => rfl)))))) rfl)) rfl))
def k_La_knowers : List Ent := [(0, .iconst 0, 1, [], .int (0)), (1, .istore_n 2, 1, [], .null), (2, .iconst 0, 1, [], .int (0)), (3, .istore_n 3, 1, [], .null), (4, .iload_n 3, 1, [], .null), (5, .aload_n 0, 1, [], .null), (6, .getfield 41, 3, [0, 8, 0], .null), (9, .if_icmp .ge (29), 3, [38], .null), (12, .aload_n 0, 1, [], .null), (13, .getfield 15, 3, [0, 1, 1], .null), (16, .iload_n 3, 1, [], .null), (17, .iaload, 1, [], .null), (18, .iload_n 1, 1, [], .null), (19, .invokestatic 86, 3, [65, 2, 2], .null), (22, .ifCond .eq (10), 3, [32], .null), (25, .iload_n 2, 1, [], .null), (26, .iload_n 3, 1, [], .null), (27, .invokestatic 72, 3, [64, 1, 1], .null), (30, .ior, 1, [], .null), (31, .istore_n 2, 1, [], .null), (32, .iinc 3 (1), 3, [], .int (1)), (35, .goto (-31), 3, [4], .null), (38, .iload_n 2, 1, [], .null), (39, .ireturn, 1, [], .null)]
def La_knowers_4    : (Nat × Int32 × Int32 × Int32 × Hp) → ((Nat × Int32 × Int32 × Int32 × Hp) → Res Hp) → Res Hp := fun s κ4 => match s with
  | (o0, x1, x2, x3, h) =>
  bif okF o0 0 8 0 then
  if (hg h o0 8) ≤ x3 then
  (retI x2 h)
  else
  (bif okF o0 0 1 1 then
  bif okA (shR o0 1) 100 x3 then
  bI (F_Bp_has (hg h (shR o0 1) x3.toNatClampNeg) x1 h) fun v2 h1 =>
  if v2 = (0 : Int32) then
  (κ4 (o0, x1, x2, (x3 + (1 : Int32)), h1))
  else
  (bI (F_Bp_bit x3 h1) fun v4 h3 =>
  κ4 (o0, x1, (x2 ||| v4), (x3 + (1 : Int32)), h3))
  else none
  else none)
  else none
def F_La_knowers (o0 : Nat) (x1 : Int32) (h : Hp) : Res Hp :=
  loopC (La_knowers_4   ) FU (o0, x1, (0 : Int32), (0 : Int32), h)
def sF_La_knowers : List Value → Hp → Res Hp := fun as h => match as with | [.ref o0, .int x1] => F_La_knowers o0 x1 h | _ => none
theorem w_La_knowers (o0 : Nat) (x1 : Int32) (h : Hp) : sF_La_knowers [.ref o0, .int x1] h = F_La_knowers o0 x1 h := rfl
def S_La_knowers : Sem Hp := [(65, sF_Bp_has), (64, sF_Bp_bit)]
set_option maxRecDepth 100000 in
theorem e_La_knowers_0 (o0 : Nat) (x1 : Int32) (h : Hp) : F_La_knowers o0 x1 h = exec1 OI S_La_knowers 1 k_La_knowers 0 [some (.ref o0), some (.int x1), none, none] [] h (runF OI S_La_knowers [(4, [0, 1, 2, 3], fun vs st h => match vs, st with | [.ref o0, .int x1, .int x2, .int x3], [] => loopC (La_knowers_4   ) FU (o0, x1, x2, x3, h) | _, _ => none)] 1 k_La_knowers 400) :=
  rfl
set_option maxRecDepth 100000 in
theorem e_La_knowers_4 (κ4 : (Nat × Int32 × Int32 × Int32 × Hp) → Res Hp) (o0 : Nat) (x1 : Int32) (x2 : Int32) (x3 : Int32)  (h : Hp) : La_knowers_4    (o0, x1, x2, x3, h) κ4 = exec1 OI S_La_knowers 1 k_La_knowers 4 [some (.ref o0), some (.int x1), some (.int x2), some (.int x3)] [] h (runF OI S_La_knowers [(4, [0, 1, 2, 3], fun vs st h => match vs, st with | [.ref o0, .int x1, .int x2, .int x3], [] => κ4 (o0, x1, x2, x3, h) | _, _ => none)] 1 k_La_knowers 400) :=
  (x_bif (x_ite rfl (x_bif (x_bif (x_bI (f := sF_Bp_has) rfl (w_Bp_has _ _ _) fun v2 h1 => (x_ite rfl (x_bI (f := sF_Bp_bit) rfl (w_Bp_bit _ _) fun v4 h3 => rfl)))))))
def k_Pa_writtenBy : List Ent := [(0, .aload_n 0, 1, [], .null), (1, .getfield 22, 3, [2, 0, 1], .null), (4, .getfield 30, 3, [0, 1, 1], .null), (7, .iload_n 1, 1, [], .null), (8, .iaload, 1, [], .null), (9, .iload_n 2, 1, [], .null), (10, .invokestatic 35, 3, [65, 2, 2], .null), (13, .ifCond .eq (21), 3, [34], .null), (16, .aload_n 0, 1, [], .null), (17, .getfield 22, 3, [2, 0, 1], .null), (20, .iload_n 2, 1, [], .null), (21, .invokevirtual 39, 3, [181, 2, 1, 0], .null), (24, .iload_n 1, 1, [], .null), (25, .invokestatic 43, 3, [64, 1, 1], .null), (28, .iconst (-1), 1, [], .int (-1)), (29, .ixor, 1, [], .null), (30, .iand, 1, [], .null), (31, .goto (4), 3, [35], .null), (34, .iconst 0, 1, [], .int (0)), (35, .ireturn, 1, [], .null)]
def F_Pa_writtenBy (x1 : Int32) (x2 : Int32) (h : Hp) : Res Hp :=
  bif okA 5 100 x1 then
  bI (F_Bp_has (hg h 5 x1.toNatClampNeg) x2 h) fun v2 h1 =>
  if v2 = (0 : Int32) then
  (retI (0 : Int32) h1)
  else
  (bI (F_La_knowers 3 x2 h1) fun v4 h3 =>
  bI (F_Bp_bit x1 h3) fun v6 h5 =>
  retI (v4 &&& (v6 ^^^ (-1 : Int32))) h5)
  else none
def sF_Pa_writtenBy : List Value → Hp → Res Hp := fun as h => match as with | [.ref f0, .int x1, .int x2] => (match Nat.beq f0 68 with | true => F_Pa_writtenBy x1 x2 h | false => none) | _ => none
theorem w_Pa_writtenBy (x1 : Int32) (x2 : Int32) (h : Hp) : sF_Pa_writtenBy [.ref 68, .int x1, .int x2] h = F_Pa_writtenBy x1 x2 h := rfl
def S_Pa_writtenBy : Sem Hp := [(65, sF_Bp_has), (181, sF_La_knowers), (64, sF_Bp_bit)]
set_option maxRecDepth 100000 in
theorem e_Pa_writtenBy_0 (x1 : Int32) (x2 : Int32) (h : Hp) : F_Pa_writtenBy x1 x2 h = exec1 OI S_Pa_writtenBy 1 k_Pa_writtenBy 0 [some (.ref 68), some (.int x1), some (.int x2)] [] h (runF OI S_Pa_writtenBy [] 1 k_Pa_writtenBy 400) :=
  (x_bif (x_bI (f := sF_Bp_has) rfl (w_Bp_has _ _ _) fun v2 h1 => (x_ite rfl (x_bI (f := sF_La_knowers) rfl (w_La_knowers _ _ _) fun v4 h3 => (x_bI (f := sF_Bp_bit) rfl (w_Bp_bit _ _) fun v6 h5 => rfl)))))
def k_Pa_reachedBy : List Ent := [(0, .aload_n 0, 1, [], .null), (1, .iload_n 1, 1, [], .null), (2, .iload_n 2, 1, [], .null), (3, .invokevirtual 46, 3, [207, 3, 1, 2], .null), (6, .istore_n 3, 1, [], .null), (7, .iload_n 3, 1, [], .null), (8, .ifCond .ne (5), 3, [13], .null), (11, .iconst 0, 1, [], .int (0)), (12, .ireturn, 1, [], .null), (13, .iload_n 3, 1, [], .null), (14, .aload_n 0, 1, [], .null), (15, .getfield 26, 3, [2, 1, 1], .null), (18, .iload_n 1, 1, [], .null), (19, .aload_n 0, 1, [], .null), (20, .getfield 26, 3, [2, 1, 1], .null), (23, .iload_n 2, 1, [], .null), (24, .invokestatic 43, 3, [64, 1, 1], .null), (27, .invokevirtual 50, 3, [233, 2, 1, 5], .null), (30, .invokevirtual 55, 3, [234, 3, 1, 5], .null), (33, .iand, 1, [], .null), (34, .ireturn, 1, [], .null)]
def F_Pa_reachedBy (x1 : Int32) (x2 : Int32) (h : Hp) : Res Hp :=
  bI (F_Pa_writtenBy x1 x2 h) fun v2 h1 =>
  if v2 = (0 : Int32) then
  (retI (0 : Int32) h1)
  else
  (bI (F_Bp_bit x2 h1) fun v4 h3 =>
  bI (F_Wa_carriers v4 h3) fun v6 h5 =>
  bI (F_Wa_endsFrom x1 v6 h5) fun v8 h7 =>
  retI (v2 &&& v8) h7)
def sF_Pa_reachedBy : List Value → Hp → Res Hp := fun as h => match as with | [.ref f0, .int x1, .int x2] => (match Nat.beq f0 68 with | true => F_Pa_reachedBy x1 x2 h | false => none) | _ => none
theorem w_Pa_reachedBy (x1 : Int32) (x2 : Int32) (h : Hp) : sF_Pa_reachedBy [.ref 68, .int x1, .int x2] h = F_Pa_reachedBy x1 x2 h := rfl
def S_Pa_reachedBy : Sem Hp := [(207, sF_Pa_writtenBy), (64, sF_Bp_bit), (233, sF_Wa_carriers), (234, sF_Wa_endsFrom)]
set_option maxRecDepth 100000 in
theorem e_Pa_reachedBy_0 (x1 : Int32) (x2 : Int32) (h : Hp) : F_Pa_reachedBy x1 x2 h = exec1 OI S_Pa_reachedBy 1 k_Pa_reachedBy 0 [some (.ref 68), some (.int x1), some (.int x2), none] [] h (runF OI S_Pa_reachedBy [] 1 k_Pa_reachedBy 400) :=
  (x_bI (f := sF_Pa_writtenBy) rfl (w_Pa_writtenBy _ _ _) fun v2 h1 => (x_ite rfl (x_bI (f := sF_Bp_bit) rfl (w_Bp_bit _ _) fun v4 h3 => (x_bI (f := sF_Wa_carriers) rfl (w_Wa_carriers _ _) fun v6 h5 => (x_bI (f := sF_Wa_endsFrom) rfl (w_Wa_endsFrom _ _ _) fun v8 h7 => rfl)))))
def k_Bp_reach : List Ent := [(0, .aload_n 0, 1, [], .null), (1, .getfield 21, 3, [6, 2, 1], .null), (4, .iload_n 1, 1, [], .null), (5, .invokevirtual 130, 3, [175, 2, 2, 0], .null), (8, .ifCond .ne (10), 3, [18], .null), (11, .iload_n 2, 1, [], .null), (12, .invokestatic 146, 3, [55, 1, 2], .null), (15, .ifCond .eq (5), 3, [20], .null), (18, .iconst (-1), 1, [], .int (-1)), (19, .ireturn, 1, [], .null), (20, .aload_n 0, 1, [], .null), (21, .getfield 57, 3, [6, 8, 1], .null), (24, .iload_n 1, 1, [], .null), (25, .iload_n 2, 1, [], .null), (26, .invokevirtual 264, 3, [208, 3, 1, 2], .null), (29, .ireturn, 1, [], .null)]
def F_Bp_reach (x1 : Int32) (x2 : Int32) (h : Hp) : Res Hp :=
  bI (F_La_lacks 3 x1 h) fun v2 h1 =>
  if v2 = (0 : Int32) then
  (bI (F_Bp_noTongue x2 h1) fun v4 h3 =>
  if v4 = (0 : Int32) then
  (bI (F_Pa_reachedBy x1 x2 h3) fun v6 h5 =>
  retI v6 h5)
  else
  (retI (-1 : Int32) h3))
  else
  (retI (-1 : Int32) h1)
def sF_Bp_reach : List Value → Hp → Res Hp := fun as h => match as with | [.ref f0, .int x1, .int x2] => (match Nat.beq f0 0 with | true => F_Bp_reach x1 x2 h | false => none) | _ => none
theorem w_Bp_reach (x1 : Int32) (x2 : Int32) (h : Hp) : sF_Bp_reach [.ref 0, .int x1, .int x2] h = F_Bp_reach x1 x2 h := rfl
def S_Bp_reach : Sem Hp := [(175, sF_La_lacks), (55, sF_Bp_noTongue), (208, sF_Pa_reachedBy)]
set_option maxRecDepth 100000 in
theorem e_Bp_reach_0 (x1 : Int32) (x2 : Int32) (h : Hp) : F_Bp_reach x1 x2 h = exec1 OI S_Bp_reach 1 k_Bp_reach 0 [some (.ref 0), some (.int x1), some (.int x2)] [] h (runF OI S_Bp_reach [] 1 k_Bp_reach 400) :=
  (x_bI (f := sF_La_lacks) rfl (w_La_lacks _ _ _) fun v2 h1 => (x_ite (x_bI (f := sF_Bp_noTongue) rfl (w_Bp_noTongue _ _) fun v4 h3 => (x_ite (x_bI (f := sF_Pa_reachedBy) rfl (w_Pa_reachedBy _ _ _) fun v6 h5 => rfl) rfl)) rfl))
def k_Pa_tally : List Ent := [(0, .aload_n 0, 1, [], .null), (1, .iconst 0, 1, [], .int (0)), (2, .putfield 15, 3, [2, 3, 0], .null), (5, .aload_n 0, 1, [], .null), (6, .iconst 0, 1, [], .int (0)), (7, .putfield 19, 3, [2, 4, 0], .null), (10, .iconst 0, 1, [], .int (0)), (11, .istore_n 1, 1, [], .null), (12, .iload_n 1, 1, [], .null), (13, .aload_n 0, 1, [], .null), (14, .getfield 22, 3, [2, 0, 1], .null), (17, .getfield 58, 3, [0, 8, 0], .null), (20, .if_icmp .ge (78), 3, [98], .null), (23, .iconst 0, 1, [], .int (0)), (24, .istore_n 2, 1, [], .null), (25, .iconst 0, 1, [], .int (0)), (26, .istore_n 3, 1, [], .null), (27, .iconst 0, 1, [], .int (0)), (28, .istore 4, 2, [], .null), (30, .iload 4, 2, [], .null), (32, .iconst 5, 1, [], .int (5)), (33, .if_icmp .ge (29), 3, [62], .null), (36, .iload_n 2, 1, [], .null), (37, .aload_n 0, 1, [], .null), (38, .iload_n 1, 1, [], .null), (39, .iload 4, 2, [], .null), (41, .invokevirtual 46, 3, [207, 3, 1, 2], .null), (44, .ior, 1, [], .null), (45, .istore_n 2, 1, [], .null), (46, .iload_n 3, 1, [], .null), (47, .aload_n 0, 1, [], .null), (48, .iload_n 1, 1, [], .null), (49, .iload 4, 2, [], .null), (51, .invokevirtual 61, 3, [208, 3, 1, 2], .null), (54, .ior, 1, [], .null), (55, .istore_n 3, 1, [], .null), (56, .iinc 4 (1), 3, [], .int (1)), (59, .goto (-29), 3, [30], .null), (62, .aload_n 0, 1, [], .null), (63, .dup, 1, [], .null), (64, .getfield 15, 3, [2, 3, 0], .null), (67, .iload_n 2, 1, [], .null), (68, .invokestatic 64, 3, [250, 1, 1], .null), (71, .iadd, 1, [], .null), (72, .putfield 15, 3, [2, 3, 0], .null), (75, .aload_n 0, 1, [], .null), (76, .dup, 1, [], .null), (77, .getfield 19, 3, [2, 4, 0], .null), (80, .iload_n 2, 1, [], .null), (81, .iload_n 3, 1, [], .null), (82, .iconst (-1), 1, [], .int (-1)), (83, .ixor, 1, [], .null), (84, .iand, 1, [], .null), (85, .invokestatic 64, 3, [250, 1, 1], .null), (88, .iadd, 1, [], .null), (89, .putfield 19, 3, [2, 4, 0], .null), (92, .iinc 1 (1), 3, [], .int (1)), (95, .goto (-83), 3, [12], .null), (98, .return_, 1, [], .null)]
def Pa_tally_30 (κ12 : (Int32 × Hp) → Res Hp)   : (Int32 × Int32 × Int32 × Int32 × Hp) → ((Int32 × Int32 × Int32 × Int32 × Hp) → Res Hp) → Res Hp := fun s κ30 => match s with
  | (x1, x2, x3, x4, h) =>
  if (5 : Int32) ≤ x4 then
  (bI (F_Jint_bitCount x2 h) fun v2 h1 =>
  bH (hs h1 68 3 ((hg h 68 3) + v2)) fun h3 =>
  bI (F_Jint_bitCount (x2 &&& (x3 ^^^ (-1 : Int32))) h3) fun v5 h4 =>
  bH (hs h4 68 4 ((hg h3 68 4) + v5)) fun h6 =>
  κ12 ((x1 + (1 : Int32)), h6))
  else
  (bI (F_Pa_writtenBy x1 x4 h) fun v8 h7 =>
  bI (F_Pa_reachedBy x1 x4 h7) fun v10 h9 =>
  κ30 (x1, (x2 ||| v8), (x3 ||| v10), (x4 + (1 : Int32)), h9))
def Pa_tally_12    : (Int32 × Hp) → ((Int32 × Hp) → Res Hp) → Res Hp := fun s κ12 => match s with
  | (x1, h) =>
  if (hg h 3 8) ≤ x1 then
  (retV h)
  else
  (loopC (Pa_tally_30 κ12  ) FU (x1, (0 : Int32), (0 : Int32), (0 : Int32), h))
def F_Pa_tally  (h : Hp) : Res Hp :=
  bH (hs h 68 3 (0 : Int32)) fun h1 =>
  bH (hs h1 68 4 (0 : Int32)) fun h2 =>
  loopC (Pa_tally_12   ) FU ((0 : Int32), h2)
def sF_Pa_tally : List Value → Hp → Res Hp := fun as h => match as with | [.ref f0] => (match Nat.beq f0 68 with | true => F_Pa_tally  h | false => none) | _ => none
theorem w_Pa_tally  (h : Hp) : sF_Pa_tally [.ref 68] h = F_Pa_tally  h := rfl
def S_Pa_tally : Sem Hp := [(250, sF_Jint_bitCount), (207, sF_Pa_writtenBy), (208, sF_Pa_reachedBy)]
set_option maxRecDepth 100000 in
theorem e_Pa_tally_0  (h : Hp) : F_Pa_tally  h = exec1 OI S_Pa_tally 0 k_Pa_tally 0 [some (.ref 68), none, none, none, none] [] h (runF OI S_Pa_tally [(12, [0, 1], fun vs st h => match vs, st with | [.ref f0, .int x1], [] => (match Nat.beq f0 68 with | true => loopC (Pa_tally_12   ) FU (x1, h) | false => none) | _, _ => none)] 0 k_Pa_tally 400) :=
  (x_bH fun h1 => (x_bH fun h2 => rfl))
set_option maxRecDepth 100000 in
theorem e_Pa_tally_12 (κ12 : (Int32 × Hp) → Res Hp) (x1 : Int32)  (h : Hp) : Pa_tally_12    (x1, h) κ12 = exec1 OI S_Pa_tally 0 k_Pa_tally 12 [some (.ref 68), some (.int x1), none, none, none] [] h (runF OI S_Pa_tally [(30, [0, 1, 2, 3, 4], fun vs st h => match vs, st with | [.ref f0, .int x1, .int x2, .int x3, .int x4], [] => (match Nat.beq f0 68 with | true => loopC (Pa_tally_30 κ12  ) FU (x1, x2, x3, x4, h) | false => none) | _, _ => none)] 0 k_Pa_tally 400) :=
  (x_ite rfl rfl)
set_option maxRecDepth 100000 in
theorem e_Pa_tally_30 (κ12 : (Int32 × Hp) → Res Hp) (κ30 : (Int32 × Int32 × Int32 × Int32 × Hp) → Res Hp) (x1 : Int32) (x2 : Int32) (x3 : Int32) (x4 : Int32)  (h : Hp) : Pa_tally_30 κ12   (x1, x2, x3, x4, h) κ30 = exec1 OI S_Pa_tally 0 k_Pa_tally 30 [some (.ref 68), some (.int x1), some (.int x2), some (.int x3), some (.int x4)] [] h (runF OI S_Pa_tally [(12, [0, 1], fun vs st h => match vs, st with | [.ref f0, .int x1], [] => (match Nat.beq f0 68 with | true => κ12 (x1, h) | false => none) | _, _ => none), (30, [0, 1, 2, 3, 4], fun vs st h => match vs, st with | [.ref f0, .int x1, .int x2, .int x3, .int x4], [] => (match Nat.beq f0 68 with | true => κ30 (x1, x2, x3, x4, h) | false => none) | _, _ => none)] 0 k_Pa_tally 400) :=
  (x_ite (x_bI (f := sF_Jint_bitCount) rfl (w_Jint_bitCount _ _) fun v2 h1 => (x_bH fun h3 => (x_bI (f := sF_Jint_bitCount) rfl (w_Jint_bitCount _ _) fun v5 h4 => (x_bH fun h6 => rfl)))) (x_bI (f := sF_Pa_writtenBy) rfl (w_Pa_writtenBy _ _ _) fun v8 h7 => (x_bI (f := sF_Pa_reachedBy) rfl (w_Pa_reachedBy _ _ _) fun v10 h9 => rfl)))
def k_Bp_cutOff : List Ent := [(0, .aload_n 0, 1, [], .null), (1, .getfield 57, 3, [6, 8, 1], .null), (4, .invokevirtual 267, 3, [209, 1, 0, 2], .null), (7, .aload_n 0, 1, [], .null), (8, .aload_n 0, 1, [], .null), (9, .getfield 57, 3, [6, 8, 1], .null), (12, .getfield 270, 3, [2, 3, 0], .null), (15, .putfield 69, 3, [6, 11, 0], .null), (18, .aload_n 0, 1, [], .null), (19, .getfield 57, 3, [6, 8, 1], .null), (22, .getfield 273, 3, [2, 4, 0], .null), (25, .ireturn, 1, [], .null)]
def F_Bp_cutOff  (h : Hp) : Res Hp :=
  bV (F_Pa_tally  h) fun h1 =>
  bH (hs h1 0 11 (hg h1 68 3)) fun h2 =>
  retI (hg h2 68 4) h2
def sF_Bp_cutOff : List Value → Hp → Res Hp := fun as h => match as with | [.ref f0] => (match Nat.beq f0 0 with | true => F_Bp_cutOff  h | false => none) | _ => none
theorem w_Bp_cutOff  (h : Hp) : sF_Bp_cutOff [.ref 0] h = F_Bp_cutOff  h := rfl
def S_Bp_cutOff : Sem Hp := [(209, sF_Pa_tally)]
set_option maxRecDepth 100000 in
theorem e_Bp_cutOff_0  (h : Hp) : F_Bp_cutOff  h = exec1 OI S_Bp_cutOff 1 k_Bp_cutOff 0 [some (.ref 0)] [] h (runF OI S_Bp_cutOff [] 1 k_Bp_cutOff 400) :=
  (x_bV (f := sF_Pa_tally) rfl (w_Pa_tally  _) fun h1 => (x_bH fun h2 => rfl))
def k_Pa_cutIfKnown : List Ent := [(0, .aload_n 0, 1, [], .null), (1, .getfield 22, 3, [2, 0, 1], .null), (4, .getfield 30, 3, [0, 1, 1], .null), (7, .iload_n 1, 1, [], .null), (8, .iaload, 1, [], .null), (9, .istore_n 3, 1, [], .null), (10, .aload_n 0, 1, [], .null), (11, .getfield 22, 3, [2, 0, 1], .null), (14, .getfield 30, 3, [0, 1, 1], .null), (17, .iload_n 1, 1, [], .null), (18, .dup2, 1, [], .null), (19, .iaload, 1, [], .null), (20, .iload_n 2, 1, [], .null), (21, .invokestatic 43, 3, [64, 1, 1], .null), (24, .ior, 1, [], .null), (25, .iastore, 1, [], .null), (26, .aload_n 0, 1, [], .null), (27, .invokevirtual 69, 3, [209, 1, 0, 2], .null), (30, .aload_n 0, 1, [], .null), (31, .getfield 22, 3, [2, 0, 1], .null), (34, .getfield 30, 3, [0, 1, 1], .null), (37, .iload_n 1, 1, [], .null), (38, .iload_n 3, 1, [], .null), (39, .iastore, 1, [], .null), (40, .aload_n 0, 1, [], .null), (41, .getfield 19, 3, [2, 4, 0], .null), (44, .ireturn, 1, [], .null)]
def F_Pa_cutIfKnown (x1 : Int32) (x2 : Int32) (h : Hp) : Res Hp :=
  bif okA 5 100 x1 then
  bif okA 5 100 x1 then
  bI (F_Bp_bit x2 h) fun v2 h1 =>
  bif okA 5 100 x1 then
  bH (hs h1 5 x1.toNatClampNeg ((hg h 5 x1.toNatClampNeg) ||| v2)) fun h3 =>
  bV (F_Pa_tally  h3) fun h4 =>
  bif okA 5 100 x1 then
  bH (hs h4 5 x1.toNatClampNeg (hg h 5 x1.toNatClampNeg)) fun h5 =>
  retI (hg h5 68 4) h5
  else none
  else none
  else none
  else none
def sF_Pa_cutIfKnown : List Value → Hp → Res Hp := fun as h => match as with | [.ref f0, .int x1, .int x2] => (match Nat.beq f0 68 with | true => F_Pa_cutIfKnown x1 x2 h | false => none) | _ => none
theorem w_Pa_cutIfKnown (x1 : Int32) (x2 : Int32) (h : Hp) : sF_Pa_cutIfKnown [.ref 68, .int x1, .int x2] h = F_Pa_cutIfKnown x1 x2 h := rfl
def S_Pa_cutIfKnown : Sem Hp := [(64, sF_Bp_bit), (209, sF_Pa_tally)]
set_option maxRecDepth 100000 in
theorem e_Pa_cutIfKnown_0 (x1 : Int32) (x2 : Int32) (h : Hp) : F_Pa_cutIfKnown x1 x2 h = exec1 OI S_Pa_cutIfKnown 1 k_Pa_cutIfKnown 0 [some (.ref 68), some (.int x1), some (.int x2), none] [] h (runF OI S_Pa_cutIfKnown [] 1 k_Pa_cutIfKnown 400) :=
  (x_bif (x_bif (x_bI (f := sF_Bp_bit) rfl (w_Bp_bit _ _) fun v2 h1 => (x_bif (x_bH fun h3 => (x_bV (f := sF_Pa_tally) rfl (w_Pa_tally  _) fun h4 => (x_bif (x_bH fun h5 => rfl))))))))
def k_Bp_taught : List Ent := [(0, .aload_n 0, 1, [], .null), (1, .getfield 21, 3, [6, 2, 1], .null), (4, .iload_n 1, 1, [], .null), (5, .invokevirtual 130, 3, [175, 2, 2, 0], .null), (8, .ifCond .ne (10), 3, [18], .null), (11, .iload_n 2, 1, [], .null), (12, .invokestatic 146, 3, [55, 1, 2], .null), (15, .ifCond .eq (5), 3, [20], .null), (18, .iconst (-1), 1, [], .int (-1)), (19, .ireturn, 1, [], .null), (20, .aload_n 0, 1, [], .null), (21, .getfield 57, 3, [6, 8, 1], .null), (24, .invokevirtual 267, 3, [209, 1, 0, 2], .null), (27, .aload_n 0, 1, [], .null), (28, .getfield 57, 3, [6, 8, 1], .null), (31, .getfield 273, 3, [2, 4, 0], .null), (34, .istore_n 3, 1, [], .null), (35, .aload_n 0, 1, [], .null), (36, .aload_n 0, 1, [], .null), (37, .getfield 57, 3, [6, 8, 1], .null), (40, .iload_n 1, 1, [], .null), (41, .iload_n 2, 1, [], .null), (42, .invokevirtual 276, 3, [210, 3, 1, 2], .null), (45, .iload_n 3, 1, [], .null), (46, .isub, 1, [], .null), (47, .invokevirtual 93, 3, [51, 2, 1, 6], .null), (50, .ireturn, 1, [], .null)]
def F_Bp_taught (x1 : Int32) (x2 : Int32) (h : Hp) : Res Hp :=
  bI (F_La_lacks 3 x1 h) fun v2 h1 =>
  if v2 = (0 : Int32) then
  (bI (F_Bp_noTongue x2 h1) fun v4 h3 =>
  if v4 = (0 : Int32) then
  (bV (F_Pa_tally  h3) fun h5 =>
  bI (F_Pa_cutIfKnown x1 x2 h5) fun v7 h6 =>
  bI (F_Bp_tell (v7 - (hg h5 68 4)) h6) fun v9 h8 =>
  retI v9 h8)
  else
  (retI (-1 : Int32) h3))
  else
  (retI (-1 : Int32) h1)
def sF_Bp_taught : List Value → Hp → Res Hp := fun as h => match as with | [.ref f0, .int x1, .int x2] => (match Nat.beq f0 0 with | true => F_Bp_taught x1 x2 h | false => none) | _ => none
theorem w_Bp_taught (x1 : Int32) (x2 : Int32) (h : Hp) : sF_Bp_taught [.ref 0, .int x1, .int x2] h = F_Bp_taught x1 x2 h := rfl
def S_Bp_taught : Sem Hp := [(175, sF_La_lacks), (55, sF_Bp_noTongue), (209, sF_Pa_tally), (210, sF_Pa_cutIfKnown), (51, sF_Bp_tell)]
set_option maxRecDepth 100000 in
theorem e_Bp_taught_0 (x1 : Int32) (x2 : Int32) (h : Hp) : F_Bp_taught x1 x2 h = exec1 OI S_Bp_taught 1 k_Bp_taught 0 [some (.ref 0), some (.int x1), some (.int x2), none] [] h (runF OI S_Bp_taught [] 1 k_Bp_taught 400) :=
  (x_bI (f := sF_La_lacks) rfl (w_La_lacks _ _ _) fun v2 h1 => (x_ite (x_bI (f := sF_Bp_noTongue) rfl (w_Bp_noTongue _ _) fun v4 h3 => (x_ite (x_bV (f := sF_Pa_tally) rfl (w_Pa_tally  _) fun h5 => (x_bI (f := sF_Pa_cutIfKnown) rfl (w_Pa_cutIfKnown _ _ _) fun v7 h6 => (x_bI (f := sF_Bp_tell) rfl (w_Bp_tell _ _) fun v9 h8 => rfl))) rfl)) rfl))
def k_Bp_best : List Ent := [(0, .bipush (-9), 2, [], .int (-9)), (2, .istore_n 1, 1, [], .null), (3, .bipush (49), 2, [], .int (49)), (5, .istore_n 2, 1, [], .null), (6, .iconst 0, 1, [], .int (0)), (7, .istore_n 3, 1, [], .null), (8, .iload_n 3, 1, [], .null), (9, .aload_n 0, 1, [], .null), (10, .getfield 21, 3, [6, 2, 1], .null), (13, .getfield 127, 3, [0, 8, 0], .null), (16, .if_icmp .ge (74), 3, [90], .null), (19, .iconst 0, 1, [], .int (0)), (20, .istore 4, 2, [], .null), (22, .iload 4, 2, [], .null), (24, .iconst 5, 1, [], .int (5)), (25, .if_icmp .ge (59), 3, [84], .null), (28, .aload_n 0, 1, [], .null), (29, .getfield 21, 3, [6, 2, 1], .null), (32, .getfield 149, 3, [0, 1, 1], .null), (35, .iload_n 3, 1, [], .null), (36, .iaload, 1, [], .null), (37, .iload 4, 2, [], .null), (39, .invokestatic 201, 3, [65, 2, 2], .null), (42, .ifCond .eq (7), 3, [49], .null), (45, .iload_n 2, 1, [], .null), (46, .goto (13), 3, [59], .null), (49, .aload_n 0, 1, [], .null), (50, .getfield 57, 3, [6, 8, 1], .null), (53, .iload_n 3, 1, [], .null), (54, .iload 4, 2, [], .null), (56, .invokevirtual 276, 3, [210, 3, 1, 2], .null), (59, .istore 5, 2, [], .null), (61, .iload 5, 2, [], .null), (63, .iload_n 2, 1, [], .null), (64, .if_icmp .ge (14), 3, [78], .null), (67, .bipush (10), 2, [], .int (10)), (69, .iload_n 3, 1, [], .null), (70, .imul, 1, [], .null), (71, .iload 4, 2, [], .null), (73, .iadd, 1, [], .null), (74, .istore_n 1, 1, [], .null), (75, .iload 5, 2, [], .null), (77, .istore_n 2, 1, [], .null), (78, .iinc 4 (1), 3, [], .int (1)), (81, .goto (-59), 3, [22], .null), (84, .iinc 3 (1), 3, [], .int (1)), (87, .goto (-79), 3, [8], .null), (90, .iload_n 1, 1, [], .null), (91, .bipush (-9), 2, [], .int (-9)), (93, .if_icmp .eq (8), 3, [101], .null), (96, .aload_n 0, 1, [], .null), (97, .iload_n 2, 1, [], .null), (98, .putfield 69, 3, [6, 11, 0], .null), (101, .iload_n 1, 1, [], .null), (102, .ireturn, 1, [], .null)]
def Bp_best_22 (κ8 : (Int32 × Int32 × Int32 × Hp) → Res Hp)   : (Int32 × Int32 × Int32 × Int32 × Hp) → ((Int32 × Int32 × Int32 × Int32 × Hp) → Res Hp) → Res Hp := fun s κ22 => match s with
  | (x1, x2, x3, x4, h) =>
  if (5 : Int32) ≤ x4 then
  (κ8 (x1, x2, (x3 + (1 : Int32)), h))
  else
  (bif okA 5 100 x3 then
  bI (F_Bp_has (hg h 5 x3.toNatClampNeg) x4 h) fun v2 h1 =>
  if v2 = (0 : Int32) then
  (bI (F_Pa_cutIfKnown x3 x4 h1) fun v4 h3 =>
  if x2 ≤ v4 then
  (κ22 (x1, x2, x3, (x4 + (1 : Int32)), h3))
  else
  (κ22 ((((10 : Int32) * x3) + x4), v4, x3, (x4 + (1 : Int32)), h3)))
  else
  (if x2 ≤ x2 then
  (κ22 (x1, x2, x3, (x4 + (1 : Int32)), h1))
  else
  (κ22 ((((10 : Int32) * x3) + x4), x2, x3, (x4 + (1 : Int32)), h1)))
  else none)
def Bp_best_8    : (Int32 × Int32 × Int32 × Hp) → ((Int32 × Int32 × Int32 × Hp) → Res Hp) → Res Hp := fun s κ8 => match s with
  | (x1, x2, x3, h) =>
  if (hg h 3 8) ≤ x3 then
  (if x1 = (-9 : Int32) then
  (retI x1 h)
  else
  (bH (hs h 0 11 x2) fun h1 =>
  retI x1 h1))
  else
  (loopC (Bp_best_22 κ8  ) FU (x1, x2, x3, (0 : Int32), h))
def F_Bp_best  (h : Hp) : Res Hp :=
  loopC (Bp_best_8   ) FU ((-9 : Int32), (49 : Int32), (0 : Int32), h)
def sF_Bp_best : List Value → Hp → Res Hp := fun as h => match as with | [.ref f0] => (match Nat.beq f0 0 with | true => F_Bp_best  h | false => none) | _ => none
theorem w_Bp_best  (h : Hp) : sF_Bp_best [.ref 0] h = F_Bp_best  h := rfl
def S_Bp_best : Sem Hp := [(65, sF_Bp_has), (210, sF_Pa_cutIfKnown)]
set_option maxRecDepth 100000 in
theorem e_Bp_best_0  (h : Hp) : F_Bp_best  h = exec1 OI S_Bp_best 1 k_Bp_best 0 [some (.ref 0), none, none, none, none, none] [] h (runF OI S_Bp_best [(8, [0, 1, 2, 3], fun vs st h => match vs, st with | [.ref f0, .int x1, .int x2, .int x3], [] => (match Nat.beq f0 0 with | true => loopC (Bp_best_8   ) FU (x1, x2, x3, h) | false => none) | _, _ => none)] 1 k_Bp_best 400) :=
  rfl
set_option maxRecDepth 100000 in
theorem e_Bp_best_8 (κ8 : (Int32 × Int32 × Int32 × Hp) → Res Hp) (x1 : Int32) (x2 : Int32) (x3 : Int32)  (h : Hp) : Bp_best_8    (x1, x2, x3, h) κ8 = exec1 OI S_Bp_best 1 k_Bp_best 8 [some (.ref 0), some (.int x1), some (.int x2), some (.int x3), none, none] [] h (runF OI S_Bp_best [(22, [0, 1, 2, 3, 4], fun vs st h => match vs, st with | [.ref f0, .int x1, .int x2, .int x3, .int x4], [] => (match Nat.beq f0 0 with | true => loopC (Bp_best_22 κ8  ) FU (x1, x2, x3, x4, h) | false => none) | _, _ => none)] 1 k_Bp_best 400) :=
  (x_ite (x_ite rfl (x_bH fun h1 => rfl)) rfl)
set_option maxRecDepth 100000 in
theorem e_Bp_best_22 (κ8 : (Int32 × Int32 × Int32 × Hp) → Res Hp) (κ22 : (Int32 × Int32 × Int32 × Int32 × Hp) → Res Hp) (x1 : Int32) (x2 : Int32) (x3 : Int32) (x4 : Int32)  (h : Hp) : Bp_best_22 κ8   (x1, x2, x3, x4, h) κ22 = exec1 OI S_Bp_best 1 k_Bp_best 22 [some (.ref 0), some (.int x1), some (.int x2), some (.int x3), some (.int x4), none] [] h (runF OI S_Bp_best [(8, [0, 1, 2, 3], fun vs st h => match vs, st with | [.ref f0, .int x1, .int x2, .int x3], [] => (match Nat.beq f0 0 with | true => κ8 (x1, x2, x3, h) | false => none) | _, _ => none), (22, [0, 1, 2, 3, 4], fun vs st h => match vs, st with | [.ref f0, .int x1, .int x2, .int x3, .int x4], [] => (match Nat.beq f0 0 with | true => κ22 (x1, x2, x3, x4, h) | false => none) | _, _ => none)] 1 k_Bp_best 400) :=
  (x_ite rfl (x_bif (x_bI (f := sF_Bp_has) rfl (w_Bp_has _ _ _) fun v2 h1 => (x_ite (x_bI (f := sF_Pa_cutIfKnown) rfl (w_Pa_cutIfKnown _ _ _) fun v4 h3 => (x_ite rfl rfl)) (x_ite rfl rfl)))))
def k_Pa_lostWithout : List Ent := [(0, .iconst 0, 1, [], .int (0)), (1, .istore_n 2, 1, [], .null), (2, .iconst 0, 1, [], .int (0)), (3, .istore_n 3, 1, [], .null), (4, .iload_n 3, 1, [], .null), (5, .iconst 5, 1, [], .int (5)), (6, .if_icmp .ge (94), 3, [100], .null), (9, .aload_n 0, 1, [], .null), (10, .getfield 26, 3, [2, 1, 1], .null), (13, .iload_n 3, 1, [], .null), (14, .invokestatic 43, 3, [64, 1, 1], .null), (17, .invokevirtual 50, 3, [233, 2, 1, 5], .null), (20, .istore 4, 2, [], .null), (22, .iconst 0, 1, [], .int (0)), (23, .istore 5, 2, [], .null), (25, .iload 5, 2, [], .null), (27, .aload_n 0, 1, [], .null), (28, .getfield 22, 3, [2, 0, 1], .null), (31, .getfield 58, 3, [0, 8, 0], .null), (34, .if_icmp .ge (60), 3, [94], .null), (37, .iload 5, 2, [], .null), (39, .iload_n 1, 1, [], .null), (40, .if_icmp .eq (48), 3, [88], .null), (43, .aload_n 0, 1, [], .null), (44, .iload 5, 2, [], .null), (46, .iload_n 3, 1, [], .null), (47, .invokevirtual 61, 3, [208, 3, 1, 2], .null), (50, .aload_n 0, 1, [], .null), (51, .getfield 26, 3, [2, 1, 1], .null), (54, .iload 5, 2, [], .null), (56, .iload 4, 2, [], .null), (58, .iload_n 1, 1, [], .null), (59, .invokestatic 43, 3, [64, 1, 1], .null), (62, .iconst (-1), 1, [], .int (-1)), (63, .ixor, 1, [], .null), (64, .iand, 1, [], .null), (65, .invokevirtual 55, 3, [234, 3, 1, 5], .null), (68, .iconst (-1), 1, [], .int (-1)), (69, .ixor, 1, [], .null), (70, .iand, 1, [], .null), (71, .iload_n 1, 1, [], .null), (72, .invokestatic 43, 3, [64, 1, 1], .null), (75, .iconst (-1), 1, [], .int (-1)), (76, .ixor, 1, [], .null), (77, .iand, 1, [], .null), (78, .istore 6, 2, [], .null), (80, .iload_n 2, 1, [], .null), (81, .iload 6, 2, [], .null), (83, .invokestatic 64, 3, [250, 1, 1], .null), (86, .iadd, 1, [], .null), (87, .istore_n 2, 1, [], .null), (88, .iinc 5 (1), 3, [], .int (1)), (91, .goto (-66), 3, [25], .null), (94, .iinc 3 (1), 3, [], .int (1)), (97, .goto (-93), 3, [4], .null), (100, .iload_n 2, 1, [], .null), (101, .ireturn, 1, [], .null)]
def Pa_lostWithout_25 (κ4 : (Int32 × Int32 × Int32 × Hp) → Res Hp)   : (Int32 × Int32 × Int32 × Int32 × Int32 × Hp) → ((Int32 × Int32 × Int32 × Int32 × Int32 × Hp) → Res Hp) → Res Hp := fun s κ25 => match s with
  | (x1, x2, x3, x4, x5, h) =>
  if (hg h 3 8) ≤ x5 then
  (κ4 (x1, x2, (x3 + (1 : Int32)), h))
  else
  (if x5 = x1 then
  (κ25 (x1, x2, x3, x4, (x5 + (1 : Int32)), h))
  else
  (bI (F_Pa_reachedBy x5 x3 h) fun v2 h1 =>
  bI (F_Bp_bit x1 h1) fun v4 h3 =>
  bI (F_Wa_endsFrom x5 (x4 &&& (v4 ^^^ (-1 : Int32))) h3) fun v6 h5 =>
  bI (F_Bp_bit x1 h5) fun v8 h7 =>
  bI (F_Jint_bitCount ((v2 &&& (v6 ^^^ (-1 : Int32))) &&& (v8 ^^^ (-1 : Int32))) h7) fun v10 h9 =>
  κ25 (x1, (x2 + v10), x3, x4, (x5 + (1 : Int32)), h9)))
def Pa_lostWithout_4    : (Int32 × Int32 × Int32 × Hp) → ((Int32 × Int32 × Int32 × Hp) → Res Hp) → Res Hp := fun s κ4 => match s with
  | (x1, x2, x3, h) =>
  if (5 : Int32) ≤ x3 then
  (retI x2 h)
  else
  (bI (F_Bp_bit x3 h) fun v2 h1 =>
  bI (F_Wa_carriers v2 h1) fun v4 h3 =>
  loopC (Pa_lostWithout_25 κ4  ) FU (x1, x2, x3, v4, (0 : Int32), h3))
def F_Pa_lostWithout (x1 : Int32) (h : Hp) : Res Hp :=
  loopC (Pa_lostWithout_4   ) FU (x1, (0 : Int32), (0 : Int32), h)
def sF_Pa_lostWithout : List Value → Hp → Res Hp := fun as h => match as with | [.ref f0, .int x1] => (match Nat.beq f0 68 with | true => F_Pa_lostWithout x1 h | false => none) | _ => none
theorem w_Pa_lostWithout (x1 : Int32) (h : Hp) : sF_Pa_lostWithout [.ref 68, .int x1] h = F_Pa_lostWithout x1 h := rfl
def S_Pa_lostWithout : Sem Hp := [(64, sF_Bp_bit), (233, sF_Wa_carriers), (208, sF_Pa_reachedBy), (234, sF_Wa_endsFrom), (250, sF_Jint_bitCount)]
set_option maxRecDepth 100000 in
theorem e_Pa_lostWithout_0 (x1 : Int32) (h : Hp) : F_Pa_lostWithout x1 h = exec1 OI S_Pa_lostWithout 1 k_Pa_lostWithout 0 [some (.ref 68), some (.int x1), none, none, none, none, none] [] h (runF OI S_Pa_lostWithout [(4, [0, 1, 2, 3], fun vs st h => match vs, st with | [.ref f0, .int x1, .int x2, .int x3], [] => (match Nat.beq f0 68 with | true => loopC (Pa_lostWithout_4   ) FU (x1, x2, x3, h) | false => none) | _, _ => none)] 1 k_Pa_lostWithout 400) :=
  rfl
set_option maxRecDepth 100000 in
theorem e_Pa_lostWithout_4 (κ4 : (Int32 × Int32 × Int32 × Hp) → Res Hp) (x1 : Int32) (x2 : Int32) (x3 : Int32)  (h : Hp) : Pa_lostWithout_4    (x1, x2, x3, h) κ4 = exec1 OI S_Pa_lostWithout 1 k_Pa_lostWithout 4 [some (.ref 68), some (.int x1), some (.int x2), some (.int x3), none, none, none] [] h (runF OI S_Pa_lostWithout [(25, [0, 1, 2, 3, 4, 5], fun vs st h => match vs, st with | [.ref f0, .int x1, .int x2, .int x3, .int x4, .int x5], [] => (match Nat.beq f0 68 with | true => loopC (Pa_lostWithout_25 κ4  ) FU (x1, x2, x3, x4, x5, h) | false => none) | _, _ => none)] 1 k_Pa_lostWithout 400) :=
  (x_ite rfl (x_bI (f := sF_Bp_bit) rfl (w_Bp_bit _ _) fun v2 h1 => (x_bI (f := sF_Wa_carriers) rfl (w_Wa_carriers _ _) fun v4 h3 => rfl)))
set_option maxRecDepth 100000 in
theorem e_Pa_lostWithout_25 (κ4 : (Int32 × Int32 × Int32 × Hp) → Res Hp) (κ25 : (Int32 × Int32 × Int32 × Int32 × Int32 × Hp) → Res Hp) (x1 : Int32) (x2 : Int32) (x3 : Int32) (x4 : Int32) (x5 : Int32)  (h : Hp) : Pa_lostWithout_25 κ4   (x1, x2, x3, x4, x5, h) κ25 = exec1 OI S_Pa_lostWithout 1 k_Pa_lostWithout 25 [some (.ref 68), some (.int x1), some (.int x2), some (.int x3), some (.int x4), some (.int x5), none] [] h (runF OI S_Pa_lostWithout [(4, [0, 1, 2, 3], fun vs st h => match vs, st with | [.ref f0, .int x1, .int x2, .int x3], [] => (match Nat.beq f0 68 with | true => κ4 (x1, x2, x3, h) | false => none) | _, _ => none), (25, [0, 1, 2, 3, 4, 5], fun vs st h => match vs, st with | [.ref f0, .int x1, .int x2, .int x3, .int x4, .int x5], [] => (match Nat.beq f0 68 with | true => κ25 (x1, x2, x3, x4, x5, h) | false => none) | _, _ => none)] 1 k_Pa_lostWithout 400) :=
  (x_ite rfl (x_ite rfl (x_bI (f := sF_Pa_reachedBy) rfl (w_Pa_reachedBy _ _ _) fun v2 h1 => (x_bI (f := sF_Bp_bit) rfl (w_Bp_bit _ _) fun v4 h3 => (x_bI (f := sF_Wa_endsFrom) rfl (w_Wa_endsFrom _ _ _) fun v6 h5 => (x_bI (f := sF_Bp_bit) rfl (w_Bp_bit _ _) fun v8 h7 => (x_bI (f := sF_Jint_bitCount) rfl (w_Jint_bitCount _ _) fun v10 h9 => rfl)))))))
def k_Bp_worth : List Ent := [(0, .aload_n 0, 1, [], .null), (1, .getfield 21, 3, [6, 2, 1], .null), (4, .iload_n 1, 1, [], .null), (5, .invokevirtual 130, 3, [175, 2, 2, 0], .null), (8, .ifCond .eq (5), 3, [13], .null), (11, .iconst (-1), 1, [], .int (-1)), (12, .ireturn, 1, [], .null), (13, .aload_n 0, 1, [], .null), (14, .getfield 57, 3, [6, 8, 1], .null), (17, .iload_n 1, 1, [], .null), (18, .invokevirtual 279, 3, [211, 2, 1, 2], .null), (21, .ireturn, 1, [], .null)]
def F_Bp_worth (x1 : Int32) (h : Hp) : Res Hp :=
  bI (F_La_lacks 3 x1 h) fun v2 h1 =>
  if v2 = (0 : Int32) then
  (bI (F_Pa_lostWithout x1 h1) fun v4 h3 =>
  retI v4 h3)
  else
  (retI (-1 : Int32) h1)
def sF_Bp_worth : List Value → Hp → Res Hp := fun as h => match as with | [.ref f0, .int x1] => (match Nat.beq f0 0 with | true => F_Bp_worth x1 h | false => none) | _ => none
theorem w_Bp_worth (x1 : Int32) (h : Hp) : sF_Bp_worth [.ref 0, .int x1] h = F_Bp_worth x1 h := rfl
def S_Bp_worth : Sem Hp := [(175, sF_La_lacks), (211, sF_Pa_lostWithout)]
set_option maxRecDepth 100000 in
theorem e_Bp_worth_0 (x1 : Int32) (h : Hp) : F_Bp_worth x1 h = exec1 OI S_Bp_worth 1 k_Bp_worth 0 [some (.ref 0), some (.int x1)] [] h (runF OI S_Bp_worth [] 1 k_Bp_worth 400) :=
  (x_bI (f := sF_La_lacks) rfl (w_La_lacks _ _ _) fun v2 h1 => (x_ite (x_bI (f := sF_Pa_lostWithout) rfl (w_Pa_lostWithout _ _) fun v4 h3 => rfl) rfl))
def k_Pa_tonguesTo : List Ent := [(0, .iconst 0, 1, [], .int (0)), (1, .istore_n 2, 1, [], .null), (2, .iconst 0, 1, [], .int (0)), (3, .istore_n 3, 1, [], .null), (4, .iload_n 3, 1, [], .null), (5, .iconst 5, 1, [], .int (5)), (6, .if_icmp .ge (29), 3, [35], .null), (9, .aload_n 0, 1, [], .null), (10, .getfield 9, 3, [2, 2, 1], .null), (13, .iload_n 3, 1, [], .null), (14, .iaload, 1, [], .null), (15, .iload_n 1, 1, [], .null), (16, .invokestatic 35, 3, [65, 2, 2], .null), (19, .ifCond .eq (10), 3, [29], .null), (22, .iload_n 2, 1, [], .null), (23, .iload_n 3, 1, [], .null), (24, .invokestatic 43, 3, [64, 1, 1], .null), (27, .ior, 1, [], .null), (28, .istore_n 2, 1, [], .null), (29, .iinc 3 (1), 3, [], .int (1)), (32, .goto (-28), 3, [4], .null), (35, .iload_n 2, 1, [], .null), (36, .ireturn, 1, [], .null)]
def Pa_tonguesTo_4    : (Int32 × Int32 × Int32 × Hp) → ((Int32 × Int32 × Int32 × Hp) → Res Hp) → Res Hp := fun s κ4 => match s with
  | (x1, x2, x3, h) =>
  if (5 : Int32) ≤ x3 then
  (retI x2 h)
  else
  (bif okA 69 100 x3 then
  bI (F_Bp_has (hg h 69 x3.toNatClampNeg) x1 h) fun v2 h1 =>
  if v2 = (0 : Int32) then
  (κ4 (x1, x2, (x3 + (1 : Int32)), h1))
  else
  (bI (F_Bp_bit x3 h1) fun v4 h3 =>
  κ4 (x1, (x2 ||| v4), (x3 + (1 : Int32)), h3))
  else none)
def F_Pa_tonguesTo (x1 : Int32) (h : Hp) : Res Hp :=
  loopC (Pa_tonguesTo_4   ) FU (x1, (0 : Int32), (0 : Int32), h)
def sF_Pa_tonguesTo : List Value → Hp → Res Hp := fun as h => match as with | [.ref f0, .int x1] => (match Nat.beq f0 68 with | true => F_Pa_tonguesTo x1 h | false => none) | _ => none
theorem w_Pa_tonguesTo (x1 : Int32) (h : Hp) : sF_Pa_tonguesTo [.ref 68, .int x1] h = F_Pa_tonguesTo x1 h := rfl
def S_Pa_tonguesTo : Sem Hp := [(65, sF_Bp_has), (64, sF_Bp_bit)]
set_option maxRecDepth 100000 in
theorem e_Pa_tonguesTo_0 (x1 : Int32) (h : Hp) : F_Pa_tonguesTo x1 h = exec1 OI S_Pa_tonguesTo 1 k_Pa_tonguesTo 0 [some (.ref 68), some (.int x1), none, none] [] h (runF OI S_Pa_tonguesTo [(4, [0, 1, 2, 3], fun vs st h => match vs, st with | [.ref f0, .int x1, .int x2, .int x3], [] => (match Nat.beq f0 68 with | true => loopC (Pa_tonguesTo_4   ) FU (x1, x2, x3, h) | false => none) | _, _ => none)] 1 k_Pa_tonguesTo 400) :=
  rfl
set_option maxRecDepth 100000 in
theorem e_Pa_tonguesTo_4 (κ4 : (Int32 × Int32 × Int32 × Hp) → Res Hp) (x1 : Int32) (x2 : Int32) (x3 : Int32)  (h : Hp) : Pa_tonguesTo_4    (x1, x2, x3, h) κ4 = exec1 OI S_Pa_tonguesTo 1 k_Pa_tonguesTo 4 [some (.ref 68), some (.int x1), some (.int x2), some (.int x3)] [] h (runF OI S_Pa_tonguesTo [(4, [0, 1, 2, 3], fun vs st h => match vs, st with | [.ref f0, .int x1, .int x2, .int x3], [] => (match Nat.beq f0 68 with | true => κ4 (x1, x2, x3, h) | false => none) | _, _ => none)] 1 k_Pa_tonguesTo 400) :=
  (x_ite rfl (x_bif (x_bI (f := sF_Bp_has) rfl (w_Bp_has _ _ _) fun v2 h1 => (x_ite rfl (x_bI (f := sF_Bp_bit) rfl (w_Bp_bit _ _) fun v4 h3 => rfl)))))
def k_Pa_choicesOfPairs : List Ent := [(0, .iconst 0, 1, [], .int (0)), (1, .istore_n 1, 1, [], .null), (2, .iconst 0, 1, [], .int (0)), (3, .istore_n 2, 1, [], .null), (4, .iload_n 2, 1, [], .null), (5, .aload_n 0, 1, [], .null), (6, .getfield 22, 3, [2, 0, 1], .null), (9, .getfield 58, 3, [0, 8, 0], .null), (12, .if_icmp .ge (77), 3, [89], .null), (15, .iconst 0, 1, [], .int (0)), (16, .istore_n 3, 1, [], .null), (17, .iload_n 3, 1, [], .null), (18, .iconst 5, 1, [], .int (5)), (19, .if_icmp .ge (21), 3, [40], .null), (22, .aload_n 0, 1, [], .null), (23, .getfield 9, 3, [2, 2, 1], .null), (26, .iload_n 3, 1, [], .null), (27, .aload_n 0, 1, [], .null), (28, .iload_n 2, 1, [], .null), (29, .iload_n 3, 1, [], .null), (30, .invokevirtual 61, 3, [208, 3, 1, 2], .null), (33, .iastore, 1, [], .null), (34, .iinc 3 (1), 3, [], .int (1)), (37, .goto (-20), 3, [17], .null), (40, .iconst 0, 1, [], .int (0)), (41, .istore_n 3, 1, [], .null), (42, .iload_n 3, 1, [], .null), (43, .aload_n 0, 1, [], .null), (44, .getfield 22, 3, [2, 0, 1], .null), (47, .getfield 58, 3, [0, 8, 0], .null), (50, .if_icmp .ge (33), 3, [83], .null), (53, .aload_n 0, 1, [], .null), (54, .iload_n 3, 1, [], .null), (55, .invokevirtual 79, 3, [214, 2, 1, 2], .null), (58, .istore 4, 2, [], .null), (60, .iload_n 1, 1, [], .null), (61, .iload 4, 2, [], .null), (63, .ifCond .ne (7), 3, [70], .null), (66, .iconst 0, 1, [], .int (0)), (67, .goto (8), 3, [75], .null), (70, .iload 4, 2, [], .null), (72, .invokestatic 43, 3, [64, 1, 1], .null), (75, .ior, 1, [], .null), (76, .istore_n 1, 1, [], .null), (77, .iinc 3 (1), 3, [], .int (1)), (80, .goto (-38), 3, [42], .null), (83, .iinc 2 (1), 3, [], .int (1)), (86, .goto (-82), 3, [4], .null), (89, .iload_n 1, 1, [], .null), (90, .ireturn, 1, [], .null)]
def Pa_choicesOfPairs_42 (κ4 : (Int32 × Int32 × Hp) → Res Hp)   : (Int32 × Int32 × Int32 × Hp) → ((Int32 × Int32 × Int32 × Hp) → Res Hp) → Res Hp := fun s κ42 => match s with
  | (x1, x2, x3, h) =>
  if (hg h 3 8) ≤ x3 then
  (κ4 (x1, (x2 + (1 : Int32)), h))
  else
  (bI (F_Pa_tonguesTo x3 h) fun v2 h1 =>
  if v2 = (0 : Int32) then
  (κ42 ((x1 ||| (0 : Int32)), x2, (x3 + (1 : Int32)), h1))
  else
  (bI (F_Bp_bit v2 h1) fun v4 h3 =>
  κ42 ((x1 ||| v4), x2, (x3 + (1 : Int32)), h3)))
def Pa_choicesOfPairs_17 (κ4 : (Int32 × Int32 × Hp) → Res Hp)   : (Int32 × Int32 × Int32 × Hp) → ((Int32 × Int32 × Int32 × Hp) → Res Hp) → Res Hp := fun s κ17 => match s with
  | (x1, x2, x3, h) =>
  if (5 : Int32) ≤ x3 then
  (loopC (Pa_choicesOfPairs_42 κ4  ) FU (x1, x2, (0 : Int32), h))
  else
  (bI (F_Pa_reachedBy x2 x3 h) fun v2 h1 =>
  bif okA 69 100 x3 then
  bH (hs h1 69 x3.toNatClampNeg v2) fun h3 =>
  κ17 (x1, x2, (x3 + (1 : Int32)), h3)
  else none)
def Pa_choicesOfPairs_4    : (Int32 × Int32 × Hp) → ((Int32 × Int32 × Hp) → Res Hp) → Res Hp := fun s κ4 => match s with
  | (x1, x2, h) =>
  if (hg h 3 8) ≤ x2 then
  (retI x1 h)
  else
  (loopC (Pa_choicesOfPairs_17 κ4  ) FU (x1, x2, (0 : Int32), h))
def F_Pa_choicesOfPairs  (h : Hp) : Res Hp :=
  loopC (Pa_choicesOfPairs_4   ) FU ((0 : Int32), (0 : Int32), h)
def sF_Pa_choicesOfPairs : List Value → Hp → Res Hp := fun as h => match as with | [.ref f0] => (match Nat.beq f0 68 with | true => F_Pa_choicesOfPairs  h | false => none) | _ => none
theorem w_Pa_choicesOfPairs  (h : Hp) : sF_Pa_choicesOfPairs [.ref 68] h = F_Pa_choicesOfPairs  h := rfl
def S_Pa_choicesOfPairs : Sem Hp := [(214, sF_Pa_tonguesTo), (64, sF_Bp_bit), (208, sF_Pa_reachedBy)]
set_option maxRecDepth 100000 in
theorem e_Pa_choicesOfPairs_0  (h : Hp) : F_Pa_choicesOfPairs  h = exec1 OI S_Pa_choicesOfPairs 1 k_Pa_choicesOfPairs 0 [some (.ref 68), none, none, none, none] [] h (runF OI S_Pa_choicesOfPairs [(4, [0, 1, 2], fun vs st h => match vs, st with | [.ref f0, .int x1, .int x2], [] => (match Nat.beq f0 68 with | true => loopC (Pa_choicesOfPairs_4   ) FU (x1, x2, h) | false => none) | _, _ => none)] 1 k_Pa_choicesOfPairs 400) :=
  rfl
set_option maxRecDepth 100000 in
theorem e_Pa_choicesOfPairs_4 (κ4 : (Int32 × Int32 × Hp) → Res Hp) (x1 : Int32) (x2 : Int32)  (h : Hp) : Pa_choicesOfPairs_4    (x1, x2, h) κ4 = exec1 OI S_Pa_choicesOfPairs 1 k_Pa_choicesOfPairs 4 [some (.ref 68), some (.int x1), some (.int x2), none, none] [] h (runF OI S_Pa_choicesOfPairs [(17, [0, 1, 2, 3], fun vs st h => match vs, st with | [.ref f0, .int x1, .int x2, .int x3], [] => (match Nat.beq f0 68 with | true => loopC (Pa_choicesOfPairs_17 κ4  ) FU (x1, x2, x3, h) | false => none) | _, _ => none)] 1 k_Pa_choicesOfPairs 400) :=
  (x_ite rfl rfl)
set_option maxRecDepth 100000 in
theorem e_Pa_choicesOfPairs_17 (κ4 : (Int32 × Int32 × Hp) → Res Hp) (κ17 : (Int32 × Int32 × Int32 × Hp) → Res Hp) (x1 : Int32) (x2 : Int32) (x3 : Int32)  (h : Hp) : Pa_choicesOfPairs_17 κ4   (x1, x2, x3, h) κ17 = exec1 OI S_Pa_choicesOfPairs 1 k_Pa_choicesOfPairs 17 [some (.ref 68), some (.int x1), some (.int x2), some (.int x3), none] [] h (runF OI S_Pa_choicesOfPairs [(42, [0, 1, 2, 3], fun vs st h => match vs, st with | [.ref f0, .int x1, .int x2, .int x3], [] => (match Nat.beq f0 68 with | true => loopC (Pa_choicesOfPairs_42 κ4  ) FU (x1, x2, x3, h) | false => none) | _, _ => none), (17, [0, 1, 2, 3], fun vs st h => match vs, st with | [.ref f0, .int x1, .int x2, .int x3], [] => (match Nat.beq f0 68 with | true => κ17 (x1, x2, x3, h) | false => none) | _, _ => none)] 1 k_Pa_choicesOfPairs 400) :=
  (x_ite rfl (x_bI (f := sF_Pa_reachedBy) rfl (w_Pa_reachedBy _ _ _) fun v2 h1 => (x_bif (x_bH fun h3 => rfl))))
set_option maxRecDepth 100000 in
theorem e_Pa_choicesOfPairs_42 (κ4 : (Int32 × Int32 × Hp) → Res Hp) (κ42 : (Int32 × Int32 × Int32 × Hp) → Res Hp) (x1 : Int32) (x2 : Int32) (x3 : Int32)  (h : Hp) : Pa_choicesOfPairs_42 κ4   (x1, x2, x3, h) κ42 = exec1 OI S_Pa_choicesOfPairs 1 k_Pa_choicesOfPairs 42 [some (.ref 68), some (.int x1), some (.int x2), some (.int x3), none] [] h (runF OI S_Pa_choicesOfPairs [(4, [0, 1, 2], fun vs st h => match vs, st with | [.ref f0, .int x1, .int x2], [] => (match Nat.beq f0 68 with | true => κ4 (x1, x2, h) | false => none) | _, _ => none), (42, [0, 1, 2, 3], fun vs st h => match vs, st with | [.ref f0, .int x1, .int x2, .int x3], [] => (match Nat.beq f0 68 with | true => κ42 (x1, x2, x3, h) | false => none) | _, _ => none)] 1 k_Pa_choicesOfPairs 400) :=
  (x_ite rfl (x_bI (f := sF_Pa_tonguesTo) rfl (w_Pa_tonguesTo _ _) fun v2 h1 => (x_ite rfl (x_bI (f := sF_Bp_bit) rfl (w_Bp_bit _ _) fun v4 h3 => rfl))))
def k_Pa_meetsEach : List Ent := [(0, .iconst 1, 1, [], .int (1)), (1, .istore_n 2, 1, [], .null), (2, .iload_n 2, 1, [], .null), (3, .bipush (31), 2, [], .int (31)), (5, .if_icmp .gt (26), 3, [31], .null), (8, .iload_n 1, 1, [], .null), (9, .iload_n 2, 1, [], .null), (10, .ishr, 1, [], .null), (11, .iconst 1, 1, [], .int (1)), (12, .iand, 1, [], .null), (13, .iconst 1, 1, [], .int (1)), (14, .if_icmp .ne (11), 3, [25], .null), (17, .iload_n 2, 1, [], .null), (18, .iload_n 0, 1, [], .null), (19, .iand, 1, [], .null), (20, .ifCond .ne (5), 3, [25], .null), (23, .iconst 0, 1, [], .int (0)), (24, .ireturn, 1, [], .null), (25, .iinc 2 (1), 3, [], .int (1)), (28, .goto (-26), 3, [2], .null), (31, .iconst 1, 1, [], .int (1)), (32, .ireturn, 1, [], .null)]
def Pa_meetsEach_2    : (Int32 × Int32 × Int32 × Hp) → ((Int32 × Int32 × Int32 × Hp) → Res Hp) → Res Hp := fun s κ2 => match s with
  | (x0, x1, x2, h) =>
  if (31 : Int32) < x2 then
  (retZ (1 : Int32) h)
  else
  (if ((x1 >>> (x2 &&& 31)) &&& (1 : Int32)) = (1 : Int32) then
  (if (x2 &&& x0) = (0 : Int32) then
  (retZ (0 : Int32) h)
  else
  (κ2 (x0, x1, (x2 + (1 : Int32)), h)))
  else
  (κ2 (x0, x1, (x2 + (1 : Int32)), h)))
def F_Pa_meetsEach (x0 : Int32) (x1 : Int32) (h : Hp) : Res Hp :=
  loopC (Pa_meetsEach_2   ) FU (x0, x1, (1 : Int32), h)
def sF_Pa_meetsEach : List Value → Hp → Res Hp := fun as h => match as with | [.int x0, .int x1] => F_Pa_meetsEach x0 x1 h | _ => none
theorem w_Pa_meetsEach (x0 : Int32) (x1 : Int32) (h : Hp) : sF_Pa_meetsEach [.int x0, .int x1] h = F_Pa_meetsEach x0 x1 h := rfl
def S_Pa_meetsEach : Sem Hp := []
set_option maxRecDepth 100000 in
theorem e_Pa_meetsEach_0 (x0 : Int32) (x1 : Int32) (h : Hp) : F_Pa_meetsEach x0 x1 h = exec1 OI S_Pa_meetsEach 2 k_Pa_meetsEach 0 [some (.int x0), some (.int x1), none] [] h (runF OI S_Pa_meetsEach [(2, [0, 1, 2], fun vs st h => match vs, st with | [.int x0, .int x1, .int x2], [] => loopC (Pa_meetsEach_2   ) FU (x0, x1, x2, h) | _, _ => none)] 2 k_Pa_meetsEach 400) :=
  rfl
set_option maxRecDepth 100000 in
theorem e_Pa_meetsEach_2 (κ2 : (Int32 × Int32 × Int32 × Hp) → Res Hp) (x0 : Int32) (x1 : Int32) (x2 : Int32)  (h : Hp) : Pa_meetsEach_2    (x0, x1, x2, h) κ2 = exec1 OI S_Pa_meetsEach 2 k_Pa_meetsEach 2 [some (.int x0), some (.int x1), some (.int x2)] [] h (runF OI S_Pa_meetsEach [(2, [0, 1, 2], fun vs st h => match vs, st with | [.int x0, .int x1, .int x2], [] => κ2 (x0, x1, x2, h) | _, _ => none)] 2 k_Pa_meetsEach 400) :=
  (x_ite rfl (x_ite (x_ite rfl rfl) rfl))
def k_Pa_leastTongues : List Ent := [(0, .aload_n 0, 1, [], .null), (1, .invokevirtual 72, 3, [213, 1, 1, 2], .null), (4, .istore_n 1, 1, [], .null), (5, .bipush (31), 2, [], .int (31)), (7, .istore_n 2, 1, [], .null), (8, .iconst 0, 1, [], .int (0)), (9, .istore_n 3, 1, [], .null), (10, .iload_n 3, 1, [], .null), (11, .bipush (31), 2, [], .int (31)), (13, .if_icmp .ge (30), 3, [43], .null), (16, .iload_n 3, 1, [], .null), (17, .invokestatic 64, 3, [250, 1, 1], .null), (20, .iload_n 2, 1, [], .null), (21, .invokestatic 64, 3, [250, 1, 1], .null), (24, .if_icmp .ge (13), 3, [37], .null), (27, .iload_n 3, 1, [], .null), (28, .iload_n 1, 1, [], .null), (29, .invokestatic 76, 3, [215, 2, 2], .null), (32, .ifCond .eq (5), 3, [37], .null), (35, .iload_n 3, 1, [], .null), (36, .istore_n 2, 1, [], .null), (37, .iinc 3 (1), 3, [], .int (1)), (40, .goto (-30), 3, [10], .null), (43, .iload_n 2, 1, [], .null), (44, .ireturn, 1, [], .null)]
def Pa_leastTongues_10    : (Int32 × Int32 × Int32 × Hp) → ((Int32 × Int32 × Int32 × Hp) → Res Hp) → Res Hp := fun s κ10 => match s with
  | (x1, x2, x3, h) =>
  if (31 : Int32) ≤ x3 then
  (retI x2 h)
  else
  (bI (F_Jint_bitCount x3 h) fun v2 h1 =>
  bI (F_Jint_bitCount x2 h1) fun v4 h3 =>
  if v4 ≤ v2 then
  (κ10 (x1, x2, (x3 + (1 : Int32)), h3))
  else
  (bI (F_Pa_meetsEach x3 x1 h3) fun v6 h5 =>
  if v6 = (0 : Int32) then
  (κ10 (x1, x2, (x3 + (1 : Int32)), h5))
  else
  (κ10 (x1, x3, (x3 + (1 : Int32)), h5))))
def F_Pa_leastTongues  (h : Hp) : Res Hp :=
  bI (F_Pa_choicesOfPairs  h) fun v2 h1 =>
  loopC (Pa_leastTongues_10   ) FU (v2, (31 : Int32), (0 : Int32), h1)
def sF_Pa_leastTongues : List Value → Hp → Res Hp := fun as h => match as with | [.ref f0] => (match Nat.beq f0 68 with | true => F_Pa_leastTongues  h | false => none) | _ => none
theorem w_Pa_leastTongues  (h : Hp) : sF_Pa_leastTongues [.ref 68] h = F_Pa_leastTongues  h := rfl
def S_Pa_leastTongues : Sem Hp := [(213, sF_Pa_choicesOfPairs), (250, sF_Jint_bitCount), (215, sF_Pa_meetsEach)]
set_option maxRecDepth 100000 in
theorem e_Pa_leastTongues_0  (h : Hp) : F_Pa_leastTongues  h = exec1 OI S_Pa_leastTongues 1 k_Pa_leastTongues 0 [some (.ref 68), none, none, none] [] h (runF OI S_Pa_leastTongues [(10, [1, 2, 3], fun vs st h => match vs, st with | [.int x1, .int x2, .int x3], [] => loopC (Pa_leastTongues_10   ) FU (x1, x2, x3, h) | _, _ => none)] 1 k_Pa_leastTongues 400) :=
  (x_bI (f := sF_Pa_choicesOfPairs) rfl (w_Pa_choicesOfPairs  _) fun v2 h1 => rfl)
set_option maxRecDepth 100000 in
theorem e_Pa_leastTongues_10 (κ10 : (Int32 × Int32 × Int32 × Hp) → Res Hp) (x1 : Int32) (x2 : Int32) (x3 : Int32)  (h : Hp) : Pa_leastTongues_10    (x1, x2, x3, h) κ10 = exec1 OI S_Pa_leastTongues 1 k_Pa_leastTongues 10 [none, some (.int x1), some (.int x2), some (.int x3)] [] h (runF OI S_Pa_leastTongues [(10, [1, 2, 3], fun vs st h => match vs, st with | [.int x1, .int x2, .int x3], [] => κ10 (x1, x2, x3, h) | _, _ => none)] 1 k_Pa_leastTongues 400) :=
  (x_ite rfl (x_bI (f := sF_Jint_bitCount) rfl (w_Jint_bitCount _ _) fun v2 h1 => (x_bI (f := sF_Jint_bitCount) rfl (w_Jint_bitCount _ _) fun v4 h3 => (x_ite rfl (x_bI (f := sF_Pa_meetsEach) rfl (w_Pa_meetsEach _ _ _) fun v6 h5 => (x_ite rfl rfl))))))
def k_Bp_fewest : List Ent := [(0, .aload_n 0, 1, [], .null), (1, .aload_n 0, 1, [], .null), (2, .getfield 57, 3, [6, 8, 1], .null), (5, .invokevirtual 282, 3, [212, 1, 1, 2], .null), (8, .putfield 69, 3, [6, 11, 0], .null), (11, .aload_n 0, 1, [], .null), (12, .getfield 69, 3, [6, 11, 0], .null), (15, .invokestatic 285, 3, [250, 1, 1], .null), (18, .ireturn, 1, [], .null)]
def F_Bp_fewest  (h : Hp) : Res Hp :=
  bI (F_Pa_leastTongues  h) fun v2 h1 =>
  bH (hs h1 0 11 v2) fun h3 =>
  bI (F_Jint_bitCount (hg h3 0 11) h3) fun v5 h4 =>
  retI v5 h4
def sF_Bp_fewest : List Value → Hp → Res Hp := fun as h => match as with | [.ref f0] => (match Nat.beq f0 0 with | true => F_Bp_fewest  h | false => none) | _ => none
theorem w_Bp_fewest  (h : Hp) : sF_Bp_fewest [.ref 0] h = F_Bp_fewest  h := rfl
def S_Bp_fewest : Sem Hp := [(212, sF_Pa_leastTongues), (250, sF_Jint_bitCount)]
set_option maxRecDepth 100000 in
theorem e_Bp_fewest_0  (h : Hp) : F_Bp_fewest  h = exec1 OI S_Bp_fewest 1 k_Bp_fewest 0 [some (.ref 0)] [] h (runF OI S_Bp_fewest [] 1 k_Bp_fewest 400) :=
  (x_bI (f := sF_Pa_leastTongues) rfl (w_Pa_leastTongues  _) fun v2 h1 => (x_bH fun h3 => (x_bI (f := sF_Jint_bitCount) rfl (w_Jint_bitCount _ _) fun v5 h4 => rfl)))
def k_Bp_refusedPairs : List Ent := [(0, .iload_n 1, 1, [], .null), (1, .invokestatic 75, 3, [52, 1, 2], .null), (4, .ifCond .eq (5), 3, [9], .null), (7, .iconst (-1), 1, [], .int (-1)), (8, .ireturn, 1, [], .null), (9, .aload_n 0, 1, [], .null), (10, .getfield 11, 3, [6, 0, 1], .null), (13, .iload_n 1, 1, [], .null), (14, .aaload, 1, [], .null), (15, .astore_n 2, 1, [], .null), (16, .aload_n 2, 1, [], .null), (17, .invokevirtual 96, 3, [225, 1, 2, 4], .null), (20, .ifCond .ne (9), 3, [29], .null), (23, .aload_n 0, 1, [], .null), (24, .iconst 1, 1, [], .int (1)), (25, .invokevirtual 79, 3, [50, 2, 1, 6], .null), (28, .ireturn, 1, [], .null), (29, .aload_n 2, 1, [], .null), (30, .getfield 100, 3, [4, 1, 0], .null), (33, .iconst 2, 1, [], .int (2)), (34, .irem, 1, [], .null), (35, .ifCond .eq (9), 3, [44], .null), (38, .aload_n 0, 1, [], .null), (39, .iconst 5, 1, [], .int (5)), (40, .invokevirtual 79, 3, [50, 2, 1, 6], .null), (43, .ireturn, 1, [], .null), (44, .iconst 0, 1, [], .int (0)), (45, .istore_n 3, 1, [], .null), (46, .iload_n 3, 1, [], .null), (47, .iconst 1, 1, [], .int (1)), (48, .iadd, 1, [], .null), (49, .aload_n 2, 1, [], .null), (50, .getfield 100, 3, [4, 1, 0], .null), (53, .if_icmp .ge (90), 3, [143], .null), (56, .aload_n 2, 1, [], .null), (57, .getfield 90, 3, [4, 0, 1], .null), (60, .iload_n 3, 1, [], .null), (61, .iaload, 1, [], .null), (62, .ifCond .lt (26), 3, [88], .null), (65, .aload_n 2, 1, [], .null), (66, .getfield 90, 3, [4, 0, 1], .null), (69, .iload_n 3, 1, [], .null), (70, .iaload, 1, [], .null), (71, .aload_n 0, 1, [], .null), (72, .getfield 21, 3, [6, 2, 1], .null), (75, .getfield 127, 3, [0, 8, 0], .null), (78, .invokestatic 152, 3, [64, 1, 1], .null), (81, .if_icmp .ge (7), 3, [88], .null), (84, .iconst 1, 1, [], .int (1)), (85, .goto (4), 3, [89], .null), (88, .iconst 0, 1, [], .int (0)), (89, .istore 4, 2, [], .null), (91, .aload_n 2, 1, [], .null), (92, .getfield 90, 3, [4, 0, 1], .null), (95, .iload_n 3, 1, [], .null), (96, .iconst 1, 1, [], .int (1)), (97, .iadd, 1, [], .null), (98, .iaload, 1, [], .null), (99, .ifCond .eq (15), 3, [114], .null), (102, .aload_n 2, 1, [], .null), (103, .getfield 90, 3, [4, 0, 1], .null), (106, .iload_n 3, 1, [], .null), (107, .iconst 1, 1, [], .int (1)), (108, .iadd, 1, [], .null), (109, .iaload, 1, [], .null), (110, .iconst 1, 1, [], .int (1)), (111, .if_icmp .ne (7), 3, [118], .null), (114, .iconst 1, 1, [], .int (1)), (115, .goto (4), 3, [119], .null), (118, .iconst 0, 1, [], .int (0)), (119, .istore 5, 2, [], .null), (121, .iload 4, 2, [], .null), (123, .ifCond .eq (8), 3, [131], .null), (126, .iload 5, 2, [], .null), (128, .ifCond .ne (9), 3, [137], .null), (131, .aload_n 0, 1, [], .null), (132, .iconst 3, 1, [], .int (3)), (133, .invokevirtual 79, 3, [50, 2, 1, 6], .null), (136, .ireturn, 1, [], .null), (137, .iinc 3 (2), 3, [], .int (2)), (140, .goto (-94), 3, [46], .null), (143, .iconst 0, 1, [], .int (0)), (144, .ireturn, 1, [], .null)]
def Bp_refusedPairs_46    : (Nat × Int32 × Hp) → ((Nat × Int32 × Hp) → Res Hp) → Res Hp := fun s κ46 => match s with
  | (o2, x3, h) =>
  bif okF o2 4 1 0 then
  if (hg h o2 1) ≤ (x3 + (1 : Int32)) then
  (retI (0 : Int32) h)
  else
  (bif okF o2 4 0 1 then
  bif okA (shR o2 0) 100 x3 then
  if (hg h (shR o2 0) x3.toNatClampNeg) < (0 : Int32) then
  (bif okF o2 4 0 1 then
  bif okA (shR o2 0) 100 (x3 + (1 : Int32)) then
  if (hg h (shR o2 0) (x3 + (1 : Int32)).toNatClampNeg) = (0 : Int32) then
  (bI (F_Bp_found (3 : Int32) h) fun v2 h1 =>
  retI v2 h1)
  else
  (bif okF o2 4 0 1 then
  bif okA (shR o2 0) 100 (x3 + (1 : Int32)) then
  if (hg h (shR o2 0) (x3 + (1 : Int32)).toNatClampNeg) = (1 : Int32) then
  (bI (F_Bp_found (3 : Int32) h) fun v6 h5 =>
  retI v6 h5)
  else
  (bI (F_Bp_found (3 : Int32) h) fun v4 h3 =>
  retI v4 h3)
  else none
  else none)
  else none
  else none)
  else
  (bif okF o2 4 0 1 then
  bif okA (shR o2 0) 100 x3 then
  bI (F_Bp_bit (hg h 3 8) h) fun v8 h7 =>
  if v8 ≤ (hg h (shR o2 0) x3.toNatClampNeg) then
  (bif okF o2 4 0 1 then
  bif okA (shR o2 0) 100 (x3 + (1 : Int32)) then
  if (hg h7 (shR o2 0) (x3 + (1 : Int32)).toNatClampNeg) = (0 : Int32) then
  (bI (F_Bp_found (3 : Int32) h7) fun v10 h9 =>
  retI v10 h9)
  else
  (bif okF o2 4 0 1 then
  bif okA (shR o2 0) 100 (x3 + (1 : Int32)) then
  if (hg h7 (shR o2 0) (x3 + (1 : Int32)).toNatClampNeg) = (1 : Int32) then
  (bI (F_Bp_found (3 : Int32) h7) fun v14 h13 =>
  retI v14 h13)
  else
  (bI (F_Bp_found (3 : Int32) h7) fun v12 h11 =>
  retI v12 h11)
  else none
  else none)
  else none
  else none)
  else
  (bif okF o2 4 0 1 then
  bif okA (shR o2 0) 100 (x3 + (1 : Int32)) then
  if (hg h7 (shR o2 0) (x3 + (1 : Int32)).toNatClampNeg) = (0 : Int32) then
  (κ46 (o2, (x3 + (2 : Int32)), h7))
  else
  (bif okF o2 4 0 1 then
  bif okA (shR o2 0) 100 (x3 + (1 : Int32)) then
  if (hg h7 (shR o2 0) (x3 + (1 : Int32)).toNatClampNeg) = (1 : Int32) then
  (κ46 (o2, (x3 + (2 : Int32)), h7))
  else
  (bI (F_Bp_found (3 : Int32) h7) fun v16 h15 =>
  retI v16 h15)
  else none
  else none)
  else none
  else none)
  else none
  else none)
  else none
  else none)
  else none
def F_Bp_refusedPairs (x1 : Int32) (h : Hp) : Res Hp :=
  bI (F_Bp_noRow x1 h) fun v2 h1 =>
  if v2 = (0 : Int32) then
  (bif okR 1 x1 then
  bif okO (shR 1 x1.toNatClampNeg) 4 then
  bI (F_Sh_isThere (shR 1 x1.toNatClampNeg) h1) fun v4 h3 =>
  if v4 = (0 : Int32) then
  (bI (F_Bp_found (1 : Int32) h3) fun v8 h7 =>
  retI v8 h7)
  else
  (bif okF (shR 1 x1.toNatClampNeg) 4 1 0 then
  if ((hg h3 (shR 1 x1.toNatClampNeg) 1) - (hg h3 (shR 1 x1.toNatClampNeg) 1) / (2 : Int32) * (2 : Int32)) = (0 : Int32) then
  (loopC (Bp_refusedPairs_46   ) FU ((shR 1 x1.toNatClampNeg), (0 : Int32), h3))
  else
  (bI (F_Bp_found (5 : Int32) h3) fun v6 h5 =>
  retI v6 h5)
  else none)
  else none
  else none)
  else
  (retI (-1 : Int32) h1)
def sF_Bp_refusedPairs : List Value → Hp → Res Hp := fun as h => match as with | [.ref f0, .int x1] => (match Nat.beq f0 0 with | true => F_Bp_refusedPairs x1 h | false => none) | _ => none
theorem w_Bp_refusedPairs (x1 : Int32) (h : Hp) : sF_Bp_refusedPairs [.ref 0, .int x1] h = F_Bp_refusedPairs x1 h := rfl
def S_Bp_refusedPairs : Sem Hp := [(52, sF_Bp_noRow), (225, sF_Sh_isThere), (50, sF_Bp_found), (64, sF_Bp_bit)]
set_option maxRecDepth 100000 in
theorem e_Bp_refusedPairs_0 (x1 : Int32) (h : Hp) : F_Bp_refusedPairs x1 h = exec1 OI S_Bp_refusedPairs 1 k_Bp_refusedPairs 0 [some (.ref 0), some (.int x1), none, none, none, none] [] h (runF OI S_Bp_refusedPairs [(46, [0, 2, 3], fun vs st h => match vs, st with | [.ref f0, .ref o2, .int x3], [] => (match Nat.beq f0 0 with | true => loopC (Bp_refusedPairs_46   ) FU (o2, x3, h) | false => none) | _, _ => none)] 1 k_Bp_refusedPairs 400) :=
  (x_bI (f := sF_Bp_noRow) rfl (w_Bp_noRow _ _) fun v2 h1 => (x_ite (x_bif (x_bif (x_bI (f := sF_Sh_isThere) rfl (w_Sh_isThere _ _) fun v4 h3 => (x_ite (x_bI (f := sF_Bp_found) rfl (w_Bp_found _ _) fun v8 h7 => rfl) (x_bif (x_ite rfl (x_bI (f := sF_Bp_found) rfl (w_Bp_found _ _) fun v6 h5 => rfl))))))) rfl))
set_option maxRecDepth 100000 in
theorem e_Bp_refusedPairs_46 (κ46 : (Nat × Int32 × Hp) → Res Hp) (o2 : Nat) (x3 : Int32)  (h : Hp) : Bp_refusedPairs_46    (o2, x3, h) κ46 = exec1 OI S_Bp_refusedPairs 1 k_Bp_refusedPairs 46 [some (.ref 0), none, some (.ref o2), some (.int x3), none, none] [] h (runF OI S_Bp_refusedPairs [(46, [0, 2, 3], fun vs st h => match vs, st with | [.ref f0, .ref o2, .int x3], [] => (match Nat.beq f0 0 with | true => κ46 (o2, x3, h) | false => none) | _, _ => none)] 1 k_Bp_refusedPairs 400) :=
  (x_bif (x_ite rfl (x_bif (x_bif (x_ite (x_bif (x_bif (x_ite (x_bI (f := sF_Bp_found) rfl (w_Bp_found _ _) fun v2 h1 => rfl) (x_bif (x_bif (x_ite (x_bI (f := sF_Bp_found) rfl (w_Bp_found _ _) fun v6 h5 => rfl) (x_bI (f := sF_Bp_found) rfl (w_Bp_found _ _) fun v4 h3 => rfl))))))) (x_bif (x_bif (x_bI (f := sF_Bp_bit) rfl (w_Bp_bit _ _) fun v8 h7 => (x_ite (x_bif (x_bif (x_ite (x_bI (f := sF_Bp_found) rfl (w_Bp_found _ _) fun v10 h9 => rfl) (x_bif (x_bif (x_ite (x_bI (f := sF_Bp_found) rfl (w_Bp_found _ _) fun v14 h13 => rfl) (x_bI (f := sF_Bp_found) rfl (w_Bp_found _ _) fun v12 h11 => rfl))))))) (x_bif (x_bif (x_ite rfl (x_bif (x_bif (x_ite rfl (x_bI (f := sF_Bp_found) rfl (w_Bp_found _ _) fun v16 h15 => rfl))))))))))))))))
def k_Bp_readsSo : List Ent := [(0, .iconst 0, 1, [], .int (0)), (1, .istore_n 2, 1, [], .null), (2, .iload_n 2, 1, [], .null), (3, .iconst 1, 1, [], .int (1)), (4, .iadd, 1, [], .null), (5, .aload_n 0, 1, [], .null), (6, .getfield 100, 3, [4, 1, 0], .null), (9, .if_icmp .ge (49), 3, [58], .null), (12, .aload_n 0, 1, [], .null), (13, .getfield 90, 3, [4, 0, 1], .null), (16, .iload_n 2, 1, [], .null), (17, .iaload, 1, [], .null), (18, .iload_n 1, 1, [], .null), (19, .iand, 1, [], .null), (20, .ifCond .eq (7), 3, [27], .null), (23, .iconst 1, 1, [], .int (1)), (24, .goto (4), 3, [28], .null), (27, .iconst 0, 1, [], .int (0)), (28, .istore_n 3, 1, [], .null), (29, .iload_n 3, 1, [], .null), (30, .aload_n 0, 1, [], .null), (31, .getfield 90, 3, [4, 0, 1], .null), (34, .iload_n 2, 1, [], .null), (35, .iconst 1, 1, [], .int (1)), (36, .iadd, 1, [], .null), (37, .iaload, 1, [], .null), (38, .iconst 1, 1, [], .int (1)), (39, .if_icmp .ne (7), 3, [46], .null), (42, .iconst 1, 1, [], .int (1)), (43, .goto (4), 3, [47], .null), (46, .iconst 0, 1, [], .int (0)), (47, .if_icmp .eq (5), 3, [52], .null), (50, .iconst 0, 1, [], .int (0)), (51, .ireturn, 1, [], .null), (52, .iinc 2 (2), 3, [], .int (2)), (55, .goto (-53), 3, [2], .null), (58, .iconst 1, 1, [], .int (1)), (59, .ireturn, 1, [], .null)]
def Bp_readsSo_2    : (Nat × Int32 × Int32 × Hp) → ((Nat × Int32 × Int32 × Hp) → Res Hp) → Res Hp := fun s κ2 => match s with
  | (o0, x1, x2, h) =>
  bif okF o0 4 1 0 then
  if (hg h o0 1) ≤ (x2 + (1 : Int32)) then
  (retZ (1 : Int32) h)
  else
  (bif okF o0 4 0 1 then
  bif okA (shR o0 0) 100 x2 then
  if ((hg h (shR o0 0) x2.toNatClampNeg) &&& x1) = (0 : Int32) then
  (bif okF o0 4 0 1 then
  bif okA (shR o0 0) 100 (x2 + (1 : Int32)) then
  if (hg h (shR o0 0) (x2 + (1 : Int32)).toNatClampNeg) = (1 : Int32) then
  (retZ (0 : Int32) h)
  else
  (κ2 (o0, x1, (x2 + (2 : Int32)), h))
  else none
  else none)
  else
  (bif okF o0 4 0 1 then
  bif okA (shR o0 0) 100 (x2 + (1 : Int32)) then
  if (hg h (shR o0 0) (x2 + (1 : Int32)).toNatClampNeg) = (1 : Int32) then
  (κ2 (o0, x1, (x2 + (2 : Int32)), h))
  else
  (retZ (0 : Int32) h)
  else none
  else none)
  else none
  else none)
  else none
def F_Bp_readsSo (o0 : Nat) (x1 : Int32) (h : Hp) : Res Hp :=
  loopC (Bp_readsSo_2   ) FU (o0, x1, (0 : Int32), h)
def sF_Bp_readsSo : List Value → Hp → Res Hp := fun as h => match as with | [.ref o0, .int x1] => F_Bp_readsSo o0 x1 h | _ => none
theorem w_Bp_readsSo (o0 : Nat) (x1 : Int32) (h : Hp) : sF_Bp_readsSo [.ref o0, .int x1] h = F_Bp_readsSo o0 x1 h := rfl
def S_Bp_readsSo : Sem Hp := []
set_option maxRecDepth 100000 in
theorem e_Bp_readsSo_0 (o0 : Nat) (x1 : Int32) (h : Hp) : F_Bp_readsSo o0 x1 h = exec1 OI S_Bp_readsSo 2 k_Bp_readsSo 0 [some (.ref o0), some (.int x1), none, none] [] h (runF OI S_Bp_readsSo [(2, [0, 1, 2], fun vs st h => match vs, st with | [.ref o0, .int x1, .int x2], [] => loopC (Bp_readsSo_2   ) FU (o0, x1, x2, h) | _, _ => none)] 2 k_Bp_readsSo 400) :=
  rfl
set_option maxRecDepth 100000 in
theorem e_Bp_readsSo_2 (κ2 : (Nat × Int32 × Int32 × Hp) → Res Hp) (o0 : Nat) (x1 : Int32) (x2 : Int32)  (h : Hp) : Bp_readsSo_2    (o0, x1, x2, h) κ2 = exec1 OI S_Bp_readsSo 2 k_Bp_readsSo 2 [some (.ref o0), some (.int x1), some (.int x2), none] [] h (runF OI S_Bp_readsSo [(2, [0, 1, 2], fun vs st h => match vs, st with | [.ref o0, .int x1, .int x2], [] => κ2 (o0, x1, x2, h) | _, _ => none)] 2 k_Bp_readsSo 400) :=
  (x_bif (x_ite rfl (x_bif (x_bif (x_ite (x_bif (x_bif (x_ite rfl rfl))) (x_bif (x_bif (x_ite rfl rfl))))))))
end
