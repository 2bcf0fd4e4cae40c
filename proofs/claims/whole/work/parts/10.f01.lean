noncomputable section
def k_La_takeFrom : List Ent := [(0, .aload_n 1, 1, [], .null), (1, .getfield 9, 3, [0, 0, 1], .null), (4, .iconst 0, 1, [], .int (0)), (5, .aload_n 0, 1, [], .null), (6, .getfield 9, 3, [0, 0, 1], .null), (9, .iconst 0, 1, [], .int (0)), (10, .bipush (7), 2, [], .int (7)), (12, .invokestatic 58, 3, [], .null), (15, .aload_n 1, 1, [], .null), (16, .getfield 15, 3, [0, 1, 1], .null), (19, .iconst 0, 1, [], .int (0)), (20, .aload_n 0, 1, [], .null), (21, .getfield 15, 3, [0, 1, 1], .null), (24, .iconst 0, 1, [], .int (0)), (25, .bipush (7), 2, [], .int (7)), (27, .invokestatic 58, 3, [], .null), (30, .aload_n 1, 1, [], .null), (31, .getfield 18, 3, [0, 2, 1], .null), (34, .iconst 0, 1, [], .int (0)), (35, .aload_n 0, 1, [], .null), (36, .getfield 18, 3, [0, 2, 1], .null), (39, .iconst 0, 1, [], .int (0)), (40, .bipush (16), 2, [], .int (16)), (42, .invokestatic 58, 3, [], .null), (45, .aload_n 1, 1, [], .null), (46, .getfield 21, 3, [0, 3, 1], .null), (49, .iconst 0, 1, [], .int (0)), (50, .aload_n 0, 1, [], .null), (51, .getfield 21, 3, [0, 3, 1], .null), (54, .iconst 0, 1, [], .int (0)), (55, .bipush (16), 2, [], .int (16)), (57, .invokestatic 58, 3, [], .null), (60, .aload_n 1, 1, [], .null), (61, .getfield 24, 3, [0, 4, 1], .null), (64, .iconst 0, 1, [], .int (0)), (65, .aload_n 0, 1, [], .null), (66, .getfield 24, 3, [0, 4, 1], .null), (69, .iconst 0, 1, [], .int (0)), (70, .bipush (16), 2, [], .int (16)), (72, .invokestatic 58, 3, [], .null), (75, .iconst 0, 1, [], .int (0)), (76, .istore_n 2, 1, [], .null), (77, .iload_n 2, 1, [], .null), (78, .aload_n 1, 1, [], .null), (79, .getfield 48, 3, [0, 10, 0], .null), (82, .if_icmp .ge (24), 3, [106], .null), (85, .aload_n 0, 1, [], .null), (86, .getfield 37, 3, [0, 7, 1], .null), (89, .iload_n 2, 1, [], .null), (90, .aaload, 1, [], .null), (91, .aload_n 1, 1, [], .null), (92, .getfield 37, 3, [0, 7, 1], .null), (95, .iload_n 2, 1, [], .null), (96, .aaload, 1, [], .null), (97, .invokevirtual 64, 3, [197, 2, 0, 1], .null), (100, .iinc 2 (1), 3, [], .int (1)), (103, .goto (-26), 3, [77], .null), (106, .aload_n 0, 1, [], .null), (107, .aload_n 1, 1, [], .null), (108, .getfield 41, 3, [0, 8, 0], .null), (111, .putfield 41, 3, [0, 8, 0], .null), (114, .aload_n 0, 1, [], .null), (115, .aload_n 1, 1, [], .null), (116, .getfield 45, 3, [0, 9, 0], .null), (119, .putfield 45, 3, [0, 9, 0], .null), (122, .aload_n 0, 1, [], .null), (123, .aload_n 1, 1, [], .null), (124, .getfield 48, 3, [0, 10, 0], .null), (127, .putfield 48, 3, [0, 10, 0], .null), (130, .aload_n 0, 1, [], .null), (131, .aload_n 1, 1, [], .null), (132, .getfield 51, 3, [0, 11, 0], .null), (135, .putfield 51, 3, [0, 11, 0], .null), (138, .aload_n 0, 1, [], .null), (139, .invokevirtual 55, 3, [179, 1, 0, 0], .null), (142, .return_, 1, [], .null)]
def La_takeFrom_77    : (Nat × Nat × Int32 × Hp) → ((Nat × Nat × Int32 × Hp) → Res Hp) → Res Hp := fun s κ77 => match s with
  | (o0, o1, x2, h) =>
  bif okF o1 0 10 0 then
  if (hg h o1 10) ≤ x2 then
  (bif okF o1 0 8 0 then
  bif okF o0 0 8 0 then
  bH (hs h o0 8 (hg h o1 8)) fun h1 =>
  bif okF o1 0 9 0 then
  bif okF o0 0 9 0 then
  bH (hs h1 o0 9 (hg h1 o1 9)) fun h2 =>
  bif okF o1 0 10 0 then
  bif okF o0 0 10 0 then
  bH (hs h2 o0 10 (hg h2 o1 10)) fun h3 =>
  bif okF o1 0 11 0 then
  bif okF o0 0 11 0 then
  bH (hs h3 o0 11 (hg h3 o1 11)) fun h4 =>
  bif okO o0 0 then
  bV (F_La_tieAll o0 h4) fun h5 =>
  retV h5
  else none
  else none
  else none
  else none
  else none
  else none
  else none
  else none
  else none)
  else
  (bif okF o0 0 7 1 then
  bif okR (shR o0 7) x2 then
  bif okF o1 0 7 1 then
  bif okR (shR o1 7) x2 then
  bif okO (shR (shR o0 7) x2.toNatClampNeg) 1 then
  bV (F_Le_takeFrom (shR (shR o0 7) x2.toNatClampNeg) (shR (shR o1 7) x2.toNatClampNeg) h) fun h6 =>
  κ77 (o0, o1, (x2 + (1 : Int32)), h6)
  else none
  else none
  else none
  else none
  else none)
  else none
def F_La_takeFrom (o0 : Nat) (o1 : Nat) (h : Hp) : Res Hp :=
  bif okF o1 0 0 1 then
  bif okF o0 0 0 1 then
  bif okC (shR o1 0) (0 : Int32) (shR o0 0) (0 : Int32) (7 : Int32) then
  bH (hcp h (shR o1 0) (0 : Int32) (shR o0 0) (0 : Int32) (7 : Int32)) fun h1 =>
  bif okF o1 0 1 1 then
  bif okF o0 0 1 1 then
  bif okC (shR o1 1) (0 : Int32) (shR o0 1) (0 : Int32) (7 : Int32) then
  bH (hcp h1 (shR o1 1) (0 : Int32) (shR o0 1) (0 : Int32) (7 : Int32)) fun h2 =>
  bif okF o1 0 2 1 then
  bif okF o0 0 2 1 then
  bif okC (shR o1 2) (0 : Int32) (shR o0 2) (0 : Int32) (16 : Int32) then
  bH (hcp h2 (shR o1 2) (0 : Int32) (shR o0 2) (0 : Int32) (16 : Int32)) fun h3 =>
  bif okF o1 0 3 1 then
  bif okF o0 0 3 1 then
  bif okC (shR o1 3) (0 : Int32) (shR o0 3) (0 : Int32) (16 : Int32) then
  bH (hcp h3 (shR o1 3) (0 : Int32) (shR o0 3) (0 : Int32) (16 : Int32)) fun h4 =>
  bif okF o1 0 4 1 then
  bif okF o0 0 4 1 then
  bif okC (shR o1 4) (0 : Int32) (shR o0 4) (0 : Int32) (16 : Int32) then
  bH (hcp h4 (shR o1 4) (0 : Int32) (shR o0 4) (0 : Int32) (16 : Int32)) fun h5 =>
  loopC (La_takeFrom_77   ) FU (o0, o1, (0 : Int32), h5)
  else none
  else none
  else none
  else none
  else none
  else none
  else none
  else none
  else none
  else none
  else none
  else none
  else none
  else none
  else none
def sF_La_takeFrom : List Value → Hp → Res Hp := fun as h => match as with | [.ref o0, .ref o1] => F_La_takeFrom o0 o1 h | _ => none
theorem w_La_takeFrom (o0 : Nat) (o1 : Nat) (h : Hp) : sF_La_takeFrom [.ref o0, .ref o1] h = F_La_takeFrom o0 o1 h := rfl
def S_La_takeFrom : Sem Hp := [(179, sF_La_tieAll), (197, sF_Le_takeFrom)]
set_option maxRecDepth 100000 in
theorem e_La_takeFrom_0 (o0 : Nat) (o1 : Nat) (h : Hp) : F_La_takeFrom o0 o1 h = exec1 OI S_La_takeFrom 0 k_La_takeFrom 0 [some (.ref o0), some (.ref o1), none] [] h (runF OI S_La_takeFrom [(77, [0, 1, 2], fun vs st h => match vs, st with | [.ref o0, .ref o1, .int x2], [] => loopC (La_takeFrom_77   ) FU (o0, o1, x2, h) | _, _ => none)] 0 k_La_takeFrom 400) :=
  (x_bif (x_bif (x_bif (x_bH fun h1 => (x_bif (x_bif (x_bif (x_bH fun h2 => (x_bif (x_bif (x_bif (x_bH fun h3 => (x_bif (x_bif (x_bif (x_bH fun h4 => (x_bif (x_bif (x_bif (x_bH fun h5 => rfl))))))))))))))))))))
set_option maxRecDepth 100000 in
theorem e_La_takeFrom_77 (κ77 : (Nat × Nat × Int32 × Hp) → Res Hp) (o0 : Nat) (o1 : Nat) (x2 : Int32)  (h : Hp) : La_takeFrom_77    (o0, o1, x2, h) κ77 = exec1 OI S_La_takeFrom 0 k_La_takeFrom 77 [some (.ref o0), some (.ref o1), some (.int x2)] [] h (runF OI S_La_takeFrom [(77, [0, 1, 2], fun vs st h => match vs, st with | [.ref o0, .ref o1, .int x2], [] => κ77 (o0, o1, x2, h) | _, _ => none)] 0 k_La_takeFrom 400) :=
  (x_bif (x_ite (x_bif (x_bif (x_bH fun h1 => (x_bif (x_bif (x_bH fun h2 => (x_bif (x_bif (x_bH fun h3 => (x_bif (x_bif (x_bH fun h4 => (x_bif (x_bV (f := sF_La_tieAll) rfl (w_La_tieAll _ _) fun h5 => rfl)))))))))))))) (x_bif (x_bif (x_bif (x_bif (x_bif (x_bV (f := sF_Le_takeFrom) rfl (w_Le_takeFrom _ _ _) fun h6 => rfl))))))))
def k_Bp_land : List Ent := [(0, .iload_n 1, 1, [], .null), (1, .invokestatic 117, 3, [53, 1, 2], .null), (4, .ifCond .eq (5), 3, [9], .null), (7, .iconst (-1), 1, [], .int (-1)), (8, .ireturn, 1, [], .null), (9, .aload_n 0, 1, [], .null), (10, .getfield 15, 3, [6, 1, 1], .null), (13, .iload_n 1, 1, [], .null), (14, .aaload, 1, [], .null), (15, .invokevirtual 96, 3, [225, 1, 2, 4], .null), (18, .ifCond .ne (9), 3, [27], .null), (21, .aload_n 0, 1, [], .null), (22, .iconst 1, 1, [], .int (1)), (23, .invokevirtual 79, 3, [50, 2, 1, 6], .null), (26, .ireturn, 1, [], .null), (27, .aload_n 0, 1, [], .null), (28, .getfield 41, 3, [6, 6, 1], .null), (31, .aload_n 0, 1, [], .null), (32, .getfield 15, 3, [6, 1, 1], .null), (35, .iload_n 1, 1, [], .null), (36, .aaload, 1, [], .null), (37, .invokevirtual 120, 3, [217, 2, 1, 3], .null), (40, .bipush (-9), 2, [], .int (-9)), (42, .if_icmp .eq (6), 3, [48], .null), (45, .bipush (-4), 2, [], .int (-4)), (47, .ireturn, 1, [], .null), (48, .aload_n 0, 1, [], .null), (49, .getfield 21, 3, [6, 2, 1], .null), (52, .aload_n 0, 1, [], .null), (53, .getfield 25, 3, [6, 3, 1], .null), (56, .invokevirtual 124, 3, [174, 2, 0, 0], .null), (59, .iconst 0, 1, [], .int (0)), (60, .istore_n 2, 1, [], .null), (61, .iload_n 2, 1, [], .null), (62, .iconst 3, 1, [], .int (3)), (63, .if_icmp .ge (16), 3, [79], .null), (66, .aload_n 0, 1, [], .null), (67, .getfield 32, 3, [6, 5, 1], .null), (70, .iload_n 2, 1, [], .null), (71, .iconst 0, 1, [], .int (0)), (72, .bastore, 1, [], .null), (73, .iinc 2 (1), 3, [], .int (1)), (76, .goto (-15), 3, [61], .null), (79, .aload_n 0, 1, [], .null), (80, .getfield 21, 3, [6, 2, 1], .null), (83, .getfield 127, 3, [0, 8, 0], .null), (86, .ireturn, 1, [], .null)]
def Bp_land_61    : (Int32 × Hp) → ((Int32 × Hp) → Res Hp) → Res Hp := fun s κ61 => match s with
  | (x2, h) =>
  if (3 : Int32) ≤ x2 then
  (retI (hg h 3 8) h)
  else
  (bif okA 62 101 x2 then
  bH (hs h 62 x2.toNatClampNeg (vp_nar .boolean (0 : Int32))) fun h1 =>
  κ61 ((x2 + (1 : Int32)), h1)
  else none)
def F_Bp_land (x1 : Int32) (h : Hp) : Res Hp :=
  bI (F_Bp_noText x1 h) fun v2 h1 =>
  if v2 = (0 : Int32) then
  (bif okR 2 x1 then
  bif okO (shR 2 x1.toNatClampNeg) 4 then
  bI (F_Sh_isThere (shR 2 x1.toNatClampNeg) h1) fun v4 h3 =>
  if v4 = (0 : Int32) then
  (bI (F_Bp_found (1 : Int32) h3) fun v9 h8 =>
  retI v9 h8)
  else
  (bif okR 2 x1 then
  bI (F_Re_faultOf (shR 2 x1.toNatClampNeg) h3) fun v6 h5 =>
  if v6 = (-9 : Int32) then
  (bV (F_La_takeFrom 3 32 h5) fun h7 =>
  loopC (Bp_land_61   ) FU ((0 : Int32), h7))
  else
  (retI (-4 : Int32) h5)
  else none)
  else none
  else none)
  else
  (retI (-1 : Int32) h1)
def sF_Bp_land : List Value → Hp → Res Hp := fun as h => match as with | [.ref f0, .int x1] => (match Nat.beq f0 0 with | true => F_Bp_land x1 h | false => none) | _ => none
theorem w_Bp_land (x1 : Int32) (h : Hp) : sF_Bp_land [.ref 0, .int x1] h = F_Bp_land x1 h := rfl
def S_Bp_land : Sem Hp := [(53, sF_Bp_noText), (225, sF_Sh_isThere), (217, sF_Re_faultOf), (174, sF_La_takeFrom), (50, sF_Bp_found)]
set_option maxRecDepth 100000 in
theorem e_Bp_land_0 (x1 : Int32) (h : Hp) : F_Bp_land x1 h = exec1 OI S_Bp_land 1 k_Bp_land 0 [some (.ref 0), some (.int x1), none] [] h (runF OI S_Bp_land [(61, [0, 2], fun vs st h => match vs, st with | [.ref f0, .int x2], [] => (match Nat.beq f0 0 with | true => loopC (Bp_land_61   ) FU (x2, h) | false => none) | _, _ => none)] 1 k_Bp_land 400) :=
  (x_bI (f := sF_Bp_noText) rfl (w_Bp_noText _ _) fun v2 h1 => (x_ite (x_bif (x_bif (x_bI (f := sF_Sh_isThere) rfl (w_Sh_isThere _ _) fun v4 h3 => (x_ite (x_bI (f := sF_Bp_found) rfl (w_Bp_found _ _) fun v9 h8 => rfl) (x_bif (x_bI (f := sF_Re_faultOf) rfl (w_Re_faultOf _ _) fun v6 h5 => (x_ite (x_bV (f := sF_La_takeFrom) rfl (w_La_takeFrom _ _ _) fun h7 => rfl) rfl))))))) rfl))
set_option maxRecDepth 100000 in
theorem e_Bp_land_61 (κ61 : (Int32 × Hp) → Res Hp) (x2 : Int32)  (h : Hp) : Bp_land_61    (x2, h) κ61 = exec1 OI S_Bp_land 1 k_Bp_land 61 [some (.ref 0), none, some (.int x2)] [] h (runF OI S_Bp_land [(61, [0, 2], fun vs st h => match vs, st with | [.ref f0, .int x2], [] => (match Nat.beq f0 0 with | true => κ61 (x2, h) | false => none) | _, _ => none)] 1 k_Bp_land 400) :=
  (x_ite rfl (x_bif (x_bH fun h1 => rfl)))
def k_La_meetingsOf : List Ent := [(0, .iconst 0, 1, [], .int (0)), (1, .istore_n 2, 1, [], .null), (2, .iconst 0, 1, [], .int (0)), (3, .istore_n 3, 1, [], .null), (4, .iload_n 3, 1, [], .null), (5, .aload_n 0, 1, [], .null), (6, .getfield 45, 3, [0, 9, 0], .null), (9, .if_icmp .ge (32), 3, [41], .null), (12, .aload_n 0, 1, [], .null), (13, .getfield 18, 3, [0, 2, 1], .null), (16, .iload_n 3, 1, [], .null), (17, .iaload, 1, [], .null), (18, .iload_n 1, 1, [], .null), (19, .if_icmp .eq (13), 3, [32], .null), (22, .aload_n 0, 1, [], .null), (23, .getfield 21, 3, [0, 3, 1], .null), (26, .iload_n 3, 1, [], .null), (27, .iaload, 1, [], .null), (28, .iload_n 1, 1, [], .null), (29, .if_icmp .ne (6), 3, [35], .null), (32, .iinc 2 (1), 3, [], .int (1)), (35, .iinc 3 (1), 3, [], .int (1)), (38, .goto (-34), 3, [4], .null), (41, .iload_n 2, 1, [], .null), (42, .ireturn, 1, [], .null)]
def La_meetingsOf_4    : (Nat × Int32 × Int32 × Int32 × Hp) → ((Nat × Int32 × Int32 × Int32 × Hp) → Res Hp) → Res Hp := fun s κ4 => match s with
  | (o0, x1, x2, x3, h) =>
  bif okF o0 0 9 0 then
  if (hg h o0 9) ≤ x3 then
  (retI x2 h)
  else
  (bif okF o0 0 2 1 then
  bif okA (shR o0 2) 100 x3 then
  if (hg h (shR o0 2) x3.toNatClampNeg) = x1 then
  (κ4 (o0, x1, (x2 + (1 : Int32)), (x3 + (1 : Int32)), h))
  else
  (bif okF o0 0 3 1 then
  bif okA (shR o0 3) 100 x3 then
  if (hg h (shR o0 3) x3.toNatClampNeg) = x1 then
  (κ4 (o0, x1, (x2 + (1 : Int32)), (x3 + (1 : Int32)), h))
  else
  (κ4 (o0, x1, x2, (x3 + (1 : Int32)), h))
  else none
  else none)
  else none
  else none)
  else none
def F_La_meetingsOf (o0 : Nat) (x1 : Int32) (h : Hp) : Res Hp :=
  loopC (La_meetingsOf_4   ) FU (o0, x1, (0 : Int32), (0 : Int32), h)
def sF_La_meetingsOf : List Value → Hp → Res Hp := fun as h => match as with | [.ref o0, .int x1] => F_La_meetingsOf o0 x1 h | _ => none
theorem w_La_meetingsOf (o0 : Nat) (x1 : Int32) (h : Hp) : sF_La_meetingsOf [.ref o0, .int x1] h = F_La_meetingsOf o0 x1 h := rfl
def S_La_meetingsOf : Sem Hp := []
set_option maxRecDepth 100000 in
theorem e_La_meetingsOf_0 (o0 : Nat) (x1 : Int32) (h : Hp) : F_La_meetingsOf o0 x1 h = exec1 OI S_La_meetingsOf 1 k_La_meetingsOf 0 [some (.ref o0), some (.int x1), none, none] [] h (runF OI S_La_meetingsOf [(4, [0, 1, 2, 3], fun vs st h => match vs, st with | [.ref o0, .int x1, .int x2, .int x3], [] => loopC (La_meetingsOf_4   ) FU (o0, x1, x2, x3, h) | _, _ => none)] 1 k_La_meetingsOf 400) :=
  rfl
set_option maxRecDepth 100000 in
theorem e_La_meetingsOf_4 (κ4 : (Nat × Int32 × Int32 × Int32 × Hp) → Res Hp) (o0 : Nat) (x1 : Int32) (x2 : Int32) (x3 : Int32)  (h : Hp) : La_meetingsOf_4    (o0, x1, x2, x3, h) κ4 = exec1 OI S_La_meetingsOf 1 k_La_meetingsOf 4 [some (.ref o0), some (.int x1), some (.int x2), some (.int x3)] [] h (runF OI S_La_meetingsOf [(4, [0, 1, 2, 3], fun vs st h => match vs, st with | [.ref o0, .int x1, .int x2, .int x3], [] => κ4 (o0, x1, x2, x3, h) | _, _ => none)] 1 k_La_meetingsOf 400) :=
  (x_bif (x_ite rfl (x_bif (x_bif (x_ite rfl (x_bif (x_bif (x_ite rfl rfl))))))))
def k_Le_holder : List Ent := [(0, .aload_n 0, 1, [], .null), (1, .getfield 9, 3, [1, 0, 1], .null), (4, .aload_n 0, 1, [], .null), (5, .getfield 18, 3, [1, 2, 0], .null), (8, .iconst 1, 1, [], .int (1)), (9, .isub, 1, [], .null), (10, .iaload, 1, [], .null), (11, .ireturn, 1, [], .null)]
def F_Le_holder (o0 : Nat) (h : Hp) : Res Hp :=
  bif okF o0 1 0 1 then
  bif okF o0 1 2 0 then
  bif okA (shR o0 0) 100 ((hg h o0 2) - (1 : Int32)) then
  retI (hg h (shR o0 0) ((hg h o0 2) - (1 : Int32)).toNatClampNeg) h
  else none
  else none
  else none
def sF_Le_holder : List Value → Hp → Res Hp := fun as h => match as with | [.ref o0] => F_Le_holder o0 h | _ => none
theorem w_Le_holder (o0 : Nat) (h : Hp) : sF_Le_holder [.ref o0] h = F_Le_holder o0 h := rfl
def S_Le_holder : Sem Hp := []
set_option maxRecDepth 100000 in
theorem e_Le_holder_0 (o0 : Nat) (h : Hp) : F_Le_holder o0 h = exec1 OI S_Le_holder 1 k_Le_holder 0 [some (.ref o0)] [] h (runF OI S_Le_holder [] 1 k_Le_holder 400) :=
  (x_bif (x_bif (x_bif rfl)))
def k_Le_isThere : List Ent := [(0, .aload_n 0, 1, [], .null), (1, .invokevirtual 34, 3, [198, 1, 1, 1], .null), (4, .aload_n 0, 1, [], .null), (5, .getfield 22, 3, [1, 3, 0], .null), (8, .if_icmp .ne (7), 3, [15], .null), (11, .iconst 1, 1, [], .int (1)), (12, .goto (4), 3, [16], .null), (15, .iconst 0, 1, [], .int (0)), (16, .ireturn, 1, [], .null)]
def F_Le_isThere (o0 : Nat) (h : Hp) : Res Hp :=
  bif okO o0 1 then
  bI (F_Le_holder o0 h) fun v2 h1 =>
  bif okF o0 1 3 0 then
  if v2 = (hg h1 o0 3) then
  (retZ (1 : Int32) h1)
  else
  (retZ (0 : Int32) h1)
  else none
  else none
def sF_Le_isThere : List Value → Hp → Res Hp := fun as h => match as with | [.ref o0] => F_Le_isThere o0 h | _ => none
theorem w_Le_isThere (o0 : Nat) (h : Hp) : sF_Le_isThere [.ref o0] h = F_Le_isThere o0 h := rfl
def S_Le_isThere : Sem Hp := [(198, sF_Le_holder)]
set_option maxRecDepth 100000 in
theorem e_Le_isThere_0 (o0 : Nat) (h : Hp) : F_Le_isThere o0 h = exec1 OI S_Le_isThere 2 k_Le_isThere 0 [some (.ref o0)] [] h (runF OI S_Le_isThere [] 2 k_Le_isThere 400) :=
  (x_bif (x_bI (f := sF_Le_holder) rfl (w_Le_holder _ _) fun v2 h1 => (x_bif (x_ite rfl rfl))))
def k_La_lettersWith : List Ent := [(0, .iconst 0, 1, [], .int (0)), (1, .istore_n 2, 1, [], .null), (2, .iconst 0, 1, [], .int (0)), (3, .istore_n 3, 1, [], .null), (4, .iload_n 3, 1, [], .null), (5, .aload_n 0, 1, [], .null), (6, .getfield 48, 3, [0, 10, 0], .null), (9, .if_icmp .ge (37), 3, [46], .null), (12, .aload_n 0, 1, [], .null), (13, .getfield 37, 3, [0, 7, 1], .null), (16, .iload_n 3, 1, [], .null), (17, .aaload, 1, [], .null), (18, .invokevirtual 104, 3, [198, 1, 1, 1], .null), (21, .iload_n 1, 1, [], .null), (22, .if_icmp .ne (18), 3, [40], .null), (25, .aload_n 0, 1, [], .null), (26, .getfield 37, 3, [0, 7, 1], .null), (29, .iload_n 3, 1, [], .null), (30, .aaload, 1, [], .null), (31, .invokevirtual 96, 3, [200, 1, 2, 1], .null), (34, .ifCond .ne (6), 3, [40], .null), (37, .iinc 2 (1), 3, [], .int (1)), (40, .iinc 3 (1), 3, [], .int (1)), (43, .goto (-39), 3, [4], .null), (46, .iload_n 2, 1, [], .null), (47, .ireturn, 1, [], .null)]
def La_lettersWith_4    : (Nat × Int32 × Int32 × Int32 × Hp) → ((Nat × Int32 × Int32 × Int32 × Hp) → Res Hp) → Res Hp := fun s κ4 => match s with
  | (o0, x1, x2, x3, h) =>
  bif okF o0 0 10 0 then
  if (hg h o0 10) ≤ x3 then
  (retI x2 h)
  else
  (bif okF o0 0 7 1 then
  bif okR (shR o0 7) x3 then
  bif okO (shR (shR o0 7) x3.toNatClampNeg) 1 then
  bI (F_Le_holder (shR (shR o0 7) x3.toNatClampNeg) h) fun v2 h1 =>
  if v2 = x1 then
  (bif okF o0 0 7 1 then
  bif okR (shR o0 7) x3 then
  bif okO (shR (shR o0 7) x3.toNatClampNeg) 1 then
  bI (F_Le_isThere (shR (shR o0 7) x3.toNatClampNeg) h1) fun v4 h3 =>
  if v4 = (0 : Int32) then
  (κ4 (o0, x1, (x2 + (1 : Int32)), (x3 + (1 : Int32)), h3))
  else
  (κ4 (o0, x1, x2, (x3 + (1 : Int32)), h3))
  else none
  else none
  else none)
  else
  (κ4 (o0, x1, x2, (x3 + (1 : Int32)), h1))
  else none
  else none
  else none)
  else none
def F_La_lettersWith (o0 : Nat) (x1 : Int32) (h : Hp) : Res Hp :=
  loopC (La_lettersWith_4   ) FU (o0, x1, (0 : Int32), (0 : Int32), h)
def sF_La_lettersWith : List Value → Hp → Res Hp := fun as h => match as with | [.ref o0, .int x1] => F_La_lettersWith o0 x1 h | _ => none
theorem w_La_lettersWith (o0 : Nat) (x1 : Int32) (h : Hp) : sF_La_lettersWith [.ref o0, .int x1] h = F_La_lettersWith o0 x1 h := rfl
def S_La_lettersWith : Sem Hp := [(198, sF_Le_holder), (200, sF_Le_isThere)]
set_option maxRecDepth 100000 in
theorem e_La_lettersWith_0 (o0 : Nat) (x1 : Int32) (h : Hp) : F_La_lettersWith o0 x1 h = exec1 OI S_La_lettersWith 1 k_La_lettersWith 0 [some (.ref o0), some (.int x1), none, none] [] h (runF OI S_La_lettersWith [(4, [0, 1, 2, 3], fun vs st h => match vs, st with | [.ref o0, .int x1, .int x2, .int x3], [] => loopC (La_lettersWith_4   ) FU (o0, x1, x2, x3, h) | _, _ => none)] 1 k_La_lettersWith 400) :=
  rfl
set_option maxRecDepth 100000 in
theorem e_La_lettersWith_4 (κ4 : (Nat × Int32 × Int32 × Int32 × Hp) → Res Hp) (o0 : Nat) (x1 : Int32) (x2 : Int32) (x3 : Int32)  (h : Hp) : La_lettersWith_4    (o0, x1, x2, x3, h) κ4 = exec1 OI S_La_lettersWith 1 k_La_lettersWith 4 [some (.ref o0), some (.int x1), some (.int x2), some (.int x3)] [] h (runF OI S_La_lettersWith [(4, [0, 1, 2, 3], fun vs st h => match vs, st with | [.ref o0, .int x1, .int x2, .int x3], [] => κ4 (o0, x1, x2, x3, h) | _, _ => none)] 1 k_La_lettersWith 400) :=
  (x_bif (x_ite rfl (x_bif (x_bif (x_bif (x_bI (f := sF_Le_holder) rfl (w_Le_holder _ _) fun v2 h1 => (x_ite (x_bif (x_bif (x_bif (x_bI (f := sF_Le_isThere) rfl (w_Le_isThere _ _) fun v4 h3 => (x_ite rfl rfl))))) rfl)))))))
def k_La_factOf : List Ent := [(0, .iload_n 2, 1, [], .null), (1, .tableswitch (47) 0 2 #[27, 34, 41], 27, [48, 0, 28, 1, 35, 2, 42], .null), (28, .aload_n 0, 1, [], .null), (29, .getfield 9, 3, [0, 0, 1], .null), (32, .iload_n 1, 1, [], .null), (33, .iaload, 1, [], .null), (34, .ireturn, 1, [], .null), (35, .aload_n 0, 1, [], .null), (36, .getfield 15, 3, [0, 1, 1], .null), (39, .iload_n 1, 1, [], .null), (40, .iaload, 1, [], .null), (41, .ireturn, 1, [], .null), (42, .aload_n 0, 1, [], .null), (43, .iload_n 1, 1, [], .null), (44, .invokevirtual 151, 3, [189, 2, 1, 0], .null), (47, .ireturn, 1, [], .null), (48, .aload_n 0, 1, [], .null), (49, .iload_n 1, 1, [], .null), (50, .invokevirtual 154, 3, [190, 2, 1, 0], .null), (53, .ireturn, 1, [], .null)]
def F_La_factOf (o0 : Nat) (x1 : Int32) (x2 : Int32) (h : Hp) : Res Hp :=
  if x2 = (0 : Int32) then
  (bif okF o0 0 0 1 then
  bif okA (shR o0 0) 100 x1 then
  retI (hg h (shR o0 0) x1.toNatClampNeg) h
  else none
  else none)
  else if x2 = (1 : Int32) then
  (bif okF o0 0 1 1 then
  bif okA (shR o0 1) 100 x1 then
  retI (hg h (shR o0 1) x1.toNatClampNeg) h
  else none
  else none)
  else if x2 = (2 : Int32) then
  (bif okO o0 0 then
  bI (F_La_meetingsOf o0 x1 h) fun v2 h1 =>
  retI v2 h1
  else none)
  else 
  (bif okO o0 0 then
  bI (F_La_lettersWith o0 x1 h) fun v4 h3 =>
  retI v4 h3
  else none)
def sF_La_factOf : List Value → Hp → Res Hp := fun as h => match as with | [.ref o0, .int x1, .int x2] => F_La_factOf o0 x1 x2 h | _ => none
theorem w_La_factOf (o0 : Nat) (x1 : Int32) (x2 : Int32) (h : Hp) : sF_La_factOf [.ref o0, .int x1, .int x2] h = F_La_factOf o0 x1 x2 h := rfl
def S_La_factOf : Sem Hp := [(189, sF_La_meetingsOf), (190, sF_La_lettersWith)]
set_option maxRecDepth 100000 in
theorem e_La_factOf_0 (o0 : Nat) (x1 : Int32) (x2 : Int32) (h : Hp) : F_La_factOf o0 x1 x2 h = exec1 OI S_La_factOf 1 k_La_factOf 0 [some (.ref o0), some (.int x1), some (.int x2)] [] h (runF OI S_La_factOf [] 1 k_La_factOf 400) :=
  (x_ite (x_bif (x_bif rfl)) (x_ite (x_bif (x_bif rfl)) (x_ite (x_bif (x_bI (f := sF_La_meetingsOf) rfl (w_La_meetingsOf _ _ _) fun v2 h1 => rfl)) (x_bif (x_bI (f := sF_La_lettersWith) rfl (w_La_lettersWith _ _ _) fun v4 h3 => rfl)))))
def k_Bp_hand : List Ent := [(0, .aload_n 0, 1, [], .null), (1, .getfield 21, 3, [6, 2, 1], .null), (4, .iload_n 1, 1, [], .null), (5, .invokevirtual 130, 3, [175, 2, 2, 0], .null), (8, .ifCond .ne (12), 3, [20], .null), (11, .iload_n 2, 1, [], .null), (12, .ifCond .lt (8), 3, [20], .null), (15, .iload_n 2, 1, [], .null), (16, .iconst 3, 1, [], .int (3)), (17, .if_icmp .le (5), 3, [22], .null), (20, .iconst (-1), 1, [], .int (-1)), (21, .ireturn, 1, [], .null), (22, .aload_n 0, 1, [], .null), (23, .aload_n 0, 1, [], .null), (24, .getfield 21, 3, [6, 2, 1], .null), (27, .iload_n 1, 1, [], .null), (28, .iload_n 2, 1, [], .null), (29, .invokevirtual 133, 3, [188, 3, 1, 0], .null), (32, .invokevirtual 93, 3, [51, 2, 1, 6], .null), (35, .ireturn, 1, [], .null)]
def F_Bp_hand (x1 : Int32) (x2 : Int32) (h : Hp) : Res Hp :=
  bI (F_La_lacks 3 x1 h) fun v2 h1 =>
  if v2 = (0 : Int32) then
  (if x2 < (0 : Int32) then
  (retI (-1 : Int32) h1)
  else
  (if x2 ≤ (3 : Int32) then
  (bI (F_La_factOf 3 x1 x2 h1) fun v4 h3 =>
  bI (F_Bp_tell v4 h3) fun v6 h5 =>
  retI v6 h5)
  else
  (retI (-1 : Int32) h1)))
  else
  (retI (-1 : Int32) h1)
def sF_Bp_hand : List Value → Hp → Res Hp := fun as h => match as with | [.ref f0, .int x1, .int x2] => (match Nat.beq f0 0 with | true => F_Bp_hand x1 x2 h | false => none) | _ => none
theorem w_Bp_hand (x1 : Int32) (x2 : Int32) (h : Hp) : sF_Bp_hand [.ref 0, .int x1, .int x2] h = F_Bp_hand x1 x2 h := rfl
def S_Bp_hand : Sem Hp := [(175, sF_La_lacks), (188, sF_La_factOf), (51, sF_Bp_tell)]
set_option maxRecDepth 100000 in
theorem e_Bp_hand_0 (x1 : Int32) (x2 : Int32) (h : Hp) : F_Bp_hand x1 x2 h = exec1 OI S_Bp_hand 1 k_Bp_hand 0 [some (.ref 0), some (.int x1), some (.int x2)] [] h (runF OI S_Bp_hand [] 1 k_Bp_hand 400) :=
  (x_bI (f := sF_La_lacks) rfl (w_La_lacks _ _ _) fun v2 h1 => (x_ite (x_ite rfl (x_ite (x_bI (f := sF_La_factOf) rfl (w_La_factOf _ _ _ _) fun v4 h3 => (x_bI (f := sF_Bp_tell) rfl (w_Bp_tell _ _) fun v6 h5 => rfl)) rfl)) rfl))
def k_Bp_isOf : List Ent := [(0, .iload_n 0, 1, [], .null), (1, .iload_n 1, 1, [], .null), (2, .if_icmp .eq (27), 3, [29], .null), (5, .iload_n 1, 1, [], .null), (6, .ifCond .eq (23), 3, [29], .null), (9, .iload_n 0, 1, [], .null), (10, .iconst 4, 1, [], .int (4)), (11, .if_icmp .ne (8), 3, [19], .null), (14, .iload_n 1, 1, [], .null), (15, .iconst 1, 1, [], .int (1)), (16, .if_icmp .eq (13), 3, [29], .null), (19, .iload_n 0, 1, [], .null), (20, .iconst 5, 1, [], .int (5)), (21, .if_icmp .ne (12), 3, [33], .null), (24, .iload_n 1, 1, [], .null), (25, .iconst 3, 1, [], .int (3)), (26, .if_icmp .ne (7), 3, [33], .null), (29, .iconst 1, 1, [], .int (1)), (30, .goto (4), 3, [34], .null), (33, .iconst 0, 1, [], .int (0)), (34, .ireturn, 1, [], .null)]
def F_Bp_isOf (x0 : Int32) (x1 : Int32) (h : Hp) : Res Hp :=
  if x0 = x1 then
  (retZ (1 : Int32) h)
  else
  (if x1 = (0 : Int32) then
  (retZ (1 : Int32) h)
  else
  (if x0 = (4 : Int32) then
  (if x1 = (1 : Int32) then
  (retZ (1 : Int32) h)
  else
  (if x0 = (5 : Int32) then
  (if x1 = (3 : Int32) then
  (retZ (1 : Int32) h)
  else
  (retZ (0 : Int32) h))
  else
  (retZ (0 : Int32) h)))
  else
  (if x0 = (5 : Int32) then
  (if x1 = (3 : Int32) then
  (retZ (1 : Int32) h)
  else
  (retZ (0 : Int32) h))
  else
  (retZ (0 : Int32) h))))
def sF_Bp_isOf : List Value → Hp → Res Hp := fun as h => match as with | [.int x0, .int x1] => F_Bp_isOf x0 x1 h | _ => none
theorem w_Bp_isOf (x0 : Int32) (x1 : Int32) (h : Hp) : sF_Bp_isOf [.int x0, .int x1] h = F_Bp_isOf x0 x1 h := rfl
def S_Bp_isOf : Sem Hp := []
set_option maxRecDepth 100000 in
theorem e_Bp_isOf_0 (x0 : Int32) (x1 : Int32) (h : Hp) : F_Bp_isOf x0 x1 h = exec1 OI S_Bp_isOf 2 k_Bp_isOf 0 [some (.int x0), some (.int x1)] [] h (runF OI S_Bp_isOf [] 2 k_Bp_isOf 400) :=
  (x_ite rfl (x_ite rfl (x_ite (x_ite rfl (x_ite (x_ite rfl rfl) rfl)) (x_ite (x_ite rfl rfl) rfl))))
def k_Jint_bitCount : List Ent := [(0, .iload_n 0, 1, [], .null), (1, .iload_n 0, 1, [], .null), (2, .iconst 1, 1, [], .int (1)), (3, .iushr, 1, [], .null), (4, .ldc_w 265, 3, [], .int (1431655765)), (7, .iand, 1, [], .null), (8, .isub, 1, [], .null), (9, .istore_n 0, 1, [], .null), (10, .iload_n 0, 1, [], .null), (11, .ldc_w 266, 3, [], .int (858993459)), (14, .iand, 1, [], .null), (15, .iload_n 0, 1, [], .null), (16, .iconst 2, 1, [], .int (2)), (17, .iushr, 1, [], .null), (18, .ldc_w 266, 3, [], .int (858993459)), (21, .iand, 1, [], .null), (22, .iadd, 1, [], .null), (23, .istore_n 0, 1, [], .null), (24, .iload_n 0, 1, [], .null), (25, .iload_n 0, 1, [], .null), (26, .iconst 4, 1, [], .int (4)), (27, .iushr, 1, [], .null), (28, .iadd, 1, [], .null), (29, .ldc_w 267, 3, [], .int (252645135)), (32, .iand, 1, [], .null), (33, .istore_n 0, 1, [], .null), (34, .iload_n 0, 1, [], .null), (35, .iload_n 0, 1, [], .null), (36, .bipush (8), 2, [], .int (8)), (38, .iushr, 1, [], .null), (39, .iadd, 1, [], .null), (40, .istore_n 0, 1, [], .null), (41, .iload_n 0, 1, [], .null), (42, .iload_n 0, 1, [], .null), (43, .bipush (16), 2, [], .int (16)), (45, .iushr, 1, [], .null), (46, .iadd, 1, [], .null), (47, .istore_n 0, 1, [], .null), (48, .iload_n 0, 1, [], .null), (49, .bipush (63), 2, [], .int (63)), (51, .iand, 1, [], .null), (52, .ireturn, 1, [], .null)]
def F_Jint_bitCount (x0 : Int32) (h : Hp) : Res Hp :=
  retI ((((((((x0 - ((x0.toUInt32 >>> ((1 : Int32).toUInt32 &&& Int32.toUInt32 31)).toInt32 &&& (1431655765 : Int32))) &&& (858993459 : Int32)) + (((x0 - ((x0.toUInt32 >>> ((1 : Int32).toUInt32 &&& Int32.toUInt32 31)).toInt32 &&& (1431655765 : Int32))).toUInt32 >>> ((2 : Int32).toUInt32 &&& Int32.toUInt32 31)).toInt32 &&& (858993459 : Int32))) + ((((x0 - ((x0.toUInt32 >>> ((1 : Int32).toUInt32 &&& Int32.toUInt32 31)).toInt32 &&& (1431655765 : Int32))) &&& (858993459 : Int32)) + (((x0 - ((x0.toUInt32 >>> ((1 : Int32).toUInt32 &&& Int32.toUInt32 31)).toInt32 &&& (1431655765 : Int32))).toUInt32 >>> ((2 : Int32).toUInt32 &&& Int32.toUInt32 31)).toInt32 &&& (858993459 : Int32))).toUInt32 >>> ((4 : Int32).toUInt32 &&& Int32.toUInt32 31)).toInt32) &&& (252645135 : Int32)) + ((((((x0 - ((x0.toUInt32 >>> ((1 : Int32).toUInt32 &&& Int32.toUInt32 31)).toInt32 &&& (1431655765 : Int32))) &&& (858993459 : Int32)) + (((x0 - ((x0.toUInt32 >>> ((1 : Int32).toUInt32 &&& Int32.toUInt32 31)).toInt32 &&& (1431655765 : Int32))).toUInt32 >>> ((2 : Int32).toUInt32 &&& Int32.toUInt32 31)).toInt32 &&& (858993459 : Int32))) + ((((x0 - ((x0.toUInt32 >>> ((1 : Int32).toUInt32 &&& Int32.toUInt32 31)).toInt32 &&& (1431655765 : Int32))) &&& (858993459 : Int32)) + (((x0 - ((x0.toUInt32 >>> ((1 : Int32).toUInt32 &&& Int32.toUInt32 31)).toInt32 &&& (1431655765 : Int32))).toUInt32 >>> ((2 : Int32).toUInt32 &&& Int32.toUInt32 31)).toInt32 &&& (858993459 : Int32))).toUInt32 >>> ((4 : Int32).toUInt32 &&& Int32.toUInt32 31)).toInt32) &&& (252645135 : Int32)).toUInt32 >>> ((8 : Int32).toUInt32 &&& Int32.toUInt32 31)).toInt32) + (((((((x0 - ((x0.toUInt32 >>> ((1 : Int32).toUInt32 &&& Int32.toUInt32 31)).toInt32 &&& (1431655765 : Int32))) &&& (858993459 : Int32)) + (((x0 - ((x0.toUInt32 >>> ((1 : Int32).toUInt32 &&& Int32.toUInt32 31)).toInt32 &&& (1431655765 : Int32))).toUInt32 >>> ((2 : Int32).toUInt32 &&& Int32.toUInt32 31)).toInt32 &&& (858993459 : Int32))) + ((((x0 - ((x0.toUInt32 >>> ((1 : Int32).toUInt32 &&& Int32.toUInt32 31)).toInt32 &&& (1431655765 : Int32))) &&& (858993459 : Int32)) + (((x0 - ((x0.toUInt32 >>> ((1 : Int32).toUInt32 &&& Int32.toUInt32 31)).toInt32 &&& (1431655765 : Int32))).toUInt32 >>> ((2 : Int32).toUInt32 &&& Int32.toUInt32 31)).toInt32 &&& (858993459 : Int32))).toUInt32 >>> ((4 : Int32).toUInt32 &&& Int32.toUInt32 31)).toInt32) &&& (252645135 : Int32)) + ((((((x0 - ((x0.toUInt32 >>> ((1 : Int32).toUInt32 &&& Int32.toUInt32 31)).toInt32 &&& (1431655765 : Int32))) &&& (858993459 : Int32)) + (((x0 - ((x0.toUInt32 >>> ((1 : Int32).toUInt32 &&& Int32.toUInt32 31)).toInt32 &&& (1431655765 : Int32))).toUInt32 >>> ((2 : Int32).toUInt32 &&& Int32.toUInt32 31)).toInt32 &&& (858993459 : Int32))) + ((((x0 - ((x0.toUInt32 >>> ((1 : Int32).toUInt32 &&& Int32.toUInt32 31)).toInt32 &&& (1431655765 : Int32))) &&& (858993459 : Int32)) + (((x0 - ((x0.toUInt32 >>> ((1 : Int32).toUInt32 &&& Int32.toUInt32 31)).toInt32 &&& (1431655765 : Int32))).toUInt32 >>> ((2 : Int32).toUInt32 &&& Int32.toUInt32 31)).toInt32 &&& (858993459 : Int32))).toUInt32 >>> ((4 : Int32).toUInt32 &&& Int32.toUInt32 31)).toInt32) &&& (252645135 : Int32)).toUInt32 >>> ((8 : Int32).toUInt32 &&& Int32.toUInt32 31)).toInt32).toUInt32 >>> ((16 : Int32).toUInt32 &&& Int32.toUInt32 31)).toInt32) &&& (63 : Int32)) h
def sF_Jint_bitCount : List Value → Hp → Res Hp := fun as h => match as with | [.int x0] => F_Jint_bitCount x0 h | _ => none
theorem w_Jint_bitCount (x0 : Int32) (h : Hp) : sF_Jint_bitCount [.int x0] h = F_Jint_bitCount x0 h := rfl
def S_Jint_bitCount : Sem Hp := []
set_option maxRecDepth 100000 in
theorem e_Jint_bitCount_0 (x0 : Int32) (h : Hp) : F_Jint_bitCount x0 h = exec1 OI S_Jint_bitCount 1 k_Jint_bitCount 0 [some (.int x0)] [] h (runF OI S_Jint_bitCount [] 1 k_Jint_bitCount 400) :=
  rfl
def k_Bp_withNeighbours : List Ent := [(0, .iload_n 0, 1, [], .null), (1, .iload_n 0, 1, [], .null), (2, .iconst 1, 1, [], .int (1)), (3, .ishl, 1, [], .null), (4, .ior, 1, [], .null), (5, .iload_n 0, 1, [], .null), (6, .iconst 1, 1, [], .int (1)), (7, .ishr, 1, [], .null), (8, .ior, 1, [], .null), (9, .bipush (31), 2, [], .int (31)), (11, .iand, 1, [], .null), (12, .ireturn, 1, [], .null)]
def F_Bp_withNeighbours (x0 : Int32) (h : Hp) : Res Hp :=
  retI (((x0 ||| (x0 <<< ((1 : Int32) &&& 31))) ||| (x0 >>> ((1 : Int32) &&& 31))) &&& (31 : Int32)) h
def sF_Bp_withNeighbours : List Value → Hp → Res Hp := fun as h => match as with | [.int x0] => F_Bp_withNeighbours x0 h | _ => none
theorem w_Bp_withNeighbours (x0 : Int32) (h : Hp) : sF_Bp_withNeighbours [.int x0] h = F_Bp_withNeighbours x0 h := rfl
def S_Bp_withNeighbours : Sem Hp := []
set_option maxRecDepth 100000 in
theorem e_Bp_withNeighbours_0 (x0 : Int32) (h : Hp) : F_Bp_withNeighbours x0 h = exec1 OI S_Bp_withNeighbours 1 k_Bp_withNeighbours 0 [some (.int x0)] [] h (runF OI S_Bp_withNeighbours [] 1 k_Bp_withNeighbours 400) :=
  rfl
def k_Le_wasGivenOnBy : List Ent := [(0, .iconst 1, 1, [], .int (1)), (1, .istore_n 2, 1, [], .null), (2, .iload_n 2, 1, [], .null), (3, .aload_n 0, 1, [], .null), (4, .getfield 18, 3, [1, 2, 0], .null), (7, .iconst 1, 1, [], .int (1)), (8, .isub, 1, [], .null), (9, .if_icmp .ge (21), 3, [30], .null), (12, .aload_n 0, 1, [], .null), (13, .getfield 9, 3, [1, 0, 1], .null), (16, .iload_n 2, 1, [], .null), (17, .iaload, 1, [], .null), (18, .iload_n 1, 1, [], .null), (19, .if_icmp .ne (5), 3, [24], .null), (22, .iconst 1, 1, [], .int (1)), (23, .ireturn, 1, [], .null), (24, .iinc 2 (1), 3, [], .int (1)), (27, .goto (-25), 3, [2], .null), (30, .iconst 0, 1, [], .int (0)), (31, .ireturn, 1, [], .null)]
def Le_wasGivenOnBy_2    : (Nat × Int32 × Int32 × Hp) → ((Nat × Int32 × Int32 × Hp) → Res Hp) → Res Hp := fun s κ2 => match s with
  | (o0, x1, x2, h) =>
  bif okF o0 1 2 0 then
  if ((hg h o0 2) - (1 : Int32)) ≤ x2 then
  (retZ (0 : Int32) h)
  else
  (bif okF o0 1 0 1 then
  bif okA (shR o0 0) 100 x2 then
  if (hg h (shR o0 0) x2.toNatClampNeg) = x1 then
  (retZ (1 : Int32) h)
  else
  (κ2 (o0, x1, (x2 + (1 : Int32)), h))
  else none
  else none)
  else none
def F_Le_wasGivenOnBy (o0 : Nat) (x1 : Int32) (h : Hp) : Res Hp :=
  loopC (Le_wasGivenOnBy_2   ) FU (o0, x1, (1 : Int32), h)
def sF_Le_wasGivenOnBy : List Value → Hp → Res Hp := fun as h => match as with | [.ref o0, .int x1] => F_Le_wasGivenOnBy o0 x1 h | _ => none
theorem w_Le_wasGivenOnBy (o0 : Nat) (x1 : Int32) (h : Hp) : sF_Le_wasGivenOnBy [.ref o0, .int x1] h = F_Le_wasGivenOnBy o0 x1 h := rfl
def S_Le_wasGivenOnBy : Sem Hp := []
set_option maxRecDepth 100000 in
theorem e_Le_wasGivenOnBy_0 (o0 : Nat) (x1 : Int32) (h : Hp) : F_Le_wasGivenOnBy o0 x1 h = exec1 OI S_Le_wasGivenOnBy 2 k_Le_wasGivenOnBy 0 [some (.ref o0), some (.int x1), none] [] h (runF OI S_Le_wasGivenOnBy [(2, [0, 1, 2], fun vs st h => match vs, st with | [.ref o0, .int x1, .int x2], [] => loopC (Le_wasGivenOnBy_2   ) FU (o0, x1, x2, h) | _, _ => none)] 2 k_Le_wasGivenOnBy 400) :=
  rfl
set_option maxRecDepth 100000 in
theorem e_Le_wasGivenOnBy_2 (κ2 : (Nat × Int32 × Int32 × Hp) → Res Hp) (o0 : Nat) (x1 : Int32) (x2 : Int32)  (h : Hp) : Le_wasGivenOnBy_2    (o0, x1, x2, h) κ2 = exec1 OI S_Le_wasGivenOnBy 2 k_Le_wasGivenOnBy 2 [some (.ref o0), some (.int x1), some (.int x2)] [] h (runF OI S_Le_wasGivenOnBy [(2, [0, 1, 2], fun vs st h => match vs, st with | [.ref o0, .int x1, .int x2], [] => κ2 (o0, x1, x2, h) | _, _ => none)] 2 k_Le_wasGivenOnBy 400) :=
  (x_bif (x_ite rfl (x_bif (x_bif (x_ite rfl rfl)))))
def k_La_lettersGivenOnBy : List Ent := [(0, .iconst 0, 1, [], .int (0)), (1, .istore_n 2, 1, [], .null), (2, .iconst 0, 1, [], .int (0)), (3, .istore_n 3, 1, [], .null), (4, .iload_n 3, 1, [], .null), (5, .aload_n 0, 1, [], .null), (6, .getfield 48, 3, [0, 10, 0], .null), (9, .if_icmp .ge (25), 3, [34], .null), (12, .aload_n 0, 1, [], .null), (13, .getfield 37, 3, [0, 7, 1], .null), (16, .iload_n 3, 1, [], .null), (17, .aaload, 1, [], .null), (18, .iload_n 1, 1, [], .null), (19, .invokevirtual 160, 3, [204, 2, 2, 1], .null), (22, .ifCond .eq (6), 3, [28], .null), (25, .iinc 2 (1), 3, [], .int (1)), (28, .iinc 3 (1), 3, [], .int (1)), (31, .goto (-27), 3, [4], .null), (34, .iload_n 2, 1, [], .null), (35, .ireturn, 1, [], .null)]
def La_lettersGivenOnBy_4    : (Nat × Int32 × Int32 × Int32 × Hp) → ((Nat × Int32 × Int32 × Int32 × Hp) → Res Hp) → Res Hp := fun s κ4 => match s with
  | (o0, x1, x2, x3, h) =>
  bif okF o0 0 10 0 then
  if (hg h o0 10) ≤ x3 then
  (retI x2 h)
  else
  (bif okF o0 0 7 1 then
  bif okR (shR o0 7) x3 then
  bif okO (shR (shR o0 7) x3.toNatClampNeg) 1 then
  bI (F_Le_wasGivenOnBy (shR (shR o0 7) x3.toNatClampNeg) x1 h) fun v2 h1 =>
  if v2 = (0 : Int32) then
  (κ4 (o0, x1, x2, (x3 + (1 : Int32)), h1))
  else
  (κ4 (o0, x1, (x2 + (1 : Int32)), (x3 + (1 : Int32)), h1))
  else none
  else none
  else none)
  else none
def F_La_lettersGivenOnBy (o0 : Nat) (x1 : Int32) (h : Hp) : Res Hp :=
  loopC (La_lettersGivenOnBy_4   ) FU (o0, x1, (0 : Int32), (0 : Int32), h)
def sF_La_lettersGivenOnBy : List Value → Hp → Res Hp := fun as h => match as with | [.ref o0, .int x1] => F_La_lettersGivenOnBy o0 x1 h | _ => none
theorem w_La_lettersGivenOnBy (o0 : Nat) (x1 : Int32) (h : Hp) : sF_La_lettersGivenOnBy [.ref o0, .int x1] h = F_La_lettersGivenOnBy o0 x1 h := rfl
def S_La_lettersGivenOnBy : Sem Hp := [(204, sF_Le_wasGivenOnBy)]
set_option maxRecDepth 100000 in
theorem e_La_lettersGivenOnBy_0 (o0 : Nat) (x1 : Int32) (h : Hp) : F_La_lettersGivenOnBy o0 x1 h = exec1 OI S_La_lettersGivenOnBy 1 k_La_lettersGivenOnBy 0 [some (.ref o0), some (.int x1), none, none] [] h (runF OI S_La_lettersGivenOnBy [(4, [0, 1, 2, 3], fun vs st h => match vs, st with | [.ref o0, .int x1, .int x2, .int x3], [] => loopC (La_lettersGivenOnBy_4   ) FU (o0, x1, x2, x3, h) | _, _ => none)] 1 k_La_lettersGivenOnBy 400) :=
  rfl
set_option maxRecDepth 100000 in
theorem e_La_lettersGivenOnBy_4 (κ4 : (Nat × Int32 × Int32 × Int32 × Hp) → Res Hp) (o0 : Nat) (x1 : Int32) (x2 : Int32) (x3 : Int32)  (h : Hp) : La_lettersGivenOnBy_4    (o0, x1, x2, x3, h) κ4 = exec1 OI S_La_lettersGivenOnBy 1 k_La_lettersGivenOnBy 4 [some (.ref o0), some (.int x1), some (.int x2), some (.int x3)] [] h (runF OI S_La_lettersGivenOnBy [(4, [0, 1, 2, 3], fun vs st h => match vs, st with | [.ref o0, .int x1, .int x2, .int x3], [] => κ4 (o0, x1, x2, x3, h) | _, _ => none)] 1 k_La_lettersGivenOnBy 400) :=
  (x_bif (x_ite rfl (x_bif (x_bif (x_bif (x_bI (f := sF_Le_wasGivenOnBy) rfl (w_Le_wasGivenOnBy _ _ _) fun v2 h1 => (x_ite rfl rfl)))))))
def k_La_markOf : List Ent := [(0, .iload_n 2, 1, [], .null), (1, .tableswitch (67) 1 4 #[31, 41, 51, 57], 31, [68, 1, 32, 2, 42, 3, 52, 4, 58], .null), (32, .aload_n 0, 1, [], .null), (33, .getfield 15, 3, [0, 1, 1], .null), (36, .iload_n 1, 1, [], .null), (37, .iaload, 1, [], .null), (38, .invokestatic 135, 3, [250, 1, 1], .null), (41, .ireturn, 1, [], .null), (42, .aload_n 0, 1, [], .null), (43, .getfield 15, 3, [0, 1, 1], .null), (46, .iload_n 1, 1, [], .null), (47, .iaload, 1, [], .null), (48, .invokestatic 89, 3, [69, 1, 1], .null), (51, .ireturn, 1, [], .null), (52, .aload_n 0, 1, [], .null), (53, .iload_n 1, 1, [], .null), (54, .invokevirtual 157, 3, [193, 2, 1, 0], .null), (57, .ireturn, 1, [], .null), (58, .aload_n 0, 1, [], .null), (59, .getfield 32, 3, [0, 6, 1], .null), (62, .iload_n 1, 1, [], .null), (63, .iaload, 1, [], .null), (64, .invokestatic 135, 3, [250, 1, 1], .null), (67, .ireturn, 1, [], .null), (68, .iconst 5, 1, [], .int (5)), (69, .aload_n 0, 1, [], .null), (70, .getfield 15, 3, [0, 1, 1], .null), (73, .iload_n 1, 1, [], .null), (74, .iaload, 1, [], .null), (75, .invokestatic 135, 3, [250, 1, 1], .null), (78, .isub, 1, [], .null), (79, .ireturn, 1, [], .null)]
def F_La_markOf (o0 : Nat) (x1 : Int32) (x2 : Int32) (h : Hp) : Res Hp :=
  if x2 = (1 : Int32) then
  (bif okF o0 0 1 1 then
  bif okA (shR o0 1) 100 x1 then
  bI (F_Jint_bitCount (hg h (shR o0 1) x1.toNatClampNeg) h) fun v2 h1 =>
  retI v2 h1
  else none
  else none)
  else if x2 = (2 : Int32) then
  (bif okF o0 0 1 1 then
  bif okA (shR o0 1) 100 x1 then
  bI (F_Bp_withNeighbours (hg h (shR o0 1) x1.toNatClampNeg) h) fun v4 h3 =>
  retI v4 h3
  else none
  else none)
  else if x2 = (3 : Int32) then
  (bif okO o0 0 then
  bI (F_La_lettersGivenOnBy o0 x1 h) fun v6 h5 =>
  retI v6 h5
  else none)
  else if x2 = (4 : Int32) then
  (bif okF o0 0 6 1 then
  bif okA (shR o0 6) 100 x1 then
  bI (F_Jint_bitCount (hg h (shR o0 6) x1.toNatClampNeg) h) fun v8 h7 =>
  retI v8 h7
  else none
  else none)
  else 
  (bif okF o0 0 1 1 then
  bif okA (shR o0 1) 100 x1 then
  bI (F_Jint_bitCount (hg h (shR o0 1) x1.toNatClampNeg) h) fun v10 h9 =>
  retI ((5 : Int32) - v10) h9
  else none
  else none)
def sF_La_markOf : List Value → Hp → Res Hp := fun as h => match as with | [.ref o0, .int x1, .int x2] => F_La_markOf o0 x1 x2 h | _ => none
theorem w_La_markOf (o0 : Nat) (x1 : Int32) (x2 : Int32) (h : Hp) : sF_La_markOf [.ref o0, .int x1, .int x2] h = F_La_markOf o0 x1 x2 h := rfl
def S_La_markOf : Sem Hp := [(250, sF_Jint_bitCount), (69, sF_Bp_withNeighbours), (193, sF_La_lettersGivenOnBy)]
set_option maxRecDepth 100000 in
theorem e_La_markOf_0 (o0 : Nat) (x1 : Int32) (x2 : Int32) (h : Hp) : F_La_markOf o0 x1 x2 h = exec1 OI S_La_markOf 1 k_La_markOf 0 [some (.ref o0), some (.int x1), some (.int x2)] [] h (runF OI S_La_markOf [] 1 k_La_markOf 400) :=
  (x_ite (x_bif (x_bif (x_bI (f := sF_Jint_bitCount) rfl (w_Jint_bitCount _ _) fun v2 h1 => rfl))) (x_ite (x_bif (x_bif (x_bI (f := sF_Bp_withNeighbours) rfl (w_Bp_withNeighbours _ _) fun v4 h3 => rfl))) (x_ite (x_bif (x_bI (f := sF_La_lettersGivenOnBy) rfl (w_La_lettersGivenOnBy _ _ _) fun v6 h5 => rfl)) (x_ite (x_bif (x_bif (x_bI (f := sF_Jint_bitCount) rfl (w_Jint_bitCount _ _) fun v8 h7 => rfl))) (x_bif (x_bif (x_bI (f := sF_Jint_bitCount) rfl (w_Jint_bitCount _ _) fun v10 h9 => rfl)))))))
def k_Bp_mark : List Ent := [(0, .aload_n 0, 1, [], .null), (1, .getfield 21, 3, [6, 2, 1], .null), (4, .iload_n 1, 1, [], .null), (5, .invokevirtual 130, 3, [175, 2, 2, 0], .null), (8, .ifCond .ne (13), 3, [21], .null), (11, .iload_n 2, 1, [], .null), (12, .ifCond .le (9), 3, [21], .null), (15, .iload_n 2, 1, [], .null), (16, .bipush (6), 2, [], .int (6)), (18, .if_icmp .lt (5), 3, [23], .null), (21, .iconst (-1), 1, [], .int (-1)), (22, .ireturn, 1, [], .null), (23, .aload_n 0, 1, [], .null), (24, .getfield 21, 3, [6, 2, 1], .null), (27, .getfield 137, 3, [0, 0, 1], .null), (30, .iload_n 1, 1, [], .null), (31, .iaload, 1, [], .null), (32, .iload_n 2, 1, [], .null), (33, .invokestatic 140, 3, [67, 2, 2], .null), (36, .ifCond .ne (9), 3, [45], .null), (39, .aload_n 0, 1, [], .null), (40, .iconst 3, 1, [], .int (3)), (41, .invokevirtual 79, 3, [50, 2, 1, 6], .null), (44, .ireturn, 1, [], .null), (45, .aload_n 0, 1, [], .null), (46, .getfield 21, 3, [6, 2, 1], .null), (49, .iload_n 1, 1, [], .null), (50, .iload_n 2, 1, [], .null), (51, .invokevirtual 143, 3, [192, 3, 1, 0], .null), (54, .ireturn, 1, [], .null)]
def F_Bp_mark (x1 : Int32) (x2 : Int32) (h : Hp) : Res Hp :=
  bI (F_La_lacks 3 x1 h) fun v2 h1 =>
  if v2 = (0 : Int32) then
  (if x2 ≤ (0 : Int32) then
  (retI (-1 : Int32) h1)
  else
  (if x2 < (6 : Int32) then
  (bif okA 4 100 x1 then
  bI (F_Bp_isOf (hg h1 4 x1.toNatClampNeg) x2 h1) fun v4 h3 =>
  if v4 = (0 : Int32) then
  (bI (F_Bp_found (3 : Int32) h3) fun v8 h7 =>
  retI v8 h7)
  else
  (bI (F_La_markOf 3 x1 x2 h3) fun v6 h5 =>
  retI v6 h5)
  else none)
  else
  (retI (-1 : Int32) h1)))
  else
  (retI (-1 : Int32) h1)
def sF_Bp_mark : List Value → Hp → Res Hp := fun as h => match as with | [.ref f0, .int x1, .int x2] => (match Nat.beq f0 0 with | true => F_Bp_mark x1 x2 h | false => none) | _ => none
theorem w_Bp_mark (x1 : Int32) (x2 : Int32) (h : Hp) : sF_Bp_mark [.ref 0, .int x1, .int x2] h = F_Bp_mark x1 x2 h := rfl
def S_Bp_mark : Sem Hp := [(175, sF_La_lacks), (67, sF_Bp_isOf), (192, sF_La_markOf), (50, sF_Bp_found)]
set_option maxRecDepth 100000 in
theorem e_Bp_mark_0 (x1 : Int32) (x2 : Int32) (h : Hp) : F_Bp_mark x1 x2 h = exec1 OI S_Bp_mark 1 k_Bp_mark 0 [some (.ref 0), some (.int x1), some (.int x2)] [] h (runF OI S_Bp_mark [] 1 k_Bp_mark 400) :=
  (x_bI (f := sF_La_lacks) rfl (w_La_lacks _ _ _) fun v2 h1 => (x_ite (x_ite rfl (x_ite (x_bif (x_bI (f := sF_Bp_isOf) rfl (w_Bp_isOf _ _ _) fun v4 h3 => (x_ite (x_bI (f := sF_Bp_found) rfl (w_Bp_found _ _) fun v8 h7 => rfl) (x_bI (f := sF_La_markOf) rfl (w_La_markOf _ _ _ _) fun v6 h5 => rfl)))) rfl)) rfl))
def k_Bp_teach : List Ent := [(0, .aload_n 0, 1, [], .null), (1, .getfield 21, 3, [6, 2, 1], .null), (4, .iload_n 1, 1, [], .null), (5, .invokevirtual 130, 3, [175, 2, 2, 0], .null), (8, .ifCond .ne (19), 3, [27], .null), (11, .iload_n 2, 1, [], .null), (12, .invokestatic 146, 3, [55, 1, 2], .null), (15, .ifCond .ne (12), 3, [27], .null), (18, .iload_n 3, 1, [], .null), (19, .ifCond .lt (8), 3, [27], .null), (22, .iload_n 3, 1, [], .null), (23, .iconst 1, 1, [], .int (1)), (24, .if_icmp .le (5), 3, [29], .null), (27, .iconst (-1), 1, [], .int (-1)), (28, .ireturn, 1, [], .null), (29, .aload_n 0, 1, [], .null), (30, .getfield 21, 3, [6, 2, 1], .null), (33, .getfield 149, 3, [0, 1, 1], .null), (36, .iload_n 1, 1, [], .null), (37, .iaload, 1, [], .null), (38, .iload_n 2, 1, [], .null), (39, .ishr, 1, [], .null), (40, .iconst 1, 1, [], .int (1)), (41, .iand, 1, [], .null), (42, .istore 4, 2, [], .null), (44, .aload_n 0, 1, [], .null), (45, .getfield 21, 3, [6, 2, 1], .null), (48, .getfield 149, 3, [0, 1, 1], .null), (51, .iload_n 1, 1, [], .null), (52, .iload_n 3, 1, [], .null), (53, .iconst 1, 1, [], .int (1)), (54, .if_icmp .ne (20), 3, [74], .null), (57, .aload_n 0, 1, [], .null), (58, .getfield 21, 3, [6, 2, 1], .null), (61, .getfield 149, 3, [0, 1, 1], .null), (64, .iload_n 1, 1, [], .null), (65, .iaload, 1, [], .null), (66, .iload_n 2, 1, [], .null), (67, .invokestatic 152, 3, [64, 1, 1], .null), (70, .ior, 1, [], .null), (71, .goto (19), 3, [90], .null), (74, .aload_n 0, 1, [], .null), (75, .getfield 21, 3, [6, 2, 1], .null), (78, .getfield 149, 3, [0, 1, 1], .null), (81, .iload_n 1, 1, [], .null), (82, .iaload, 1, [], .null), (83, .iload_n 2, 1, [], .null), (84, .invokestatic 152, 3, [64, 1, 1], .null), (87, .iconst (-1), 1, [], .int (-1)), (88, .ixor, 1, [], .null), (89, .iand, 1, [], .null), (90, .iastore, 1, [], .null), (91, .iload 4, 2, [], .null), (93, .ireturn, 1, [], .null)]
def F_Bp_teach (x1 : Int32) (x2 : Int32) (x3 : Int32) (h : Hp) : Res Hp :=
  bI (F_La_lacks 3 x1 h) fun v2 h1 =>
  if v2 = (0 : Int32) then
  (bI (F_Bp_noTongue x2 h1) fun v4 h3 =>
  if v4 = (0 : Int32) then
  (if x3 < (0 : Int32) then
  (retI (-1 : Int32) h3)
  else
  (if x3 ≤ (1 : Int32) then
  (bif okA 5 100 x1 then
  if x3 = (1 : Int32) then
  (bif okA 5 100 x1 then
  bI (F_Bp_bit x2 h3) fun v9 h8 =>
  bif okA 5 100 x1 then
  bH (hs h8 5 x1.toNatClampNeg ((hg h3 5 x1.toNatClampNeg) ||| v9)) fun h10 =>
  retI (((hg h3 5 x1.toNatClampNeg) >>> (x2 &&& 31)) &&& (1 : Int32)) h10
  else none
  else none)
  else
  (bif okA 5 100 x1 then
  bI (F_Bp_bit x2 h3) fun v6 h5 =>
  bif okA 5 100 x1 then
  bH (hs h5 5 x1.toNatClampNeg ((hg h3 5 x1.toNatClampNeg) &&& (v6 ^^^ (-1 : Int32)))) fun h7 =>
  retI (((hg h3 5 x1.toNatClampNeg) >>> (x2 &&& 31)) &&& (1 : Int32)) h7
  else none
  else none)
  else none)
  else
  (retI (-1 : Int32) h3)))
  else
  (retI (-1 : Int32) h3))
  else
  (retI (-1 : Int32) h1)
def sF_Bp_teach : List Value → Hp → Res Hp := fun as h => match as with | [.ref f0, .int x1, .int x2, .int x3] => (match Nat.beq f0 0 with | true => F_Bp_teach x1 x2 x3 h | false => none) | _ => none
theorem w_Bp_teach (x1 : Int32) (x2 : Int32) (x3 : Int32) (h : Hp) : sF_Bp_teach [.ref 0, .int x1, .int x2, .int x3] h = F_Bp_teach x1 x2 x3 h := rfl
def S_Bp_teach : Sem Hp := [(175, sF_La_lacks), (55, sF_Bp_noTongue), (64, sF_Bp_bit)]
set_option maxRecDepth 100000 in
theorem e_Bp_teach_0 (x1 : Int32) (x2 : Int32) (x3 : Int32) (h : Hp) : F_Bp_teach x1 x2 x3 h = exec1 OI S_Bp_teach 1 k_Bp_teach 0 [some (.ref 0), some (.int x1), some (.int x2), some (.int x3), none] [] h (runF OI S_Bp_teach [] 1 k_Bp_teach 400) :=
  (x_bI (f := sF_La_lacks) rfl (w_La_lacks _ _ _) fun v2 h1 => (x_ite (x_bI (f := sF_Bp_noTongue) rfl (w_Bp_noTongue _ _) fun v4 h3 => (x_ite (x_ite rfl (x_ite (x_bif (x_ite (x_bif (x_bI (f := sF_Bp_bit) rfl (w_Bp_bit _ _) fun v9 h8 => (x_bif (x_bH fun h10 => rfl)))) (x_bif (x_bI (f := sF_Bp_bit) rfl (w_Bp_bit _ _) fun v6 h5 => (x_bif (x_bH fun h7 => rfl)))))) rfl)) rfl)) rfl))
def k_Bp_noPair : List Ent := [(0, .aload_n 0, 1, [], .null), (1, .getfield 21, 3, [6, 2, 1], .null), (4, .iload_n 1, 1, [], .null), (5, .invokevirtual 130, 3, [175, 2, 2, 0], .null), (8, .ifCond .ne (19), 3, [27], .null), (11, .aload_n 0, 1, [], .null), (12, .getfield 21, 3, [6, 2, 1], .null), (15, .iload_n 2, 1, [], .null), (16, .invokevirtual 130, 3, [175, 2, 2, 0], .null), (19, .ifCond .ne (8), 3, [27], .null), (22, .iload_n 1, 1, [], .null), (23, .iload_n 2, 1, [], .null), (24, .if_icmp .ne (7), 3, [31], .null), (27, .iconst 1, 1, [], .int (1)), (28, .goto (4), 3, [32], .null), (31, .iconst 0, 1, [], .int (0)), (32, .ireturn, 1, [], .null)]
def F_Bp_noPair (x1 : Int32) (x2 : Int32) (h : Hp) : Res Hp :=
  bI (F_La_lacks 3 x1 h) fun v2 h1 =>
  if v2 = (0 : Int32) then
  (bI (F_La_lacks 3 x2 h1) fun v4 h3 =>
  if v4 = (0 : Int32) then
  (if x1 = x2 then
  (retZ (1 : Int32) h3)
  else
  (retZ (0 : Int32) h3))
  else
  (retZ (1 : Int32) h3))
  else
  (retZ (1 : Int32) h1)
def sF_Bp_noPair : List Value → Hp → Res Hp := fun as h => match as with | [.ref f0, .int x1, .int x2] => (match Nat.beq f0 0 with | true => F_Bp_noPair x1 x2 h | false => none) | _ => none
theorem w_Bp_noPair (x1 : Int32) (x2 : Int32) (h : Hp) : sF_Bp_noPair [.ref 0, .int x1, .int x2] h = F_Bp_noPair x1 x2 h := rfl
def S_Bp_noPair : Sem Hp := [(175, sF_La_lacks)]
set_option maxRecDepth 100000 in
theorem e_Bp_noPair_0 (x1 : Int32) (x2 : Int32) (h : Hp) : F_Bp_noPair x1 x2 h = exec1 OI S_Bp_noPair 2 k_Bp_noPair 0 [some (.ref 0), some (.int x1), some (.int x2)] [] h (runF OI S_Bp_noPair [] 2 k_Bp_noPair 400) :=
  (x_bI (f := sF_La_lacks) rfl (w_La_lacks _ _ _) fun v2 h1 => (x_ite (x_bI (f := sF_La_lacks) rfl (w_La_lacks _ _ _) fun v4 h3 => (x_ite (x_ite rfl rfl) rfl)) rfl))
def k_Bp_meet : List Ent := [(0, .aload_n 0, 1, [], .null), (1, .iload_n 1, 1, [], .null), (2, .iload_n 2, 1, [], .null), (3, .invokevirtual 155, 3, [58, 3, 2, 6], .null), (6, .ifCond .ne (13), 3, [19], .null), (9, .iload_n 3, 1, [], .null), (10, .ifCond .lt (9), 3, [19], .null), (13, .iload_n 3, 1, [], .null), (14, .bipush (8), 2, [], .int (8)), (16, .if_icmp .lt (5), 3, [21], .null), (19, .iconst (-1), 1, [], .int (-1)), (20, .ireturn, 1, [], .null), (21, .aload_n 0, 1, [], .null), (22, .getfield 21, 3, [6, 2, 1], .null), (25, .getfield 158, 3, [0, 9, 0], .null), (28, .bipush (16), 2, [], .int (16)), (30, .if_icmp .lt (6), 3, [36], .null), (33, .bipush (-2), 2, [], .int (-2)), (35, .ireturn, 1, [], .null), (36, .aload_n 0, 1, [], .null), (37, .getfield 21, 3, [6, 2, 1], .null), (40, .iload_n 1, 1, [], .null), (41, .iload_n 2, 1, [], .null), (42, .iload_n 3, 1, [], .null), (43, .invokevirtual 161, 3, [177, 4, 0, 0], .null), (46, .aload_n 0, 1, [], .null), (47, .getfield 21, 3, [6, 2, 1], .null), (50, .getfield 158, 3, [0, 9, 0], .null), (53, .iconst 1, 1, [], .int (1)), (54, .isub, 1, [], .null), (55, .ireturn, 1, [], .null)]
def F_Bp_meet (x1 : Int32) (x2 : Int32) (x3 : Int32) (h : Hp) : Res Hp :=
  bI (F_Bp_noPair x1 x2 h) fun v2 h1 =>
  if v2 = (0 : Int32) then
  (if x3 < (0 : Int32) then
  (retI (-1 : Int32) h1)
  else
  (if x3 < (8 : Int32) then
  (if (hg h1 3 9) < (16 : Int32) then
  (bV (F_La_addMeeting 3 x1 x2 x3 h1) fun h3 =>
  retI ((hg h3 3 9) - (1 : Int32)) h3)
  else
  (retI (-2 : Int32) h1))
  else
  (retI (-1 : Int32) h1)))
  else
  (retI (-1 : Int32) h1)
def sF_Bp_meet : List Value → Hp → Res Hp := fun as h => match as with | [.ref f0, .int x1, .int x2, .int x3] => (match Nat.beq f0 0 with | true => F_Bp_meet x1 x2 x3 h | false => none) | _ => none
theorem w_Bp_meet (x1 : Int32) (x2 : Int32) (x3 : Int32) (h : Hp) : sF_Bp_meet [.ref 0, .int x1, .int x2, .int x3] h = F_Bp_meet x1 x2 x3 h := rfl
def S_Bp_meet : Sem Hp := [(58, sF_Bp_noPair), (177, sF_La_addMeeting)]
set_option maxRecDepth 100000 in
theorem e_Bp_meet_0 (x1 : Int32) (x2 : Int32) (x3 : Int32) (h : Hp) : F_Bp_meet x1 x2 x3 h = exec1 OI S_Bp_meet 1 k_Bp_meet 0 [some (.ref 0), some (.int x1), some (.int x2), some (.int x3)] [] h (runF OI S_Bp_meet [] 1 k_Bp_meet 400) :=
  (x_bI (f := sF_Bp_noPair) rfl (w_Bp_noPair _ _ _) fun v2 h1 => (x_ite (x_ite rfl (x_ite (x_ite (x_bV (f := sF_La_addMeeting) rfl (w_La_addMeeting _ _ _ _ _) fun h3 => rfl) rfl) rfl)) rfl))
def k_Bp_off : List Ent := [(0, .iload_n 1, 1, [], .null), (1, .ifCond .lt (14), 3, [15], .null), (4, .iload_n 1, 1, [], .null), (5, .aload_n 0, 1, [], .null), (6, .getfield 21, 3, [6, 2, 1], .null), (9, .getfield 158, 3, [0, 9, 0], .null), (12, .if_icmp .le (5), 3, [17], .null), (15, .iconst (-1), 1, [], .int (-1)), (16, .ireturn, 1, [], .null), (17, .aload_n 0, 1, [], .null), (18, .getfield 21, 3, [6, 2, 1], .null), (21, .getfield 158, 3, [0, 9, 0], .null), (24, .iload_n 1, 1, [], .null), (25, .isub, 1, [], .null), (26, .istore_n 2, 1, [], .null), (27, .aload_n 0, 1, [], .null), (28, .getfield 21, 3, [6, 2, 1], .null), (31, .iload_n 1, 1, [], .null), (32, .putfield 158, 3, [0, 9, 0], .null), (35, .aload_n 0, 1, [], .null), (36, .getfield 21, 3, [6, 2, 1], .null), (39, .invokevirtual 165, 3, [179, 1, 0, 0], .null), (42, .iload_n 2, 1, [], .null), (43, .ireturn, 1, [], .null)]
def F_Bp_off (x1 : Int32) (h : Hp) : Res Hp :=
  if x1 < (0 : Int32) then
  (retI (-1 : Int32) h)
  else
  (if x1 ≤ (hg h 3 9) then
  (bH (hs h 3 9 x1) fun h1 =>
  bV (F_La_tieAll 3 h1) fun h2 =>
  retI ((hg h 3 9) - x1) h2)
  else
  (retI (-1 : Int32) h))
def sF_Bp_off : List Value → Hp → Res Hp := fun as h => match as with | [.ref f0, .int x1] => (match Nat.beq f0 0 with | true => F_Bp_off x1 h | false => none) | _ => none
theorem w_Bp_off (x1 : Int32) (h : Hp) : sF_Bp_off [.ref 0, .int x1] h = F_Bp_off x1 h := rfl
def S_Bp_off : Sem Hp := [(179, sF_La_tieAll)]
set_option maxRecDepth 100000 in
theorem e_Bp_off_0 (x1 : Int32) (h : Hp) : F_Bp_off x1 h = exec1 OI S_Bp_off 1 k_Bp_off 0 [some (.ref 0), some (.int x1), none] [] h (runF OI S_Bp_off [] 1 k_Bp_off 400) :=
  (x_ite rfl (x_ite (x_bH fun h1 => (x_bV (f := sF_La_tieAll) rfl (w_La_tieAll _ _) fun h2 => rfl)) rfl))
def k_Bp_noTongues : List Ent := [(0, .iload_n 0, 1, [], .null), (1, .iconst 1, 1, [], .int (1)), (2, .if_icmp .lt (9), 3, [11], .null), (5, .iload_n 0, 1, [], .null), (6, .bipush (31), 2, [], .int (31)), (8, .if_icmp .le (7), 3, [15], .null), (11, .iconst 1, 1, [], .int (1)), (12, .goto (4), 3, [16], .null), (15, .iconst 0, 1, [], .int (0)), (16, .ireturn, 1, [], .null)]
def F_Bp_noTongues (x0 : Int32) (h : Hp) : Res Hp :=
  if x0 < (1 : Int32) then
  (retZ (1 : Int32) h)
  else
  (if x0 ≤ (31 : Int32) then
  (retZ (0 : Int32) h)
  else
  (retZ (1 : Int32) h))
def sF_Bp_noTongues : List Value → Hp → Res Hp := fun as h => match as with | [.int x0] => F_Bp_noTongues x0 h | _ => none
theorem w_Bp_noTongues (x0 : Int32) (h : Hp) : sF_Bp_noTongues [.int x0] h = F_Bp_noTongues x0 h := rfl
def S_Bp_noTongues : Sem Hp := []
set_option maxRecDepth 100000 in
theorem e_Bp_noTongues_0 (x0 : Int32) (h : Hp) : F_Bp_noTongues x0 h = exec1 OI S_Bp_noTongues 2 k_Bp_noTongues 0 [some (.int x0)] [] h (runF OI S_Bp_noTongues [] 2 k_Bp_noTongues 400) :=
  (x_ite rfl (x_ite rfl rfl))
def k_La_bars : List Ent := [(0, .aload_n 0, 1, [], .null), (1, .getfield 9, 3, [0, 0, 1], .null), (4, .iload_n 1, 1, [], .null), (5, .iaload, 1, [], .null), (6, .tableswitch (48) 1 5 #[34, 36, 48, 34, 34], 34, [54, 1, 40, 2, 42, 3, 54, 4, 40, 5, 40], .null), (40, .iconst 0, 1, [], .int (0)), (41, .ireturn, 1, [], .null), (42, .aload_n 0, 1, [], .null), (43, .getfield 15, 3, [0, 1, 1], .null), (46, .iload_n 1, 1, [], .null), (47, .iaload, 1, [], .null), (48, .iload_n 2, 1, [], .null), (49, .invokestatic 89, 3, [69, 1, 1], .null), (52, .iand, 1, [], .null), (53, .ireturn, 1, [], .null), (54, .aload_n 0, 1, [], .null), (55, .getfield 15, 3, [0, 1, 1], .null), (58, .iload_n 1, 1, [], .null), (59, .iaload, 1, [], .null), (60, .iload_n 2, 1, [], .null), (61, .iand, 1, [], .null), (62, .ireturn, 1, [], .null)]
def F_La_bars (o0 : Nat) (x1 : Int32) (x2 : Int32) (h : Hp) : Res Hp :=
  bif okF o0 0 0 1 then
  bif okA (shR o0 0) 100 x1 then
  if (hg h (shR o0 0) x1.toNatClampNeg) = (1 : Int32) then
  (retI (0 : Int32) h)
  else if (hg h (shR o0 0) x1.toNatClampNeg) = (2 : Int32) then
  (bif okF o0 0 1 1 then
  bif okA (shR o0 1) 100 x1 then
  bI (F_Bp_withNeighbours x2 h) fun v2 h1 =>
  retI ((hg h (shR o0 1) x1.toNatClampNeg) &&& v2) h1
  else none
  else none)
  else if (hg h (shR o0 0) x1.toNatClampNeg) = (3 : Int32) then
  (bif okF o0 0 1 1 then
  bif okA (shR o0 1) 100 x1 then
  retI ((hg h (shR o0 1) x1.toNatClampNeg) &&& x2) h
  else none
  else none)
  else if (hg h (shR o0 0) x1.toNatClampNeg) = (4 : Int32) then
  (retI (0 : Int32) h)
  else if (hg h (shR o0 0) x1.toNatClampNeg) = (5 : Int32) then
  (retI (0 : Int32) h)
  else 
  (bif okF o0 0 1 1 then
  bif okA (shR o0 1) 100 x1 then
  retI ((hg h (shR o0 1) x1.toNatClampNeg) &&& x2) h
  else none
  else none)
  else none
  else none
def sF_La_bars : List Value → Hp → Res Hp := fun as h => match as with | [.ref o0, .int x1, .int x2] => F_La_bars o0 x1 x2 h | _ => none
theorem w_La_bars (o0 : Nat) (x1 : Int32) (x2 : Int32) (h : Hp) : sF_La_bars [.ref o0, .int x1, .int x2] h = F_La_bars o0 x1 x2 h := rfl
def S_La_bars : Sem Hp := [(69, sF_Bp_withNeighbours)]
set_option maxRecDepth 100000 in
theorem e_La_bars_0 (o0 : Nat) (x1 : Int32) (x2 : Int32) (h : Hp) : F_La_bars o0 x1 x2 h = exec1 OI S_La_bars 1 k_La_bars 0 [some (.ref o0), some (.int x1), some (.int x2)] [] h (runF OI S_La_bars [] 1 k_La_bars 400) :=
  (x_bif (x_bif (x_ite rfl (x_ite (x_bif (x_bif (x_bI (f := sF_Bp_withNeighbours) rfl (w_Bp_withNeighbours _ _) fun v2 h1 => rfl))) (x_ite (x_bif (x_bif rfl)) (x_ite rfl (x_ite rfl (x_bif (x_bif rfl)))))))))
def k_La_carries : List Ent := [(0, .aload_n 0, 1, [], .null), (1, .iload_n 1, 1, [], .null), (2, .iload_n 2, 1, [], .null), (3, .invokevirtual 92, 3, [182, 3, 1, 0], .null), (6, .ifCond .ne (7), 3, [13], .null), (9, .iconst 1, 1, [], .int (1)), (10, .goto (4), 3, [14], .null), (13, .iconst 0, 1, [], .int (0)), (14, .ireturn, 1, [], .null)]
def F_La_carries (o0 : Nat) (x1 : Int32) (x2 : Int32) (h : Hp) : Res Hp :=
  bif okO o0 0 then
  bI (F_La_bars o0 x1 x2 h) fun v2 h1 =>
  if v2 = (0 : Int32) then
  (retZ (1 : Int32) h1)
  else
  (retZ (0 : Int32) h1)
  else none
def sF_La_carries : List Value → Hp → Res Hp := fun as h => match as with | [.ref o0, .int x1, .int x2] => F_La_carries o0 x1 x2 h | _ => none
theorem w_La_carries (o0 : Nat) (x1 : Int32) (x2 : Int32) (h : Hp) : sF_La_carries [.ref o0, .int x1, .int x2] h = F_La_carries o0 x1 x2 h := rfl
def S_La_carries : Sem Hp := [(182, sF_La_bars)]
set_option maxRecDepth 100000 in
theorem e_La_carries_0 (o0 : Nat) (x1 : Int32) (x2 : Int32) (h : Hp) : F_La_carries o0 x1 x2 h = exec1 OI S_La_carries 2 k_La_carries 0 [some (.ref o0), some (.int x1), some (.int x2)] [] h (runF OI S_La_carries [] 2 k_La_carries 400) :=
  (x_bif (x_bI (f := sF_La_bars) rfl (w_La_bars _ _ _ _) fun v2 h1 => (x_ite rfl rfl)))
def k_Bp_may : List Ent := [(0, .aload_n 0, 1, [], .null), (1, .getfield 21, 3, [6, 2, 1], .null), (4, .iload_n 1, 1, [], .null), (5, .invokevirtual 130, 3, [175, 2, 2, 0], .null), (8, .ifCond .ne (10), 3, [18], .null), (11, .iload_n 2, 1, [], .null), (12, .invokestatic 168, 3, [56, 1, 2], .null), (15, .ifCond .eq (5), 3, [20], .null), (18, .iconst (-1), 1, [], .int (-1)), (19, .ireturn, 1, [], .null), (20, .aload_n 0, 1, [], .null), (21, .getfield 21, 3, [6, 2, 1], .null), (24, .iload_n 1, 1, [], .null), (25, .iload_n 2, 1, [], .null), (26, .invokevirtual 171, 3, [183, 3, 2, 0], .null), (29, .ifCond .eq (7), 3, [36], .null), (32, .iconst 1, 1, [], .int (1)), (33, .goto (4), 3, [37], .null), (36, .iconst 0, 1, [], .int (0)), (37, .ireturn, 1, [], .null)]
def F_Bp_may (x1 : Int32) (x2 : Int32) (h : Hp) : Res Hp :=
  bI (F_La_lacks 3 x1 h) fun v2 h1 =>
  if v2 = (0 : Int32) then
  (bI (F_Bp_noTongues x2 h1) fun v4 h3 =>
  if v4 = (0 : Int32) then
  (bI (F_La_carries 3 x1 x2 h3) fun v6 h5 =>
  if v6 = (0 : Int32) then
  (retI (0 : Int32) h5)
  else
  (retI (1 : Int32) h5))
  else
  (retI (-1 : Int32) h3))
  else
  (retI (-1 : Int32) h1)
def sF_Bp_may : List Value → Hp → Res Hp := fun as h => match as with | [.ref f0, .int x1, .int x2] => (match Nat.beq f0 0 with | true => F_Bp_may x1 x2 h | false => none) | _ => none
theorem w_Bp_may (x1 : Int32) (x2 : Int32) (h : Hp) : sF_Bp_may [.ref 0, .int x1, .int x2] h = F_Bp_may x1 x2 h := rfl
def S_Bp_may : Sem Hp := [(175, sF_La_lacks), (56, sF_Bp_noTongues), (183, sF_La_carries)]
set_option maxRecDepth 100000 in
theorem e_Bp_may_0 (x1 : Int32) (x2 : Int32) (h : Hp) : F_Bp_may x1 x2 h = exec1 OI S_Bp_may 1 k_Bp_may 0 [some (.ref 0), some (.int x1), some (.int x2)] [] h (runF OI S_Bp_may [] 1 k_Bp_may 400) :=
  (x_bI (f := sF_La_lacks) rfl (w_La_lacks _ _ _) fun v2 h1 => (x_ite (x_bI (f := sF_Bp_noTongues) rfl (w_Bp_noTongues _ _) fun v4 h3 => (x_ite (x_bI (f := sF_La_carries) rfl (w_La_carries _ _ _ _) fun v6 h5 => (x_ite rfl rfl)) rfl)) rfl))
def k_Bp_noHour : List Ent := [(0, .iload_n 0, 1, [], .null), (1, .ifCond .lt (9), 3, [10], .null), (4, .iload_n 0, 1, [], .null), (5, .bipush (99), 2, [], .int (99)), (7, .if_icmp .le (7), 3, [14], .null), (10, .iconst 1, 1, [], .int (1)), (11, .goto (4), 3, [15], .null), (14, .iconst 0, 1, [], .int (0)), (15, .ireturn, 1, [], .null)]
def F_Bp_noHour (x0 : Int32) (h : Hp) : Res Hp :=
  if x0 < (0 : Int32) then
  (retZ (1 : Int32) h)
  else
  (if x0 ≤ (99 : Int32) then
  (retZ (0 : Int32) h)
  else
  (retZ (1 : Int32) h))
def sF_Bp_noHour : List Value → Hp → Res Hp := fun as h => match as with | [.int x0] => F_Bp_noHour x0 h | _ => none
theorem w_Bp_noHour (x0 : Int32) (h : Hp) : sF_Bp_noHour [.int x0] h = F_Bp_noHour x0 h := rfl
def S_Bp_noHour : Sem Hp := []
set_option maxRecDepth 100000 in
theorem e_Bp_noHour_0 (x0 : Int32) (h : Hp) : F_Bp_noHour x0 h = exec1 OI S_Bp_noHour 2 k_Bp_noHour 0 [some (.int x0)] [] h (runF OI S_Bp_noHour [] 2 k_Bp_noHour 400) :=
  (x_ite rfl (x_ite rfl rfl))
def k_Bp_meets : List Ent := [(0, .aload_n 0, 1, [], .null), (1, .getfield 21, 3, [6, 2, 1], .null), (4, .iload_n 1, 1, [], .null), (5, .invokevirtual 130, 3, [175, 2, 2, 0], .null), (8, .ifCond .ne (10), 3, [18], .null), (11, .iload_n 2, 1, [], .null), (12, .invokestatic 174, 3, [57, 1, 2], .null), (15, .ifCond .eq (5), 3, [20], .null), (18, .iconst (-1), 1, [], .int (-1)), (19, .ireturn, 1, [], .null), (20, .aload_n 0, 1, [], .null), (21, .getfield 21, 3, [6, 2, 1], .null), (24, .getfield 177, 3, [0, 5, 1], .null), (27, .iload_n 2, 1, [], .null), (28, .bipush (8), 2, [], .int (8)), (30, .irem, 1, [], .null), (31, .aaload, 1, [], .null), (32, .iload_n 1, 1, [], .null), (33, .iaload, 1, [], .null), (34, .ireturn, 1, [], .null)]
def F_Bp_meets (x1 : Int32) (x2 : Int32) (h : Hp) : Res Hp :=
  bI (F_La_lacks 3 x1 h) fun v2 h1 =>
  if v2 = (0 : Int32) then
  (bI (F_Bp_noHour x2 h1) fun v4 h3 =>
  if v4 = (0 : Int32) then
  (bif okR 9 (x2 - x2 / (8 : Int32) * (8 : Int32)) then
  bif okA (shR 9 (x2 - x2 / (8 : Int32) * (8 : Int32)).toNatClampNeg) 100 x1 then
  retI (hg h3 (shR 9 (x2 - x2 / (8 : Int32) * (8 : Int32)).toNatClampNeg) x1.toNatClampNeg) h3
  else none
  else none)
  else
  (retI (-1 : Int32) h3))
  else
  (retI (-1 : Int32) h1)
def sF_Bp_meets : List Value → Hp → Res Hp := fun as h => match as with | [.ref f0, .int x1, .int x2] => (match Nat.beq f0 0 with | true => F_Bp_meets x1 x2 h | false => none) | _ => none
theorem w_Bp_meets (x1 : Int32) (x2 : Int32) (h : Hp) : sF_Bp_meets [.ref 0, .int x1, .int x2] h = F_Bp_meets x1 x2 h := rfl
def S_Bp_meets : Sem Hp := [(175, sF_La_lacks), (57, sF_Bp_noHour)]
set_option maxRecDepth 100000 in
theorem e_Bp_meets_0 (x1 : Int32) (x2 : Int32) (h : Hp) : F_Bp_meets x1 x2 h = exec1 OI S_Bp_meets 1 k_Bp_meets 0 [some (.ref 0), some (.int x1), some (.int x2)] [] h (runF OI S_Bp_meets [] 1 k_Bp_meets 400) :=
  (x_bI (f := sF_La_lacks) rfl (w_La_lacks _ _ _) fun v2 h1 => (x_ite (x_bI (f := sF_Bp_noHour) rfl (w_Bp_noHour _ _) fun v4 h3 => (x_ite (x_bif (x_bif rfl)) rfl)) rfl))
def k_Le_start : List Ent := [(0, .aload_n 0, 1, [], .null), (1, .getfield 9, 3, [1, 0, 1], .null), (4, .iconst 0, 1, [], .int (0)), (5, .iload_n 1, 1, [], .null), (6, .iastore, 1, [], .null), (7, .aload_n 0, 1, [], .null), (8, .getfield 15, 3, [1, 1, 1], .null), (11, .iconst 0, 1, [], .int (0)), (12, .iload 4, 2, [], .null), (14, .iastore, 1, [], .null), (15, .aload_n 0, 1, [], .null), (16, .iconst 1, 1, [], .int (1)), (17, .putfield 18, 3, [1, 2, 0], .null), (20, .aload_n 0, 1, [], .null), (21, .iload_n 2, 1, [], .null), (22, .putfield 22, 3, [1, 3, 0], .null), (25, .aload_n 0, 1, [], .null), (26, .iload_n 3, 1, [], .null), (27, .putfield 25, 3, [1, 4, 0], .null), (30, .return_, 1, [], .null)]
def F_Le_start (o0 : Nat) (x1 : Int32) (x2 : Int32) (x3 : Int32) (x4 : Int32) (h : Hp) : Res Hp :=
  bif okF o0 1 0 1 then
  bif okA (shR o0 0) 100 (0 : Int32) then
  bH (hs h (shR o0 0) 0 x1) fun h1 =>
  bif okF o0 1 1 1 then
  bif okA (shR o0 1) 100 (0 : Int32) then
  bH (hs h1 (shR o0 1) 0 x4) fun h2 =>
  bif okF o0 1 2 0 then
  bH (hs h2 o0 2 (1 : Int32)) fun h3 =>
  bif okF o0 1 3 0 then
  bH (hs h3 o0 3 x2) fun h4 =>
  bif okF o0 1 4 0 then
  bH (hs h4 o0 4 x3) fun h5 =>
  retV h5
  else none
  else none
  else none
  else none
  else none
  else none
  else none
def sF_Le_start : List Value → Hp → Res Hp := fun as h => match as with | [.ref o0, .int x1, .int x2, .int x3, .int x4] => F_Le_start o0 x1 x2 x3 x4 h | _ => none
theorem w_Le_start (o0 : Nat) (x1 : Int32) (x2 : Int32) (x3 : Int32) (x4 : Int32) (h : Hp) : sF_Le_start [.ref o0, .int x1, .int x2, .int x3, .int x4] h = F_Le_start o0 x1 x2 x3 x4 h := rfl
def S_Le_start : Sem Hp := []
set_option maxRecDepth 100000 in
theorem e_Le_start_0 (o0 : Nat) (x1 : Int32) (x2 : Int32) (x3 : Int32) (x4 : Int32) (h : Hp) : F_Le_start o0 x1 x2 x3 x4 h = exec1 OI S_Le_start 0 k_Le_start 0 [some (.ref o0), some (.int x1), some (.int x2), some (.int x3), some (.int x4)] [] h (runF OI S_Le_start [] 0 k_Le_start 400) :=
  (x_bif (x_bif (x_bH fun h1 => (x_bif (x_bif (x_bH fun h2 => (x_bif (x_bH fun h3 => (x_bif (x_bH fun h4 => (x_bif (x_bH fun h5 => rfl))))))))))))
def k_Bp_send : List Ent := [(0, .aload_n 0, 1, [], .null), (1, .iload_n 1, 1, [], .null), (2, .iload_n 2, 1, [], .null), (3, .invokevirtual 155, 3, [58, 3, 2, 6], .null), (6, .ifCond .ne (10), 3, [16], .null), (9, .iload_n 3, 1, [], .null), (10, .invokestatic 168, 3, [56, 1, 2], .null), (13, .ifCond .eq (5), 3, [18], .null), (16, .iconst (-1), 1, [], .int (-1)), (17, .ireturn, 1, [], .null), (18, .aload_n 0, 1, [], .null), (19, .getfield 21, 3, [6, 2, 1], .null), (22, .getfield 149, 3, [0, 1, 1], .null), (25, .iload_n 1, 1, [], .null), (26, .iaload, 1, [], .null), (27, .aload_n 0, 1, [], .null), (28, .getfield 21, 3, [6, 2, 1], .null), (31, .getfield 149, 3, [0, 1, 1], .null), (34, .iload_n 2, 1, [], .null), (35, .iaload, 1, [], .null), (36, .iand, 1, [], .null), (37, .iload_n 3, 1, [], .null), (38, .iand, 1, [], .null), (39, .iload_n 3, 1, [], .null), (40, .if_icmp .eq (6), 3, [46], .null), (43, .bipush (-4), 2, [], .int (-4)), (45, .ireturn, 1, [], .null), (46, .aload_n 0, 1, [], .null), (47, .getfield 21, 3, [6, 2, 1], .null), (50, .getfield 181, 3, [0, 10, 0], .null), (53, .iconst 4, 1, [], .int (4)), (54, .if_icmp .lt (6), 3, [60], .null), (57, .bipush (-2), 2, [], .int (-2)), (59, .ireturn, 1, [], .null), (60, .aload_n 0, 1, [], .null), (61, .getfield 21, 3, [6, 2, 1], .null), (64, .getfield 184, 3, [0, 7, 1], .null), (67, .aload_n 0, 1, [], .null), (68, .getfield 21, 3, [6, 2, 1], .null), (71, .getfield 181, 3, [0, 10, 0], .null), (74, .aaload, 1, [], .null), (75, .iload_n 1, 1, [], .null), (76, .iload_n 2, 1, [], .null), (77, .iload_n 3, 1, [], .null), (78, .aload_n 0, 1, [], .null), (79, .getfield 21, 3, [6, 2, 1], .null), (82, .getfield 188, 3, [0, 11, 0], .null), (85, .invokevirtual 191, 3, [196, 5, 0, 1], .null), (88, .aload_n 0, 1, [], .null), (89, .getfield 21, 3, [6, 2, 1], .null), (92, .dup, 1, [], .null), (93, .getfield 181, 3, [0, 10, 0], .null), (96, .iconst 1, 1, [], .int (1)), (97, .iadd, 1, [], .null), (98, .putfield 181, 3, [0, 10, 0], .null), (101, .aload_n 0, 1, [], .null), (102, .getfield 21, 3, [6, 2, 1], .null), (105, .getfield 181, 3, [0, 10, 0], .null), (108, .iconst 1, 1, [], .int (1)), (109, .isub, 1, [], .null), (110, .ireturn, 1, [], .null)]
def F_Bp_send (x1 : Int32) (x2 : Int32) (x3 : Int32) (h : Hp) : Res Hp :=
  bI (F_Bp_noPair x1 x2 h) fun v2 h1 =>
  if v2 = (0 : Int32) then
  (bI (F_Bp_noTongues x3 h1) fun v4 h3 =>
  if v4 = (0 : Int32) then
  (bif okA 5 100 x1 then
  bif okA 5 100 x2 then
  if (((hg h3 5 x1.toNatClampNeg) &&& (hg h3 5 x2.toNatClampNeg)) &&& x3) = x3 then
  (if (hg h3 3 10) < (4 : Int32) then
  (bif okR 19 (hg h3 3 10) then
  bif okO (shR 19 (hg h3 3 10).toNatClampNeg) 1 then
  bV (F_Le_start (shR 19 (hg h3 3 10).toNatClampNeg) x1 x2 x3 (hg h3 3 11) h3) fun h5 =>
  bH (hs h5 3 10 ((hg h5 3 10) + (1 : Int32))) fun h6 =>
  retI ((hg h6 3 10) - (1 : Int32)) h6
  else none
  else none)
  else
  (retI (-2 : Int32) h3))
  else
  (retI (-4 : Int32) h3)
  else none
  else none)
  else
  (retI (-1 : Int32) h3))
  else
  (retI (-1 : Int32) h1)
def sF_Bp_send : List Value → Hp → Res Hp := fun as h => match as with | [.ref f0, .int x1, .int x2, .int x3] => (match Nat.beq f0 0 with | true => F_Bp_send x1 x2 x3 h | false => none) | _ => none
theorem w_Bp_send (x1 : Int32) (x2 : Int32) (x3 : Int32) (h : Hp) : sF_Bp_send [.ref 0, .int x1, .int x2, .int x3] h = F_Bp_send x1 x2 x3 h := rfl
def S_Bp_send : Sem Hp := [(58, sF_Bp_noPair), (56, sF_Bp_noTongues), (196, sF_Le_start)]
set_option maxRecDepth 100000 in
theorem e_Bp_send_0 (x1 : Int32) (x2 : Int32) (x3 : Int32) (h : Hp) : F_Bp_send x1 x2 x3 h = exec1 OI S_Bp_send 1 k_Bp_send 0 [some (.ref 0), some (.int x1), some (.int x2), some (.int x3)] [] h (runF OI S_Bp_send [] 1 k_Bp_send 400) :=
  (x_bI (f := sF_Bp_noPair) rfl (w_Bp_noPair _ _ _) fun v2 h1 => (x_ite (x_bI (f := sF_Bp_noTongues) rfl (w_Bp_noTongues _ _) fun v4 h3 => (x_ite (x_bif (x_bif (x_ite (x_ite (x_bif (x_bif (x_bV (f := sF_Le_start) rfl (w_Le_start _ _ _ _ _ _) fun h5 => (x_bH fun h6 => rfl)))) rfl) rfl))) rfl)) rfl))
def k_Le_isWithSender : List Ent := [(0, .aload_n 0, 1, [], .null), (1, .getfield 18, 3, [1, 2, 0], .null), (4, .iconst 1, 1, [], .int (1)), (5, .if_icmp .ne (7), 3, [12], .null), (8, .iconst 1, 1, [], .int (1)), (9, .goto (4), 3, [13], .null), (12, .iconst 0, 1, [], .int (0)), (13, .ireturn, 1, [], .null)]
def F_Le_isWithSender (o0 : Nat) (h : Hp) : Res Hp :=
  bif okF o0 1 2 0 then
  if (hg h o0 2) = (1 : Int32) then
  (retZ (1 : Int32) h)
  else
  (retZ (0 : Int32) h)
  else none
def sF_Le_isWithSender : List Value → Hp → Res Hp := fun as h => match as with | [.ref o0] => F_Le_isWithSender o0 h | _ => none
theorem w_Le_isWithSender (o0 : Nat) (h : Hp) : sF_Le_isWithSender [.ref o0] h = F_Le_isWithSender o0 h := rfl
def S_Le_isWithSender : Sem Hp := []
set_option maxRecDepth 100000 in
theorem e_Le_isWithSender_0 (o0 : Nat) (h : Hp) : F_Le_isWithSender o0 h = exec1 OI S_Le_isWithSender 2 k_Le_isWithSender 0 [some (.ref o0)] [] h (runF OI S_Le_isWithSender [] 2 k_Le_isWithSender 400) :=
  (x_bif (x_ite rfl rfl))
def k_Le_cameWhen : List Ent := [(0, .aload_n 0, 1, [], .null), (1, .getfield 15, 3, [1, 1, 1], .null), (4, .aload_n 0, 1, [], .null), (5, .getfield 18, 3, [1, 2, 0], .null), (8, .iconst 1, 1, [], .int (1)), (9, .isub, 1, [], .null), (10, .iaload, 1, [], .null), (11, .ireturn, 1, [], .null)]
def F_Le_cameWhen (o0 : Nat) (h : Hp) : Res Hp :=
  bif okF o0 1 1 1 then
  bif okF o0 1 2 0 then
  bif okA (shR o0 1) 100 ((hg h o0 2) - (1 : Int32)) then
  retI (hg h (shR o0 1) ((hg h o0 2) - (1 : Int32)).toNatClampNeg) h
  else none
  else none
  else none
def sF_Le_cameWhen : List Value → Hp → Res Hp := fun as h => match as with | [.ref o0] => F_Le_cameWhen o0 h | _ => none
theorem w_Le_cameWhen (o0 : Nat) (h : Hp) : sF_Le_cameWhen [.ref o0] h = F_Le_cameWhen o0 h := rfl
def S_Le_cameWhen : Sem Hp := []
set_option maxRecDepth 100000 in
theorem e_Le_cameWhen_0 (o0 : Nat) (h : Hp) : F_Le_cameWhen o0 h = exec1 OI S_Le_cameWhen 1 k_Le_cameWhen 0 [some (.ref o0)] [] h (runF OI S_Le_cameWhen [] 1 k_Le_cameWhen 400) :=
  (x_bif (x_bif (x_bif rfl)))
def k_Le_wasGivenIn : List Ent := [(0, .aload_n 0, 1, [], .null), (1, .invokevirtual 38, 3, [201, 1, 2, 1], .null), (4, .ifCond .ne (15), 3, [19], .null), (7, .aload_n 0, 1, [], .null), (8, .invokevirtual 42, 3, [199, 1, 1, 1], .null), (11, .iload_n 1, 1, [], .null), (12, .if_icmp .ne (7), 3, [19], .null), (15, .iconst 1, 1, [], .int (1)), (16, .goto (4), 3, [20], .null), (19, .iconst 0, 1, [], .int (0)), (20, .ireturn, 1, [], .null)]
def F_Le_wasGivenIn (o0 : Nat) (x1 : Int32) (h : Hp) : Res Hp :=
  bif okO o0 1 then
  bI (F_Le_isWithSender o0 h) fun v2 h1 =>
  if v2 = (0 : Int32) then
  (bif okO o0 1 then
  bI (F_Le_cameWhen o0 h1) fun v4 h3 =>
  if v4 = x1 then
  (retZ (1 : Int32) h3)
  else
  (retZ (0 : Int32) h3)
  else none)
  else
  (retZ (0 : Int32) h1)
  else none
def sF_Le_wasGivenIn : List Value → Hp → Res Hp := fun as h => match as with | [.ref o0, .int x1] => F_Le_wasGivenIn o0 x1 h | _ => none
theorem w_Le_wasGivenIn (o0 : Nat) (x1 : Int32) (h : Hp) : sF_Le_wasGivenIn [.ref o0, .int x1] h = F_Le_wasGivenIn o0 x1 h := rfl
def S_Le_wasGivenIn : Sem Hp := [(201, sF_Le_isWithSender), (199, sF_Le_cameWhen)]
set_option maxRecDepth 100000 in
theorem e_Le_wasGivenIn_0 (o0 : Nat) (x1 : Int32) (h : Hp) : F_Le_wasGivenIn o0 x1 h = exec1 OI S_Le_wasGivenIn 2 k_Le_wasGivenIn 0 [some (.ref o0), some (.int x1)] [] h (runF OI S_Le_wasGivenIn [] 2 k_Le_wasGivenIn 400) :=
  (x_bif (x_bI (f := sF_Le_isWithSender) rfl (w_Le_isWithSender _ _) fun v2 h1 => (x_ite (x_bif (x_bI (f := sF_Le_cameWhen) rfl (w_Le_cameWhen _ _) fun v4 h3 => (x_ite rfl rfl))) rfl)))
def k_Le_seen : List Ent := [(0, .iconst 0, 1, [], .int (0)), (1, .istore_n 1, 1, [], .null), (2, .iconst 0, 1, [], .int (0)), (3, .istore_n 2, 1, [], .null), (4, .iload_n 2, 1, [], .null), (5, .aload_n 0, 1, [], .null), (6, .getfield 18, 3, [1, 2, 0], .null), (9, .if_icmp .ge (21), 3, [30], .null), (12, .iload_n 1, 1, [], .null), (13, .aload_n 0, 1, [], .null), (14, .getfield 9, 3, [1, 0, 1], .null), (17, .iload_n 2, 1, [], .null), (18, .iaload, 1, [], .null), (19, .invokestatic 45, 3, [64, 1, 1], .null), (22, .ior, 1, [], .null), (23, .istore_n 1, 1, [], .null), (24, .iinc 2 (1), 3, [], .int (1)), (27, .goto (-23), 3, [4], .null), (30, .iload_n 1, 1, [], .null), (31, .ireturn, 1, [], .null)]
def Le_seen_4    : (Nat × Int32 × Int32 × Hp) → ((Nat × Int32 × Int32 × Hp) → Res Hp) → Res Hp := fun s κ4 => match s with
  | (o0, x1, x2, h) =>
  bif okF o0 1 2 0 then
  if (hg h o0 2) ≤ x2 then
  (retI x1 h)
  else
  (bif okF o0 1 0 1 then
  bif okA (shR o0 0) 100 x2 then
  bI (F_Bp_bit (hg h (shR o0 0) x2.toNatClampNeg) h) fun v2 h1 =>
  κ4 (o0, (x1 ||| v2), (x2 + (1 : Int32)), h1)
  else none
  else none)
  else none
def F_Le_seen (o0 : Nat) (h : Hp) : Res Hp :=
  loopC (Le_seen_4   ) FU (o0, (0 : Int32), (0 : Int32), h)
def sF_Le_seen : List Value → Hp → Res Hp := fun as h => match as with | [.ref o0] => F_Le_seen o0 h | _ => none
theorem w_Le_seen (o0 : Nat) (h : Hp) : sF_Le_seen [.ref o0] h = F_Le_seen o0 h := rfl
def S_Le_seen : Sem Hp := [(64, sF_Bp_bit)]
set_option maxRecDepth 100000 in
theorem e_Le_seen_0 (o0 : Nat) (h : Hp) : F_Le_seen o0 h = exec1 OI S_Le_seen 1 k_Le_seen 0 [some (.ref o0), none, none] [] h (runF OI S_Le_seen [(4, [0, 1, 2], fun vs st h => match vs, st with | [.ref o0, .int x1, .int x2], [] => loopC (Le_seen_4   ) FU (o0, x1, x2, h) | _, _ => none)] 1 k_Le_seen 400) :=
  rfl
set_option maxRecDepth 100000 in
theorem e_Le_seen_4 (κ4 : (Nat × Int32 × Int32 × Hp) → Res Hp) (o0 : Nat) (x1 : Int32) (x2 : Int32)  (h : Hp) : Le_seen_4    (o0, x1, x2, h) κ4 = exec1 OI S_Le_seen 1 k_Le_seen 4 [some (.ref o0), some (.int x1), some (.int x2)] [] h (runF OI S_Le_seen [(4, [0, 1, 2], fun vs st h => match vs, st with | [.ref o0, .int x1, .int x2], [] => κ4 (o0, x1, x2, h) | _, _ => none)] 1 k_Le_seen 400) :=
  (x_bif (x_ite rfl (x_bif (x_bif (x_bI (f := sF_Bp_bit) rfl (w_Bp_bit _ _) fun v2 h1 => rfl)))))
def k_Bp_has : List Ent := [(0, .iload_n 0, 1, [], .null), (1, .iload_n 1, 1, [], .null), (2, .ishr, 1, [], .null), (3, .iconst 1, 1, [], .int (1)), (4, .iand, 1, [], .null), (5, .iconst 1, 1, [], .int (1)), (6, .if_icmp .ne (7), 3, [13], .null), (9, .iconst 1, 1, [], .int (1)), (10, .goto (4), 3, [14], .null), (13, .iconst 0, 1, [], .int (0)), (14, .ireturn, 1, [], .null)]
def F_Bp_has (x0 : Int32) (x1 : Int32) (h : Hp) : Res Hp :=
  if ((x0 >>> (x1 &&& 31)) &&& (1 : Int32)) = (1 : Int32) then
  (retZ (1 : Int32) h)
  else
  (retZ (0 : Int32) h)
def sF_Bp_has : List Value → Hp → Res Hp := fun as h => match as with | [.int x0, .int x1] => F_Bp_has x0 x1 h | _ => none
theorem w_Bp_has (x0 : Int32) (x1 : Int32) (h : Hp) : sF_Bp_has [.int x0, .int x1] h = F_Bp_has x0 x1 h := rfl
def S_Bp_has : Sem Hp := []
set_option maxRecDepth 100000 in
theorem e_Bp_has_0 (x0 : Int32) (x1 : Int32) (h : Hp) : F_Bp_has x0 x1 h = exec1 OI S_Bp_has 2 k_Bp_has 0 [some (.int x0), some (.int x1)] [] h (runF OI S_Bp_has [] 2 k_Bp_has 400) :=
  (x_ite rfl rfl)
def k_La_takesBetween : List Ent := [(0, .aload_n 0, 1, [], .null), (1, .iload_n 1, 1, [], .null), (2, .aload_n 2, 1, [], .null), (3, .getfield 118, 3, [1, 4, 0], .null), (6, .invokevirtual 121, 3, [183, 3, 2, 0], .null), (9, .ifCond .eq (24), 3, [33], .null), (12, .aload_n 0, 1, [], .null), (13, .getfield 9, 3, [0, 0, 1], .null), (16, .iload_n 1, 1, [], .null), (17, .iaload, 1, [], .null), (18, .iconst 4, 1, [], .int (4)), (19, .if_icmp .ne (10), 3, [29], .null), (22, .aload_n 2, 1, [], .null), (23, .invokevirtual 124, 3, [201, 1, 2, 1], .null), (26, .ifCond .eq (7), 3, [33], .null), (29, .iconst 1, 1, [], .int (1)), (30, .goto (4), 3, [34], .null), (33, .iconst 0, 1, [], .int (0)), (34, .ireturn, 1, [], .null)]
def F_La_takesBetween (o0 : Nat) (x1 : Int32) (o2 : Nat) (h : Hp) : Res Hp :=
  bif okF o2 1 4 0 then
  bif okO o0 0 then
  bI (F_La_carries o0 x1 (hg h o2 4) h) fun v2 h1 =>
  if v2 = (0 : Int32) then
  (retZ (0 : Int32) h1)
  else
  (bif okF o0 0 0 1 then
  bif okA (shR o0 0) 100 x1 then
  if (hg h1 (shR o0 0) x1.toNatClampNeg) = (4 : Int32) then
  (bif okO o2 1 then
  bI (F_Le_isWithSender o2 h1) fun v4 h3 =>
  if v4 = (0 : Int32) then
  (retZ (0 : Int32) h3)
  else
  (retZ (1 : Int32) h3)
  else none)
  else
  (retZ (1 : Int32) h1)
  else none
  else none)
  else none
  else none
def sF_La_takesBetween : List Value → Hp → Res Hp := fun as h => match as with | [.ref o0, .int x1, .ref o2] => F_La_takesBetween o0 x1 o2 h | _ => none
theorem w_La_takesBetween (o0 : Nat) (x1 : Int32) (o2 : Nat) (h : Hp) : sF_La_takesBetween [.ref o0, .int x1, .ref o2] h = F_La_takesBetween o0 x1 o2 h := rfl
def S_La_takesBetween : Sem Hp := [(183, sF_La_carries), (201, sF_Le_isWithSender)]
set_option maxRecDepth 100000 in
theorem e_La_takesBetween_0 (o0 : Nat) (x1 : Int32) (o2 : Nat) (h : Hp) : F_La_takesBetween o0 x1 o2 h = exec1 OI S_La_takesBetween 2 k_La_takesBetween 0 [some (.ref o0), some (.int x1), some (.ref o2)] [] h (runF OI S_La_takesBetween [] 2 k_La_takesBetween 400) :=
  (x_bif (x_bif (x_bI (f := sF_La_carries) rfl (w_La_carries _ _ _ _) fun v2 h1 => (x_ite rfl (x_bif (x_bif (x_ite (x_bif (x_bI (f := sF_Le_isWithSender) rfl (w_Le_isWithSender _ _) fun v4 h3 => (x_ite rfl rfl))) rfl)))))))
def k_La_takers : List Ent := [(0, .aload_n 1, 1, [], .null), (1, .invokevirtual 96, 3, [200, 1, 2, 1], .null), (4, .ifCond .ne (14), 3, [18], .null), (7, .aload_n 1, 1, [], .null), (8, .aload_n 0, 1, [], .null), (9, .getfield 51, 3, [0, 11, 0], .null), (12, .invokevirtual 100, 3, [202, 2, 2, 1], .null), (15, .ifCond .eq (5), 3, [20], .null), (18, .iconst 0, 1, [], .int (0)), (19, .ireturn, 1, [], .null), (20, .aload_n 0, 1, [], .null), (21, .getfield 29, 3, [0, 5, 1], .null), (24, .aload_n 0, 1, [], .null), (25, .getfield 51, 3, [0, 11, 0], .null), (28, .bipush (8), 2, [], .int (8)), (30, .irem, 1, [], .null), (31, .aaload, 1, [], .null), (32, .aload_n 1, 1, [], .null), (33, .invokevirtual 104, 3, [198, 1, 1, 1], .null), (36, .iaload, 1, [], .null), (37, .aload_n 1, 1, [], .null), (38, .invokevirtual 108, 3, [203, 1, 1, 1], .null), (41, .iconst (-1), 1, [], .int (-1)), (42, .ixor, 1, [], .null), (43, .iand, 1, [], .null), (44, .istore_n 2, 1, [], .null), (45, .iconst 0, 1, [], .int (0)), (46, .istore_n 3, 1, [], .null), (47, .iconst 0, 1, [], .int (0)), (48, .istore 4, 2, [], .null), (50, .iload 4, 2, [], .null), (52, .aload_n 0, 1, [], .null), (53, .getfield 41, 3, [0, 8, 0], .null), (56, .if_icmp .ge (45), 3, [101], .null), (59, .iload_n 2, 1, [], .null), (60, .iload 4, 2, [], .null), (62, .invokestatic 86, 3, [65, 2, 2], .null), (65, .ifCond .eq (30), 3, [95], .null), (68, .iload 4, 2, [], .null), (70, .aload_n 1, 1, [], .null), (71, .getfield 111, 3, [1, 3, 0], .null), (74, .if_icmp .eq (13), 3, [87], .null), (77, .aload_n 0, 1, [], .null), (78, .iload 4, 2, [], .null), (80, .aload_n 1, 1, [], .null), (81, .invokevirtual 114, 3, [185, 3, 2, 0], .null), (84, .ifCond .eq (11), 3, [95], .null), (87, .iload_n 3, 1, [], .null), (88, .iload 4, 2, [], .null), (90, .invokestatic 72, 3, [64, 1, 1], .null), (93, .ior, 1, [], .null), (94, .istore_n 3, 1, [], .null), (95, .iinc 4 (1), 3, [], .int (1)), (98, .goto (-48), 3, [50], .null), (101, .iload_n 3, 1, [], .null), (102, .ireturn, 1, [], .null)]
def La_takers_50    : (Nat × Nat × Int32 × Int32 × Int32 × Hp) → ((Nat × Nat × Int32 × Int32 × Int32 × Hp) → Res Hp) → Res Hp := fun s κ50 => match s with
  | (o0, o1, x2, x3, x4, h) =>
  bif okF o0 0 8 0 then
  if (hg h o0 8) ≤ x4 then
  (retI x3 h)
  else
  (bI (F_Bp_has x2 x4 h) fun v2 h1 =>
  if v2 = (0 : Int32) then
  (κ50 (o0, o1, x2, x3, (x4 + (1 : Int32)), h1))
  else
  (bif okF o1 1 3 0 then
  if x4 = (hg h1 o1 3) then
  (bI (F_Bp_bit x4 h1) fun v4 h3 =>
  κ50 (o0, o1, x2, (x3 ||| v4), (x4 + (1 : Int32)), h3))
  else
  (bif okO o0 0 then
  bI (F_La_takesBetween o0 x4 o1 h1) fun v6 h5 =>
  if v6 = (0 : Int32) then
  (κ50 (o0, o1, x2, x3, (x4 + (1 : Int32)), h5))
  else
  (bI (F_Bp_bit x4 h5) fun v8 h7 =>
  κ50 (o0, o1, x2, (x3 ||| v8), (x4 + (1 : Int32)), h7))
  else none)
  else none))
  else none
def F_La_takers (o0 : Nat) (o1 : Nat) (h : Hp) : Res Hp :=
  bif okO o1 1 then
  bI (F_Le_isThere o1 h) fun v2 h1 =>
  if v2 = (0 : Int32) then
  (bif okF o0 0 11 0 then
  bif okO o1 1 then
  bI (F_Le_wasGivenIn o1 (hg h1 o0 11) h1) fun v4 h3 =>
  if v4 = (0 : Int32) then
  (bif okF o0 0 5 1 then
  bif okF o0 0 11 0 then
  bif okR (shR o0 5) ((hg h3 o0 11) - (hg h3 o0 11) / (8 : Int32) * (8 : Int32)) then
  bif okO o1 1 then
  bI (F_Le_holder o1 h3) fun v6 h5 =>
  bif okA (shR (shR o0 5) ((hg h3 o0 11) - (hg h3 o0 11) / (8 : Int32) * (8 : Int32)).toNatClampNeg) 100 v6 then
  bif okO o1 1 then
  bI (F_Le_seen o1 h5) fun v8 h7 =>
  loopC (La_takers_50   ) FU (o0, o1, ((hg h5 (shR (shR o0 5) ((hg h3 o0 11) - (hg h3 o0 11) / (8 : Int32) * (8 : Int32)).toNatClampNeg) v6.toNatClampNeg) &&& (v8 ^^^ (-1 : Int32))), (0 : Int32), (0 : Int32), h7)
  else none
  else none
  else none
  else none
  else none
  else none)
  else
  (retI (0 : Int32) h3)
  else none
  else none)
  else
  (retI (0 : Int32) h1)
  else none
def sF_La_takers : List Value → Hp → Res Hp := fun as h => match as with | [.ref o0, .ref o1] => F_La_takers o0 o1 h | _ => none
theorem w_La_takers (o0 : Nat) (o1 : Nat) (h : Hp) : sF_La_takers [.ref o0, .ref o1] h = F_La_takers o0 o1 h := rfl
def S_La_takers : Sem Hp := [(200, sF_Le_isThere), (202, sF_Le_wasGivenIn), (198, sF_Le_holder), (203, sF_Le_seen), (65, sF_Bp_has), (64, sF_Bp_bit), (185, sF_La_takesBetween)]
set_option maxRecDepth 100000 in
theorem e_La_takers_0 (o0 : Nat) (o1 : Nat) (h : Hp) : F_La_takers o0 o1 h = exec1 OI S_La_takers 1 k_La_takers 0 [some (.ref o0), some (.ref o1), none, none, none] [] h (runF OI S_La_takers [(50, [0, 1, 2, 3, 4], fun vs st h => match vs, st with | [.ref o0, .ref o1, .int x2, .int x3, .int x4], [] => loopC (La_takers_50   ) FU (o0, o1, x2, x3, x4, h) | _, _ => none)] 1 k_La_takers 400) :=
  (x_bif (x_bI (f := sF_Le_isThere) rfl (w_Le_isThere _ _) fun v2 h1 => (x_ite (x_bif (x_bif (x_bI (f := sF_Le_wasGivenIn) rfl (w_Le_wasGivenIn _ _ _) fun v4 h3 => (x_ite (x_bif (x_bif (x_bif (x_bif (x_bI (f := sF_Le_holder) rfl (w_Le_holder _ _) fun v6 h5 => (x_bif (x_bif (x_bI (f := sF_Le_seen) rfl (w_Le_seen _ _) fun v8 h7 => rfl)))))))) rfl)))) rfl)))
set_option maxRecDepth 100000 in
theorem e_La_takers_50 (κ50 : (Nat × Nat × Int32 × Int32 × Int32 × Hp) → Res Hp) (o0 : Nat) (o1 : Nat) (x2 : Int32) (x3 : Int32) (x4 : Int32)  (h : Hp) : La_takers_50    (o0, o1, x2, x3, x4, h) κ50 = exec1 OI S_La_takers 1 k_La_takers 50 [some (.ref o0), some (.ref o1), some (.int x2), some (.int x3), some (.int x4)] [] h (runF OI S_La_takers [(50, [0, 1, 2, 3, 4], fun vs st h => match vs, st with | [.ref o0, .ref o1, .int x2, .int x3, .int x4], [] => κ50 (o0, o1, x2, x3, x4, h) | _, _ => none)] 1 k_La_takers 400) :=
  (x_bif (x_ite rfl (x_bI (f := sF_Bp_has) rfl (w_Bp_has _ _ _) fun v2 h1 => (x_ite rfl (x_bif (x_ite (x_bI (f := sF_Bp_bit) rfl (w_Bp_bit _ _) fun v4 h3 => rfl) (x_bif (x_bI (f := sF_La_takesBetween) rfl (w_La_takesBetween _ _ _ _) fun v6 h5 => (x_ite rfl (x_bI (f := sF_Bp_bit) rfl (w_Bp_bit _ _) fun v8 h7 => rfl))))))))))
def k_Le_add : List Ent := [(0, .aload_n 0, 1, [], .null), (1, .getfield 18, 3, [1, 2, 0], .null), (4, .bipush (7), 2, [], .int (7)), (6, .if_icmp .ge (33), 3, [39], .null), (9, .aload_n 0, 1, [], .null), (10, .getfield 9, 3, [1, 0, 1], .null), (13, .aload_n 0, 1, [], .null), (14, .getfield 18, 3, [1, 2, 0], .null), (17, .iload_n 1, 1, [], .null), (18, .iastore, 1, [], .null), (19, .aload_n 0, 1, [], .null), (20, .getfield 15, 3, [1, 1, 1], .null), (23, .aload_n 0, 1, [], .null), (24, .getfield 18, 3, [1, 2, 0], .null), (27, .iload_n 2, 1, [], .null), (28, .iastore, 1, [], .null), (29, .aload_n 0, 1, [], .null), (30, .dup, 1, [], .null), (31, .getfield 18, 3, [1, 2, 0], .null), (34, .iconst 1, 1, [], .int (1)), (35, .iadd, 1, [], .null), (36, .putfield 18, 3, [1, 2, 0], .null), (39, .return_, 1, [], .null)]
def F_Le_add (o0 : Nat) (x1 : Int32) (x2 : Int32) (h : Hp) : Res Hp :=
  bif okF o0 1 2 0 then
  if (7 : Int32) ≤ (hg h o0 2) then
  (retV h)
  else
  (bif okF o0 1 0 1 then
  bif okF o0 1 2 0 then
  bif okA (shR o0 0) 100 (hg h o0 2) then
  bH (hs h (shR o0 0) (hg h o0 2).toNatClampNeg x1) fun h1 =>
  bif okF o0 1 1 1 then
  bif okF o0 1 2 0 then
  bif okA (shR o0 1) 100 (hg h1 o0 2) then
  bH (hs h1 (shR o0 1) (hg h1 o0 2).toNatClampNeg x2) fun h2 =>
  bif okF o0 1 2 0 then
  bif okF o0 1 2 0 then
  bH (hs h2 o0 2 ((hg h2 o0 2) + (1 : Int32))) fun h3 =>
  retV h3
  else none
  else none
  else none
  else none
  else none
  else none
  else none
  else none)
  else none
def sF_Le_add : List Value → Hp → Res Hp := fun as h => match as with | [.ref o0, .int x1, .int x2] => F_Le_add o0 x1 x2 h | _ => none
theorem w_Le_add (o0 : Nat) (x1 : Int32) (x2 : Int32) (h : Hp) : sF_Le_add [.ref o0, .int x1, .int x2] h = F_Le_add o0 x1 x2 h := rfl
def S_Le_add : Sem Hp := []
set_option maxRecDepth 100000 in
theorem e_Le_add_0 (o0 : Nat) (x1 : Int32) (x2 : Int32) (h : Hp) : F_Le_add o0 x1 x2 h = exec1 OI S_Le_add 0 k_Le_add 0 [some (.ref o0), some (.int x1), some (.int x2)] [] h (runF OI S_Le_add [] 0 k_Le_add 400) :=
  (x_bif (x_ite rfl (x_bif (x_bif (x_bif (x_bH fun h1 => (x_bif (x_bif (x_bif (x_bH fun h2 => (x_bif (x_bif (x_bH fun h3 => rfl)))))))))))))
def k_La_pass : List Ent := [(0, .aload_n 1, 1, [], .null), (1, .invokevirtual 104, 3, [198, 1, 1, 1], .null), (4, .istore_n 3, 1, [], .null), (5, .aload_n 0, 1, [], .null), (6, .getfield 9, 3, [0, 0, 1], .null), (9, .iload_n 3, 1, [], .null), (10, .iaload, 1, [], .null), (11, .iconst 3, 1, [], .int (3)), (12, .invokestatic 82, 3, [67, 2, 2], .null), (15, .ifCond .eq (16), 3, [31], .null), (18, .aload_n 0, 1, [], .null), (19, .getfield 15, 3, [0, 1, 1], .null), (22, .iload_n 3, 1, [], .null), (23, .dup2, 1, [], .null), (24, .iaload, 1, [], .null), (25, .aload_n 1, 1, [], .null), (26, .getfield 118, 3, [1, 4, 0], .null), (29, .ior, 1, [], .null), (30, .iastore, 1, [], .null), (31, .aload_n 1, 1, [], .null), (32, .iload_n 2, 1, [], .null), (33, .aload_n 0, 1, [], .null), (34, .getfield 51, 3, [0, 11, 0], .null), (37, .invokevirtual 127, 3, [205, 3, 0, 1], .null), (40, .aload_n 1, 1, [], .null), (41, .invokevirtual 96, 3, [200, 1, 2, 1], .null), (44, .ireturn, 1, [], .null)]
def F_La_pass (o0 : Nat) (o1 : Nat) (x2 : Int32) (h : Hp) : Res Hp :=
  bif okO o1 1 then
  bI (F_Le_holder o1 h) fun v2 h1 =>
  bif okF o0 0 0 1 then
  bif okA (shR o0 0) 100 v2 then
  bI (F_Bp_isOf (hg h1 (shR o0 0) v2.toNatClampNeg) (3 : Int32) h1) fun v4 h3 =>
  if v4 = (0 : Int32) then
  (bif okF o0 0 11 0 then
  bif okO o1 1 then
  bV (F_Le_add o1 x2 (hg h3 o0 11) h3) fun h5 =>
  bif okO o1 1 then
  bI (F_Le_isThere o1 h5) fun v7 h6 =>
  retZ v7 h6
  else none
  else none
  else none)
  else
  (bif okF o0 0 1 1 then
  bif okA (shR o0 1) 100 v2 then
  bif okF o1 1 4 0 then
  bif okA (shR o0 1) 100 v2 then
  bH (hs h3 (shR o0 1) v2.toNatClampNeg ((hg h3 (shR o0 1) v2.toNatClampNeg) ||| (hg h3 o1 4))) fun h8 =>
  bif okF o0 0 11 0 then
  bif okO o1 1 then
  bV (F_Le_add o1 x2 (hg h8 o0 11) h8) fun h9 =>
  bif okO o1 1 then
  bI (F_Le_isThere o1 h9) fun v11 h10 =>
  retZ v11 h10
  else none
  else none
  else none
  else none
  else none
  else none
  else none)
  else none
  else none
  else none
def sF_La_pass : List Value → Hp → Res Hp := fun as h => match as with | [.ref o0, .ref o1, .int x2] => F_La_pass o0 o1 x2 h | _ => none
theorem w_La_pass (o0 : Nat) (o1 : Nat) (x2 : Int32) (h : Hp) : sF_La_pass [.ref o0, .ref o1, .int x2] h = F_La_pass o0 o1 x2 h := rfl
def S_La_pass : Sem Hp := [(198, sF_Le_holder), (67, sF_Bp_isOf), (205, sF_Le_add), (200, sF_Le_isThere)]
set_option maxRecDepth 100000 in
theorem e_La_pass_0 (o0 : Nat) (o1 : Nat) (x2 : Int32) (h : Hp) : F_La_pass o0 o1 x2 h = exec1 OI S_La_pass 2 k_La_pass 0 [some (.ref o0), some (.ref o1), some (.int x2), none] [] h (runF OI S_La_pass [] 2 k_La_pass 400) :=
  (x_bif (x_bI (f := sF_Le_holder) rfl (w_Le_holder _ _) fun v2 h1 => (x_bif (x_bif (x_bI (f := sF_Bp_isOf) rfl (w_Bp_isOf _ _ _) fun v4 h3 => (x_ite (x_bif (x_bif (x_bV (f := sF_Le_add) rfl (w_Le_add _ _ _ _) fun h5 => (x_bif (x_bI (f := sF_Le_isThere) rfl (w_Le_isThere _ _) fun v7 h6 => rfl))))) (x_bif (x_bif (x_bif (x_bif (x_bH fun h8 => (x_bif (x_bif (x_bV (f := sF_Le_add) rfl (w_Le_add _ _ _ _) fun h9 => (x_bif (x_bI (f := sF_Le_isThere) rfl (w_Le_isThere _ _) fun v11 h10 => rfl))))))))))))))))
end
