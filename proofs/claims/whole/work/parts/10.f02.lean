noncomputable section
def k_Bp_give : List Ent := [(0, .iload_n 1, 1, [], .null), (1, .ifCond .lt (14), 3, [15], .null), (4, .aload_n 0, 1, [], .null), (5, .getfield 21, 3, [6, 2, 1], .null), (8, .iload_n 2, 1, [], .null), (9, .invokevirtual 130, 3, [175, 2, 2, 0], .null), (12, .ifCond .eq (5), 3, [17], .null), (15, .iconst (-1), 1, [], .int (-1)), (16, .ireturn, 1, [], .null), (17, .iload_n 1, 1, [], .null), (18, .aload_n 0, 1, [], .null), (19, .getfield 21, 3, [6, 2, 1], .null), (22, .getfield 181, 3, [0, 10, 0], .null), (25, .if_icmp .lt (9), 3, [34], .null), (28, .aload_n 0, 1, [], .null), (29, .iconst 2, 1, [], .int (2)), (30, .invokevirtual 79, 3, [50, 2, 1, 6], .null), (33, .ireturn, 1, [], .null), (34, .aload_n 0, 1, [], .null), (35, .getfield 21, 3, [6, 2, 1], .null), (38, .aload_n 0, 1, [], .null), (39, .getfield 21, 3, [6, 2, 1], .null), (42, .getfield 184, 3, [0, 7, 1], .null), (45, .iload_n 1, 1, [], .null), (46, .aaload, 1, [], .null), (47, .invokevirtual 197, 3, [184, 2, 1, 0], .null), (50, .iload_n 2, 1, [], .null), (51, .invokestatic 201, 3, [65, 2, 2], .null), (54, .ifCond .ne (6), 3, [60], .null), (57, .bipush (-4), 2, [], .int (-4)), (59, .ireturn, 1, [], .null), (60, .aload_n 0, 1, [], .null), (61, .getfield 21, 3, [6, 2, 1], .null), (64, .aload_n 0, 1, [], .null), (65, .getfield 21, 3, [6, 2, 1], .null), (68, .getfield 184, 3, [0, 7, 1], .null), (71, .iload_n 1, 1, [], .null), (72, .aaload, 1, [], .null), (73, .iload_n 2, 1, [], .null), (74, .invokevirtual 204, 3, [186, 3, 2, 0], .null), (77, .ifCond .eq (7), 3, [84], .null), (80, .iconst 1, 1, [], .int (1)), (81, .goto (4), 3, [85], .null), (84, .iconst 0, 1, [], .int (0)), (85, .ireturn, 1, [], .null)]
def F_Bp_give (x1 : Int32) (x2 : Int32) (h : Hp) : Res Hp :=
  if x1 < (0 : Int32) then
  (retI (-1 : Int32) h)
  else
  (bI (F_La_lacks 3 x2 h) fun v2 h1 =>
  if v2 = (0 : Int32) then
  (if x1 < (hg h1 3 10) then
  (bif okR 19 x1 then
  bI (F_La_takers 3 (shR 19 x1.toNatClampNeg) h1) fun v4 h3 =>
  bI (F_Bp_has v4 x2 h3) fun v6 h5 =>
  if v6 = (0 : Int32) then
  (retI (-4 : Int32) h5)
  else
  (bif okR 19 x1 then
  bI (F_La_pass 3 (shR 19 x1.toNatClampNeg) x2 h5) fun v8 h7 =>
  if v8 = (0 : Int32) then
  (retI (0 : Int32) h7)
  else
  (retI (1 : Int32) h7)
  else none)
  else none)
  else
  (bI (F_Bp_found (2 : Int32) h1) fun v10 h9 =>
  retI v10 h9))
  else
  (retI (-1 : Int32) h1))
def sF_Bp_give : List Value → Hp → Res Hp := fun as h => match as with | [.ref f0, .int x1, .int x2] => (match Nat.beq f0 0 with | true => F_Bp_give x1 x2 h | false => none) | _ => none
theorem w_Bp_give (x1 : Int32) (x2 : Int32) (h : Hp) : sF_Bp_give [.ref 0, .int x1, .int x2] h = F_Bp_give x1 x2 h := rfl
def S_Bp_give : Sem Hp := [(175, sF_La_lacks), (184, sF_La_takers), (65, sF_Bp_has), (186, sF_La_pass), (50, sF_Bp_found)]
set_option maxRecDepth 100000 in
theorem e_Bp_give_0 (x1 : Int32) (x2 : Int32) (h : Hp) : F_Bp_give x1 x2 h = exec1 OI S_Bp_give 1 k_Bp_give 0 [some (.ref 0), some (.int x1), some (.int x2)] [] h (runF OI S_Bp_give [] 1 k_Bp_give 400) :=
  (x_ite rfl (x_bI (f := sF_La_lacks) rfl (w_La_lacks _ _ _) fun v2 h1 => (x_ite (x_ite (x_bif (x_bI (f := sF_La_takers) rfl (w_La_takers _ _ _) fun v4 h3 => (x_bI (f := sF_Bp_has) rfl (w_Bp_has _ _ _) fun v6 h5 => (x_ite rfl (x_bif (x_bI (f := sF_La_pass) rfl (w_La_pass _ _ _ _) fun v8 h7 => (x_ite rfl rfl))))))) (x_bI (f := sF_Bp_found) rfl (w_Bp_found _ _) fun v10 h9 => rfl)) rfl)))
def k_Bp_hours : List Ent := [(0, .iload_n 1, 1, [], .null), (1, .ifCond .lt (9), 3, [10], .null), (4, .iload_n 1, 1, [], .null), (5, .bipush (20), 2, [], .int (20)), (7, .if_icmp .le (5), 3, [12], .null), (10, .iconst (-1), 1, [], .int (-1)), (11, .ireturn, 1, [], .null), (12, .aload_n 0, 1, [], .null), (13, .getfield 21, 3, [6, 2, 1], .null), (16, .getfield 188, 3, [0, 11, 0], .null), (19, .iload_n 1, 1, [], .null), (20, .iadd, 1, [], .null), (21, .bipush (99), 2, [], .int (99)), (23, .if_icmp .le (6), 3, [29], .null), (26, .bipush (-2), 2, [], .int (-2)), (28, .ireturn, 1, [], .null), (29, .aload_n 0, 1, [], .null), (30, .getfield 21, 3, [6, 2, 1], .null), (33, .dup, 1, [], .null), (34, .getfield 188, 3, [0, 11, 0], .null), (37, .iload_n 1, 1, [], .null), (38, .iadd, 1, [], .null), (39, .putfield 188, 3, [0, 11, 0], .null), (42, .aload_n 0, 1, [], .null), (43, .getfield 21, 3, [6, 2, 1], .null), (46, .getfield 188, 3, [0, 11, 0], .null), (49, .ireturn, 1, [], .null)]
def F_Bp_hours (x1 : Int32) (h : Hp) : Res Hp :=
  if x1 < (0 : Int32) then
  (retI (-1 : Int32) h)
  else
  (if x1 ≤ (20 : Int32) then
  (if ((hg h 3 11) + x1) ≤ (99 : Int32) then
  (bH (hs h 3 11 ((hg h 3 11) + x1)) fun h1 =>
  retI (hg h1 3 11) h1)
  else
  (retI (-2 : Int32) h))
  else
  (retI (-1 : Int32) h))
def sF_Bp_hours : List Value → Hp → Res Hp := fun as h => match as with | [.ref f0, .int x1] => (match Nat.beq f0 0 with | true => F_Bp_hours x1 h | false => none) | _ => none
theorem w_Bp_hours (x1 : Int32) (h : Hp) : sF_Bp_hours [.ref 0, .int x1] h = F_Bp_hours x1 h := rfl
def S_Bp_hours : Sem Hp := []
set_option maxRecDepth 100000 in
theorem e_Bp_hours_0 (x1 : Int32) (h : Hp) : F_Bp_hours x1 h = exec1 OI S_Bp_hours 1 k_Bp_hours 0 [some (.ref 0), some (.int x1)] [] h (runF OI S_Bp_hours [] 1 k_Bp_hours 400) :=
  (x_ite rfl (x_ite (x_ite (x_bH fun h1 => rfl) rfl) rfl))
def k_Bp_where : List Ent := [(0, .iload_n 1, 1, [], .null), (1, .ifCond .ge (5), 3, [6], .null), (4, .iconst (-1), 1, [], .int (-1)), (5, .ireturn, 1, [], .null), (6, .iload_n 1, 1, [], .null), (7, .aload_n 0, 1, [], .null), (8, .getfield 21, 3, [6, 2, 1], .null), (11, .getfield 181, 3, [0, 10, 0], .null), (14, .if_icmp .lt (9), 3, [23], .null), (17, .aload_n 0, 1, [], .null), (18, .iconst 2, 1, [], .int (2)), (19, .invokevirtual 79, 3, [50, 2, 1, 6], .null), (22, .ireturn, 1, [], .null), (23, .aload_n 0, 1, [], .null), (24, .aload_n 0, 1, [], .null), (25, .getfield 21, 3, [6, 2, 1], .null), (28, .getfield 184, 3, [0, 7, 1], .null), (31, .iload_n 1, 1, [], .null), (32, .aaload, 1, [], .null), (33, .invokevirtual 208, 3, [199, 1, 1, 1], .null), (36, .putfield 69, 3, [6, 11, 0], .null), (39, .aload_n 0, 1, [], .null), (40, .getfield 21, 3, [6, 2, 1], .null), (43, .getfield 184, 3, [0, 7, 1], .null), (46, .iload_n 1, 1, [], .null), (47, .aaload, 1, [], .null), (48, .invokevirtual 212, 3, [198, 1, 1, 1], .null), (51, .ireturn, 1, [], .null)]
def F_Bp_where (x1 : Int32) (h : Hp) : Res Hp :=
  if (0 : Int32) ≤ x1 then
  (if x1 < (hg h 3 10) then
  (bif okR 19 x1 then
  bif okO (shR 19 x1.toNatClampNeg) 1 then
  bI (F_Le_cameWhen (shR 19 x1.toNatClampNeg) h) fun v2 h1 =>
  bH (hs h1 0 11 v2) fun h3 =>
  bif okR 19 x1 then
  bif okO (shR 19 x1.toNatClampNeg) 1 then
  bI (F_Le_holder (shR 19 x1.toNatClampNeg) h3) fun v5 h4 =>
  retI v5 h4
  else none
  else none
  else none
  else none)
  else
  (bI (F_Bp_found (2 : Int32) h) fun v7 h6 =>
  retI v7 h6))
  else
  (retI (-1 : Int32) h)
def sF_Bp_where : List Value → Hp → Res Hp := fun as h => match as with | [.ref f0, .int x1] => (match Nat.beq f0 0 with | true => F_Bp_where x1 h | false => none) | _ => none
theorem w_Bp_where (x1 : Int32) (h : Hp) : sF_Bp_where [.ref 0, .int x1] h = F_Bp_where x1 h := rfl
def S_Bp_where : Sem Hp := [(199, sF_Le_cameWhen), (198, sF_Le_holder), (50, sF_Bp_found)]
set_option maxRecDepth 100000 in
theorem e_Bp_where_0 (x1 : Int32) (h : Hp) : F_Bp_where x1 h = exec1 OI S_Bp_where 1 k_Bp_where 0 [some (.ref 0), some (.int x1)] [] h (runF OI S_Bp_where [] 1 k_Bp_where 400) :=
  (x_ite (x_ite (x_bif (x_bif (x_bI (f := sF_Le_cameWhen) rfl (w_Le_cameWhen _ _) fun v2 h1 => (x_bH fun h3 => (x_bif (x_bif (x_bI (f := sF_Le_holder) rfl (w_Le_holder _ _) fun v5 h4 => rfl))))))) (x_bI (f := sF_Bp_found) rfl (w_Bp_found _ _) fun v7 h6 => rfl)) rfl)
def k_Sh_fill : List Ent := [(0, .aload_n 0, 1, [], .null), (1, .iload_n 2, 1, [], .null), (2, .aload_n 1, 1, [], .null), (3, .arraylength, 1, [], .null), (4, .aload_n 0, 1, [], .null), (5, .getfield 15, 3, [4, 0, 1], .null), (8, .arraylength, 1, [], .null), (9, .invokestatic 23, 3, [1], .null), (12, .invokestatic 23, 3, [1], .null), (15, .putfield 11, 3, [4, 1, 0], .null), (18, .iconst 0, 1, [], .int (0)), (19, .istore_n 3, 1, [], .null), (20, .iload_n 3, 1, [], .null), (21, .aload_n 0, 1, [], .null), (22, .getfield 11, 3, [4, 1, 0], .null), (25, .if_icmp .ge (18), 3, [43], .null), (28, .aload_n 0, 1, [], .null), (29, .getfield 15, 3, [4, 0, 1], .null), (32, .iload_n 3, 1, [], .null), (33, .aload_n 1, 1, [], .null), (34, .iload_n 3, 1, [], .null), (35, .iaload, 1, [], .null), (36, .iastore, 1, [], .null), (37, .iinc 3 (1), 3, [], .int (1)), (40, .goto (-20), 3, [20], .null), (43, .return_, 1, [], .null)]
def Sh_fill_20    : (Nat × Nat × Int32 × Hp) → ((Nat × Nat × Int32 × Hp) → Res Hp) → Res Hp := fun s κ20 => match s with
  | (o0, o1, x3, h) =>
  bif okF o0 4 1 0 then
  if (hg h o0 1) ≤ x3 then
  (retV h)
  else
  (bif okF o0 4 0 1 then
  bif okA o1 100 x3 then
  bif okA (shR o0 0) 100 x3 then
  bH (hs h (shR o0 0) x3.toNatClampNeg (hg h o1 x3.toNatClampNeg)) fun h1 =>
  κ20 (o0, o1, (x3 + (1 : Int32)), h1)
  else none
  else none
  else none)
  else none
def F_Sh_fill (o0 : Nat) (o1 : Nat) (x2 : Int32) (h : Hp) : Res Hp :=
  bif okN o1 then
  bif okF o0 4 0 1 then
  bif okN (shR o0 0) then
  bif okF o0 4 1 0 then
  bH (hs h o0 1 (if (if (Int32.ofNat (shN (shR o0 0))) < (Int32.ofNat (shN o1)) then (Int32.ofNat (shN (shR o0 0))) else (Int32.ofNat (shN o1))) < x2 then (if (Int32.ofNat (shN (shR o0 0))) < (Int32.ofNat (shN o1)) then (Int32.ofNat (shN (shR o0 0))) else (Int32.ofNat (shN o1))) else x2)) fun h1 =>
  loopC (Sh_fill_20   ) FU (o0, o1, (0 : Int32), h1)
  else none
  else none
  else none
  else none
def sF_Sh_fill : List Value → Hp → Res Hp := fun as h => match as with | [.ref o0, .ref o1, .int x2] => F_Sh_fill o0 o1 x2 h | _ => none
theorem w_Sh_fill (o0 : Nat) (o1 : Nat) (x2 : Int32) (h : Hp) : sF_Sh_fill [.ref o0, .ref o1, .int x2] h = F_Sh_fill o0 o1 x2 h := rfl
def S_Sh_fill : Sem Hp := []
set_option maxRecDepth 100000 in
theorem e_Sh_fill_0 (o0 : Nat) (o1 : Nat) (x2 : Int32) (h : Hp) : F_Sh_fill o0 o1 x2 h = exec1 OI S_Sh_fill 0 k_Sh_fill 0 [some (.ref o0), some (.ref o1), some (.int x2), none] [] h (runF OI S_Sh_fill [(20, [0, 1, 3], fun vs st h => match vs, st with | [.ref o0, .ref o1, .int x3], [] => loopC (Sh_fill_20   ) FU (o0, o1, x3, h) | _, _ => none)] 0 k_Sh_fill 400) :=
  (x_bif (x_bif (x_bif (x_bif (x_bH fun h1 => rfl)))))
set_option maxRecDepth 100000 in
theorem e_Sh_fill_20 (κ20 : (Nat × Nat × Int32 × Hp) → Res Hp) (o0 : Nat) (o1 : Nat) (x3 : Int32)  (h : Hp) : Sh_fill_20    (o0, o1, x3, h) κ20 = exec1 OI S_Sh_fill 0 k_Sh_fill 20 [some (.ref o0), some (.ref o1), none, some (.int x3)] [] h (runF OI S_Sh_fill [(20, [0, 1, 3], fun vs st h => match vs, st with | [.ref o0, .ref o1, .int x3], [] => κ20 (o0, o1, x3, h) | _, _ => none)] 0 k_Sh_fill 400) :=
  (x_bif (x_ite rfl (x_bif (x_bif (x_bif (x_bH fun h1 => rfl))))))
def k_Bp_hands : List Ent := [(0, .iload_n 1, 1, [], .null), (1, .ifCond .lt (10), 3, [11], .null), (4, .iload_n 2, 1, [], .null), (5, .invokestatic 75, 3, [52, 1, 2], .null), (8, .ifCond .eq (5), 3, [13], .null), (11, .iconst (-1), 1, [], .int (-1)), (12, .ireturn, 1, [], .null), (13, .iload_n 1, 1, [], .null), (14, .aload_n 0, 1, [], .null), (15, .getfield 21, 3, [6, 2, 1], .null), (18, .getfield 181, 3, [0, 10, 0], .null), (21, .if_icmp .lt (9), 3, [30], .null), (24, .aload_n 0, 1, [], .null), (25, .iconst 2, 1, [], .int (2)), (26, .invokevirtual 79, 3, [50, 2, 1, 6], .null), (29, .ireturn, 1, [], .null), (30, .aload_n 0, 1, [], .null), (31, .getfield 11, 3, [6, 0, 1], .null), (34, .iload_n 2, 1, [], .null), (35, .aaload, 1, [], .null), (36, .aload_n 0, 1, [], .null), (37, .getfield 21, 3, [6, 2, 1], .null), (40, .getfield 184, 3, [0, 7, 1], .null), (43, .iload_n 1, 1, [], .null), (44, .aaload, 1, [], .null), (45, .getfield 215, 3, [1, 0, 1], .null), (48, .aload_n 0, 1, [], .null), (49, .getfield 21, 3, [6, 2, 1], .null), (52, .getfield 184, 3, [0, 7, 1], .null), (55, .iload_n 1, 1, [], .null), (56, .aaload, 1, [], .null), (57, .getfield 218, 3, [1, 2, 0], .null), (60, .invokevirtual 221, 3, [229, 3, 0, 4], .null), (63, .aload_n 0, 1, [], .null), (64, .getfield 21, 3, [6, 2, 1], .null), (67, .getfield 184, 3, [0, 7, 1], .null), (70, .iload_n 1, 1, [], .null), (71, .aaload, 1, [], .null), (72, .getfield 218, 3, [1, 2, 0], .null), (75, .ireturn, 1, [], .null)]
def F_Bp_hands (x1 : Int32) (x2 : Int32) (h : Hp) : Res Hp :=
  if x1 < (0 : Int32) then
  (retI (-1 : Int32) h)
  else
  (bI (F_Bp_noRow x2 h) fun v2 h1 =>
  if v2 = (0 : Int32) then
  (if x1 < (hg h1 3 10) then
  (bif okR 1 x2 then
  bif okR 19 x1 then
  bif okF (shR 19 x1.toNatClampNeg) 1 0 1 then
  bif okR 19 x1 then
  bif okF (shR 19 x1.toNatClampNeg) 1 2 0 then
  bif okO (shR 1 x2.toNatClampNeg) 4 then
  bV (F_Sh_fill (shR 1 x2.toNatClampNeg) (shR (shR 19 x1.toNatClampNeg) 0) (hg h1 (shR 19 x1.toNatClampNeg) 2) h1) fun h3 =>
  bif okR 19 x1 then
  bif okF (shR 19 x1.toNatClampNeg) 1 2 0 then
  retI (hg h3 (shR 19 x1.toNatClampNeg) 2) h3
  else none
  else none
  else none
  else none
  else none
  else none
  else none
  else none)
  else
  (bI (F_Bp_found (2 : Int32) h1) fun v5 h4 =>
  retI v5 h4))
  else
  (retI (-1 : Int32) h1))
def sF_Bp_hands : List Value → Hp → Res Hp := fun as h => match as with | [.ref f0, .int x1, .int x2] => (match Nat.beq f0 0 with | true => F_Bp_hands x1 x2 h | false => none) | _ => none
theorem w_Bp_hands (x1 : Int32) (x2 : Int32) (h : Hp) : sF_Bp_hands [.ref 0, .int x1, .int x2] h = F_Bp_hands x1 x2 h := rfl
def S_Bp_hands : Sem Hp := [(52, sF_Bp_noRow), (229, sF_Sh_fill), (50, sF_Bp_found)]
set_option maxRecDepth 100000 in
theorem e_Bp_hands_0 (x1 : Int32) (x2 : Int32) (h : Hp) : F_Bp_hands x1 x2 h = exec1 OI S_Bp_hands 1 k_Bp_hands 0 [some (.ref 0), some (.int x1), some (.int x2)] [] h (runF OI S_Bp_hands [] 1 k_Bp_hands 400) :=
  (x_ite rfl (x_bI (f := sF_Bp_noRow) rfl (w_Bp_noRow _ _) fun v2 h1 => (x_ite (x_ite (x_bif (x_bif (x_bif (x_bif (x_bif (x_bif (x_bV (f := sF_Sh_fill) rfl (w_Sh_fill _ _ _ _) fun h3 => (x_bif (x_bif rfl))))))))) (x_bI (f := sF_Bp_found) rfl (w_Bp_found _ _) fun v5 h4 => rfl)) rfl)))
def k_Bp_back : List Ent := [(0, .iload_n 1, 1, [], .null), (1, .ifCond .ge (5), 3, [6], .null), (4, .iconst (-1), 1, [], .int (-1)), (5, .ireturn, 1, [], .null), (6, .iload_n 1, 1, [], .null), (7, .aload_n 0, 1, [], .null), (8, .getfield 21, 3, [6, 2, 1], .null), (11, .getfield 181, 3, [0, 10, 0], .null), (14, .if_icmp .lt (9), 3, [23], .null), (17, .aload_n 0, 1, [], .null), (18, .iconst 2, 1, [], .int (2)), (19, .invokevirtual 79, 3, [50, 2, 1, 6], .null), (22, .ireturn, 1, [], .null), (23, .aload_n 0, 1, [], .null), (24, .getfield 21, 3, [6, 2, 1], .null), (27, .getfield 184, 3, [0, 7, 1], .null), (30, .iload_n 1, 1, [], .null), (31, .aaload, 1, [], .null), (32, .getfield 218, 3, [1, 2, 0], .null), (35, .iconst 2, 1, [], .int (2)), (36, .if_icmp .ge (6), 3, [42], .null), (39, .bipush (-4), 2, [], .int (-4)), (41, .ireturn, 1, [], .null), (42, .aload_n 0, 1, [], .null), (43, .getfield 21, 3, [6, 2, 1], .null), (46, .getfield 184, 3, [0, 7, 1], .null), (49, .iload_n 1, 1, [], .null), (50, .aaload, 1, [], .null), (51, .dup, 1, [], .null), (52, .getfield 218, 3, [1, 2, 0], .null), (55, .iconst 1, 1, [], .int (1)), (56, .isub, 1, [], .null), (57, .putfield 218, 3, [1, 2, 0], .null), (60, .aload_n 0, 1, [], .null), (61, .getfield 21, 3, [6, 2, 1], .null), (64, .getfield 184, 3, [0, 7, 1], .null), (67, .iload_n 1, 1, [], .null), (68, .aaload, 1, [], .null), (69, .invokevirtual 212, 3, [198, 1, 1, 1], .null), (72, .ireturn, 1, [], .null)]
def F_Bp_back (x1 : Int32) (h : Hp) : Res Hp :=
  if (0 : Int32) ≤ x1 then
  (if x1 < (hg h 3 10) then
  (bif okR 19 x1 then
  bif okF (shR 19 x1.toNatClampNeg) 1 2 0 then
  if (2 : Int32) ≤ (hg h (shR 19 x1.toNatClampNeg) 2) then
  (bif okR 19 x1 then
  bif okF (shR 19 x1.toNatClampNeg) 1 2 0 then
  bif okF (shR 19 x1.toNatClampNeg) 1 2 0 then
  bH (hs h (shR 19 x1.toNatClampNeg) 2 ((hg h (shR 19 x1.toNatClampNeg) 2) - (1 : Int32))) fun h1 =>
  bif okR 19 x1 then
  bif okO (shR 19 x1.toNatClampNeg) 1 then
  bI (F_Le_holder (shR 19 x1.toNatClampNeg) h1) fun v3 h2 =>
  retI v3 h2
  else none
  else none
  else none
  else none
  else none)
  else
  (retI (-4 : Int32) h)
  else none
  else none)
  else
  (bI (F_Bp_found (2 : Int32) h) fun v5 h4 =>
  retI v5 h4))
  else
  (retI (-1 : Int32) h)
def sF_Bp_back : List Value → Hp → Res Hp := fun as h => match as with | [.ref f0, .int x1] => (match Nat.beq f0 0 with | true => F_Bp_back x1 h | false => none) | _ => none
theorem w_Bp_back (x1 : Int32) (h : Hp) : sF_Bp_back [.ref 0, .int x1] h = F_Bp_back x1 h := rfl
def S_Bp_back : Sem Hp := [(198, sF_Le_holder), (50, sF_Bp_found)]
set_option maxRecDepth 100000 in
theorem e_Bp_back_0 (x1 : Int32) (h : Hp) : F_Bp_back x1 h = exec1 OI S_Bp_back 1 k_Bp_back 0 [some (.ref 0), some (.int x1)] [] h (runF OI S_Bp_back [] 1 k_Bp_back 400) :=
  (x_ite (x_ite (x_bif (x_bif (x_ite (x_bif (x_bif (x_bif (x_bH fun h1 => (x_bif (x_bif (x_bI (f := sF_Le_holder) rfl (w_Le_holder _ _) fun v3 h2 => rfl))))))) rfl))) (x_bI (f := sF_Bp_found) rfl (w_Bp_found _ _) fun v5 h4 => rfl)) rfl)
def k_Bp_noPlace : List Ent := [(0, .iload_n 0, 1, [], .null), (1, .ifCond .lt (8), 3, [9], .null), (4, .iload_n 0, 1, [], .null), (5, .iconst 3, 1, [], .int (3)), (6, .if_icmp .lt (7), 3, [13], .null), (9, .iconst 1, 1, [], .int (1)), (10, .goto (4), 3, [14], .null), (13, .iconst 0, 1, [], .int (0)), (14, .ireturn, 1, [], .null)]
def F_Bp_noPlace (x0 : Int32) (h : Hp) : Res Hp :=
  if x0 < (0 : Int32) then
  (retZ (1 : Int32) h)
  else
  (if x0 < (3 : Int32) then
  (retZ (0 : Int32) h)
  else
  (retZ (1 : Int32) h))
def sF_Bp_noPlace : List Value → Hp → Res Hp := fun as h => match as with | [.int x0] => F_Bp_noPlace x0 h | _ => none
theorem w_Bp_noPlace (x0 : Int32) (h : Hp) : sF_Bp_noPlace [.int x0] h = F_Bp_noPlace x0 h := rfl
def S_Bp_noPlace : Sem Hp := []
set_option maxRecDepth 100000 in
theorem e_Bp_noPlace_0 (x0 : Int32) (h : Hp) : F_Bp_noPlace x0 h = exec1 OI S_Bp_noPlace 2 k_Bp_noPlace 0 [some (.int x0)] [] h (runF OI S_Bp_noPlace [] 2 k_Bp_noPlace 400) :=
  (x_ite rfl (x_ite rfl rfl))
def k_Bp_keep : List Ent := [(0, .iload_n 1, 1, [], .null), (1, .invokestatic 225, 3, [54, 1, 2], .null), (4, .ifCond .eq (5), 3, [9], .null), (7, .iconst (-1), 1, [], .int (-1)), (8, .ireturn, 1, [], .null), (9, .aload_n 0, 1, [], .null), (10, .getfield 21, 3, [6, 2, 1], .null), (13, .getfield 127, 3, [0, 8, 0], .null), (16, .ifCond .ne (6), 3, [22], .null), (19, .bipush (-4), 2, [], .int (-4)), (21, .ireturn, 1, [], .null), (22, .aload_n 0, 1, [], .null), (23, .getfield 28, 3, [6, 4, 1], .null), (26, .iload_n 1, 1, [], .null), (27, .aaload, 1, [], .null), (28, .aload_n 0, 1, [], .null), (29, .getfield 21, 3, [6, 2, 1], .null), (32, .invokevirtual 124, 3, [174, 2, 0, 0], .null), (35, .aload_n 0, 1, [], .null), (36, .getfield 32, 3, [6, 5, 1], .null), (39, .iload_n 1, 1, [], .null), (40, .iconst 1, 1, [], .int (1)), (41, .bastore, 1, [], .null), (42, .aload_n 0, 1, [], .null), (43, .getfield 21, 3, [6, 2, 1], .null), (46, .getfield 188, 3, [0, 11, 0], .null), (49, .ireturn, 1, [], .null)]
def F_Bp_keep (x1 : Int32) (h : Hp) : Res Hp :=
  bI (F_Bp_noPlace x1 h) fun v2 h1 =>
  if v2 = (0 : Int32) then
  (if (hg h1 3 8) = (0 : Int32) then
  (retI (-4 : Int32) h1)
  else
  (bif okR 61 x1 then
  bif okO (shR 61 x1.toNatClampNeg) 0 then
  bV (F_La_takeFrom (shR 61 x1.toNatClampNeg) 3 h1) fun h3 =>
  bif okA 62 101 x1 then
  bH (hs h3 62 x1.toNatClampNeg (vp_nar .boolean (1 : Int32))) fun h4 =>
  retI (hg h4 3 11) h4
  else none
  else none
  else none))
  else
  (retI (-1 : Int32) h1)
def sF_Bp_keep : List Value → Hp → Res Hp := fun as h => match as with | [.ref f0, .int x1] => (match Nat.beq f0 0 with | true => F_Bp_keep x1 h | false => none) | _ => none
theorem w_Bp_keep (x1 : Int32) (h : Hp) : sF_Bp_keep [.ref 0, .int x1] h = F_Bp_keep x1 h := rfl
def S_Bp_keep : Sem Hp := [(54, sF_Bp_noPlace), (174, sF_La_takeFrom)]
set_option maxRecDepth 100000 in
theorem e_Bp_keep_0 (x1 : Int32) (h : Hp) : F_Bp_keep x1 h = exec1 OI S_Bp_keep 1 k_Bp_keep 0 [some (.ref 0), some (.int x1)] [] h (runF OI S_Bp_keep [] 1 k_Bp_keep 400) :=
  (x_bI (f := sF_Bp_noPlace) rfl (w_Bp_noPlace _ _) fun v2 h1 => (x_ite (x_ite rfl (x_bif (x_bif (x_bV (f := sF_La_takeFrom) rfl (w_La_takeFrom _ _ _) fun h3 => (x_bif (x_bH fun h4 => rfl)))))) rfl))
def k_Bp_on : List Ent := [(0, .iload_n 1, 1, [], .null), (1, .invokestatic 225, 3, [54, 1, 2], .null), (4, .ifCond .eq (5), 3, [9], .null), (7, .iconst (-1), 1, [], .int (-1)), (8, .ireturn, 1, [], .null), (9, .aload_n 0, 1, [], .null), (10, .getfield 32, 3, [6, 5, 1], .null), (13, .iload_n 1, 1, [], .null), (14, .baload, 1, [], .null), (15, .ifCond .ne (9), 3, [24], .null), (18, .aload_n 0, 1, [], .null), (19, .iconst 1, 1, [], .int (1)), (20, .invokevirtual 79, 3, [50, 2, 1, 6], .null), (23, .ireturn, 1, [], .null), (24, .aload_n 0, 1, [], .null), (25, .getfield 21, 3, [6, 2, 1], .null), (28, .aload_n 0, 1, [], .null), (29, .getfield 28, 3, [6, 4, 1], .null), (32, .iload_n 1, 1, [], .null), (33, .aaload, 1, [], .null), (34, .invokevirtual 124, 3, [174, 2, 0, 0], .null), (37, .aload_n 0, 1, [], .null), (38, .getfield 21, 3, [6, 2, 1], .null), (41, .getfield 188, 3, [0, 11, 0], .null), (44, .ireturn, 1, [], .null)]
def F_Bp_on (x1 : Int32) (h : Hp) : Res Hp :=
  bI (F_Bp_noPlace x1 h) fun v2 h1 =>
  if v2 = (0 : Int32) then
  (bif okA 62 101 x1 then
  if (hg h1 62 x1.toNatClampNeg) = (0 : Int32) then
  (bI (F_Bp_found (1 : Int32) h1) fun v5 h4 =>
  retI v5 h4)
  else
  (bif okR 61 x1 then
  bV (F_La_takeFrom 3 (shR 61 x1.toNatClampNeg) h1) fun h3 =>
  retI (hg h3 3 11) h3
  else none)
  else none)
  else
  (retI (-1 : Int32) h1)
def sF_Bp_on : List Value → Hp → Res Hp := fun as h => match as with | [.ref f0, .int x1] => (match Nat.beq f0 0 with | true => F_Bp_on x1 h | false => none) | _ => none
theorem w_Bp_on (x1 : Int32) (h : Hp) : sF_Bp_on [.ref 0, .int x1] h = F_Bp_on x1 h := rfl
def S_Bp_on : Sem Hp := [(54, sF_Bp_noPlace), (174, sF_La_takeFrom), (50, sF_Bp_found)]
set_option maxRecDepth 100000 in
theorem e_Bp_on_0 (x1 : Int32) (h : Hp) : F_Bp_on x1 h = exec1 OI S_Bp_on 1 k_Bp_on 0 [some (.ref 0), some (.int x1)] [] h (runF OI S_Bp_on [] 1 k_Bp_on 400) :=
  (x_bI (f := sF_Bp_noPlace) rfl (w_Bp_noPlace _ _) fun v2 h1 => (x_ite (x_bif (x_ite (x_bI (f := sF_Bp_found) rfl (w_Bp_found _ _) fun v5 h4 => rfl) (x_bif (x_bV (f := sF_La_takeFrom) rfl (w_La_takeFrom _ _ _) fun h3 => rfl)))) rfl))
def k_Wa_carriers : List Ent := [(0, .iconst 0, 1, [], .int (0)), (1, .istore_n 2, 1, [], .null), (2, .iconst 0, 1, [], .int (0)), (3, .istore_n 3, 1, [], .null), (4, .iload_n 3, 1, [], .null), (5, .aload_n 0, 1, [], .null), (6, .getfield 28, 3, [5, 0, 1], .null), (9, .getfield 32, 3, [0, 8, 0], .null), (12, .if_icmp .ge (28), 3, [40], .null), (15, .aload_n 0, 1, [], .null), (16, .getfield 28, 3, [5, 0, 1], .null), (19, .iload_n 3, 1, [], .null), (20, .iload_n 1, 1, [], .null), (21, .invokevirtual 37, 3, [182, 3, 1, 0], .null), (24, .ifCond .ne (10), 3, [34], .null), (27, .iload_n 2, 1, [], .null), (28, .iload_n 3, 1, [], .null), (29, .invokestatic 41, 3, [64, 1, 1], .null), (32, .ior, 1, [], .null), (33, .istore_n 2, 1, [], .null), (34, .iinc 3 (1), 3, [], .int (1)), (37, .goto (-33), 3, [4], .null), (40, .iload_n 2, 1, [], .null), (41, .ireturn, 1, [], .null)]
def Wa_carriers_4    : (Int32 × Int32 × Int32 × Hp) → ((Int32 × Int32 × Int32 × Hp) → Res Hp) → Res Hp := fun s κ4 => match s with
  | (x1, x2, x3, h) =>
  if (hg h 3 8) ≤ x3 then
  (retI x2 h)
  else
  (bI (F_La_bars 3 x3 x1 h) fun v2 h1 =>
  if v2 = (0 : Int32) then
  (bI (F_Bp_bit x3 h1) fun v4 h3 =>
  κ4 (x1, (x2 ||| v4), (x3 + (1 : Int32)), h3))
  else
  (κ4 (x1, x2, (x3 + (1 : Int32)), h1)))
def F_Wa_carriers (x1 : Int32) (h : Hp) : Res Hp :=
  loopC (Wa_carriers_4   ) FU (x1, (0 : Int32), (0 : Int32), h)
def sF_Wa_carriers : List Value → Hp → Res Hp := fun as h => match as with | [.ref f0, .int x1] => (match Nat.beq f0 64 with | true => F_Wa_carriers x1 h | false => none) | _ => none
theorem w_Wa_carriers (x1 : Int32) (h : Hp) : sF_Wa_carriers [.ref 64, .int x1] h = F_Wa_carriers x1 h := rfl
def S_Wa_carriers : Sem Hp := [(182, sF_La_bars), (64, sF_Bp_bit)]
set_option maxRecDepth 100000 in
theorem e_Wa_carriers_0 (x1 : Int32) (h : Hp) : F_Wa_carriers x1 h = exec1 OI S_Wa_carriers 1 k_Wa_carriers 0 [some (.ref 64), some (.int x1), none, none] [] h (runF OI S_Wa_carriers [(4, [0, 1, 2, 3], fun vs st h => match vs, st with | [.ref f0, .int x1, .int x2, .int x3], [] => (match Nat.beq f0 64 with | true => loopC (Wa_carriers_4   ) FU (x1, x2, x3, h) | false => none) | _, _ => none)] 1 k_Wa_carriers 400) :=
  rfl
set_option maxRecDepth 100000 in
theorem e_Wa_carriers_4 (κ4 : (Int32 × Int32 × Int32 × Hp) → Res Hp) (x1 : Int32) (x2 : Int32) (x3 : Int32)  (h : Hp) : Wa_carriers_4    (x1, x2, x3, h) κ4 = exec1 OI S_Wa_carriers 1 k_Wa_carriers 4 [some (.ref 64), some (.int x1), some (.int x2), some (.int x3)] [] h (runF OI S_Wa_carriers [(4, [0, 1, 2, 3], fun vs st h => match vs, st with | [.ref f0, .int x1, .int x2, .int x3], [] => (match Nat.beq f0 64 with | true => κ4 (x1, x2, x3, h) | false => none) | _, _ => none)] 1 k_Wa_carriers 400) :=
  (x_ite rfl (x_bI (f := sF_La_bars) rfl (w_La_bars _ _ _ _) fun v2 h1 => (x_ite (x_bI (f := sF_Bp_bit) rfl (w_Bp_bit _ _) fun v4 h3 => rfl) rfl)))
def k_La_ofKind : List Ent := [(0, .iconst 0, 1, [], .int (0)), (1, .istore_n 2, 1, [], .null), (2, .iconst 0, 1, [], .int (0)), (3, .istore_n 3, 1, [], .null), (4, .iload_n 3, 1, [], .null), (5, .aload_n 0, 1, [], .null), (6, .getfield 41, 3, [0, 8, 0], .null), (9, .if_icmp .ge (29), 3, [38], .null), (12, .aload_n 0, 1, [], .null), (13, .getfield 9, 3, [0, 0, 1], .null), (16, .iload_n 3, 1, [], .null), (17, .iaload, 1, [], .null), (18, .iload_n 1, 1, [], .null), (19, .invokestatic 82, 3, [67, 2, 2], .null), (22, .ifCond .eq (10), 3, [32], .null), (25, .iload_n 2, 1, [], .null), (26, .iload_n 3, 1, [], .null), (27, .invokestatic 72, 3, [64, 1, 1], .null), (30, .ior, 1, [], .null), (31, .istore_n 2, 1, [], .null), (32, .iinc 3 (1), 3, [], .int (1)), (35, .goto (-31), 3, [4], .null), (38, .iload_n 2, 1, [], .null), (39, .ireturn, 1, [], .null)]
def La_ofKind_4    : (Nat × Int32 × Int32 × Int32 × Hp) → ((Nat × Int32 × Int32 × Int32 × Hp) → Res Hp) → Res Hp := fun s κ4 => match s with
  | (o0, x1, x2, x3, h) =>
  bif okF o0 0 8 0 then
  if (hg h o0 8) ≤ x3 then
  (retI x2 h)
  else
  (bif okF o0 0 0 1 then
  bif okA (shR o0 0) 100 x3 then
  bI (F_Bp_isOf (hg h (shR o0 0) x3.toNatClampNeg) x1 h) fun v2 h1 =>
  if v2 = (0 : Int32) then
  (κ4 (o0, x1, x2, (x3 + (1 : Int32)), h1))
  else
  (bI (F_Bp_bit x3 h1) fun v4 h3 =>
  κ4 (o0, x1, (x2 ||| v4), (x3 + (1 : Int32)), h3))
  else none
  else none)
  else none
def F_La_ofKind (o0 : Nat) (x1 : Int32) (h : Hp) : Res Hp :=
  loopC (La_ofKind_4   ) FU (o0, x1, (0 : Int32), (0 : Int32), h)
def sF_La_ofKind : List Value → Hp → Res Hp := fun as h => match as with | [.ref o0, .int x1] => F_La_ofKind o0 x1 h | _ => none
theorem w_La_ofKind (o0 : Nat) (x1 : Int32) (h : Hp) : sF_La_ofKind [.ref o0, .int x1] h = F_La_ofKind o0 x1 h := rfl
def S_La_ofKind : Sem Hp := [(67, sF_Bp_isOf), (64, sF_Bp_bit)]
set_option maxRecDepth 100000 in
theorem e_La_ofKind_0 (o0 : Nat) (x1 : Int32) (h : Hp) : F_La_ofKind o0 x1 h = exec1 OI S_La_ofKind 1 k_La_ofKind 0 [some (.ref o0), some (.int x1), none, none] [] h (runF OI S_La_ofKind [(4, [0, 1, 2, 3], fun vs st h => match vs, st with | [.ref o0, .int x1, .int x2, .int x3], [] => loopC (La_ofKind_4   ) FU (o0, x1, x2, x3, h) | _, _ => none)] 1 k_La_ofKind 400) :=
  rfl
set_option maxRecDepth 100000 in
theorem e_La_ofKind_4 (κ4 : (Nat × Int32 × Int32 × Int32 × Hp) → Res Hp) (o0 : Nat) (x1 : Int32) (x2 : Int32) (x3 : Int32)  (h : Hp) : La_ofKind_4    (o0, x1, x2, x3, h) κ4 = exec1 OI S_La_ofKind 1 k_La_ofKind 4 [some (.ref o0), some (.int x1), some (.int x2), some (.int x3)] [] h (runF OI S_La_ofKind [(4, [0, 1, 2, 3], fun vs st h => match vs, st with | [.ref o0, .int x1, .int x2, .int x3], [] => κ4 (o0, x1, x2, x3, h) | _, _ => none)] 1 k_La_ofKind 400) :=
  (x_bif (x_ite rfl (x_bif (x_bif (x_bI (f := sF_Bp_isOf) rfl (w_Bp_isOf _ _ _) fun v2 h1 => (x_ite rfl (x_bI (f := sF_Bp_bit) rfl (w_Bp_bit _ _) fun v4 h3 => rfl)))))))
def k_Wa_soonest : List Ent := [(0, .aload_n 0, 1, [], .null), (1, .iload_n 3, 1, [], .null), (2, .invokevirtual 58, 3, [233, 2, 1, 5], .null), (5, .iload_n 1, 1, [], .null), (6, .invokestatic 41, 3, [64, 1, 1], .null), (9, .iconst (-1), 1, [], .int (-1)), (10, .ixor, 1, [], .null), (11, .iand, 1, [], .null), (12, .istore 5, 2, [], .null), (14, .iload 5, 2, [], .null), (16, .aload_n 0, 1, [], .null), (17, .getfield 28, 3, [5, 0, 1], .null), (20, .iconst 4, 1, [], .int (4)), (21, .invokevirtual 45, 3, [180, 2, 1, 0], .null), (24, .iconst (-1), 1, [], .int (-1)), (25, .ixor, 1, [], .null), (26, .iand, 1, [], .null), (27, .istore 6, 2, [], .null), (29, .iconst 0, 1, [], .int (0)), (30, .istore 7, 2, [], .null), (32, .iconst 0, 1, [], .int (0)), (33, .istore 8, 2, [], .null), (35, .iload 8, 2, [], .null), (37, .bipush (40), 2, [], .int (40)), (39, .if_icmp .ge (118), 3, [157], .null), (42, .iload 4, 2, [], .null), (44, .iload 8, 2, [], .null), (46, .iadd, 1, [], .null), (47, .bipush (99), 2, [], .int (99)), (49, .if_icmp .gt (108), 3, [157], .null), (52, .aload_n 0, 1, [], .null), (53, .getfield 28, 3, [5, 0, 1], .null), (56, .getfield 61, 3, [0, 5, 1], .null), (59, .iload 4, 2, [], .null), (61, .iload 8, 2, [], .null), (63, .iadd, 1, [], .null), (64, .bipush (8), 2, [], .int (8)), (66, .irem, 1, [], .null), (67, .aaload, 1, [], .null), (68, .astore 9, 2, [], .null), (70, .iconst 0, 1, [], .int (0)), (71, .istore 10, 2, [], .null), (73, .iconst 0, 1, [], .int (0)), (74, .istore 11, 2, [], .null), (76, .iload 11, 2, [], .null), (78, .aload_n 0, 1, [], .null), (79, .getfield 28, 3, [5, 0, 1], .null), (82, .getfield 32, 3, [0, 8, 0], .null), (85, .if_icmp .ge (29), 3, [114], .null), (88, .iload 7, 2, [], .null), (90, .iload 11, 2, [], .null), (92, .invokestatic 54, 3, [65, 2, 2], .null), (95, .ifCond .eq (13), 3, [108], .null), (98, .iload 10, 2, [], .null), (100, .aload 9, 2, [], .null), (102, .iload 11, 2, [], .null), (104, .iaload, 1, [], .null), (105, .ior, 1, [], .null), (106, .istore 10, 2, [], .null), (108, .iinc 11 (1), 3, [], .int (1)), (111, .goto (-35), 3, [76], .null), (114, .iload 10, 2, [], .null), (116, .aload 9, 2, [], .null), (118, .iload_n 1, 1, [], .null), (119, .iaload, 1, [], .null), (120, .ior, 1, [], .null), (121, .iload_n 2, 1, [], .null), (122, .invokestatic 54, 3, [65, 2, 2], .null), (125, .ifCond .eq (8), 3, [133], .null), (128, .iload 8, 2, [], .null), (130, .iconst 1, 1, [], .int (1)), (131, .iadd, 1, [], .null), (132, .ireturn, 1, [], .null), (133, .iload 7, 2, [], .null), (135, .aload 9, 2, [], .null), (137, .iload_n 1, 1, [], .null), (138, .iaload, 1, [], .null), (139, .iload 5, 2, [], .null), (141, .iand, 1, [], .null), (142, .iload 10, 2, [], .null), (144, .iload 6, 2, [], .null), (146, .iand, 1, [], .null), (147, .ior, 1, [], .null), (148, .ior, 1, [], .null), (149, .istore 7, 2, [], .null), (151, .iinc 8 (1), 3, [], .int (1)), (154, .goto (-119), 3, [35], .null), (157, .bipush (-9), 2, [], .int (-9)), (159, .ireturn, 1, [], .null)]
def Wa_soonest_76 (κ35 : (Int32 × Int32 × Int32 × Int32 × Int32 × Int32 × Int32 × Hp) → Res Hp)   : (Int32 × Int32 × Int32 × Int32 × Int32 × Int32 × Int32 × Nat × Int32 × Int32 × Hp) → ((Int32 × Int32 × Int32 × Int32 × Int32 × Int32 × Int32 × Nat × Int32 × Int32 × Hp) → Res Hp) → Res Hp := fun s κ76 => match s with
  | (x1, x2, x4, x5, x6, x7, x8, o9, x10, x11, h) =>
  if (hg h 3 8) ≤ x11 then
  (bif okA o9 100 x1 then
  bI (F_Bp_has (x10 ||| (hg h o9 x1.toNatClampNeg)) x2 h) fun v2 h1 =>
  if v2 = (0 : Int32) then
  (bif okA o9 100 x1 then
  κ35 (x1, x2, x4, x5, x6, (x7 ||| (((hg h1 o9 x1.toNatClampNeg) &&& x5) ||| (x10 &&& x6))), (x8 + (1 : Int32)), h1)
  else none)
  else
  (retI (x8 + (1 : Int32)) h1)
  else none)
  else
  (bI (F_Bp_has x7 x11 h) fun v4 h3 =>
  if v4 = (0 : Int32) then
  (κ76 (x1, x2, x4, x5, x6, x7, x8, o9, x10, (x11 + (1 : Int32)), h3))
  else
  (bif okA o9 100 x11 then
  κ76 (x1, x2, x4, x5, x6, x7, x8, o9, (x10 ||| (hg h3 o9 x11.toNatClampNeg)), (x11 + (1 : Int32)), h3)
  else none))
def Wa_soonest_35    : (Int32 × Int32 × Int32 × Int32 × Int32 × Int32 × Int32 × Hp) → ((Int32 × Int32 × Int32 × Int32 × Int32 × Int32 × Int32 × Hp) → Res Hp) → Res Hp := fun s κ35 => match s with
  | (x1, x2, x4, x5, x6, x7, x8, h) =>
  if (40 : Int32) ≤ x8 then
  (retI (-9 : Int32) h)
  else
  (if (99 : Int32) < (x4 + x8) then
  (retI (-9 : Int32) h)
  else
  (bif okR 9 ((x4 + x8) - (x4 + x8) / (8 : Int32) * (8 : Int32)) then
  loopC (Wa_soonest_76 κ35  ) FU (x1, x2, x4, x5, x6, x7, x8, (shR 9 ((x4 + x8) - (x4 + x8) / (8 : Int32) * (8 : Int32)).toNatClampNeg), (0 : Int32), (0 : Int32), h)
  else none))
def F_Wa_soonest (x1 : Int32) (x2 : Int32) (x3 : Int32) (x4 : Int32) (h : Hp) : Res Hp :=
  bI (F_Wa_carriers x3 h) fun v2 h1 =>
  bI (F_Bp_bit x1 h1) fun v4 h3 =>
  bI (F_La_ofKind 3 (4 : Int32) h3) fun v6 h5 =>
  loopC (Wa_soonest_35   ) FU (x1, x2, x4, (v2 &&& (v4 ^^^ (-1 : Int32))), ((v2 &&& (v4 ^^^ (-1 : Int32))) &&& (v6 ^^^ (-1 : Int32))), (0 : Int32), (0 : Int32), h5)
def sF_Wa_soonest : List Value → Hp → Res Hp := fun as h => match as with | [.ref f0, .int x1, .int x2, .int x3, .int x4] => (match Nat.beq f0 64 with | true => F_Wa_soonest x1 x2 x3 x4 h | false => none) | _ => none
theorem w_Wa_soonest (x1 : Int32) (x2 : Int32) (x3 : Int32) (x4 : Int32) (h : Hp) : sF_Wa_soonest [.ref 64, .int x1, .int x2, .int x3, .int x4] h = F_Wa_soonest x1 x2 x3 x4 h := rfl
def S_Wa_soonest : Sem Hp := [(233, sF_Wa_carriers), (64, sF_Bp_bit), (180, sF_La_ofKind), (65, sF_Bp_has)]
set_option maxRecDepth 100000 in
theorem e_Wa_soonest_0 (x1 : Int32) (x2 : Int32) (x3 : Int32) (x4 : Int32) (h : Hp) : F_Wa_soonest x1 x2 x3 x4 h = exec1 OI S_Wa_soonest 1 k_Wa_soonest 0 [some (.ref 64), some (.int x1), some (.int x2), some (.int x3), some (.int x4), none, none, none, none, none, none, none] [] h (runF OI S_Wa_soonest [(35, [0, 1, 2, 4, 5, 6, 7, 8], fun vs st h => match vs, st with | [.ref f0, .int x1, .int x2, .int x4, .int x5, .int x6, .int x7, .int x8], [] => (match Nat.beq f0 64 with | true => loopC (Wa_soonest_35   ) FU (x1, x2, x4, x5, x6, x7, x8, h) | false => none) | _, _ => none)] 1 k_Wa_soonest 400) :=
  (x_bI (f := sF_Wa_carriers) rfl (w_Wa_carriers _ _) fun v2 h1 => (x_bI (f := sF_Bp_bit) rfl (w_Bp_bit _ _) fun v4 h3 => (x_bI (f := sF_La_ofKind) rfl (w_La_ofKind _ _ _) fun v6 h5 => rfl)))
set_option maxRecDepth 100000 in
theorem e_Wa_soonest_35 (κ35 : (Int32 × Int32 × Int32 × Int32 × Int32 × Int32 × Int32 × Hp) → Res Hp) (x1 : Int32) (x2 : Int32) (x4 : Int32) (x5 : Int32) (x6 : Int32) (x7 : Int32) (x8 : Int32)  (h : Hp) : Wa_soonest_35    (x1, x2, x4, x5, x6, x7, x8, h) κ35 = exec1 OI S_Wa_soonest 1 k_Wa_soonest 35 [some (.ref 64), some (.int x1), some (.int x2), none, some (.int x4), some (.int x5), some (.int x6), some (.int x7), some (.int x8), none, none, none] [] h (runF OI S_Wa_soonest [(76, [0, 1, 2, 4, 5, 6, 7, 8, 9, 10, 11], fun vs st h => match vs, st with | [.ref f0, .int x1, .int x2, .int x4, .int x5, .int x6, .int x7, .int x8, .ref o9, .int x10, .int x11], [] => (match Nat.beq f0 64 with | true => loopC (Wa_soonest_76 κ35  ) FU (x1, x2, x4, x5, x6, x7, x8, o9, x10, x11, h) | false => none) | _, _ => none)] 1 k_Wa_soonest 400) :=
  (x_ite rfl (x_ite rfl (x_bif rfl)))
set_option maxRecDepth 100000 in
theorem e_Wa_soonest_76 (κ35 : (Int32 × Int32 × Int32 × Int32 × Int32 × Int32 × Int32 × Hp) → Res Hp) (κ76 : (Int32 × Int32 × Int32 × Int32 × Int32 × Int32 × Int32 × Nat × Int32 × Int32 × Hp) → Res Hp) (x1 : Int32) (x2 : Int32) (x4 : Int32) (x5 : Int32) (x6 : Int32) (x7 : Int32) (x8 : Int32) (o9 : Nat) (x10 : Int32) (x11 : Int32)  (h : Hp) : Wa_soonest_76 κ35   (x1, x2, x4, x5, x6, x7, x8, o9, x10, x11, h) κ76 = exec1 OI S_Wa_soonest 1 k_Wa_soonest 76 [some (.ref 64), some (.int x1), some (.int x2), none, some (.int x4), some (.int x5), some (.int x6), some (.int x7), some (.int x8), some (.ref o9), some (.int x10), some (.int x11)] [] h (runF OI S_Wa_soonest [(35, [0, 1, 2, 4, 5, 6, 7, 8], fun vs st h => match vs, st with | [.ref f0, .int x1, .int x2, .int x4, .int x5, .int x6, .int x7, .int x8], [] => (match Nat.beq f0 64 with | true => κ35 (x1, x2, x4, x5, x6, x7, x8, h) | false => none) | _, _ => none), (76, [0, 1, 2, 4, 5, 6, 7, 8, 9, 10, 11], fun vs st h => match vs, st with | [.ref f0, .int x1, .int x2, .int x4, .int x5, .int x6, .int x7, .int x8, .ref o9, .int x10, .int x11], [] => (match Nat.beq f0 64 with | true => κ76 (x1, x2, x4, x5, x6, x7, x8, o9, x10, x11, h) | false => none) | _, _ => none)] 1 k_Wa_soonest 400) :=
  (x_ite (x_bif (x_bI (f := sF_Bp_has) rfl (w_Bp_has _ _ _) fun v2 h1 => (x_ite (x_bif rfl) rfl))) (x_bI (f := sF_Bp_has) rfl (w_Bp_has _ _ _) fun v4 h3 => (x_ite rfl (x_bif rfl))))
def k_Bp_soon : List Ent := [(0, .aload_n 0, 1, [], .null), (1, .iload_n 1, 1, [], .null), (2, .iload_n 2, 1, [], .null), (3, .invokevirtual 155, 3, [58, 3, 2, 6], .null), (6, .ifCond .ne (18), 3, [24], .null), (9, .iload_n 3, 1, [], .null), (10, .invokestatic 168, 3, [56, 1, 2], .null), (13, .ifCond .ne (11), 3, [24], .null), (16, .iload 4, 2, [], .null), (18, .invokestatic 174, 3, [57, 1, 2], .null), (21, .ifCond .eq (5), 3, [26], .null), (24, .iconst (-1), 1, [], .int (-1)), (25, .ireturn, 1, [], .null), (26, .aload_n 0, 1, [], .null), (27, .getfield 48, 3, [6, 7, 1], .null), (30, .iload_n 1, 1, [], .null), (31, .iload_n 2, 1, [], .null), (32, .iload_n 3, 1, [], .null), (33, .iload 4, 2, [], .null), (35, .invokevirtual 228, 3, [236, 5, 1, 5], .null), (38, .ireturn, 1, [], .null)]
def F_Bp_soon (x1 : Int32) (x2 : Int32) (x3 : Int32) (x4 : Int32) (h : Hp) : Res Hp :=
  bI (F_Bp_noPair x1 x2 h) fun v2 h1 =>
  if v2 = (0 : Int32) then
  (bI (F_Bp_noTongues x3 h1) fun v4 h3 =>
  if v4 = (0 : Int32) then
  (bI (F_Bp_noHour x4 h3) fun v6 h5 =>
  if v6 = (0 : Int32) then
  (bI (F_Wa_soonest x1 x2 x3 x4 h5) fun v8 h7 =>
  retI v8 h7)
  else
  (retI (-1 : Int32) h5))
  else
  (retI (-1 : Int32) h3))
  else
  (retI (-1 : Int32) h1)
def sF_Bp_soon : List Value → Hp → Res Hp := fun as h => match as with | [.ref f0, .int x1, .int x2, .int x3, .int x4] => (match Nat.beq f0 0 with | true => F_Bp_soon x1 x2 x3 x4 h | false => none) | _ => none
theorem w_Bp_soon (x1 : Int32) (x2 : Int32) (x3 : Int32) (x4 : Int32) (h : Hp) : sF_Bp_soon [.ref 0, .int x1, .int x2, .int x3, .int x4] h = F_Bp_soon x1 x2 x3 x4 h := rfl
def S_Bp_soon : Sem Hp := [(58, sF_Bp_noPair), (56, sF_Bp_noTongues), (57, sF_Bp_noHour), (236, sF_Wa_soonest)]
set_option maxRecDepth 100000 in
theorem e_Bp_soon_0 (x1 : Int32) (x2 : Int32) (x3 : Int32) (x4 : Int32) (h : Hp) : F_Bp_soon x1 x2 x3 x4 h = exec1 OI S_Bp_soon 1 k_Bp_soon 0 [some (.ref 0), some (.int x1), some (.int x2), some (.int x3), some (.int x4)] [] h (runF OI S_Bp_soon [] 1 k_Bp_soon 400) :=
  (x_bI (f := sF_Bp_noPair) rfl (w_Bp_noPair _ _ _) fun v2 h1 => (x_ite (x_bI (f := sF_Bp_noTongues) rfl (w_Bp_noTongues _ _) fun v4 h3 => (x_ite (x_bI (f := sF_Bp_noHour) rfl (w_Bp_noHour _ _) fun v6 h5 => (x_ite (x_bI (f := sF_Wa_soonest) rfl (w_Wa_soonest _ _ _ _ _) fun v8 h7 => rfl) rfl)) rfl)) rfl))
def k_Wa_priceAsTheyAre : List Ent := [(0, .iconst 0, 1, [], .int (0)), (1, .istore_n 2, 1, [], .null), (2, .iload_n 2, 1, [], .null), (3, .aload_n 0, 1, [], .null), (4, .getfield 28, 3, [5, 0, 1], .null), (7, .getfield 32, 3, [0, 8, 0], .null), (10, .if_icmp .ge (32), 3, [42], .null), (13, .aload_n 0, 1, [], .null), (14, .getfield 9, 3, [5, 1, 1], .null), (17, .iload_n 2, 1, [], .null), (18, .aload_n 0, 1, [], .null), (19, .getfield 28, 3, [5, 0, 1], .null), (22, .iload_n 2, 1, [], .null), (23, .iload_n 1, 1, [], .null), (24, .invokevirtual 74, 3, [183, 3, 2, 0], .null), (27, .ifCond .eq (7), 3, [34], .null), (30, .iconst 0, 1, [], .int (0)), (31, .goto (4), 3, [35], .null), (34, .iconst (-1), 1, [], .int (-1)), (35, .iastore, 1, [], .null), (36, .iinc 2 (1), 3, [], .int (1)), (39, .goto (-37), 3, [2], .null), (42, .return_, 1, [], .null)]
def Wa_priceAsTheyAre_2    : (Int32 × Int32 × Hp) → ((Int32 × Int32 × Hp) → Res Hp) → Res Hp := fun s κ2 => match s with
  | (x1, x2, h) =>
  if (hg h 3 8) ≤ x2 then
  (retV h)
  else
  (bI (F_La_carries 3 x2 x1 h) fun v2 h1 =>
  if v2 = (0 : Int32) then
  (bif okA 65 100 x2 then
  bH (hs h1 65 x2.toNatClampNeg (-1 : Int32)) fun h3 =>
  κ2 (x1, (x2 + (1 : Int32)), h3)
  else none)
  else
  (bif okA 65 100 x2 then
  bH (hs h1 65 x2.toNatClampNeg (0 : Int32)) fun h4 =>
  κ2 (x1, (x2 + (1 : Int32)), h4)
  else none))
def F_Wa_priceAsTheyAre (x1 : Int32) (h : Hp) : Res Hp :=
  loopC (Wa_priceAsTheyAre_2   ) FU (x1, (0 : Int32), h)
def sF_Wa_priceAsTheyAre : List Value → Hp → Res Hp := fun as h => match as with | [.ref f0, .int x1] => (match Nat.beq f0 64 with | true => F_Wa_priceAsTheyAre x1 h | false => none) | _ => none
theorem w_Wa_priceAsTheyAre (x1 : Int32) (h : Hp) : sF_Wa_priceAsTheyAre [.ref 64, .int x1] h = F_Wa_priceAsTheyAre x1 h := rfl
def S_Wa_priceAsTheyAre : Sem Hp := [(183, sF_La_carries)]
set_option maxRecDepth 100000 in
theorem e_Wa_priceAsTheyAre_0 (x1 : Int32) (h : Hp) : F_Wa_priceAsTheyAre x1 h = exec1 OI S_Wa_priceAsTheyAre 0 k_Wa_priceAsTheyAre 0 [some (.ref 64), some (.int x1), none] [] h (runF OI S_Wa_priceAsTheyAre [(2, [0, 1, 2], fun vs st h => match vs, st with | [.ref f0, .int x1, .int x2], [] => (match Nat.beq f0 64 with | true => loopC (Wa_priceAsTheyAre_2   ) FU (x1, x2, h) | false => none) | _, _ => none)] 0 k_Wa_priceAsTheyAre 400) :=
  rfl
set_option maxRecDepth 100000 in
theorem e_Wa_priceAsTheyAre_2 (κ2 : (Int32 × Int32 × Hp) → Res Hp) (x1 : Int32) (x2 : Int32)  (h : Hp) : Wa_priceAsTheyAre_2    (x1, x2, h) κ2 = exec1 OI S_Wa_priceAsTheyAre 0 k_Wa_priceAsTheyAre 2 [some (.ref 64), some (.int x1), some (.int x2)] [] h (runF OI S_Wa_priceAsTheyAre [(2, [0, 1, 2], fun vs st h => match vs, st with | [.ref f0, .int x1, .int x2], [] => (match Nat.beq f0 64 with | true => κ2 (x1, x2, h) | false => none) | _, _ => none)] 0 k_Wa_priceAsTheyAre 400) :=
  (x_ite rfl (x_bI (f := sF_La_carries) rfl (w_La_carries _ _ _ _) fun v2 h1 => (x_ite (x_bif (x_bH fun h3 => rfl)) (x_bif (x_bH fun h4 => rfl)))))
def k_Wa_leadsOn : List Ent := [(0, .aload_n 0, 1, [], .null), (1, .getfield 9, 3, [5, 1, 1], .null), (4, .iload_n 2, 1, [], .null), (5, .iaload, 1, [], .null), (6, .iconst (-1), 1, [], .int (-1)), (7, .if_icmp .eq (23), 3, [30], .null), (10, .iload_n 1, 1, [], .null), (11, .iload_n 3, 1, [], .null), (12, .if_icmp .eq (14), 3, [26], .null), (15, .aload_n 0, 1, [], .null), (16, .getfield 18, 3, [5, 3, 0], .null), (19, .iload_n 2, 1, [], .null), (20, .invokestatic 54, 3, [65, 2, 2], .null), (23, .ifCond .ne (7), 3, [30], .null), (26, .iconst 1, 1, [], .int (1)), (27, .goto (4), 3, [31], .null), (30, .iconst 0, 1, [], .int (0)), (31, .istore 4, 2, [], .null), (33, .iload_n 2, 1, [], .null), (34, .iload_n 3, 1, [], .null), (35, .if_icmp .eq (28), 3, [63], .null), (38, .iload 4, 2, [], .null), (40, .ifCond .eq (23), 3, [63], .null), (43, .aload_n 0, 1, [], .null), (44, .getfield 28, 3, [5, 0, 1], .null), (47, .getfield 48, 3, [0, 6, 1], .null), (50, .iload_n 1, 1, [], .null), (51, .iaload, 1, [], .null), (52, .iload_n 2, 1, [], .null), (53, .invokestatic 54, 3, [65, 2, 2], .null), (56, .ifCond .eq (7), 3, [63], .null), (59, .iconst 1, 1, [], .int (1)), (60, .goto (4), 3, [64], .null), (63, .iconst 0, 1, [], .int (0)), (64, .ireturn, 1, [], .null)]
def F_Wa_leadsOn (x1 : Int32) (x2 : Int32) (x3 : Int32) (h : Hp) : Res Hp :=
  bif okA 65 100 x2 then
  if (hg h 65 x2.toNatClampNeg) = (-1 : Int32) then
  (if x2 = x3 then
  (retZ (0 : Int32) h)
  else
  (retZ (0 : Int32) h))
  else
  (if x1 = x3 then
  (if x2 = x3 then
  (retZ (0 : Int32) h)
  else
  (bif okA 18 100 x1 then
  bI (F_Bp_has (hg h 18 x1.toNatClampNeg) x2 h) fun v2 h1 =>
  if v2 = (0 : Int32) then
  (retZ (0 : Int32) h1)
  else
  (retZ (1 : Int32) h1)
  else none))
  else
  (bI (F_Bp_has (hg h 64 3) x2 h) fun v4 h3 =>
  if v4 = (0 : Int32) then
  (if x2 = x3 then
  (retZ (0 : Int32) h3)
  else
  (bif okA 18 100 x1 then
  bI (F_Bp_has (hg h3 18 x1.toNatClampNeg) x2 h3) fun v6 h5 =>
  if v6 = (0 : Int32) then
  (retZ (0 : Int32) h5)
  else
  (retZ (1 : Int32) h5)
  else none))
  else
  (if x2 = x3 then
  (retZ (0 : Int32) h3)
  else
  (retZ (0 : Int32) h3))))
  else none
def sF_Wa_leadsOn : List Value → Hp → Res Hp := fun as h => match as with | [.ref f0, .int x1, .int x2, .int x3] => (match Nat.beq f0 64 with | true => F_Wa_leadsOn x1 x2 x3 h | false => none) | _ => none
theorem w_Wa_leadsOn (x1 : Int32) (x2 : Int32) (x3 : Int32) (h : Hp) : sF_Wa_leadsOn [.ref 64, .int x1, .int x2, .int x3] h = F_Wa_leadsOn x1 x2 x3 h := rfl
def S_Wa_leadsOn : Sem Hp := [(65, sF_Bp_has)]
set_option maxRecDepth 100000 in
theorem e_Wa_leadsOn_0 (x1 : Int32) (x2 : Int32) (x3 : Int32) (h : Hp) : F_Wa_leadsOn x1 x2 x3 h = exec1 OI S_Wa_leadsOn 2 k_Wa_leadsOn 0 [some (.ref 64), some (.int x1), some (.int x2), some (.int x3), none] [] h (runF OI S_Wa_leadsOn [] 2 k_Wa_leadsOn 400) :=
  (x_bif (x_ite (x_ite rfl rfl) (x_ite (x_ite rfl (x_bif (x_bI (f := sF_Bp_has) rfl (w_Bp_has _ _ _) fun v2 h1 => (x_ite rfl rfl)))) (x_bI (f := sF_Bp_has) rfl (w_Bp_has _ _ _) fun v4 h3 => (x_ite (x_ite rfl (x_bif (x_bI (f := sF_Bp_has) rfl (w_Bp_has _ _ _) fun v6 h5 => (x_ite rfl rfl)))) (x_ite rfl rfl))))))
def k_Wa_weightBy : List Ent := [(0, .aload_n 0, 1, [], .null), (1, .getfield 9, 3, [5, 1, 1], .null), (4, .iload_n 1, 1, [], .null), (5, .iaload, 1, [], .null), (6, .bipush (16), 2, [], .int (16)), (8, .imul, 1, [], .null), (9, .iconst 1, 1, [], .int (1)), (10, .iadd, 1, [], .null), (11, .aload_n 0, 1, [], .null), (12, .getfield 15, 3, [5, 2, 1], .null), (15, .iload_n 1, 1, [], .null), (16, .iaload, 1, [], .null), (17, .iadd, 1, [], .null), (18, .ireturn, 1, [], .null)]
def F_Wa_weightBy (x1 : Int32) (h : Hp) : Res Hp :=
  bif okA 65 100 x1 then
  bif okA 66 100 x1 then
  retI ((((hg h 65 x1.toNatClampNeg) * (16 : Int32)) + (1 : Int32)) + (hg h 66 x1.toNatClampNeg)) h
  else none
  else none
def sF_Wa_weightBy : List Value → Hp → Res Hp := fun as h => match as with | [.ref f0, .int x1] => (match Nat.beq f0 64 with | true => F_Wa_weightBy x1 h | false => none) | _ => none
theorem w_Wa_weightBy (x1 : Int32) (h : Hp) : sF_Wa_weightBy [.ref 64, .int x1] h = F_Wa_weightBy x1 h := rfl
def S_Wa_weightBy : Sem Hp := []
set_option maxRecDepth 100000 in
theorem e_Wa_weightBy_0 (x1 : Int32) (h : Hp) : F_Wa_weightBy x1 h = exec1 OI S_Wa_weightBy 1 k_Wa_weightBy 0 [some (.ref 64), some (.int x1)] [] h (runF OI S_Wa_weightBy [] 1 k_Wa_weightBy 400) :=
  (x_bif (x_bif rfl))
def k_Wa_weighAhead : List Ent := [(0, .iconst 0, 1, [], .int (0)), (1, .istore_n 3, 1, [], .null), (2, .iload_n 3, 1, [], .null), (3, .aload_n 0, 1, [], .null), (4, .getfield 28, 3, [5, 0, 1], .null), (7, .getfield 32, 3, [0, 8, 0], .null), (10, .if_icmp .ge (37), 3, [47], .null), (13, .aload_n 0, 1, [], .null), (14, .getfield 15, 3, [5, 2, 1], .null), (17, .iload_n 3, 1, [], .null), (18, .aload_n 0, 1, [], .null), (19, .getfield 28, 3, [5, 0, 1], .null), (22, .getfield 48, 3, [0, 6, 1], .null), (25, .iload_n 3, 1, [], .null), (26, .iaload, 1, [], .null), (27, .iload_n 2, 1, [], .null), (28, .invokestatic 54, 3, [65, 2, 2], .null), (31, .ifCond .eq (7), 3, [38], .null), (34, .iconst 0, 1, [], .int (0)), (35, .goto (5), 3, [40], .null), (38, .ldc 81, 2, [], .int (1000000)), (40, .iastore, 1, [], .null), (41, .iinc 3 (1), 3, [], .int (1)), (44, .goto (-42), 3, [2], .null), (47, .iconst 0, 1, [], .int (0)), (48, .istore_n 3, 1, [], .null), (49, .iload_n 3, 1, [], .null), (50, .bipush (7), 2, [], .int (7)), (52, .if_icmp .ge (92), 3, [144], .null), (55, .iconst 0, 1, [], .int (0)), (56, .istore 4, 2, [], .null), (58, .iload 4, 2, [], .null), (60, .aload_n 0, 1, [], .null), (61, .getfield 28, 3, [5, 0, 1], .null), (64, .getfield 32, 3, [0, 8, 0], .null), (67, .if_icmp .ge (71), 3, [138], .null), (70, .iconst 0, 1, [], .int (0)), (71, .istore 5, 2, [], .null), (73, .iload 5, 2, [], .null), (75, .aload_n 0, 1, [], .null), (76, .getfield 28, 3, [5, 0, 1], .null), (79, .getfield 32, 3, [0, 8, 0], .null), (82, .if_icmp .ge (50), 3, [132], .null), (85, .iload 5, 2, [], .null), (87, .iload_n 2, 1, [], .null), (88, .if_icmp .eq (38), 3, [126], .null), (91, .aload_n 0, 1, [], .null), (92, .iload 4, 2, [], .null), (94, .iload 5, 2, [], .null), (96, .iload_n 1, 1, [], .null), (97, .invokevirtual 86, 3, [243, 4, 2, 5], .null), (100, .ifCond .eq (26), 3, [126], .null), (103, .aload_n 0, 1, [], .null), (104, .getfield 15, 3, [5, 2, 1], .null), (107, .iload 4, 2, [], .null), (109, .aload_n 0, 1, [], .null), (110, .getfield 15, 3, [5, 2, 1], .null), (113, .iload 4, 2, [], .null), (115, .iaload, 1, [], .null), (116, .aload_n 0, 1, [], .null), (117, .iload 5, 2, [], .null), (119, .invokevirtual 89, 3, [244, 2, 1, 5], .null), (122, .invokestatic 92, 3, [1], .null), (125, .iastore, 1, [], .null), (126, .iinc 5 (1), 3, [], .int (1)), (129, .goto (-56), 3, [73], .null), (132, .iinc 4 (1), 3, [], .int (1)), (135, .goto (-77), 3, [58], .null), (138, .iinc 3 (1), 3, [], .int (1)), (141, .goto (-92), 3, [49], .null), (144, .return_, 1, [], .null)]
def Wa_weighAhead_73 (κ49 : (Int32 × Int32 × Int32 × Hp) → Res Hp) (κ58 : (Int32 × Int32 × Int32 × Int32 × Hp) → Res Hp)   : (Int32 × Int32 × Int32 × Int32 × Int32 × Hp) → ((Int32 × Int32 × Int32 × Int32 × Int32 × Hp) → Res Hp) → Res Hp := fun s κ73 => match s with
  | (x1, x2, x3, x4, x5, h) =>
  if (hg h 3 8) ≤ x5 then
  (κ58 (x1, x2, x3, (x4 + (1 : Int32)), h))
  else
  (if x5 = x2 then
  (κ73 (x1, x2, x3, x4, (x5 + (1 : Int32)), h))
  else
  (bI (F_Wa_leadsOn x4 x5 x1 h) fun v2 h1 =>
  if v2 = (0 : Int32) then
  (κ73 (x1, x2, x3, x4, (x5 + (1 : Int32)), h1))
  else
  (bif okA 66 100 x4 then
  bI (F_Wa_weightBy x5 h1) fun v4 h3 =>
  bif okA 66 100 x4 then
  bH (hs h3 66 x4.toNatClampNeg (if v4 < (hg h1 66 x4.toNatClampNeg) then v4 else (hg h1 66 x4.toNatClampNeg))) fun h5 =>
  κ73 (x1, x2, x3, x4, (x5 + (1 : Int32)), h5)
  else none
  else none)))
def Wa_weighAhead_58 (κ49 : (Int32 × Int32 × Int32 × Hp) → Res Hp)   : (Int32 × Int32 × Int32 × Int32 × Hp) → ((Int32 × Int32 × Int32 × Int32 × Hp) → Res Hp) → Res Hp := fun s κ58 => match s with
  | (x1, x2, x3, x4, h) =>
  if (hg h 3 8) ≤ x4 then
  (κ49 (x1, x2, (x3 + (1 : Int32)), h))
  else
  (loopC (Wa_weighAhead_73 κ49 κ58  ) FU (x1, x2, x3, x4, (0 : Int32), h))
def Wa_weighAhead_49    : (Int32 × Int32 × Int32 × Hp) → ((Int32 × Int32 × Int32 × Hp) → Res Hp) → Res Hp := fun s κ49 => match s with
  | (x1, x2, x3, h) =>
  if (7 : Int32) ≤ x3 then
  (retV h)
  else
  (loopC (Wa_weighAhead_58 κ49  ) FU (x1, x2, x3, (0 : Int32), h))
def Wa_weighAhead_2    : (Int32 × Int32 × Int32 × Hp) → ((Int32 × Int32 × Int32 × Hp) → Res Hp) → Res Hp := fun s κ2 => match s with
  | (x1, x2, x3, h) =>
  if (hg h 3 8) ≤ x3 then
  (loopC (Wa_weighAhead_49   ) FU (x1, x2, (0 : Int32), h))
  else
  (bif okA 18 100 x3 then
  bI (F_Bp_has (hg h 18 x3.toNatClampNeg) x2 h) fun v2 h1 =>
  if v2 = (0 : Int32) then
  (bif okA 66 100 x3 then
  bH (hs h1 66 x3.toNatClampNeg (1000000 : Int32)) fun h3 =>
  κ2 (x1, x2, (x3 + (1 : Int32)), h3)
  else none)
  else
  (bif okA 66 100 x3 then
  bH (hs h1 66 x3.toNatClampNeg (0 : Int32)) fun h4 =>
  κ2 (x1, x2, (x3 + (1 : Int32)), h4)
  else none)
  else none)
def F_Wa_weighAhead (x1 : Int32) (x2 : Int32) (h : Hp) : Res Hp :=
  loopC (Wa_weighAhead_2   ) FU (x1, x2, (0 : Int32), h)
def sF_Wa_weighAhead : List Value → Hp → Res Hp := fun as h => match as with | [.ref f0, .int x1, .int x2] => (match Nat.beq f0 64 with | true => F_Wa_weighAhead x1 x2 h | false => none) | _ => none
theorem w_Wa_weighAhead (x1 : Int32) (x2 : Int32) (h : Hp) : sF_Wa_weighAhead [.ref 64, .int x1, .int x2] h = F_Wa_weighAhead x1 x2 h := rfl
def S_Wa_weighAhead : Sem Hp := [(243, sF_Wa_leadsOn), (244, sF_Wa_weightBy), (65, sF_Bp_has)]
set_option maxRecDepth 100000 in
theorem e_Wa_weighAhead_0 (x1 : Int32) (x2 : Int32) (h : Hp) : F_Wa_weighAhead x1 x2 h = exec1 OI S_Wa_weighAhead 0 k_Wa_weighAhead 0 [some (.ref 64), some (.int x1), some (.int x2), none, none, none] [] h (runF OI S_Wa_weighAhead [(2, [0, 1, 2, 3], fun vs st h => match vs, st with | [.ref f0, .int x1, .int x2, .int x3], [] => (match Nat.beq f0 64 with | true => loopC (Wa_weighAhead_2   ) FU (x1, x2, x3, h) | false => none) | _, _ => none)] 0 k_Wa_weighAhead 400) :=
  rfl
set_option maxRecDepth 100000 in
theorem e_Wa_weighAhead_2 (κ2 : (Int32 × Int32 × Int32 × Hp) → Res Hp) (x1 : Int32) (x2 : Int32) (x3 : Int32)  (h : Hp) : Wa_weighAhead_2    (x1, x2, x3, h) κ2 = exec1 OI S_Wa_weighAhead 0 k_Wa_weighAhead 2 [some (.ref 64), some (.int x1), some (.int x2), some (.int x3), none, none] [] h (runF OI S_Wa_weighAhead [(49, [0, 1, 2, 3], fun vs st h => match vs, st with | [.ref f0, .int x1, .int x2, .int x3], [] => (match Nat.beq f0 64 with | true => loopC (Wa_weighAhead_49   ) FU (x1, x2, x3, h) | false => none) | _, _ => none), (2, [0, 1, 2, 3], fun vs st h => match vs, st with | [.ref f0, .int x1, .int x2, .int x3], [] => (match Nat.beq f0 64 with | true => κ2 (x1, x2, x3, h) | false => none) | _, _ => none)] 0 k_Wa_weighAhead 400) :=
  (x_ite rfl (x_bif (x_bI (f := sF_Bp_has) rfl (w_Bp_has _ _ _) fun v2 h1 => (x_ite (x_bif (x_bH fun h3 => rfl)) (x_bif (x_bH fun h4 => rfl))))))
set_option maxRecDepth 100000 in
theorem e_Wa_weighAhead_49 (κ49 : (Int32 × Int32 × Int32 × Hp) → Res Hp) (x1 : Int32) (x2 : Int32) (x3 : Int32)  (h : Hp) : Wa_weighAhead_49    (x1, x2, x3, h) κ49 = exec1 OI S_Wa_weighAhead 0 k_Wa_weighAhead 49 [some (.ref 64), some (.int x1), some (.int x2), some (.int x3), none, none] [] h (runF OI S_Wa_weighAhead [(58, [0, 1, 2, 3, 4], fun vs st h => match vs, st with | [.ref f0, .int x1, .int x2, .int x3, .int x4], [] => (match Nat.beq f0 64 with | true => loopC (Wa_weighAhead_58 κ49  ) FU (x1, x2, x3, x4, h) | false => none) | _, _ => none)] 0 k_Wa_weighAhead 400) :=
  (x_ite rfl rfl)
set_option maxRecDepth 100000 in
theorem e_Wa_weighAhead_58 (κ49 : (Int32 × Int32 × Int32 × Hp) → Res Hp) (κ58 : (Int32 × Int32 × Int32 × Int32 × Hp) → Res Hp) (x1 : Int32) (x2 : Int32) (x3 : Int32) (x4 : Int32)  (h : Hp) : Wa_weighAhead_58 κ49   (x1, x2, x3, x4, h) κ58 = exec1 OI S_Wa_weighAhead 0 k_Wa_weighAhead 58 [some (.ref 64), some (.int x1), some (.int x2), some (.int x3), some (.int x4), none] [] h (runF OI S_Wa_weighAhead [(49, [0, 1, 2, 3], fun vs st h => match vs, st with | [.ref f0, .int x1, .int x2, .int x3], [] => (match Nat.beq f0 64 with | true => κ49 (x1, x2, x3, h) | false => none) | _, _ => none), (73, [0, 1, 2, 3, 4, 5], fun vs st h => match vs, st with | [.ref f0, .int x1, .int x2, .int x3, .int x4, .int x5], [] => (match Nat.beq f0 64 with | true => loopC (Wa_weighAhead_73 κ49 κ58  ) FU (x1, x2, x3, x4, x5, h) | false => none) | _, _ => none)] 0 k_Wa_weighAhead 400) :=
  (x_ite rfl rfl)
set_option maxRecDepth 100000 in
theorem e_Wa_weighAhead_73 (κ49 : (Int32 × Int32 × Int32 × Hp) → Res Hp) (κ58 : (Int32 × Int32 × Int32 × Int32 × Hp) → Res Hp) (κ73 : (Int32 × Int32 × Int32 × Int32 × Int32 × Hp) → Res Hp) (x1 : Int32) (x2 : Int32) (x3 : Int32) (x4 : Int32) (x5 : Int32)  (h : Hp) : Wa_weighAhead_73 κ49 κ58   (x1, x2, x3, x4, x5, h) κ73 = exec1 OI S_Wa_weighAhead 0 k_Wa_weighAhead 73 [some (.ref 64), some (.int x1), some (.int x2), some (.int x3), some (.int x4), some (.int x5)] [] h (runF OI S_Wa_weighAhead [(58, [0, 1, 2, 3, 4], fun vs st h => match vs, st with | [.ref f0, .int x1, .int x2, .int x3, .int x4], [] => (match Nat.beq f0 64 with | true => κ58 (x1, x2, x3, x4, h) | false => none) | _, _ => none), (73, [0, 1, 2, 3, 4, 5], fun vs st h => match vs, st with | [.ref f0, .int x1, .int x2, .int x3, .int x4, .int x5], [] => (match Nat.beq f0 64 with | true => κ73 (x1, x2, x3, x4, x5, h) | false => none) | _, _ => none)] 0 k_Wa_weighAhead 400) :=
  (x_ite rfl (x_ite rfl (x_bI (f := sF_Wa_leadsOn) rfl (w_Wa_leadsOn _ _ _ _) fun v2 h1 => (x_ite rfl (x_bif (x_bI (f := sF_Wa_weightBy) rfl (w_Wa_weightBy _ _) fun v4 h3 => (x_bif (x_bH fun h5 => rfl))))))))
def k_Wa_nextOn : List Ent := [(0, .iconst 0, 1, [], .int (0)), (1, .istore 4, 2, [], .null), (3, .iload 4, 2, [], .null), (5, .aload_n 0, 1, [], .null), (6, .getfield 28, 3, [5, 0, 1], .null), (9, .getfield 32, 3, [0, 8, 0], .null), (12, .if_icmp .ge (44), 3, [56], .null), (15, .iload 4, 2, [], .null), (17, .iload_n 3, 1, [], .null), (18, .if_icmp .eq (32), 3, [50], .null), (21, .aload_n 0, 1, [], .null), (22, .iload_n 1, 1, [], .null), (23, .iload 4, 2, [], .null), (25, .iload_n 2, 1, [], .null), (26, .invokevirtual 86, 3, [243, 4, 2, 5], .null), (29, .ifCond .eq (21), 3, [50], .null), (32, .aload_n 0, 1, [], .null), (33, .iload 4, 2, [], .null), (35, .invokevirtual 89, 3, [244, 2, 1, 5], .null), (38, .aload_n 0, 1, [], .null), (39, .getfield 15, 3, [5, 2, 1], .null), (42, .iload_n 1, 1, [], .null), (43, .iaload, 1, [], .null), (44, .if_icmp .ne (6), 3, [50], .null), (47, .iload 4, 2, [], .null), (49, .ireturn, 1, [], .null), (50, .iinc 4 (1), 3, [], .int (1)), (53, .goto (-50), 3, [3], .null), (56, .iload_n 3, 1, [], .null), (57, .ireturn, 1, [], .null)]
def Wa_nextOn_3    : (Int32 × Int32 × Int32 × Int32 × Hp) → ((Int32 × Int32 × Int32 × Int32 × Hp) → Res Hp) → Res Hp := fun s κ3 => match s with
  | (x1, x2, x3, x4, h) =>
  if (hg h 3 8) ≤ x4 then
  (retI x3 h)
  else
  (if x4 = x3 then
  (κ3 (x1, x2, x3, (x4 + (1 : Int32)), h))
  else
  (bI (F_Wa_leadsOn x1 x4 x2 h) fun v2 h1 =>
  if v2 = (0 : Int32) then
  (κ3 (x1, x2, x3, (x4 + (1 : Int32)), h1))
  else
  (bI (F_Wa_weightBy x4 h1) fun v4 h3 =>
  bif okA 66 100 x1 then
  if v4 = (hg h3 66 x1.toNatClampNeg) then
  (retI x4 h3)
  else
  (κ3 (x1, x2, x3, (x4 + (1 : Int32)), h3))
  else none)))
def F_Wa_nextOn (x1 : Int32) (x2 : Int32) (x3 : Int32) (h : Hp) : Res Hp :=
  loopC (Wa_nextOn_3   ) FU (x1, x2, x3, (0 : Int32), h)
def sF_Wa_nextOn : List Value → Hp → Res Hp := fun as h => match as with | [.ref f0, .int x1, .int x2, .int x3] => (match Nat.beq f0 64 with | true => F_Wa_nextOn x1 x2 x3 h | false => none) | _ => none
theorem w_Wa_nextOn (x1 : Int32) (x2 : Int32) (x3 : Int32) (h : Hp) : sF_Wa_nextOn [.ref 64, .int x1, .int x2, .int x3] h = F_Wa_nextOn x1 x2 x3 h := rfl
def S_Wa_nextOn : Sem Hp := [(243, sF_Wa_leadsOn), (244, sF_Wa_weightBy)]
set_option maxRecDepth 100000 in
theorem e_Wa_nextOn_0 (x1 : Int32) (x2 : Int32) (x3 : Int32) (h : Hp) : F_Wa_nextOn x1 x2 x3 h = exec1 OI S_Wa_nextOn 1 k_Wa_nextOn 0 [some (.ref 64), some (.int x1), some (.int x2), some (.int x3), none] [] h (runF OI S_Wa_nextOn [(3, [0, 1, 2, 3, 4], fun vs st h => match vs, st with | [.ref f0, .int x1, .int x2, .int x3, .int x4], [] => (match Nat.beq f0 64 with | true => loopC (Wa_nextOn_3   ) FU (x1, x2, x3, x4, h) | false => none) | _, _ => none)] 1 k_Wa_nextOn 400) :=
  rfl
set_option maxRecDepth 100000 in
theorem e_Wa_nextOn_3 (κ3 : (Int32 × Int32 × Int32 × Int32 × Hp) → Res Hp) (x1 : Int32) (x2 : Int32) (x3 : Int32) (x4 : Int32)  (h : Hp) : Wa_nextOn_3    (x1, x2, x3, x4, h) κ3 = exec1 OI S_Wa_nextOn 1 k_Wa_nextOn 3 [some (.ref 64), some (.int x1), some (.int x2), some (.int x3), some (.int x4)] [] h (runF OI S_Wa_nextOn [(3, [0, 1, 2, 3, 4], fun vs st h => match vs, st with | [.ref f0, .int x1, .int x2, .int x3, .int x4], [] => (match Nat.beq f0 64 with | true => κ3 (x1, x2, x3, x4, h) | false => none) | _, _ => none)] 1 k_Wa_nextOn 400) :=
  (x_ite rfl (x_ite rfl (x_bI (f := sF_Wa_leadsOn) rfl (w_Wa_leadsOn _ _ _ _) fun v2 h1 => (x_ite rfl (x_bI (f := sF_Wa_weightBy) rfl (w_Wa_weightBy _ _) fun v4 h3 => (x_bif (x_ite rfl rfl)))))))
def k_Wa_find : List Ent := [(0, .aload_n 0, 1, [], .null), (1, .aload_n 0, 1, [], .null), (2, .getfield 28, 3, [5, 0, 1], .null), (5, .iconst 4, 1, [], .int (4)), (6, .invokevirtual 45, 3, [180, 2, 1, 0], .null), (9, .putfield 18, 3, [5, 3, 0], .null), (12, .aload_n 0, 1, [], .null), (13, .iload_n 1, 1, [], .null), (14, .iload_n 2, 1, [], .null), (15, .invokevirtual 77, 3, [242, 3, 0, 5], .null), (18, .aload_n 0, 1, [], .null), (19, .getfield 15, 3, [5, 2, 1], .null), (22, .iload_n 1, 1, [], .null), (23, .iaload, 1, [], .null), (24, .ldc 81, 2, [], .int (1000000)), (26, .if_icmp .lt (5), 3, [31], .null), (29, .iconst 0, 1, [], .int (0)), (30, .ireturn, 1, [], .null), (31, .aload_n 0, 1, [], .null), (32, .getfield 22, 3, [5, 4, 1], .null), (35, .iconst 0, 1, [], .int (0)), (36, .iload_n 1, 1, [], .null), (37, .iastore, 1, [], .null), (38, .aload_n 0, 1, [], .null), (39, .iconst 1, 1, [], .int (1)), (40, .putfield 25, 3, [5, 5, 0], .null), (43, .iconst 1, 1, [], .int (1)), (44, .istore_n 3, 1, [], .null), (45, .iload_n 3, 1, [], .null), (46, .bipush (7), 2, [], .int (7)), (48, .if_icmp .ge (60), 3, [108], .null), (51, .aload_n 0, 1, [], .null), (52, .getfield 22, 3, [5, 4, 1], .null), (55, .aload_n 0, 1, [], .null), (56, .getfield 25, 3, [5, 5, 0], .null), (59, .iconst 1, 1, [], .int (1)), (60, .isub, 1, [], .null), (61, .iaload, 1, [], .null), (62, .iload_n 2, 1, [], .null), (63, .if_icmp .eq (45), 3, [108], .null), (66, .aload_n 0, 1, [], .null), (67, .getfield 22, 3, [5, 4, 1], .null), (70, .aload_n 0, 1, [], .null), (71, .getfield 25, 3, [5, 5, 0], .null), (74, .aload_n 0, 1, [], .null), (75, .aload_n 0, 1, [], .null), (76, .getfield 22, 3, [5, 4, 1], .null), (79, .aload_n 0, 1, [], .null), (80, .getfield 25, 3, [5, 5, 0], .null), (83, .iconst 1, 1, [], .int (1)), (84, .isub, 1, [], .null), (85, .iaload, 1, [], .null), (86, .iload_n 1, 1, [], .null), (87, .iload_n 2, 1, [], .null), (88, .invokevirtual 82, 3, [245, 4, 1, 5], .null), (91, .iastore, 1, [], .null), (92, .aload_n 0, 1, [], .null), (93, .dup, 1, [], .null), (94, .getfield 25, 3, [5, 5, 0], .null), (97, .iconst 1, 1, [], .int (1)), (98, .iadd, 1, [], .null), (99, .putfield 25, 3, [5, 5, 0], .null), (102, .iinc 3 (1), 3, [], .int (1)), (105, .goto (-60), 3, [45], .null), (108, .iconst 1, 1, [], .int (1)), (109, .ireturn, 1, [], .null)]
def Wa_find_45    : (Int32 × Int32 × Int32 × Hp) → ((Int32 × Int32 × Int32 × Hp) → Res Hp) → Res Hp := fun s κ45 => match s with
  | (x1, x2, x3, h) =>
  if (7 : Int32) ≤ x3 then
  (retZ (1 : Int32) h)
  else
  (bif okA 67 100 ((hg h 64 5) - (1 : Int32)) then
  if (hg h 67 ((hg h 64 5) - (1 : Int32)).toNatClampNeg) = x2 then
  (retZ (1 : Int32) h)
  else
  (bif okA 67 100 ((hg h 64 5) - (1 : Int32)) then
  bI (F_Wa_nextOn (hg h 67 ((hg h 64 5) - (1 : Int32)).toNatClampNeg) x1 x2 h) fun v2 h1 =>
  bif okA 67 100 (hg h 64 5) then
  bH (hs h1 67 (hg h 64 5).toNatClampNeg v2) fun h3 =>
  bH (hs h3 64 5 ((hg h3 64 5) + (1 : Int32))) fun h4 =>
  κ45 (x1, x2, (x3 + (1 : Int32)), h4)
  else none
  else none)
  else none)
def F_Wa_find (x1 : Int32) (x2 : Int32) (h : Hp) : Res Hp :=
  bI (F_La_ofKind 3 (4 : Int32) h) fun v2 h1 =>
  bH (hs h1 64 3 v2) fun h3 =>
  bV (F_Wa_weighAhead x1 x2 h3) fun h4 =>
  bif okA 66 100 x1 then
  if (hg h4 66 x1.toNatClampNeg) < (1000000 : Int32) then
  (bH (hs h4 67 0 x1) fun h5 =>
  bH (hs h5 64 5 (1 : Int32)) fun h6 =>
  loopC (Wa_find_45   ) FU (x1, x2, (1 : Int32), h6))
  else
  (retZ (0 : Int32) h4)
  else none
def sF_Wa_find : List Value → Hp → Res Hp := fun as h => match as with | [.ref f0, .int x1, .int x2] => (match Nat.beq f0 64 with | true => F_Wa_find x1 x2 h | false => none) | _ => none
theorem w_Wa_find (x1 : Int32) (x2 : Int32) (h : Hp) : sF_Wa_find [.ref 64, .int x1, .int x2] h = F_Wa_find x1 x2 h := rfl
def S_Wa_find : Sem Hp := [(180, sF_La_ofKind), (242, sF_Wa_weighAhead), (245, sF_Wa_nextOn)]
set_option maxRecDepth 100000 in
theorem e_Wa_find_0 (x1 : Int32) (x2 : Int32) (h : Hp) : F_Wa_find x1 x2 h = exec1 OI S_Wa_find 2 k_Wa_find 0 [some (.ref 64), some (.int x1), some (.int x2), none] [] h (runF OI S_Wa_find [(45, [0, 1, 2, 3], fun vs st h => match vs, st with | [.ref f0, .int x1, .int x2, .int x3], [] => (match Nat.beq f0 64 with | true => loopC (Wa_find_45   ) FU (x1, x2, x3, h) | false => none) | _, _ => none)] 2 k_Wa_find 400) :=
  (x_bI (f := sF_La_ofKind) rfl (w_La_ofKind _ _ _) fun v2 h1 => (x_bH fun h3 => (x_bV (f := sF_Wa_weighAhead) rfl (w_Wa_weighAhead _ _ _) fun h4 => (x_bif (x_ite (x_bH fun h5 => (x_bH fun h6 => rfl)) rfl)))))
set_option maxRecDepth 100000 in
theorem e_Wa_find_45 (κ45 : (Int32 × Int32 × Int32 × Hp) → Res Hp) (x1 : Int32) (x2 : Int32) (x3 : Int32)  (h : Hp) : Wa_find_45    (x1, x2, x3, h) κ45 = exec1 OI S_Wa_find 2 k_Wa_find 45 [some (.ref 64), some (.int x1), some (.int x2), some (.int x3)] [] h (runF OI S_Wa_find [(45, [0, 1, 2, 3], fun vs st h => match vs, st with | [.ref f0, .int x1, .int x2, .int x3], [] => (match Nat.beq f0 64 with | true => κ45 (x1, x2, x3, h) | false => none) | _, _ => none)] 2 k_Wa_find 400) :=
  (x_ite rfl (x_bif (x_ite rfl (x_bif (x_bI (f := sF_Wa_nextOn) rfl (w_Wa_nextOn _ _ _ _) fun v2 h1 => (x_bif (x_bH fun h3 => (x_bH fun h4 => rfl))))))))
def k_Bp_way : List Ent := [(0, .aload_n 0, 1, [], .null), (1, .iload_n 1, 1, [], .null), (2, .iload_n 2, 1, [], .null), (3, .invokevirtual 155, 3, [58, 3, 2, 6], .null), (6, .ifCond .ne (18), 3, [24], .null), (9, .iload_n 3, 1, [], .null), (10, .invokestatic 168, 3, [56, 1, 2], .null), (13, .ifCond .ne (11), 3, [24], .null), (16, .iload 4, 2, [], .null), (18, .invokestatic 75, 3, [52, 1, 2], .null), (21, .ifCond .eq (5), 3, [26], .null), (24, .iconst (-1), 1, [], .int (-1)), (25, .ireturn, 1, [], .null), (26, .aload_n 0, 1, [], .null), (27, .getfield 48, 3, [6, 7, 1], .null), (30, .iload_n 3, 1, [], .null), (31, .invokevirtual 232, 3, [239, 2, 0, 5], .null), (34, .aload_n 0, 1, [], .null), (35, .getfield 48, 3, [6, 7, 1], .null), (38, .iload_n 1, 1, [], .null), (39, .iload_n 2, 1, [], .null), (40, .invokevirtual 235, 3, [241, 3, 2, 5], .null), (43, .ifCond .ne (6), 3, [49], .null), (46, .bipush (-9), 2, [], .int (-9)), (48, .ireturn, 1, [], .null), (49, .aload_n 0, 1, [], .null), (50, .getfield 11, 3, [6, 0, 1], .null), (53, .iload 4, 2, [], .null), (55, .aaload, 1, [], .null), (56, .aload_n 0, 1, [], .null), (57, .getfield 48, 3, [6, 7, 1], .null), (60, .getfield 238, 3, [5, 4, 1], .null), (63, .aload_n 0, 1, [], .null), (64, .getfield 48, 3, [6, 7, 1], .null), (67, .getfield 239, 3, [5, 5, 0], .null), (70, .invokevirtual 221, 3, [229, 3, 0, 4], .null), (73, .aload_n 0, 1, [], .null), (74, .getfield 48, 3, [6, 7, 1], .null), (77, .getfield 239, 3, [5, 5, 0], .null), (80, .iconst 2, 1, [], .int (2)), (81, .isub, 1, [], .null), (82, .ireturn, 1, [], .null)]
def F_Bp_way (x1 : Int32) (x2 : Int32) (x3 : Int32) (x4 : Int32) (h : Hp) : Res Hp :=
  bI (F_Bp_noPair x1 x2 h) fun v2 h1 =>
  if v2 = (0 : Int32) then
  (bI (F_Bp_noTongues x3 h1) fun v4 h3 =>
  if v4 = (0 : Int32) then
  (bI (F_Bp_noRow x4 h3) fun v6 h5 =>
  if v6 = (0 : Int32) then
  (bV (F_Wa_priceAsTheyAre x3 h5) fun h7 =>
  bI (F_Wa_find x1 x2 h7) fun v9 h8 =>
  if v9 = (0 : Int32) then
  (retI (-9 : Int32) h8)
  else
  (bif okR 1 x4 then
  bif okO (shR 1 x4.toNatClampNeg) 4 then
  bV (F_Sh_fill (shR 1 x4.toNatClampNeg) 67 (hg h8 64 5) h8) fun h10 =>
  retI ((hg h10 64 5) - (2 : Int32)) h10
  else none
  else none))
  else
  (retI (-1 : Int32) h5))
  else
  (retI (-1 : Int32) h3))
  else
  (retI (-1 : Int32) h1)
def sF_Bp_way : List Value → Hp → Res Hp := fun as h => match as with | [.ref f0, .int x1, .int x2, .int x3, .int x4] => (match Nat.beq f0 0 with | true => F_Bp_way x1 x2 x3 x4 h | false => none) | _ => none
theorem w_Bp_way (x1 : Int32) (x2 : Int32) (x3 : Int32) (x4 : Int32) (h : Hp) : sF_Bp_way [.ref 0, .int x1, .int x2, .int x3, .int x4] h = F_Bp_way x1 x2 x3 x4 h := rfl
def S_Bp_way : Sem Hp := [(58, sF_Bp_noPair), (56, sF_Bp_noTongues), (52, sF_Bp_noRow), (239, sF_Wa_priceAsTheyAre), (241, sF_Wa_find), (229, sF_Sh_fill)]
set_option maxRecDepth 100000 in
theorem e_Bp_way_0 (x1 : Int32) (x2 : Int32) (x3 : Int32) (x4 : Int32) (h : Hp) : F_Bp_way x1 x2 x3 x4 h = exec1 OI S_Bp_way 1 k_Bp_way 0 [some (.ref 0), some (.int x1), some (.int x2), some (.int x3), some (.int x4)] [] h (runF OI S_Bp_way [] 1 k_Bp_way 400) :=
  (x_bI (f := sF_Bp_noPair) rfl (w_Bp_noPair _ _ _) fun v2 h1 => (x_ite (x_bI (f := sF_Bp_noTongues) rfl (w_Bp_noTongues _ _) fun v4 h3 => (x_ite (x_bI (f := sF_Bp_noRow) rfl (w_Bp_noRow _ _) fun v6 h5 => (x_ite (x_bV (f := sF_Wa_priceAsTheyAre) rfl (w_Wa_priceAsTheyAre _ _) fun h7 => (x_bI (f := sF_Wa_find) rfl (w_Wa_find _ _ _) fun v9 h8 => (x_ite rfl (x_bif (x_bif (x_bV (f := sF_Sh_fill) rfl (w_Sh_fill _ _ _ _) fun h10 => rfl)))))) rfl)) rfl)) rfl))
def k_Bp_tongue : List Ent := [(0, .aload_n 0, 1, [], .null), (1, .iload_n 1, 1, [], .null), (2, .iload_n 2, 1, [], .null), (3, .invokevirtual 155, 3, [58, 3, 2, 6], .null), (6, .ifCond .ne (10), 3, [16], .null), (9, .iload_n 3, 1, [], .null), (10, .invokestatic 174, 3, [57, 1, 2], .null), (13, .ifCond .eq (5), 3, [18], .null), (16, .iconst (-1), 1, [], .int (-1)), (17, .ireturn, 1, [], .null), (18, .aload_n 0, 1, [], .null), (19, .getfield 21, 3, [6, 2, 1], .null), (22, .getfield 149, 3, [0, 1, 1], .null), (25, .iload_n 1, 1, [], .null), (26, .iaload, 1, [], .null), (27, .aload_n 0, 1, [], .null), (28, .getfield 21, 3, [6, 2, 1], .null), (31, .getfield 149, 3, [0, 1, 1], .null), (34, .iload_n 2, 1, [], .null), (35, .iaload, 1, [], .null), (36, .iand, 1, [], .null), (37, .istore 4, 2, [], .null), (39, .bipush (-9), 2, [], .int (-9)), (41, .istore 5, 2, [], .null), (43, .bipush (100), 2, [], .int (100)), (45, .istore 6, 2, [], .null), (47, .iconst 0, 1, [], .int (0)), (48, .istore 7, 2, [], .null), (50, .iload 7, 2, [], .null), (52, .iconst 5, 1, [], .int (5)), (53, .if_icmp .ge (63), 3, [116], .null), (56, .iload 4, 2, [], .null), (58, .iload 7, 2, [], .null), (60, .invokestatic 201, 3, [65, 2, 2], .null), (63, .ifCond .eq (21), 3, [84], .null), (66, .aload_n 0, 1, [], .null), (67, .getfield 48, 3, [6, 7, 1], .null), (70, .iload_n 1, 1, [], .null), (71, .iload_n 2, 1, [], .null), (72, .iload 7, 2, [], .null), (74, .invokestatic 152, 3, [64, 1, 1], .null), (77, .iload_n 3, 1, [], .null), (78, .invokevirtual 228, 3, [236, 5, 1, 5], .null), (81, .goto (5), 3, [86], .null), (84, .bipush (-9), 2, [], .int (-9)), (86, .istore 8, 2, [], .null), (88, .iload 8, 2, [], .null), (90, .bipush (-9), 2, [], .int (-9)), (92, .if_icmp .eq (18), 3, [110], .null), (95, .iload 8, 2, [], .null), (97, .iload 6, 2, [], .null), (99, .if_icmp .ge (11), 3, [110], .null), (102, .iload 7, 2, [], .null), (104, .istore 5, 2, [], .null), (106, .iload 8, 2, [], .null), (108, .istore 6, 2, [], .null), (110, .iinc 7 (1), 3, [], .int (1)), (113, .goto (-63), 3, [50], .null), (116, .iload 5, 2, [], .null), (118, .bipush (-9), 2, [], .int (-9)), (120, .if_icmp .eq (9), 3, [129], .null), (123, .aload_n 0, 1, [], .null), (124, .iload 6, 2, [], .null), (126, .putfield 69, 3, [6, 11, 0], .null), (129, .iload 5, 2, [], .null), (131, .ireturn, 1, [], .null)]
def Bp_tongue_50    : (Int32 × Int32 × Int32 × Int32 × Int32 × Int32 × Int32 × Hp) → ((Int32 × Int32 × Int32 × Int32 × Int32 × Int32 × Int32 × Hp) → Res Hp) → Res Hp := fun s κ50 => match s with
  | (x1, x2, x3, x4, x5, x6, x7, h) =>
  if (5 : Int32) ≤ x7 then
  (if x5 = (-9 : Int32) then
  (retI x5 h)
  else
  (bH (hs h 0 11 x6) fun h1 =>
  retI x5 h1))
  else
  (bI (F_Bp_has x4 x7 h) fun v3 h2 =>
  if v3 = (0 : Int32) then
  (κ50 (x1, x2, x3, x4, x5, x6, (x7 + (1 : Int32)), h2))
  else
  (bI (F_Bp_bit x7 h2) fun v5 h4 =>
  bI (F_Wa_soonest x1 x2 v5 x3 h4) fun v7 h6 =>
  if v7 = (-9 : Int32) then
  (κ50 (x1, x2, x3, x4, x5, x6, (x7 + (1 : Int32)), h6))
  else
  (if x6 ≤ v7 then
  (κ50 (x1, x2, x3, x4, x5, x6, (x7 + (1 : Int32)), h6))
  else
  (κ50 (x1, x2, x3, x4, x7, v7, (x7 + (1 : Int32)), h6)))))
def F_Bp_tongue (x1 : Int32) (x2 : Int32) (x3 : Int32) (h : Hp) : Res Hp :=
  bI (F_Bp_noPair x1 x2 h) fun v2 h1 =>
  if v2 = (0 : Int32) then
  (bI (F_Bp_noHour x3 h1) fun v4 h3 =>
  if v4 = (0 : Int32) then
  (bif okA 5 100 x1 then
  bif okA 5 100 x2 then
  loopC (Bp_tongue_50   ) FU (x1, x2, x3, ((hg h3 5 x1.toNatClampNeg) &&& (hg h3 5 x2.toNatClampNeg)), (-9 : Int32), (100 : Int32), (0 : Int32), h3)
  else none
  else none)
  else
  (retI (-1 : Int32) h3))
  else
  (retI (-1 : Int32) h1)
def sF_Bp_tongue : List Value → Hp → Res Hp := fun as h => match as with | [.ref f0, .int x1, .int x2, .int x3] => (match Nat.beq f0 0 with | true => F_Bp_tongue x1 x2 x3 h | false => none) | _ => none
theorem w_Bp_tongue (x1 : Int32) (x2 : Int32) (x3 : Int32) (h : Hp) : sF_Bp_tongue [.ref 0, .int x1, .int x2, .int x3] h = F_Bp_tongue x1 x2 x3 h := rfl
def S_Bp_tongue : Sem Hp := [(58, sF_Bp_noPair), (57, sF_Bp_noHour), (65, sF_Bp_has), (64, sF_Bp_bit), (236, sF_Wa_soonest)]
set_option maxRecDepth 100000 in
theorem e_Bp_tongue_0 (x1 : Int32) (x2 : Int32) (x3 : Int32) (h : Hp) : F_Bp_tongue x1 x2 x3 h = exec1 OI S_Bp_tongue 1 k_Bp_tongue 0 [some (.ref 0), some (.int x1), some (.int x2), some (.int x3), none, none, none, none, none] [] h (runF OI S_Bp_tongue [(50, [0, 1, 2, 3, 4, 5, 6, 7], fun vs st h => match vs, st with | [.ref f0, .int x1, .int x2, .int x3, .int x4, .int x5, .int x6, .int x7], [] => (match Nat.beq f0 0 with | true => loopC (Bp_tongue_50   ) FU (x1, x2, x3, x4, x5, x6, x7, h) | false => none) | _, _ => none)] 1 k_Bp_tongue 400) :=
  (x_bI (f := sF_Bp_noPair) rfl (w_Bp_noPair _ _ _) fun v2 h1 => (x_ite (x_bI (f := sF_Bp_noHour) rfl (w_Bp_noHour _ _) fun v4 h3 => (x_ite (x_bif (x_bif rfl)) rfl)) rfl))
set_option maxRecDepth 100000 in
theorem e_Bp_tongue_50 (κ50 : (Int32 × Int32 × Int32 × Int32 × Int32 × Int32 × Int32 × Hp) → Res Hp) (x1 : Int32) (x2 : Int32) (x3 : Int32) (x4 : Int32) (x5 : Int32) (x6 : Int32) (x7 : Int32)  (h : Hp) : Bp_tongue_50    (x1, x2, x3, x4, x5, x6, x7, h) κ50 = exec1 OI S_Bp_tongue 1 k_Bp_tongue 50 [some (.ref 0), some (.int x1), some (.int x2), some (.int x3), some (.int x4), some (.int x5), some (.int x6), some (.int x7), none] [] h (runF OI S_Bp_tongue [(50, [0, 1, 2, 3, 4, 5, 6, 7], fun vs st h => match vs, st with | [.ref f0, .int x1, .int x2, .int x3, .int x4, .int x5, .int x6, .int x7], [] => (match Nat.beq f0 0 with | true => κ50 (x1, x2, x3, x4, x5, x6, x7, h) | false => none) | _, _ => none)] 1 k_Bp_tongue 400) :=
  (x_ite (x_ite rfl (x_bH fun h1 => rfl)) (x_bI (f := sF_Bp_has) rfl (w_Bp_has _ _ _) fun v3 h2 => (x_ite rfl (x_bI (f := sF_Bp_bit) rfl (w_Bp_bit _ _) fun v5 h4 => (x_bI (f := sF_Wa_soonest) rfl (w_Wa_soonest _ _ _ _ _) fun v7 h6 => (x_ite rfl (x_ite rfl rfl)))))))
def k_Bp_parts : List Ent := [(0, .aload_n 0, 1, [], .null), (1, .iload_n 1, 1, [], .null), (2, .iload_n 2, 1, [], .null), (3, .invokevirtual 155, 3, [58, 3, 2, 6], .null), (6, .ifCond .ne (18), 3, [24], .null), (9, .iload_n 3, 1, [], .null), (10, .invokestatic 168, 3, [56, 1, 2], .null), (13, .ifCond .ne (11), 3, [24], .null), (16, .iload 4, 2, [], .null), (18, .invokestatic 174, 3, [57, 1, 2], .null), (21, .ifCond .eq (5), 3, [26], .null), (24, .iconst (-1), 1, [], .int (-1)), (25, .ireturn, 1, [], .null), (26, .iconst 0, 1, [], .int (0)), (27, .istore 5, 2, [], .null), (29, .iconst 0, 1, [], .int (0)), (30, .istore 6, 2, [], .null), (32, .iload 6, 2, [], .null), (34, .iconst 5, 1, [], .int (5)), (35, .if_icmp .ge (59), 3, [94], .null), (38, .iload_n 3, 1, [], .null), (39, .iload 6, 2, [], .null), (41, .invokestatic 201, 3, [65, 2, 2], .null), (44, .ifCond .eq (22), 3, [66], .null), (47, .aload_n 0, 1, [], .null), (48, .getfield 48, 3, [6, 7, 1], .null), (51, .iload_n 1, 1, [], .null), (52, .iload_n 2, 1, [], .null), (53, .iload 6, 2, [], .null), (55, .invokestatic 152, 3, [64, 1, 1], .null), (58, .iload 4, 2, [], .null), (60, .invokevirtual 228, 3, [236, 5, 1, 5], .null), (63, .goto (4), 3, [67], .null), (66, .iconst 0, 1, [], .int (0)), (67, .istore 7, 2, [], .null), (69, .iload 7, 2, [], .null), (71, .bipush (-9), 2, [], .int (-9)), (73, .if_icmp .ne (6), 3, [79], .null), (76, .bipush (-9), 2, [], .int (-9)), (78, .ireturn, 1, [], .null), (79, .iload 5, 2, [], .null), (81, .iload 7, 2, [], .null), (83, .invokestatic 240, 3, [0], .null), (86, .istore 5, 2, [], .null), (88, .iinc 6 (1), 3, [], .int (1)), (91, .goto (-59), 3, [32], .null), (94, .iload 5, 2, [], .null), (96, .ireturn, 1, [], .null)]
def Bp_parts_32    : (Int32 × Int32 × Int32 × Int32 × Int32 × Int32 × Hp) → ((Int32 × Int32 × Int32 × Int32 × Int32 × Int32 × Hp) → Res Hp) → Res Hp := fun s κ32 => match s with
  | (x1, x2, x3, x4, x5, x6, h) =>
  if (5 : Int32) ≤ x6 then
  (retI x5 h)
  else
  (bI (F_Bp_has x3 x6 h) fun v2 h1 =>
  if v2 = (0 : Int32) then
  (κ32 (x1, x2, x3, x4, (if x5 < (0 : Int32) then (0 : Int32) else x5), (x6 + (1 : Int32)), h1))
  else
  (bI (F_Bp_bit x6 h1) fun v4 h3 =>
  bI (F_Wa_soonest x1 x2 v4 x4 h3) fun v6 h5 =>
  if v6 = (-9 : Int32) then
  (retI (-9 : Int32) h5)
  else
  (κ32 (x1, x2, x3, x4, (if x5 < v6 then v6 else x5), (x6 + (1 : Int32)), h5))))
def F_Bp_parts (x1 : Int32) (x2 : Int32) (x3 : Int32) (x4 : Int32) (h : Hp) : Res Hp :=
  bI (F_Bp_noPair x1 x2 h) fun v2 h1 =>
  if v2 = (0 : Int32) then
  (bI (F_Bp_noTongues x3 h1) fun v4 h3 =>
  if v4 = (0 : Int32) then
  (bI (F_Bp_noHour x4 h3) fun v6 h5 =>
  if v6 = (0 : Int32) then
  (loopC (Bp_parts_32   ) FU (x1, x2, x3, x4, (0 : Int32), (0 : Int32), h5))
  else
  (retI (-1 : Int32) h5))
  else
  (retI (-1 : Int32) h3))
  else
  (retI (-1 : Int32) h1)
def sF_Bp_parts : List Value → Hp → Res Hp := fun as h => match as with | [.ref f0, .int x1, .int x2, .int x3, .int x4] => (match Nat.beq f0 0 with | true => F_Bp_parts x1 x2 x3 x4 h | false => none) | _ => none
theorem w_Bp_parts (x1 : Int32) (x2 : Int32) (x3 : Int32) (x4 : Int32) (h : Hp) : sF_Bp_parts [.ref 0, .int x1, .int x2, .int x3, .int x4] h = F_Bp_parts x1 x2 x3 x4 h := rfl
def S_Bp_parts : Sem Hp := [(58, sF_Bp_noPair), (56, sF_Bp_noTongues), (57, sF_Bp_noHour), (65, sF_Bp_has), (64, sF_Bp_bit), (236, sF_Wa_soonest)]
set_option maxRecDepth 100000 in
theorem e_Bp_parts_0 (x1 : Int32) (x2 : Int32) (x3 : Int32) (x4 : Int32) (h : Hp) : F_Bp_parts x1 x2 x3 x4 h = exec1 OI S_Bp_parts 1 k_Bp_parts 0 [some (.ref 0), some (.int x1), some (.int x2), some (.int x3), some (.int x4), none, none, none] [] h (runF OI S_Bp_parts [(32, [0, 1, 2, 3, 4, 5, 6], fun vs st h => match vs, st with | [.ref f0, .int x1, .int x2, .int x3, .int x4, .int x5, .int x6], [] => (match Nat.beq f0 0 with | true => loopC (Bp_parts_32   ) FU (x1, x2, x3, x4, x5, x6, h) | false => none) | _, _ => none)] 1 k_Bp_parts 400) :=
  (x_bI (f := sF_Bp_noPair) rfl (w_Bp_noPair _ _ _) fun v2 h1 => (x_ite (x_bI (f := sF_Bp_noTongues) rfl (w_Bp_noTongues _ _) fun v4 h3 => (x_ite (x_bI (f := sF_Bp_noHour) rfl (w_Bp_noHour _ _) fun v6 h5 => (x_ite rfl rfl)) rfl)) rfl))
set_option maxRecDepth 100000 in
theorem e_Bp_parts_32 (κ32 : (Int32 × Int32 × Int32 × Int32 × Int32 × Int32 × Hp) → Res Hp) (x1 : Int32) (x2 : Int32) (x3 : Int32) (x4 : Int32) (x5 : Int32) (x6 : Int32)  (h : Hp) : Bp_parts_32    (x1, x2, x3, x4, x5, x6, h) κ32 = exec1 OI S_Bp_parts 1 k_Bp_parts 32 [some (.ref 0), some (.int x1), some (.int x2), some (.int x3), some (.int x4), some (.int x5), some (.int x6), none] [] h (runF OI S_Bp_parts [(32, [0, 1, 2, 3, 4, 5, 6], fun vs st h => match vs, st with | [.ref f0, .int x1, .int x2, .int x3, .int x4, .int x5, .int x6], [] => (match Nat.beq f0 0 with | true => κ32 (x1, x2, x3, x4, x5, x6, h) | false => none) | _, _ => none)] 1 k_Bp_parts 400) :=
  (x_ite rfl (x_bI (f := sF_Bp_has) rfl (w_Bp_has _ _ _) fun v2 h1 => (x_ite rfl (x_bI (f := sF_Bp_bit) rfl (w_Bp_bit _ _) fun v4 h3 => (x_bI (f := sF_Wa_soonest) rfl (w_Wa_soonest _ _ _ _ _) fun v6 h5 => (x_ite rfl rfl))))))
def k_Wa_metByAny : List Ent := [(0, .iconst 0, 1, [], .int (0)), (1, .istore_n 2, 1, [], .null), (2, .iconst 0, 1, [], .int (0)), (3, .istore_n 3, 1, [], .null), (4, .iload_n 3, 1, [], .null), (5, .aload_n 0, 1, [], .null), (6, .getfield 28, 3, [5, 0, 1], .null), (9, .getfield 32, 3, [0, 8, 0], .null), (12, .if_icmp .ge (29), 3, [41], .null), (15, .iload_n 1, 1, [], .null), (16, .iload_n 3, 1, [], .null), (17, .invokestatic 54, 3, [65, 2, 2], .null), (20, .ifCond .eq (15), 3, [35], .null), (23, .iload_n 2, 1, [], .null), (24, .aload_n 0, 1, [], .null), (25, .getfield 28, 3, [5, 0, 1], .null), (28, .getfield 48, 3, [0, 6, 1], .null), (31, .iload_n 3, 1, [], .null), (32, .iaload, 1, [], .null), (33, .ior, 1, [], .null), (34, .istore_n 2, 1, [], .null), (35, .iinc 3 (1), 3, [], .int (1)), (38, .goto (-34), 3, [4], .null), (41, .iload_n 2, 1, [], .null), (42, .ireturn, 1, [], .null)]
def Wa_metByAny_4    : (Int32 × Int32 × Int32 × Hp) → ((Int32 × Int32 × Int32 × Hp) → Res Hp) → Res Hp := fun s κ4 => match s with
  | (x1, x2, x3, h) =>
  if (hg h 3 8) ≤ x3 then
  (retI x2 h)
  else
  (bI (F_Bp_has x1 x3 h) fun v2 h1 =>
  if v2 = (0 : Int32) then
  (κ4 (x1, x2, (x3 + (1 : Int32)), h1))
  else
  (bif okA 18 100 x3 then
  κ4 (x1, (x2 ||| (hg h1 18 x3.toNatClampNeg)), (x3 + (1 : Int32)), h1)
  else none))
def F_Wa_metByAny (x1 : Int32) (h : Hp) : Res Hp :=
  loopC (Wa_metByAny_4   ) FU (x1, (0 : Int32), (0 : Int32), h)
def sF_Wa_metByAny : List Value → Hp → Res Hp := fun as h => match as with | [.ref f0, .int x1] => (match Nat.beq f0 64 with | true => F_Wa_metByAny x1 h | false => none) | _ => none
theorem w_Wa_metByAny (x1 : Int32) (h : Hp) : sF_Wa_metByAny [.ref 64, .int x1] h = F_Wa_metByAny x1 h := rfl
def S_Wa_metByAny : Sem Hp := [(65, sF_Bp_has)]
set_option maxRecDepth 100000 in
theorem e_Wa_metByAny_0 (x1 : Int32) (h : Hp) : F_Wa_metByAny x1 h = exec1 OI S_Wa_metByAny 1 k_Wa_metByAny 0 [some (.ref 64), some (.int x1), none, none] [] h (runF OI S_Wa_metByAny [(4, [0, 1, 2, 3], fun vs st h => match vs, st with | [.ref f0, .int x1, .int x2, .int x3], [] => (match Nat.beq f0 64 with | true => loopC (Wa_metByAny_4   ) FU (x1, x2, x3, h) | false => none) | _, _ => none)] 1 k_Wa_metByAny 400) :=
  rfl
set_option maxRecDepth 100000 in
theorem e_Wa_metByAny_4 (κ4 : (Int32 × Int32 × Int32 × Hp) → Res Hp) (x1 : Int32) (x2 : Int32) (x3 : Int32)  (h : Hp) : Wa_metByAny_4    (x1, x2, x3, h) κ4 = exec1 OI S_Wa_metByAny 1 k_Wa_metByAny 4 [some (.ref 64), some (.int x1), some (.int x2), some (.int x3)] [] h (runF OI S_Wa_metByAny [(4, [0, 1, 2, 3], fun vs st h => match vs, st with | [.ref f0, .int x1, .int x2, .int x3], [] => (match Nat.beq f0 64 with | true => κ4 (x1, x2, x3, h) | false => none) | _, _ => none)] 1 k_Wa_metByAny 400) :=
  (x_ite rfl (x_bI (f := sF_Bp_has) rfl (w_Bp_has _ _ _) fun v2 h1 => (x_ite rfl (x_bif rfl))))
def k_Wa_leadsOver : List Ent := [(0, .iload_n 3, 1, [], .null), (1, .aload_n 0, 1, [], .null), (2, .getfield 28, 3, [5, 0, 1], .null), (5, .iconst 4, 1, [], .int (4)), (6, .invokevirtual 45, 3, [180, 2, 1, 0], .null), (9, .iconst (-1), 1, [], .int (-1)), (10, .ixor, 1, [], .null), (11, .iand, 1, [], .null), (12, .istore 4, 2, [], .null), (14, .aload_n 0, 1, [], .null), (15, .getfield 28, 3, [5, 0, 1], .null), (18, .getfield 48, 3, [0, 6, 1], .null), (21, .iload_n 1, 1, [], .null), (22, .iaload, 1, [], .null), (23, .iload_n 3, 1, [], .null), (24, .iand, 1, [], .null), (25, .istore 5, 2, [], .null), (27, .iconst 0, 1, [], .int (0)), (28, .istore 6, 2, [], .null), (30, .iload 6, 2, [], .null), (32, .bipush (7), 2, [], .int (7)), (34, .if_icmp .ge (23), 3, [57], .null), (37, .iload 5, 2, [], .null), (39, .aload_n 0, 1, [], .null), (40, .iload 5, 2, [], .null), (42, .invokevirtual 51, 3, [235, 2, 1, 5], .null), (45, .iload 4, 2, [], .null), (47, .iand, 1, [], .null), (48, .ior, 1, [], .null), (49, .istore 5, 2, [], .null), (51, .iinc 6 (1), 3, [], .int (1)), (54, .goto (-24), 3, [30], .null), (57, .iload 5, 2, [], .null), (59, .aload_n 0, 1, [], .null), (60, .getfield 28, 3, [5, 0, 1], .null), (63, .getfield 48, 3, [0, 6, 1], .null), (66, .iload_n 2, 1, [], .null), (67, .iaload, 1, [], .null), (68, .iand, 1, [], .null), (69, .ifCond .eq (7), 3, [76], .null), (72, .iconst 1, 1, [], .int (1)), (73, .goto (4), 3, [77], .null), (76, .iconst 0, 1, [], .int (0)), (77, .ireturn, 1, [], .null)]
def Wa_leadsOver_30    : (Int32 × Int32 × Int32 × Int32 × Hp) → ((Int32 × Int32 × Int32 × Int32 × Hp) → Res Hp) → Res Hp := fun s κ30 => match s with
  | (x2, x4, x5, x6, h) =>
  if (7 : Int32) ≤ x6 then
  (bif okA 18 100 x2 then
  if (x5 &&& (hg h 18 x2.toNatClampNeg)) = (0 : Int32) then
  (retZ (0 : Int32) h)
  else
  (retZ (1 : Int32) h)
  else none)
  else
  (bI (F_Wa_metByAny x5 h) fun v2 h1 =>
  κ30 (x2, x4, (x5 ||| (v2 &&& x4)), (x6 + (1 : Int32)), h1))
def F_Wa_leadsOver (x1 : Int32) (x2 : Int32) (x3 : Int32) (h : Hp) : Res Hp :=
  bI (F_La_ofKind 3 (4 : Int32) h) fun v2 h1 =>
  bif okA 18 100 x1 then
  loopC (Wa_leadsOver_30   ) FU (x2, (x3 &&& (v2 ^^^ (-1 : Int32))), ((hg h1 18 x1.toNatClampNeg) &&& x3), (0 : Int32), h1)
  else none
def sF_Wa_leadsOver : List Value → Hp → Res Hp := fun as h => match as with | [.ref f0, .int x1, .int x2, .int x3] => (match Nat.beq f0 64 with | true => F_Wa_leadsOver x1 x2 x3 h | false => none) | _ => none
theorem w_Wa_leadsOver (x1 : Int32) (x2 : Int32) (x3 : Int32) (h : Hp) : sF_Wa_leadsOver [.ref 64, .int x1, .int x2, .int x3] h = F_Wa_leadsOver x1 x2 x3 h := rfl
def S_Wa_leadsOver : Sem Hp := [(180, sF_La_ofKind), (235, sF_Wa_metByAny)]
set_option maxRecDepth 100000 in
theorem e_Wa_leadsOver_0 (x1 : Int32) (x2 : Int32) (x3 : Int32) (h : Hp) : F_Wa_leadsOver x1 x2 x3 h = exec1 OI S_Wa_leadsOver 2 k_Wa_leadsOver 0 [some (.ref 64), some (.int x1), some (.int x2), some (.int x3), none, none, none] [] h (runF OI S_Wa_leadsOver [(30, [0, 2, 4, 5, 6], fun vs st h => match vs, st with | [.ref f0, .int x2, .int x4, .int x5, .int x6], [] => (match Nat.beq f0 64 with | true => loopC (Wa_leadsOver_30   ) FU (x2, x4, x5, x6, h) | false => none) | _, _ => none)] 2 k_Wa_leadsOver 400) :=
  (x_bI (f := sF_La_ofKind) rfl (w_La_ofKind _ _ _) fun v2 h1 => (x_bif rfl))
set_option maxRecDepth 100000 in
theorem e_Wa_leadsOver_30 (κ30 : (Int32 × Int32 × Int32 × Int32 × Hp) → Res Hp) (x2 : Int32) (x4 : Int32) (x5 : Int32) (x6 : Int32)  (h : Hp) : Wa_leadsOver_30    (x2, x4, x5, x6, h) κ30 = exec1 OI S_Wa_leadsOver 2 k_Wa_leadsOver 30 [some (.ref 64), none, some (.int x2), none, some (.int x4), some (.int x5), some (.int x6)] [] h (runF OI S_Wa_leadsOver [(30, [0, 2, 4, 5, 6], fun vs st h => match vs, st with | [.ref f0, .int x2, .int x4, .int x5, .int x6], [] => (match Nat.beq f0 64 with | true => κ30 (x2, x4, x5, x6, h) | false => none) | _, _ => none)] 2 k_Wa_leadsOver 400) :=
  (x_ite (x_bif (x_ite rfl rfl)) (x_bI (f := sF_Wa_metByAny) rfl (w_Wa_metByAny _ _) fun v2 h1 => rfl))
end
