noncomputable section
def k_Bp_noRow : List Ent := [(0, .iload_n 0, 1, [], .null), (1, .ifCond .lt (9), 3, [10], .null), (4, .iload_n 0, 1, [], .null), (5, .bipush (6), 2, [], .int (6)), (7, .if_icmp .lt (7), 3, [14], .null), (10, .iconst 1, 1, [], .int (1)), (11, .goto (4), 3, [15], .null), (14, .iconst 0, 1, [], .int (0)), (15, .ireturn, 1, [], .null)]
def F_Bp_noRow (x0 : Int32) (h : Hp) : Res Hp :=
  if x0 < (0 : Int32) then
  (retZ (1 : Int32) h)
  else
  (if x0 < (6 : Int32) then
  (retZ (0 : Int32) h)
  else
  (retZ (1 : Int32) h))
def sF_Bp_noRow : List Value → Hp → Res Hp := fun as h => match as with | [.int x0] => F_Bp_noRow x0 h | _ => none
theorem w_Bp_noRow (x0 : Int32) (h : Hp) : sF_Bp_noRow [.int x0] h = F_Bp_noRow x0 h := rfl
def S_Bp_noRow : Sem Hp := []
set_option maxRecDepth 100000 in
theorem e_Bp_noRow_0 (x0 : Int32) (h : Hp) : F_Bp_noRow x0 h = exec1 OI S_Bp_noRow 2 k_Bp_noRow 0 [some (.int x0)] [] h (runF OI S_Bp_noRow [] 2 k_Bp_noRow 400) :=
  (x_ite rfl (x_ite rfl rfl))
def k_Bp_found : List Ent := [(0, .aload_n 0, 1, [], .null), (1, .iload_n 1, 1, [], .null), (2, .putfield 65, 3, [6, 10, 0], .null), (5, .aload_n 0, 1, [], .null), (6, .getfield 61, 3, [6, 9, 1], .null), (9, .iload_n 1, 1, [], .null), (10, .dup2, 1, [], .null), (11, .iaload, 1, [], .null), (12, .iconst 1, 1, [], .int (1)), (13, .iadd, 1, [], .null), (14, .iastore, 1, [], .null), (15, .bipush (-3), 2, [], .int (-3)), (17, .ireturn, 1, [], .null)]
def F_Bp_found (x1 : Int32) (h : Hp) : Res Hp :=
  bH (hs h 0 10 x1) fun h1 =>
  bif okA 70 100 x1 then
  bif okA 70 100 x1 then
  bH (hs h1 70 x1.toNatClampNeg ((hg h1 70 x1.toNatClampNeg) + (1 : Int32))) fun h2 =>
  retI (-3 : Int32) h2
  else none
  else none
def sF_Bp_found : List Value → Hp → Res Hp := fun as h => match as with | [.ref f0, .int x1] => (match Nat.beq f0 0 with | true => F_Bp_found x1 h | false => none) | _ => none
theorem w_Bp_found (x1 : Int32) (h : Hp) : sF_Bp_found [.ref 0, .int x1] h = F_Bp_found x1 h := rfl
def S_Bp_found : Sem Hp := []
set_option maxRecDepth 100000 in
theorem e_Bp_found_0 (x1 : Int32) (h : Hp) : F_Bp_found x1 h = exec1 OI S_Bp_found 1 k_Bp_found 0 [some (.ref 0), some (.int x1)] [] h (runF OI S_Bp_found [] 1 k_Bp_found 400) :=
  (x_bH fun h1 => (x_bif (x_bif (x_bH fun h2 => rfl))))
def k_Sh_renew : List Ent := [(0, .aload_n 0, 1, [], .null), (1, .iload_n 1, 1, [], .null), (2, .aload_n 0, 1, [], .null), (3, .getfield 15, 3, [4, 0, 1], .null), (6, .arraylength, 1, [], .null), (7, .invokestatic 23, 3, [1], .null), (10, .putfield 11, 3, [4, 1, 0], .null), (13, .iconst 0, 1, [], .int (0)), (14, .istore_n 3, 1, [], .null), (15, .iload_n 3, 1, [], .null), (16, .aload_n 0, 1, [], .null), (17, .getfield 11, 3, [4, 1, 0], .null), (20, .if_icmp .ge (16), 3, [36], .null), (23, .aload_n 0, 1, [], .null), (24, .getfield 15, 3, [4, 0, 1], .null), (27, .iload_n 3, 1, [], .null), (28, .iload_n 2, 1, [], .null), (29, .iastore, 1, [], .null), (30, .iinc 3 (1), 3, [], .int (1)), (33, .goto (-18), 3, [15], .null), (36, .return_, 1, [], .null)]
def Sh_renew_15    : (Nat × Int32 × Int32 × Hp) → ((Nat × Int32 × Int32 × Hp) → Res Hp) → Res Hp := fun s κ15 => match s with
  | (o0, x2, x3, h) =>
  bif okF o0 4 1 0 then
  if (hg h o0 1) ≤ x3 then
  (retV h)
  else
  (bif okF o0 4 0 1 then
  bif okA (shR o0 0) 100 x3 then
  bH (hs h (shR o0 0) x3.toNatClampNeg x2) fun h1 =>
  κ15 (o0, x2, (x3 + (1 : Int32)), h1)
  else none
  else none)
  else none
def F_Sh_renew (o0 : Nat) (x1 : Int32) (x2 : Int32) (h : Hp) : Res Hp :=
  bif okF o0 4 0 1 then
  bif okN (shR o0 0) then
  bif okF o0 4 1 0 then
  bH (hs h o0 1 (if (Int32.ofNat (shN (shR o0 0))) < x1 then (Int32.ofNat (shN (shR o0 0))) else x1)) fun h1 =>
  loopC (Sh_renew_15   ) FU (o0, x2, (0 : Int32), h1)
  else none
  else none
  else none
def sF_Sh_renew : List Value → Hp → Res Hp := fun as h => match as with | [.ref o0, .int x1, .int x2] => F_Sh_renew o0 x1 x2 h | _ => none
theorem w_Sh_renew (o0 : Nat) (x1 : Int32) (x2 : Int32) (h : Hp) : sF_Sh_renew [.ref o0, .int x1, .int x2] h = F_Sh_renew o0 x1 x2 h := rfl
def S_Sh_renew : Sem Hp := []
set_option maxRecDepth 100000 in
theorem e_Sh_renew_0 (o0 : Nat) (x1 : Int32) (x2 : Int32) (h : Hp) : F_Sh_renew o0 x1 x2 h = exec1 OI S_Sh_renew 0 k_Sh_renew 0 [some (.ref o0), some (.int x1), some (.int x2), none] [] h (runF OI S_Sh_renew [(15, [0, 2, 3], fun vs st h => match vs, st with | [.ref o0, .int x2, .int x3], [] => loopC (Sh_renew_15   ) FU (o0, x2, x3, h) | _, _ => none)] 0 k_Sh_renew 400) :=
  (x_bif (x_bif (x_bif (x_bH fun h1 => rfl))))
set_option maxRecDepth 100000 in
theorem e_Sh_renew_15 (κ15 : (Nat × Int32 × Int32 × Hp) → Res Hp) (o0 : Nat) (x2 : Int32) (x3 : Int32)  (h : Hp) : Sh_renew_15    (o0, x2, x3, h) κ15 = exec1 OI S_Sh_renew 0 k_Sh_renew 15 [some (.ref o0), none, some (.int x2), some (.int x3)] [] h (runF OI S_Sh_renew [(15, [0, 2, 3], fun vs st h => match vs, st with | [.ref o0, .int x2, .int x3], [] => κ15 (o0, x2, x3, h) | _, _ => none)] 0 k_Sh_renew 400) :=
  (x_bif (x_ite rfl (x_bif (x_bif (x_bH fun h1 => rfl)))))
def k_Bp_row : List Ent := [(0, .iload_n 1, 1, [], .null), (1, .invokestatic 75, 3, [52, 1, 2], .null), (4, .ifCond .ne (9), 3, [13], .null), (7, .iload_n 2, 1, [], .null), (8, .bipush (40), 2, [], .int (40)), (10, .if_icmp .le (5), 3, [15], .null), (13, .iconst (-1), 1, [], .int (-1)), (14, .ireturn, 1, [], .null), (15, .iload_n 2, 1, [], .null), (16, .ifCond .ge (9), 3, [25], .null), (19, .aload_n 0, 1, [], .null), (20, .iconst 5, 1, [], .int (5)), (21, .invokevirtual 79, 3, [50, 2, 1, 6], .null), (24, .ireturn, 1, [], .null), (25, .aload_n 0, 1, [], .null), (26, .getfield 11, 3, [6, 0, 1], .null), (29, .iload_n 1, 1, [], .null), (30, .aaload, 1, [], .null), (31, .iload_n 2, 1, [], .null), (32, .iconst 0, 1, [], .int (0)), (33, .invokevirtual 83, 3, [228, 3, 0, 4], .null), (36, .iload_n 2, 1, [], .null), (37, .ireturn, 1, [], .null)]
def F_Bp_row (x1 : Int32) (x2 : Int32) (h : Hp) : Res Hp :=
  bI (F_Bp_noRow x1 h) fun v2 h1 =>
  if v2 = (0 : Int32) then
  (if x2 ≤ (40 : Int32) then
  (if (0 : Int32) ≤ x2 then
  (bif okR 1 x1 then
  bif okO (shR 1 x1.toNatClampNeg) 4 then
  bV (F_Sh_renew (shR 1 x1.toNatClampNeg) x2 (0 : Int32) h1) fun h3 =>
  retI x2 h3
  else none
  else none)
  else
  (bI (F_Bp_found (5 : Int32) h1) fun v5 h4 =>
  retI v5 h4))
  else
  (retI (-1 : Int32) h1))
  else
  (retI (-1 : Int32) h1)
def sF_Bp_row : List Value → Hp → Res Hp := fun as h => match as with | [.ref f0, .int x1, .int x2] => (match Nat.beq f0 0 with | true => F_Bp_row x1 x2 h | false => none) | _ => none
theorem w_Bp_row (x1 : Int32) (x2 : Int32) (h : Hp) : sF_Bp_row [.ref 0, .int x1, .int x2] h = F_Bp_row x1 x2 h := rfl
def S_Bp_row : Sem Hp := [(52, sF_Bp_noRow), (228, sF_Sh_renew), (50, sF_Bp_found)]
set_option maxRecDepth 100000 in
theorem e_Bp_row_0 (x1 : Int32) (x2 : Int32) (h : Hp) : F_Bp_row x1 x2 h = exec1 OI S_Bp_row 1 k_Bp_row 0 [some (.ref 0), some (.int x1), some (.int x2)] [] h (runF OI S_Bp_row [] 1 k_Bp_row 400) :=
  (x_bI (f := sF_Bp_noRow) rfl (w_Bp_noRow _ _) fun v2 h1 => (x_ite (x_ite (x_ite (x_bif (x_bif (x_bV (f := sF_Sh_renew) rfl (w_Sh_renew _ _ _ _) fun h3 => rfl))) (x_bI (f := sF_Bp_found) rfl (w_Bp_found _ _) fun v5 h4 => rfl)) rfl) rfl))
def k_Sh_isThere : List Ent := [(0, .aload_n 0, 1, [], .null), (1, .getfield 11, 3, [4, 1, 0], .null), (4, .iconst (-1), 1, [], .int (-1)), (5, .if_icmp .eq (7), 3, [12], .null), (8, .iconst 1, 1, [], .int (1)), (9, .goto (4), 3, [13], .null), (12, .iconst 0, 1, [], .int (0)), (13, .ireturn, 1, [], .null)]
def F_Sh_isThere (o0 : Nat) (h : Hp) : Res Hp :=
  bif okF o0 4 1 0 then
  if (hg h o0 1) = (-1 : Int32) then
  (retZ (0 : Int32) h)
  else
  (retZ (1 : Int32) h)
  else none
def sF_Sh_isThere : List Value → Hp → Res Hp := fun as h => match as with | [.ref o0] => F_Sh_isThere o0 h | _ => none
theorem w_Sh_isThere (o0 : Nat) (h : Hp) : sF_Sh_isThere [.ref o0] h = F_Sh_isThere o0 h := rfl
def S_Sh_isThere : Sem Hp := []
set_option maxRecDepth 100000 in
theorem e_Sh_isThere_0 (o0 : Nat) (h : Hp) : F_Sh_isThere o0 h = exec1 OI S_Sh_isThere 2 k_Sh_isThere 0 [some (.ref o0)] [] h (runF OI S_Sh_isThere [] 2 k_Sh_isThere 400) :=
  (x_bif (x_ite rfl rfl))
def k_Sh_lackAt : List Ent := [(0, .aload_n 0, 1, [], .null), (1, .invokevirtual 19, 3, [225, 1, 2, 4], .null), (4, .ifCond .ne (5), 3, [9], .null), (7, .iconst 1, 1, [], .int (1)), (8, .ireturn, 1, [], .null), (9, .iload_n 1, 1, [], .null), (10, .ifCond .lt (11), 3, [21], .null), (13, .iload_n 1, 1, [], .null), (14, .aload_n 0, 1, [], .null), (15, .getfield 11, 3, [4, 1, 0], .null), (18, .if_icmp .lt (7), 3, [25], .null), (21, .iconst 2, 1, [], .int (2)), (22, .goto (4), 3, [26], .null), (25, .iconst 0, 1, [], .int (0)), (26, .ireturn, 1, [], .null)]
def F_Sh_lackAt (o0 : Nat) (x1 : Int32) (h : Hp) : Res Hp :=
  bif okO o0 4 then
  bI (F_Sh_isThere o0 h) fun v2 h1 =>
  if v2 = (0 : Int32) then
  (retI (1 : Int32) h1)
  else
  (if x1 < (0 : Int32) then
  (retI (2 : Int32) h1)
  else
  (bif okF o0 4 1 0 then
  if x1 < (hg h1 o0 1) then
  (retI (0 : Int32) h1)
  else
  (retI (2 : Int32) h1)
  else none))
  else none
def sF_Sh_lackAt : List Value → Hp → Res Hp := fun as h => match as with | [.ref o0, .int x1] => F_Sh_lackAt o0 x1 h | _ => none
theorem w_Sh_lackAt (o0 : Nat) (x1 : Int32) (h : Hp) : sF_Sh_lackAt [.ref o0, .int x1] h = F_Sh_lackAt o0 x1 h := rfl
def S_Sh_lackAt : Sem Hp := [(225, sF_Sh_isThere)]
set_option maxRecDepth 100000 in
theorem e_Sh_lackAt_0 (o0 : Nat) (x1 : Int32) (h : Hp) : F_Sh_lackAt o0 x1 h = exec1 OI S_Sh_lackAt 1 k_Sh_lackAt 0 [some (.ref o0), some (.int x1)] [] h (runF OI S_Sh_lackAt [] 1 k_Sh_lackAt 400) :=
  (x_bif (x_bI (f := sF_Sh_isThere) rfl (w_Sh_isThere _ _) fun v2 h1 => (x_ite rfl (x_ite rfl (x_bif (x_ite rfl rfl))))))
def k_Bp_tell : List Ent := [(0, .aload_n 0, 1, [], .null), (1, .iload_n 1, 1, [], .null), (2, .putfield 69, 3, [6, 11, 0], .null), (5, .iconst 1, 1, [], .int (1)), (6, .ireturn, 1, [], .null)]
def F_Bp_tell (x1 : Int32) (h : Hp) : Res Hp :=
  bH (hs h 0 11 x1) fun h1 =>
  retI (1 : Int32) h1
def sF_Bp_tell : List Value → Hp → Res Hp := fun as h => match as with | [.ref f0, .int x1] => (match Nat.beq f0 0 with | true => F_Bp_tell x1 h | false => none) | _ => none
theorem w_Bp_tell (x1 : Int32) (h : Hp) : sF_Bp_tell [.ref 0, .int x1] h = F_Bp_tell x1 h := rfl
def S_Bp_tell : Sem Hp := []
set_option maxRecDepth 100000 in
theorem e_Bp_tell_0 (x1 : Int32) (h : Hp) : F_Bp_tell x1 h = exec1 OI S_Bp_tell 1 k_Bp_tell 0 [some (.ref 0), some (.int x1)] [] h (runF OI S_Bp_tell [] 1 k_Bp_tell 400) :=
  (x_bH fun h1 => rfl)
def k_Bp_lay : List Ent := [(0, .iload_n 1, 1, [], .null), (1, .invokestatic 75, 3, [52, 1, 2], .null), (4, .ifCond .eq (5), 3, [9], .null), (7, .iconst (-1), 1, [], .int (-1)), (8, .ireturn, 1, [], .null), (9, .aload_n 0, 1, [], .null), (10, .getfield 11, 3, [6, 0, 1], .null), (13, .iload_n 1, 1, [], .null), (14, .aaload, 1, [], .null), (15, .iload_n 2, 1, [], .null), (16, .invokevirtual 87, 3, [226, 2, 1, 4], .null), (19, .istore 4, 2, [], .null), (21, .iload 4, 2, [], .null), (23, .ifCond .eq (10), 3, [33], .null), (26, .aload_n 0, 1, [], .null), (27, .iload 4, 2, [], .null), (29, .invokevirtual 79, 3, [50, 2, 1, 6], .null), (32, .ireturn, 1, [], .null), (33, .aload_n 0, 1, [], .null), (34, .getfield 11, 3, [6, 0, 1], .null), (37, .iload_n 1, 1, [], .null), (38, .aaload, 1, [], .null), (39, .getfield 90, 3, [4, 0, 1], .null), (42, .iload_n 2, 1, [], .null), (43, .iaload, 1, [], .null), (44, .istore 5, 2, [], .null), (46, .aload_n 0, 1, [], .null), (47, .getfield 11, 3, [6, 0, 1], .null), (50, .iload_n 1, 1, [], .null), (51, .aaload, 1, [], .null), (52, .getfield 90, 3, [4, 0, 1], .null), (55, .iload_n 2, 1, [], .null), (56, .iload_n 3, 1, [], .null), (57, .iastore, 1, [], .null), (58, .aload_n 0, 1, [], .null), (59, .iload 5, 2, [], .null), (61, .invokevirtual 93, 3, [51, 2, 1, 6], .null), (64, .ireturn, 1, [], .null)]
def F_Bp_lay (x1 : Int32) (x2 : Int32) (x3 : Int32) (h : Hp) : Res Hp :=
  bI (F_Bp_noRow x1 h) fun v2 h1 =>
  if v2 = (0 : Int32) then
  (bif okR 1 x1 then
  bif okO (shR 1 x1.toNatClampNeg) 4 then
  bI (F_Sh_lackAt (shR 1 x1.toNatClampNeg) x2 h1) fun v4 h3 =>
  if v4 = (0 : Int32) then
  (bif okR 1 x1 then
  bif okF (shR 1 x1.toNatClampNeg) 4 0 1 then
  bif okA (shR (shR 1 x1.toNatClampNeg) 0) 100 x2 then
  bif okR 1 x1 then
  bif okF (shR 1 x1.toNatClampNeg) 4 0 1 then
  bif okA (shR (shR 1 x1.toNatClampNeg) 0) 100 x2 then
  bH (hs h3 (shR (shR 1 x1.toNatClampNeg) 0) x2.toNatClampNeg x3) fun h5 =>
  bI (F_Bp_tell (hg h3 (shR (shR 1 x1.toNatClampNeg) 0) x2.toNatClampNeg) h5) fun v7 h6 =>
  retI v7 h6
  else none
  else none
  else none
  else none
  else none
  else none)
  else
  (bI (F_Bp_found v4 h3) fun v9 h8 =>
  retI v9 h8)
  else none
  else none)
  else
  (retI (-1 : Int32) h1)
def sF_Bp_lay : List Value → Hp → Res Hp := fun as h => match as with | [.ref f0, .int x1, .int x2, .int x3] => (match Nat.beq f0 0 with | true => F_Bp_lay x1 x2 x3 h | false => none) | _ => none
theorem w_Bp_lay (x1 : Int32) (x2 : Int32) (x3 : Int32) (h : Hp) : sF_Bp_lay [.ref 0, .int x1, .int x2, .int x3] h = F_Bp_lay x1 x2 x3 h := rfl
def S_Bp_lay : Sem Hp := [(52, sF_Bp_noRow), (226, sF_Sh_lackAt), (51, sF_Bp_tell), (50, sF_Bp_found)]
set_option maxRecDepth 100000 in
theorem e_Bp_lay_0 (x1 : Int32) (x2 : Int32) (x3 : Int32) (h : Hp) : F_Bp_lay x1 x2 x3 h = exec1 OI S_Bp_lay 1 k_Bp_lay 0 [some (.ref 0), some (.int x1), some (.int x2), some (.int x3), none, none] [] h (runF OI S_Bp_lay [] 1 k_Bp_lay 400) :=
  (x_bI (f := sF_Bp_noRow) rfl (w_Bp_noRow _ _) fun v2 h1 => (x_ite (x_bif (x_bif (x_bI (f := sF_Sh_lackAt) rfl (w_Sh_lackAt _ _ _) fun v4 h3 => (x_ite (x_bif (x_bif (x_bif (x_bif (x_bif (x_bif (x_bH fun h5 => (x_bI (f := sF_Bp_tell) rfl (w_Bp_tell _ _) fun v7 h6 => rfl)))))))) (x_bI (f := sF_Bp_found) rfl (w_Bp_found _ _) fun v9 h8 => rfl))))) rfl))
def k_Bp_at : List Ent := [(0, .iload_n 1, 1, [], .null), (1, .invokestatic 75, 3, [52, 1, 2], .null), (4, .ifCond .eq (5), 3, [9], .null), (7, .iconst (-1), 1, [], .int (-1)), (8, .ireturn, 1, [], .null), (9, .aload_n 0, 1, [], .null), (10, .getfield 11, 3, [6, 0, 1], .null), (13, .iload_n 1, 1, [], .null), (14, .aaload, 1, [], .null), (15, .iload_n 2, 1, [], .null), (16, .invokevirtual 87, 3, [226, 2, 1, 4], .null), (19, .istore_n 3, 1, [], .null), (20, .iload_n 3, 1, [], .null), (21, .ifCond .eq (9), 3, [30], .null), (24, .aload_n 0, 1, [], .null), (25, .iload_n 3, 1, [], .null), (26, .invokevirtual 79, 3, [50, 2, 1, 6], .null), (29, .ireturn, 1, [], .null), (30, .aload_n 0, 1, [], .null), (31, .aload_n 0, 1, [], .null), (32, .getfield 11, 3, [6, 0, 1], .null), (35, .iload_n 1, 1, [], .null), (36, .aaload, 1, [], .null), (37, .getfield 90, 3, [4, 0, 1], .null), (40, .iload_n 2, 1, [], .null), (41, .iaload, 1, [], .null), (42, .invokevirtual 93, 3, [51, 2, 1, 6], .null), (45, .ireturn, 1, [], .null)]
def F_Bp_at (x1 : Int32) (x2 : Int32) (h : Hp) : Res Hp :=
  bI (F_Bp_noRow x1 h) fun v2 h1 =>
  if v2 = (0 : Int32) then
  (bif okR 1 x1 then
  bif okO (shR 1 x1.toNatClampNeg) 4 then
  bI (F_Sh_lackAt (shR 1 x1.toNatClampNeg) x2 h1) fun v4 h3 =>
  if v4 = (0 : Int32) then
  (bif okR 1 x1 then
  bif okF (shR 1 x1.toNatClampNeg) 4 0 1 then
  bif okA (shR (shR 1 x1.toNatClampNeg) 0) 100 x2 then
  bI (F_Bp_tell (hg h3 (shR (shR 1 x1.toNatClampNeg) 0) x2.toNatClampNeg) h3) fun v6 h5 =>
  retI v6 h5
  else none
  else none
  else none)
  else
  (bI (F_Bp_found v4 h3) fun v8 h7 =>
  retI v8 h7)
  else none
  else none)
  else
  (retI (-1 : Int32) h1)
def sF_Bp_at : List Value → Hp → Res Hp := fun as h => match as with | [.ref f0, .int x1, .int x2] => (match Nat.beq f0 0 with | true => F_Bp_at x1 x2 h | false => none) | _ => none
theorem w_Bp_at (x1 : Int32) (x2 : Int32) (h : Hp) : sF_Bp_at [.ref 0, .int x1, .int x2] h = F_Bp_at x1 x2 h := rfl
def S_Bp_at : Sem Hp := [(52, sF_Bp_noRow), (226, sF_Sh_lackAt), (51, sF_Bp_tell), (50, sF_Bp_found)]
set_option maxRecDepth 100000 in
theorem e_Bp_at_0 (x1 : Int32) (x2 : Int32) (h : Hp) : F_Bp_at x1 x2 h = exec1 OI S_Bp_at 1 k_Bp_at 0 [some (.ref 0), some (.int x1), some (.int x2), none] [] h (runF OI S_Bp_at [] 1 k_Bp_at 400) :=
  (x_bI (f := sF_Bp_noRow) rfl (w_Bp_noRow _ _) fun v2 h1 => (x_ite (x_bif (x_bif (x_bI (f := sF_Sh_lackAt) rfl (w_Sh_lackAt _ _ _) fun v4 h3 => (x_ite (x_bif (x_bif (x_bif (x_bI (f := sF_Bp_tell) rfl (w_Bp_tell _ _) fun v6 h5 => rfl)))) (x_bI (f := sF_Bp_found) rfl (w_Bp_found _ _) fun v8 h7 => rfl))))) rfl))
def k_Bp_tear : List Ent := [(0, .iload_n 1, 1, [], .null), (1, .invokestatic 75, 3, [52, 1, 2], .null), (4, .ifCond .eq (5), 3, [9], .null), (7, .iconst (-1), 1, [], .int (-1)), (8, .ireturn, 1, [], .null), (9, .aload_n 0, 1, [], .null), (10, .getfield 11, 3, [6, 0, 1], .null), (13, .iload_n 1, 1, [], .null), (14, .aaload, 1, [], .null), (15, .invokevirtual 96, 3, [225, 1, 2, 4], .null), (18, .ifCond .ne (9), 3, [27], .null), (21, .aload_n 0, 1, [], .null), (22, .iconst 1, 1, [], .int (1)), (23, .invokevirtual 79, 3, [50, 2, 1, 6], .null), (26, .ireturn, 1, [], .null), (27, .aload_n 0, 1, [], .null), (28, .getfield 11, 3, [6, 0, 1], .null), (31, .iload_n 1, 1, [], .null), (32, .aaload, 1, [], .null), (33, .iconst (-1), 1, [], .int (-1)), (34, .putfield 100, 3, [4, 1, 0], .null), (37, .iconst 1, 1, [], .int (1)), (38, .ireturn, 1, [], .null)]
def F_Bp_tear (x1 : Int32) (h : Hp) : Res Hp :=
  bI (F_Bp_noRow x1 h) fun v2 h1 =>
  if v2 = (0 : Int32) then
  (bif okR 1 x1 then
  bif okO (shR 1 x1.toNatClampNeg) 4 then
  bI (F_Sh_isThere (shR 1 x1.toNatClampNeg) h1) fun v4 h3 =>
  if v4 = (0 : Int32) then
  (bI (F_Bp_found (1 : Int32) h3) fun v7 h6 =>
  retI v7 h6)
  else
  (bif okR 1 x1 then
  bif okF (shR 1 x1.toNatClampNeg) 4 1 0 then
  bH (hs h3 (shR 1 x1.toNatClampNeg) 1 (-1 : Int32)) fun h5 =>
  retI (1 : Int32) h5
  else none
  else none)
  else none
  else none)
  else
  (retI (-1 : Int32) h1)
def sF_Bp_tear : List Value → Hp → Res Hp := fun as h => match as with | [.ref f0, .int x1] => (match Nat.beq f0 0 with | true => F_Bp_tear x1 h | false => none) | _ => none
theorem w_Bp_tear (x1 : Int32) (h : Hp) : sF_Bp_tear [.ref 0, .int x1] h = F_Bp_tear x1 h := rfl
def S_Bp_tear : Sem Hp := [(52, sF_Bp_noRow), (225, sF_Sh_isThere), (50, sF_Bp_found)]
set_option maxRecDepth 100000 in
theorem e_Bp_tear_0 (x1 : Int32) (h : Hp) : F_Bp_tear x1 h = exec1 OI S_Bp_tear 1 k_Bp_tear 0 [some (.ref 0), some (.int x1)] [] h (runF OI S_Bp_tear [] 1 k_Bp_tear 400) :=
  (x_bI (f := sF_Bp_noRow) rfl (w_Bp_noRow _ _) fun v2 h1 => (x_ite (x_bif (x_bif (x_bI (f := sF_Sh_isThere) rfl (w_Sh_isThere _ _) fun v4 h3 => (x_ite (x_bI (f := sF_Bp_found) rfl (w_Bp_found _ _) fun v7 h6 => rfl) (x_bif (x_bif (x_bH fun h5 => rfl))))))) rfl))
def k_Sh_spans : List Ent := [(0, .iload_n 1, 1, [], .null), (1, .ifCond .lt (29), 3, [30], .null), (4, .iload_n 1, 1, [], .null), (5, .aload_n 0, 1, [], .null), (6, .getfield 11, 3, [4, 1, 0], .null), (9, .if_icmp .gt (21), 3, [30], .null), (12, .iload_n 2, 1, [], .null), (13, .ifCond .lt (17), 3, [30], .null), (16, .iload_n 2, 1, [], .null), (17, .aload_n 0, 1, [], .null), (18, .getfield 11, 3, [4, 1, 0], .null), (21, .iload_n 1, 1, [], .null), (22, .isub, 1, [], .null), (23, .if_icmp .gt (7), 3, [30], .null), (26, .iconst 1, 1, [], .int (1)), (27, .goto (4), 3, [31], .null), (30, .iconst 0, 1, [], .int (0)), (31, .ireturn, 1, [], .null)]
def F_Sh_spans (o0 : Nat) (x1 : Int32) (x2 : Int32) (h : Hp) : Res Hp :=
  if x1 < (0 : Int32) then
  (retZ (0 : Int32) h)
  else
  (bif okF o0 4 1 0 then
  if (hg h o0 1) < x1 then
  (retZ (0 : Int32) h)
  else
  (if x2 < (0 : Int32) then
  (retZ (0 : Int32) h)
  else
  (bif okF o0 4 1 0 then
  if ((hg h o0 1) - x1) < x2 then
  (retZ (0 : Int32) h)
  else
  (retZ (1 : Int32) h)
  else none))
  else none)
def sF_Sh_spans : List Value → Hp → Res Hp := fun as h => match as with | [.ref o0, .int x1, .int x2] => F_Sh_spans o0 x1 x2 h | _ => none
theorem w_Sh_spans (o0 : Nat) (x1 : Int32) (x2 : Int32) (h : Hp) : sF_Sh_spans [.ref o0, .int x1, .int x2] h = F_Sh_spans o0 x1 x2 h := rfl
def S_Sh_spans : Sem Hp := []
set_option maxRecDepth 100000 in
theorem e_Sh_spans_0 (o0 : Nat) (x1 : Int32) (x2 : Int32) (h : Hp) : F_Sh_spans o0 x1 x2 h = exec1 OI S_Sh_spans 2 k_Sh_spans 0 [some (.ref o0), some (.int x1), some (.int x2)] [] h (runF OI S_Sh_spans [] 2 k_Sh_spans 400) :=
  (x_ite rfl (x_bif (x_ite rfl (x_ite rfl (x_bif (x_ite rfl rfl))))))
def k_Bp_copy : List Ent := [(0, .iload_n 1, 1, [], .null), (1, .invokestatic 75, 3, [52, 1, 2], .null), (4, .ifCond .ne (10), 3, [14], .null), (7, .iload_n 3, 1, [], .null), (8, .invokestatic 75, 3, [52, 1, 2], .null), (11, .ifCond .eq (5), 3, [16], .null), (14, .iconst (-1), 1, [], .int (-1)), (15, .ireturn, 1, [], .null), (16, .iload 5, 2, [], .null), (18, .ifCond .ge (9), 3, [27], .null), (21, .aload_n 0, 1, [], .null), (22, .iconst 5, 1, [], .int (5)), (23, .invokevirtual 79, 3, [50, 2, 1, 6], .null), (26, .ireturn, 1, [], .null), (27, .aload_n 0, 1, [], .null), (28, .getfield 11, 3, [6, 0, 1], .null), (31, .iload_n 1, 1, [], .null), (32, .aaload, 1, [], .null), (33, .invokevirtual 96, 3, [225, 1, 2, 4], .null), (36, .ifCond .eq (15), 3, [51], .null), (39, .aload_n 0, 1, [], .null), (40, .getfield 11, 3, [6, 0, 1], .null), (43, .iload_n 3, 1, [], .null), (44, .aaload, 1, [], .null), (45, .invokevirtual 96, 3, [225, 1, 2, 4], .null), (48, .ifCond .ne (9), 3, [57], .null), (51, .aload_n 0, 1, [], .null), (52, .iconst 1, 1, [], .int (1)), (53, .invokevirtual 79, 3, [50, 2, 1, 6], .null), (56, .ireturn, 1, [], .null), (57, .aload_n 0, 1, [], .null), (58, .getfield 11, 3, [6, 0, 1], .null), (61, .iload_n 1, 1, [], .null), (62, .aaload, 1, [], .null), (63, .iload_n 2, 1, [], .null), (64, .iload 5, 2, [], .null), (66, .invokevirtual 103, 3, [227, 3, 2, 4], .null), (69, .ifCond .eq (19), 3, [88], .null), (72, .aload_n 0, 1, [], .null), (73, .getfield 11, 3, [6, 0, 1], .null), (76, .iload_n 3, 1, [], .null), (77, .aaload, 1, [], .null), (78, .iload 4, 2, [], .null), (80, .iload 5, 2, [], .null), (82, .invokevirtual 103, 3, [227, 3, 2, 4], .null), (85, .ifCond .ne (9), 3, [94], .null), (88, .aload_n 0, 1, [], .null), (89, .iconst 2, 1, [], .int (2)), (90, .invokevirtual 79, 3, [50, 2, 1, 6], .null), (93, .ireturn, 1, [], .null), (94, .aload_n 0, 1, [], .null), (95, .getfield 11, 3, [6, 0, 1], .null), (98, .iload_n 1, 1, [], .null), (99, .aaload, 1, [], .null), (100, .getfield 90, 3, [4, 0, 1], .null), (103, .iload_n 2, 1, [], .null), (104, .aload_n 0, 1, [], .null), (105, .getfield 11, 3, [6, 0, 1], .null), (108, .iload_n 3, 1, [], .null), (109, .aaload, 1, [], .null), (110, .getfield 90, 3, [4, 0, 1], .null), (113, .iload 4, 2, [], .null), (115, .iload 5, 2, [], .null), (117, .invokestatic 107, 3, [], .null), (120, .iconst 1, 1, [], .int (1)), (121, .ireturn, 1, [], .null)]
def F_Bp_copy (x1 : Int32) (x2 : Int32) (x3 : Int32) (x4 : Int32) (x5 : Int32) (h : Hp) : Res Hp :=
  bI (F_Bp_noRow x1 h) fun v2 h1 =>
  if v2 = (0 : Int32) then
  (bI (F_Bp_noRow x3 h1) fun v4 h3 =>
  if v4 = (0 : Int32) then
  (if (0 : Int32) ≤ x5 then
  (bif okR 1 x1 then
  bif okO (shR 1 x1.toNatClampNeg) 4 then
  bI (F_Sh_isThere (shR 1 x1.toNatClampNeg) h3) fun v6 h5 =>
  if v6 = (0 : Int32) then
  (bI (F_Bp_found (1 : Int32) h5) fun v8 h7 =>
  retI v8 h7)
  else
  (bif okR 1 x3 then
  bif okO (shR 1 x3.toNatClampNeg) 4 then
  bI (F_Sh_isThere (shR 1 x3.toNatClampNeg) h5) fun v10 h9 =>
  if v10 = (0 : Int32) then
  (bI (F_Bp_found (1 : Int32) h9) fun v21 h20 =>
  retI v21 h20)
  else
  (bif okR 1 x1 then
  bif okO (shR 1 x1.toNatClampNeg) 4 then
  bI (F_Sh_spans (shR 1 x1.toNatClampNeg) x2 x5 h9) fun v12 h11 =>
  if v12 = (0 : Int32) then
  (bI (F_Bp_found (2 : Int32) h11) fun v14 h13 =>
  retI v14 h13)
  else
  (bif okR 1 x3 then
  bif okO (shR 1 x3.toNatClampNeg) 4 then
  bI (F_Sh_spans (shR 1 x3.toNatClampNeg) x4 x5 h11) fun v16 h15 =>
  if v16 = (0 : Int32) then
  (bI (F_Bp_found (2 : Int32) h15) fun v19 h18 =>
  retI v19 h18)
  else
  (bif okR 1 x1 then
  bif okF (shR 1 x1.toNatClampNeg) 4 0 1 then
  bif okR 1 x3 then
  bif okF (shR 1 x3.toNatClampNeg) 4 0 1 then
  bif okC (shR (shR 1 x1.toNatClampNeg) 0) x2 (shR (shR 1 x3.toNatClampNeg) 0) x4 x5 then
  bH (hcp h15 (shR (shR 1 x1.toNatClampNeg) 0) x2 (shR (shR 1 x3.toNatClampNeg) 0) x4 x5) fun h17 =>
  retI (1 : Int32) h17
  else none
  else none
  else none
  else none
  else none)
  else none
  else none)
  else none
  else none)
  else none
  else none)
  else none
  else none)
  else
  (bI (F_Bp_found (5 : Int32) h3) fun v23 h22 =>
  retI v23 h22))
  else
  (retI (-1 : Int32) h3))
  else
  (retI (-1 : Int32) h1)
def sF_Bp_copy : List Value → Hp → Res Hp := fun as h => match as with | [.ref f0, .int x1, .int x2, .int x3, .int x4, .int x5] => (match Nat.beq f0 0 with | true => F_Bp_copy x1 x2 x3 x4 x5 h | false => none) | _ => none
theorem w_Bp_copy (x1 : Int32) (x2 : Int32) (x3 : Int32) (x4 : Int32) (x5 : Int32) (h : Hp) : sF_Bp_copy [.ref 0, .int x1, .int x2, .int x3, .int x4, .int x5] h = F_Bp_copy x1 x2 x3 x4 x5 h := rfl
def S_Bp_copy : Sem Hp := [(52, sF_Bp_noRow), (225, sF_Sh_isThere), (50, sF_Bp_found), (227, sF_Sh_spans)]
set_option maxRecDepth 100000 in
theorem e_Bp_copy_0 (x1 : Int32) (x2 : Int32) (x3 : Int32) (x4 : Int32) (x5 : Int32) (h : Hp) : F_Bp_copy x1 x2 x3 x4 x5 h = exec1 OI S_Bp_copy 1 k_Bp_copy 0 [some (.ref 0), some (.int x1), some (.int x2), some (.int x3), some (.int x4), some (.int x5)] [] h (runF OI S_Bp_copy [] 1 k_Bp_copy 400) :=
  (x_bI (f := sF_Bp_noRow) rfl (w_Bp_noRow _ _) fun v2 h1 => (x_ite (x_bI (f := sF_Bp_noRow) rfl (w_Bp_noRow _ _) fun v4 h3 => (x_ite (x_ite (x_bif (x_bif (x_bI (f := sF_Sh_isThere) rfl (w_Sh_isThere _ _) fun v6 h5 => (x_ite (x_bI (f := sF_Bp_found) rfl (w_Bp_found _ _) fun v8 h7 => rfl) (x_bif (x_bif (x_bI (f := sF_Sh_isThere) rfl (w_Sh_isThere _ _) fun v10 h9 => (x_ite (x_bI (f := sF_Bp_found) rfl (w_Bp_found _ _) fun v21 h20 => rfl) (x_bif (x_bif (x_bI (f := sF_Sh_spans) rfl (w_Sh_spans _ _ _ _) fun v12 h11 => (x_ite (x_bI (f := sF_Bp_found) rfl (w_Bp_found _ _) fun v14 h13 => rfl) (x_bif (x_bif (x_bI (f := sF_Sh_spans) rfl (w_Sh_spans _ _ _ _) fun v16 h15 => (x_ite (x_bI (f := sF_Bp_found) rfl (w_Bp_found _ _) fun v19 h18 => rfl) (x_bif (x_bif (x_bif (x_bif (x_bif (x_bH fun h17 => rfl)))))))))))))))))))))) (x_bI (f := sF_Bp_found) rfl (w_Bp_found _ _) fun v23 h22 => rfl)) rfl)) rfl))
def k_Sh_sum : List Ent := [(0, .lconst 0, 1, [], .long 0), (1, .lstore_n 1, 1, [], .null), (2, .iconst 0, 1, [], .int (0)), (3, .istore_n 3, 1, [], .null), (4, .iload_n 3, 1, [], .null), (5, .aload_n 0, 1, [], .null), (6, .getfield 11, 3, [4, 1, 0], .null), (9, .if_icmp .ge (19), 3, [28], .null), (12, .lload_n 1, 1, [], .null), (13, .aload_n 0, 1, [], .null), (14, .getfield 15, 3, [4, 0, 1], .null), (17, .iload_n 3, 1, [], .null), (18, .iaload, 1, [], .null), (19, .i2l, 1, [], .null), (20, .ladd, 1, [], .null), (21, .lstore_n 1, 1, [], .null), (22, .iinc 3 (1), 3, [], .int (1)), (25, .goto (-21), 3, [4], .null), (28, .lload_n 1, 1, [], .null), (29, .lreturn, 1, [], .null)]
def Sh_sum_4    : (Nat × Int64 × Int32 × Hp) → ((Nat × Int64 × Int32 × Hp) → Res Hp) → Res Hp := fun s κ4 => match s with
  | (o0, y1, x3, h) =>
  bif okF o0 4 1 0 then
  if (hg h o0 1) ≤ x3 then
  (retL y1 h)
  else
  (bif okF o0 4 0 1 then
  bif okA (shR o0 0) 100 x3 then
  κ4 (o0, (y1 + (hg h (shR o0 0) x3.toNatClampNeg).toInt64), (x3 + (1 : Int32)), h)
  else none
  else none)
  else none
def F_Sh_sum (o0 : Nat) (h : Hp) : Res Hp :=
  loopC (Sh_sum_4   ) FU (o0, (0 : Int64), (0 : Int32), h)
def sF_Sh_sum : List Value → Hp → Res Hp := fun as h => match as with | [.ref o0] => F_Sh_sum o0 h | _ => none
theorem w_Sh_sum (o0 : Nat) (h : Hp) : sF_Sh_sum [.ref o0] h = F_Sh_sum o0 h := rfl
def S_Sh_sum : Sem Hp := []
set_option maxRecDepth 100000 in
theorem e_Sh_sum_0 (o0 : Nat) (h : Hp) : F_Sh_sum o0 h = exec1 OI S_Sh_sum 3 k_Sh_sum 0 [some (.ref o0), none, none, none] [] h (runF OI S_Sh_sum [(4, [0, 1, 3], fun vs st h => match vs, st with | [.ref o0, .long y1, .int x3], [] => loopC (Sh_sum_4   ) FU (o0, y1, x3, h) | _, _ => none)] 3 k_Sh_sum 400) :=
  rfl
set_option maxRecDepth 100000 in
theorem e_Sh_sum_4 (κ4 : (Nat × Int64 × Int32 × Hp) → Res Hp) (o0 : Nat) (y1 : Int64) (x3 : Int32)  (h : Hp) : Sh_sum_4    (o0, y1, x3, h) κ4 = exec1 OI S_Sh_sum 3 k_Sh_sum 4 [some (.ref o0), some (.long y1), none, some (.int x3)] [] h (runF OI S_Sh_sum [(4, [0, 1, 3], fun vs st h => match vs, st with | [.ref o0, .long y1, .int x3], [] => κ4 (o0, y1, x3, h) | _, _ => none)] 3 k_Sh_sum 400) :=
  (x_bif (x_ite rfl (x_bif (x_bif rfl))))
def k_Bp_mean : List Ent := [(0, .iload_n 1, 1, [], .null), (1, .invokestatic 75, 3, [52, 1, 2], .null), (4, .ifCond .eq (5), 3, [9], .null), (7, .iconst (-1), 1, [], .int (-1)), (8, .ireturn, 1, [], .null), (9, .aload_n 0, 1, [], .null), (10, .getfield 11, 3, [6, 0, 1], .null), (13, .iload_n 1, 1, [], .null), (14, .aaload, 1, [], .null), (15, .astore_n 2, 1, [], .null), (16, .aload_n 2, 1, [], .null), (17, .invokevirtual 96, 3, [225, 1, 2, 4], .null), (20, .ifCond .ne (9), 3, [29], .null), (23, .aload_n 0, 1, [], .null), (24, .iconst 1, 1, [], .int (1)), (25, .invokevirtual 79, 3, [50, 2, 1, 6], .null), (28, .ireturn, 1, [], .null), (29, .aload_n 2, 1, [], .null), (30, .getfield 100, 3, [4, 1, 0], .null), (33, .ifCond .ne (9), 3, [42], .null), (36, .aload_n 0, 1, [], .null), (37, .iconst 4, 1, [], .int (4)), (38, .invokevirtual 79, 3, [50, 2, 1, 6], .null), (41, .ireturn, 1, [], .null), (42, .aload_n 0, 1, [], .null), (43, .aload_n 2, 1, [], .null), (44, .invokevirtual 113, 3, [230, 1, 3, 4], .null), (47, .aload_n 2, 1, [], .null), (48, .getfield 100, 3, [4, 1, 0], .null), (51, .i2l, 1, [], .null), (52, .ldiv, 1, [], .null), (53, .l2i, 1, [], .null), (54, .invokevirtual 93, 3, [51, 2, 1, 6], .null), (57, .ireturn, 1, [], .null)]
def F_Bp_mean (x1 : Int32) (h : Hp) : Res Hp :=
  bI (F_Bp_noRow x1 h) fun v2 h1 =>
  if v2 = (0 : Int32) then
  (bif okR 1 x1 then
  bif okO (shR 1 x1.toNatClampNeg) 4 then
  bI (F_Sh_isThere (shR 1 x1.toNatClampNeg) h1) fun v4 h3 =>
  if v4 = (0 : Int32) then
  (bI (F_Bp_found (1 : Int32) h3) fun v12 h11 =>
  retI v12 h11)
  else
  (bif okF (shR 1 x1.toNatClampNeg) 4 1 0 then
  if (hg h3 (shR 1 x1.toNatClampNeg) 1) = (0 : Int32) then
  (bI (F_Bp_found (4 : Int32) h3) fun v10 h9 =>
  retI v10 h9)
  else
  (bif okO (shR 1 x1.toNatClampNeg) 4 then
  bL (F_Sh_sum (shR 1 x1.toNatClampNeg) h3) fun w6 h5 =>
  bif okF (shR 1 x1.toNatClampNeg) 4 1 0 then
  if (hg h5 (shR 1 x1.toNatClampNeg) 1).toInt64 = 0 then none else
  bI (F_Bp_tell ((w6 / (hg h5 (shR 1 x1.toNatClampNeg) 1).toInt64)).toInt32 h5) fun v8 h7 =>
  retI v8 h7
  else none
  else none)
  else none)
  else none
  else none)
  else
  (retI (-1 : Int32) h1)
def sF_Bp_mean : List Value → Hp → Res Hp := fun as h => match as with | [.ref f0, .int x1] => (match Nat.beq f0 0 with | true => F_Bp_mean x1 h | false => none) | _ => none
theorem w_Bp_mean (x1 : Int32) (h : Hp) : sF_Bp_mean [.ref 0, .int x1] h = F_Bp_mean x1 h := rfl
def S_Bp_mean : Sem Hp := [(52, sF_Bp_noRow), (225, sF_Sh_isThere), (230, sF_Sh_sum), (51, sF_Bp_tell), (50, sF_Bp_found)]
set_option maxRecDepth 100000 in
theorem e_Bp_mean_0 (x1 : Int32) (h : Hp) : F_Bp_mean x1 h = exec1 OI S_Bp_mean 1 k_Bp_mean 0 [some (.ref 0), some (.int x1), none] [] h (runF OI S_Bp_mean [] 1 k_Bp_mean 400) :=
  (x_bI (f := sF_Bp_noRow) rfl (w_Bp_noRow _ _) fun v2 h1 => (x_ite (x_bif (x_bif (x_bI (f := sF_Sh_isThere) rfl (w_Sh_isThere _ _) fun v4 h3 => (x_ite (x_bI (f := sF_Bp_found) rfl (w_Bp_found _ _) fun v12 h11 => rfl) (x_bif (x_ite (x_bI (f := sF_Bp_found) rfl (w_Bp_found _ _) fun v10 h9 => rfl) (x_bif (x_bL (f := sF_Sh_sum) rfl (w_Sh_sum _ _) fun w6 h5 => (x_bif (x_if0 (x_bI (f := sF_Bp_tell) rfl (w_Bp_tell _ _) fun v8 h7 => rfl))))))))))) rfl))
def k_Bp_noText : List Ent := [(0, .iload_n 0, 1, [], .null), (1, .ifCond .lt (8), 3, [9], .null), (4, .iload_n 0, 1, [], .null), (5, .iconst 4, 1, [], .int (4)), (6, .if_icmp .lt (7), 3, [13], .null), (9, .iconst 1, 1, [], .int (1)), (10, .goto (4), 3, [14], .null), (13, .iconst 0, 1, [], .int (0)), (14, .ireturn, 1, [], .null)]
def F_Bp_noText (x0 : Int32) (h : Hp) : Res Hp :=
  if x0 < (0 : Int32) then
  (retZ (1 : Int32) h)
  else
  (if x0 < (4 : Int32) then
  (retZ (0 : Int32) h)
  else
  (retZ (1 : Int32) h))
def sF_Bp_noText : List Value → Hp → Res Hp := fun as h => match as with | [.int x0] => F_Bp_noText x0 h | _ => none
theorem w_Bp_noText (x0 : Int32) (h : Hp) : sF_Bp_noText [.int x0] h = F_Bp_noText x0 h := rfl
def S_Bp_noText : Sem Hp := []
set_option maxRecDepth 100000 in
theorem e_Bp_noText_0 (x0 : Int32) (h : Hp) : F_Bp_noText x0 h = exec1 OI S_Bp_noText 2 k_Bp_noText 0 [some (.int x0)] [] h (runF OI S_Bp_noText [] 2 k_Bp_noText 400) :=
  (x_ite rfl (x_ite rfl rfl))
def k_Bp_text : List Ent := [(0, .iload_n 1, 1, [], .null), (1, .invokestatic 117, 3, [53, 1, 2], .null), (4, .ifCond .ne (9), 3, [13], .null), (7, .iload_n 2, 1, [], .null), (8, .bipush (80), 2, [], .int (80)), (10, .if_icmp .le (5), 3, [15], .null), (13, .iconst (-1), 1, [], .int (-1)), (14, .ireturn, 1, [], .null), (15, .iload_n 2, 1, [], .null), (16, .ifCond .ge (9), 3, [25], .null), (19, .aload_n 0, 1, [], .null), (20, .iconst 5, 1, [], .int (5)), (21, .invokevirtual 79, 3, [50, 2, 1, 6], .null), (24, .ireturn, 1, [], .null), (25, .aload_n 0, 1, [], .null), (26, .getfield 15, 3, [6, 1, 1], .null), (29, .iload_n 1, 1, [], .null), (30, .aaload, 1, [], .null), (31, .iload_n 2, 1, [], .null), (32, .bipush (32), 2, [], .int (32)), (34, .invokevirtual 83, 3, [228, 3, 0, 4], .null), (37, .iload_n 2, 1, [], .null), (38, .ireturn, 1, [], .null)]
def F_Bp_text (x1 : Int32) (x2 : Int32) (h : Hp) : Res Hp :=
  bI (F_Bp_noText x1 h) fun v2 h1 =>
  if v2 = (0 : Int32) then
  (if x2 ≤ (80 : Int32) then
  (if (0 : Int32) ≤ x2 then
  (bif okR 2 x1 then
  bif okO (shR 2 x1.toNatClampNeg) 4 then
  bV (F_Sh_renew (shR 2 x1.toNatClampNeg) x2 (32 : Int32) h1) fun h3 =>
  retI x2 h3
  else none
  else none)
  else
  (bI (F_Bp_found (5 : Int32) h1) fun v5 h4 =>
  retI v5 h4))
  else
  (retI (-1 : Int32) h1))
  else
  (retI (-1 : Int32) h1)
def sF_Bp_text : List Value → Hp → Res Hp := fun as h => match as with | [.ref f0, .int x1, .int x2] => (match Nat.beq f0 0 with | true => F_Bp_text x1 x2 h | false => none) | _ => none
theorem w_Bp_text (x1 : Int32) (x2 : Int32) (h : Hp) : sF_Bp_text [.ref 0, .int x1, .int x2] h = F_Bp_text x1 x2 h := rfl
def S_Bp_text : Sem Hp := [(53, sF_Bp_noText), (228, sF_Sh_renew), (50, sF_Bp_found)]
set_option maxRecDepth 100000 in
theorem e_Bp_text_0 (x1 : Int32) (x2 : Int32) (h : Hp) : F_Bp_text x1 x2 h = exec1 OI S_Bp_text 1 k_Bp_text 0 [some (.ref 0), some (.int x1), some (.int x2)] [] h (runF OI S_Bp_text [] 1 k_Bp_text 400) :=
  (x_bI (f := sF_Bp_noText) rfl (w_Bp_noText _ _) fun v2 h1 => (x_ite (x_ite (x_ite (x_bif (x_bif (x_bV (f := sF_Sh_renew) rfl (w_Sh_renew _ _ _ _) fun h3 => rfl))) (x_bI (f := sF_Bp_found) rfl (w_Bp_found _ _) fun v5 h4 => rfl)) rfl) rfl))
def k_Bp_put : List Ent := [(0, .iload_n 1, 1, [], .null), (1, .invokestatic 117, 3, [53, 1, 2], .null), (4, .ifCond .eq (5), 3, [9], .null), (7, .iconst (-1), 1, [], .int (-1)), (8, .ireturn, 1, [], .null), (9, .aload_n 0, 1, [], .null), (10, .getfield 15, 3, [6, 1, 1], .null), (13, .iload_n 1, 1, [], .null), (14, .aaload, 1, [], .null), (15, .iload_n 2, 1, [], .null), (16, .invokevirtual 87, 3, [226, 2, 1, 4], .null), (19, .istore 4, 2, [], .null), (21, .iload 4, 2, [], .null), (23, .ifCond .eq (10), 3, [33], .null), (26, .aload_n 0, 1, [], .null), (27, .iload 4, 2, [], .null), (29, .invokevirtual 79, 3, [50, 2, 1, 6], .null), (32, .ireturn, 1, [], .null), (33, .aload_n 0, 1, [], .null), (34, .getfield 15, 3, [6, 1, 1], .null), (37, .iload_n 1, 1, [], .null), (38, .aaload, 1, [], .null), (39, .getfield 90, 3, [4, 0, 1], .null), (42, .iload_n 2, 1, [], .null), (43, .iaload, 1, [], .null), (44, .istore 5, 2, [], .null), (46, .aload_n 0, 1, [], .null), (47, .getfield 15, 3, [6, 1, 1], .null), (50, .iload_n 1, 1, [], .null), (51, .aaload, 1, [], .null), (52, .getfield 90, 3, [4, 0, 1], .null), (55, .iload_n 2, 1, [], .null), (56, .iload_n 3, 1, [], .null), (57, .i2b, 1, [], .null), (58, .iastore, 1, [], .null), (59, .iload 5, 2, [], .null), (61, .sipush (1000), 3, [], .int (1000)), (64, .iadd, 1, [], .null), (65, .ireturn, 1, [], .null)]
def F_Bp_put (x1 : Int32) (x2 : Int32) (x3 : Int32) (h : Hp) : Res Hp :=
  bI (F_Bp_noText x1 h) fun v2 h1 =>
  if v2 = (0 : Int32) then
  (bif okR 2 x1 then
  bif okO (shR 2 x1.toNatClampNeg) 4 then
  bI (F_Sh_lackAt (shR 2 x1.toNatClampNeg) x2 h1) fun v4 h3 =>
  if v4 = (0 : Int32) then
  (bif okR 2 x1 then
  bif okF (shR 2 x1.toNatClampNeg) 4 0 1 then
  bif okA (shR (shR 2 x1.toNatClampNeg) 0) 100 x2 then
  bif okR 2 x1 then
  bif okF (shR 2 x1.toNatClampNeg) 4 0 1 then
  bif okA (shR (shR 2 x1.toNatClampNeg) 0) 100 x2 then
  bH (hs h3 (shR (shR 2 x1.toNatClampNeg) 0) x2.toNatClampNeg x3.toInt8.toInt32) fun h5 =>
  retI ((hg h3 (shR (shR 2 x1.toNatClampNeg) 0) x2.toNatClampNeg) + (1000 : Int32)) h5
  else none
  else none
  else none
  else none
  else none
  else none)
  else
  (bI (F_Bp_found v4 h3) fun v7 h6 =>
  retI v7 h6)
  else none
  else none)
  else
  (retI (-1 : Int32) h1)
def sF_Bp_put : List Value → Hp → Res Hp := fun as h => match as with | [.ref f0, .int x1, .int x2, .int x3] => (match Nat.beq f0 0 with | true => F_Bp_put x1 x2 x3 h | false => none) | _ => none
theorem w_Bp_put (x1 : Int32) (x2 : Int32) (x3 : Int32) (h : Hp) : sF_Bp_put [.ref 0, .int x1, .int x2, .int x3] h = F_Bp_put x1 x2 x3 h := rfl
def S_Bp_put : Sem Hp := [(53, sF_Bp_noText), (226, sF_Sh_lackAt), (50, sF_Bp_found)]
set_option maxRecDepth 100000 in
theorem e_Bp_put_0 (x1 : Int32) (x2 : Int32) (x3 : Int32) (h : Hp) : F_Bp_put x1 x2 x3 h = exec1 OI S_Bp_put 1 k_Bp_put 0 [some (.ref 0), some (.int x1), some (.int x2), some (.int x3), none, none] [] h (runF OI S_Bp_put [] 1 k_Bp_put 400) :=
  (x_bI (f := sF_Bp_noText) rfl (w_Bp_noText _ _) fun v2 h1 => (x_ite (x_bif (x_bif (x_bI (f := sF_Sh_lackAt) rfl (w_Sh_lackAt _ _ _) fun v4 h3 => (x_ite (x_bif (x_bif (x_bif (x_bif (x_bif (x_bif (x_bH fun h5 => rfl))))))) (x_bI (f := sF_Bp_found) rfl (w_Bp_found _ _) fun v7 h6 => rfl))))) rfl))
def k_Jarr_fill : List Ent := [(0, .iconst 0, 1, [], .int (0)), (1, .istore_n 2, 1, [], .null), (2, .aload_n 0, 1, [], .null), (3, .arraylength, 1, [], .null), (4, .istore_n 3, 1, [], .null), (5, .iload_n 2, 1, [], .null), (6, .iload_n 3, 1, [], .null), (7, .if_icmp .ge (13), 3, [20], .null), (10, .aload_n 0, 1, [], .null), (11, .iload_n 2, 1, [], .null), (12, .iload_n 1, 1, [], .null), (13, .iastore, 1, [], .null), (14, .iinc 2 (1), 3, [], .int (1)), (17, .goto (-12), 3, [5], .null), (20, .return_, 1, [], .null)]
def Jarr_fill_5    : (Nat × Int32 × Int32 × Int32 × Hp) → ((Nat × Int32 × Int32 × Int32 × Hp) → Res Hp) → Res Hp := fun s κ5 => match s with
  | (o0, x1, x2, x3, h) =>
  if x3 ≤ x2 then
  (retV h)
  else
  (bif okA o0 100 x2 then
  bH (hs h o0 x2.toNatClampNeg x1) fun h1 =>
  κ5 (o0, x1, (x2 + (1 : Int32)), x3, h1)
  else none)
def F_Jarr_fill (o0 : Nat) (x1 : Int32) (h : Hp) : Res Hp :=
  bif okN o0 then
  loopC (Jarr_fill_5   ) FU (o0, x1, (0 : Int32), (Int32.ofNat (shN o0)), h)
  else none
def sF_Jarr_fill : List Value → Hp → Res Hp := fun as h => match as with | [.ref o0, .int x1] => F_Jarr_fill o0 x1 h | _ => none
theorem w_Jarr_fill (o0 : Nat) (x1 : Int32) (h : Hp) : sF_Jarr_fill [.ref o0, .int x1] h = F_Jarr_fill o0 x1 h := rfl
def S_Jarr_fill : Sem Hp := []
set_option maxRecDepth 100000 in
theorem e_Jarr_fill_0 (o0 : Nat) (x1 : Int32) (h : Hp) : F_Jarr_fill o0 x1 h = exec1 OI S_Jarr_fill 0 k_Jarr_fill 0 [some (.ref o0), some (.int x1), none, none] [] h (runF OI S_Jarr_fill [(5, [0, 1, 2, 3], fun vs st h => match vs, st with | [.ref o0, .int x1, .int x2, .int x3], [] => loopC (Jarr_fill_5   ) FU (o0, x1, x2, x3, h) | _, _ => none)] 0 k_Jarr_fill 400) :=
  (x_bif rfl)
set_option maxRecDepth 100000 in
theorem e_Jarr_fill_5 (κ5 : (Nat × Int32 × Int32 × Int32 × Hp) → Res Hp) (o0 : Nat) (x1 : Int32) (x2 : Int32) (x3 : Int32)  (h : Hp) : Jarr_fill_5    (o0, x1, x2, x3, h) κ5 = exec1 OI S_Jarr_fill 0 k_Jarr_fill 5 [some (.ref o0), some (.int x1), some (.int x2), some (.int x3)] [] h (runF OI S_Jarr_fill [(5, [0, 1, 2, 3], fun vs st h => match vs, st with | [.ref o0, .int x1, .int x2, .int x3], [] => κ5 (o0, x1, x2, x3, h) | _, _ => none)] 0 k_Jarr_fill 400) :=
  (x_ite rfl (x_bif (x_bH fun h1 => rfl)))
def k_Bp_bit : List Ent := [(0, .iconst 1, 1, [], .int (1)), (1, .iload_n 0, 1, [], .null), (2, .ishl, 1, [], .null), (3, .ireturn, 1, [], .null)]
def F_Bp_bit (x0 : Int32) (h : Hp) : Res Hp :=
  retI ((1 : Int32) <<< (x0 &&& 31)) h
def sF_Bp_bit : List Value → Hp → Res Hp := fun as h => match as with | [.int x0] => F_Bp_bit x0 h | _ => none
theorem w_Bp_bit (x0 : Int32) (h : Hp) : sF_Bp_bit [.int x0] h = F_Bp_bit x0 h := rfl
def S_Bp_bit : Sem Hp := []
set_option maxRecDepth 100000 in
theorem e_Bp_bit_0 (x0 : Int32) (h : Hp) : F_Bp_bit x0 h = exec1 OI S_Bp_bit 1 k_Bp_bit 0 [some (.int x0)] [] h (runF OI S_Bp_bit [] 1 k_Bp_bit 400) :=
  rfl
def k_La_tie : List Ent := [(0, .aload_n 0, 1, [], .null), (1, .getfield 29, 3, [0, 5, 1], .null), (4, .iload_n 3, 1, [], .null), (5, .aaload, 1, [], .null), (6, .iload_n 1, 1, [], .null), (7, .dup2, 1, [], .null), (8, .iaload, 1, [], .null), (9, .iload_n 2, 1, [], .null), (10, .invokestatic 72, 3, [64, 1, 1], .null), (13, .ior, 1, [], .null), (14, .iastore, 1, [], .null), (15, .aload_n 0, 1, [], .null), (16, .getfield 29, 3, [0, 5, 1], .null), (19, .iload_n 3, 1, [], .null), (20, .aaload, 1, [], .null), (21, .iload_n 2, 1, [], .null), (22, .dup2, 1, [], .null), (23, .iaload, 1, [], .null), (24, .iload_n 1, 1, [], .null), (25, .invokestatic 72, 3, [64, 1, 1], .null), (28, .ior, 1, [], .null), (29, .iastore, 1, [], .null), (30, .aload_n 0, 1, [], .null), (31, .getfield 32, 3, [0, 6, 1], .null), (34, .iload_n 1, 1, [], .null), (35, .dup2, 1, [], .null), (36, .iaload, 1, [], .null), (37, .iload_n 2, 1, [], .null), (38, .invokestatic 72, 3, [64, 1, 1], .null), (41, .ior, 1, [], .null), (42, .iastore, 1, [], .null), (43, .aload_n 0, 1, [], .null), (44, .getfield 32, 3, [0, 6, 1], .null), (47, .iload_n 2, 1, [], .null), (48, .dup2, 1, [], .null), (49, .iaload, 1, [], .null), (50, .iload_n 1, 1, [], .null), (51, .invokestatic 72, 3, [64, 1, 1], .null), (54, .ior, 1, [], .null), (55, .iastore, 1, [], .null), (56, .return_, 1, [], .null)]
def F_La_tie (o0 : Nat) (x1 : Int32) (x2 : Int32) (x3 : Int32) (h : Hp) : Res Hp :=
  bif okF o0 0 5 1 then
  bif okR (shR o0 5) x3 then
  bif okA (shR (shR o0 5) x3.toNatClampNeg) 100 x1 then
  bI (F_Bp_bit x2 h) fun v2 h1 =>
  bif okA (shR (shR o0 5) x3.toNatClampNeg) 100 x1 then
  bH (hs h1 (shR (shR o0 5) x3.toNatClampNeg) x1.toNatClampNeg ((hg h (shR (shR o0 5) x3.toNatClampNeg) x1.toNatClampNeg) ||| v2)) fun h3 =>
  bif okF o0 0 5 1 then
  bif okR (shR o0 5) x3 then
  bif okA (shR (shR o0 5) x3.toNatClampNeg) 100 x2 then
  bI (F_Bp_bit x1 h3) fun v5 h4 =>
  bif okA (shR (shR o0 5) x3.toNatClampNeg) 100 x2 then
  bH (hs h4 (shR (shR o0 5) x3.toNatClampNeg) x2.toNatClampNeg ((hg h3 (shR (shR o0 5) x3.toNatClampNeg) x2.toNatClampNeg) ||| v5)) fun h6 =>
  bif okF o0 0 6 1 then
  bif okA (shR o0 6) 100 x1 then
  bI (F_Bp_bit x2 h6) fun v8 h7 =>
  bif okA (shR o0 6) 100 x1 then
  bH (hs h7 (shR o0 6) x1.toNatClampNeg ((hg h6 (shR o0 6) x1.toNatClampNeg) ||| v8)) fun h9 =>
  bif okF o0 0 6 1 then
  bif okA (shR o0 6) 100 x2 then
  bI (F_Bp_bit x1 h9) fun v11 h10 =>
  bif okA (shR o0 6) 100 x2 then
  bH (hs h10 (shR o0 6) x2.toNatClampNeg ((hg h9 (shR o0 6) x2.toNatClampNeg) ||| v11)) fun h12 =>
  retV h12
  else none
  else none
  else none
  else none
  else none
  else none
  else none
  else none
  else none
  else none
  else none
  else none
  else none
  else none
def sF_La_tie : List Value → Hp → Res Hp := fun as h => match as with | [.ref o0, .int x1, .int x2, .int x3] => F_La_tie o0 x1 x2 x3 h | _ => none
theorem w_La_tie (o0 : Nat) (x1 : Int32) (x2 : Int32) (x3 : Int32) (h : Hp) : sF_La_tie [.ref o0, .int x1, .int x2, .int x3] h = F_La_tie o0 x1 x2 x3 h := rfl
def S_La_tie : Sem Hp := [(64, sF_Bp_bit)]
set_option maxRecDepth 100000 in
theorem e_La_tie_0 (o0 : Nat) (x1 : Int32) (x2 : Int32) (x3 : Int32) (h : Hp) : F_La_tie o0 x1 x2 x3 h = exec1 OI S_La_tie 0 k_La_tie 0 [some (.ref o0), some (.int x1), some (.int x2), some (.int x3)] [] h (runF OI S_La_tie [] 0 k_La_tie 400) :=
  (x_bif (x_bif (x_bif (x_bI (f := sF_Bp_bit) rfl (w_Bp_bit _ _) fun v2 h1 => (x_bif (x_bH fun h3 => (x_bif (x_bif (x_bif (x_bI (f := sF_Bp_bit) rfl (w_Bp_bit _ _) fun v5 h4 => (x_bif (x_bH fun h6 => (x_bif (x_bif (x_bI (f := sF_Bp_bit) rfl (w_Bp_bit _ _) fun v8 h7 => (x_bif (x_bH fun h9 => (x_bif (x_bif (x_bI (f := sF_Bp_bit) rfl (w_Bp_bit _ _) fun v11 h10 => (x_bif (x_bH fun h12 => rfl))))))))))))))))))))))
def k_La_tieAll : List Ent := [(0, .aload_n 0, 1, [], .null), (1, .getfield 32, 3, [0, 6, 1], .null), (4, .iconst 0, 1, [], .int (0)), (5, .invokestatic 76, 3, [254, 2, 0], .null), (8, .iconst 0, 1, [], .int (0)), (9, .istore_n 1, 1, [], .null), (10, .iload_n 1, 1, [], .null), (11, .bipush (8), 2, [], .int (8)), (13, .if_icmp .ge (19), 3, [32], .null), (16, .aload_n 0, 1, [], .null), (17, .getfield 29, 3, [0, 5, 1], .null), (20, .iload_n 1, 1, [], .null), (21, .aaload, 1, [], .null), (22, .iconst 0, 1, [], .int (0)), (23, .invokestatic 76, 3, [254, 2, 0], .null), (26, .iinc 1 (1), 3, [], .int (1)), (29, .goto (-19), 3, [10], .null), (32, .iconst 0, 1, [], .int (0)), (33, .istore_n 1, 1, [], .null), (34, .iload_n 1, 1, [], .null), (35, .aload_n 0, 1, [], .null), (36, .getfield 45, 3, [0, 9, 0], .null), (39, .if_icmp .ge (31), 3, [70], .null), (42, .aload_n 0, 1, [], .null), (43, .aload_n 0, 1, [], .null), (44, .getfield 18, 3, [0, 2, 1], .null), (47, .iload_n 1, 1, [], .null), (48, .iaload, 1, [], .null), (49, .aload_n 0, 1, [], .null), (50, .getfield 21, 3, [0, 3, 1], .null), (53, .iload_n 1, 1, [], .null), (54, .iaload, 1, [], .null), (55, .aload_n 0, 1, [], .null), (56, .getfield 24, 3, [0, 4, 1], .null), (59, .iload_n 1, 1, [], .null), (60, .iaload, 1, [], .null), (61, .invokevirtual 68, 3, [178, 4, 0, 0], .null), (64, .iinc 1 (1), 3, [], .int (1)), (67, .goto (-33), 3, [34], .null), (70, .return_, 1, [], .null)]
def La_tieAll_34    : (Nat × Int32 × Hp) → ((Nat × Int32 × Hp) → Res Hp) → Res Hp := fun s κ34 => match s with
  | (o0, x1, h) =>
  bif okF o0 0 9 0 then
  if (hg h o0 9) ≤ x1 then
  (retV h)
  else
  (bif okF o0 0 2 1 then
  bif okA (shR o0 2) 100 x1 then
  bif okF o0 0 3 1 then
  bif okA (shR o0 3) 100 x1 then
  bif okF o0 0 4 1 then
  bif okA (shR o0 4) 100 x1 then
  bif okO o0 0 then
  bV (F_La_tie o0 (hg h (shR o0 2) x1.toNatClampNeg) (hg h (shR o0 3) x1.toNatClampNeg) (hg h (shR o0 4) x1.toNatClampNeg) h) fun h1 =>
  κ34 (o0, (x1 + (1 : Int32)), h1)
  else none
  else none
  else none
  else none
  else none
  else none
  else none)
  else none
def La_tieAll_10    : (Nat × Int32 × Hp) → ((Nat × Int32 × Hp) → Res Hp) → Res Hp := fun s κ10 => match s with
  | (o0, x1, h) =>
  if (8 : Int32) ≤ x1 then
  (loopC (La_tieAll_34   ) FU (o0, (0 : Int32), h))
  else
  (bif okF o0 0 5 1 then
  bif okR (shR o0 5) x1 then
  bV (F_Jarr_fill (shR (shR o0 5) x1.toNatClampNeg) (0 : Int32) h) fun h1 =>
  κ10 (o0, (x1 + (1 : Int32)), h1)
  else none
  else none)
def F_La_tieAll (o0 : Nat) (h : Hp) : Res Hp :=
  bif okF o0 0 6 1 then
  bV (F_Jarr_fill (shR o0 6) (0 : Int32) h) fun h1 =>
  loopC (La_tieAll_10   ) FU (o0, (0 : Int32), h1)
  else none
def sF_La_tieAll : List Value → Hp → Res Hp := fun as h => match as with | [.ref o0] => F_La_tieAll o0 h | _ => none
theorem w_La_tieAll (o0 : Nat) (h : Hp) : sF_La_tieAll [.ref o0] h = F_La_tieAll o0 h := rfl
def S_La_tieAll : Sem Hp := [(254, sF_Jarr_fill), (178, sF_La_tie)]
set_option maxRecDepth 100000 in
theorem e_La_tieAll_0 (o0 : Nat) (h : Hp) : F_La_tieAll o0 h = exec1 OI S_La_tieAll 0 k_La_tieAll 0 [some (.ref o0), none] [] h (runF OI S_La_tieAll [(10, [0, 1], fun vs st h => match vs, st with | [.ref o0, .int x1], [] => loopC (La_tieAll_10   ) FU (o0, x1, h) | _, _ => none)] 0 k_La_tieAll 400) :=
  (x_bif (x_bV (f := sF_Jarr_fill) rfl (w_Jarr_fill _ _ _) fun h1 => rfl))
set_option maxRecDepth 100000 in
theorem e_La_tieAll_10 (κ10 : (Nat × Int32 × Hp) → Res Hp) (o0 : Nat) (x1 : Int32)  (h : Hp) : La_tieAll_10    (o0, x1, h) κ10 = exec1 OI S_La_tieAll 0 k_La_tieAll 10 [some (.ref o0), some (.int x1)] [] h (runF OI S_La_tieAll [(34, [0, 1], fun vs st h => match vs, st with | [.ref o0, .int x1], [] => loopC (La_tieAll_34   ) FU (o0, x1, h) | _, _ => none), (10, [0, 1], fun vs st h => match vs, st with | [.ref o0, .int x1], [] => κ10 (o0, x1, h) | _, _ => none)] 0 k_La_tieAll 400) :=
  (x_ite rfl (x_bif (x_bif (x_bV (f := sF_Jarr_fill) rfl (w_Jarr_fill _ _ _) fun h1 => rfl))))
set_option maxRecDepth 100000 in
theorem e_La_tieAll_34 (κ34 : (Nat × Int32 × Hp) → Res Hp) (o0 : Nat) (x1 : Int32)  (h : Hp) : La_tieAll_34    (o0, x1, h) κ34 = exec1 OI S_La_tieAll 0 k_La_tieAll 34 [some (.ref o0), some (.int x1)] [] h (runF OI S_La_tieAll [(34, [0, 1], fun vs st h => match vs, st with | [.ref o0, .int x1], [] => κ34 (o0, x1, h) | _, _ => none)] 0 k_La_tieAll 400) :=
  (x_bif (x_ite rfl (x_bif (x_bif (x_bif (x_bif (x_bif (x_bif (x_bif (x_bV (f := sF_La_tie) rfl (w_La_tie _ _ _ _ _) fun h1 => rfl))))))))))
def k_La_clear : List Ent := [(0, .aload_n 0, 1, [], .null), (1, .iconst 0, 1, [], .int (0)), (2, .putfield 41, 3, [0, 8, 0], .null), (5, .aload_n 0, 1, [], .null), (6, .iconst 0, 1, [], .int (0)), (7, .putfield 45, 3, [0, 9, 0], .null), (10, .aload_n 0, 1, [], .null), (11, .iconst 0, 1, [], .int (0)), (12, .putfield 48, 3, [0, 10, 0], .null), (15, .aload_n 0, 1, [], .null), (16, .iconst 0, 1, [], .int (0)), (17, .putfield 51, 3, [0, 11, 0], .null), (20, .aload_n 0, 1, [], .null), (21, .invokevirtual 55, 3, [179, 1, 0, 0], .null), (24, .return_, 1, [], .null)]
def F_La_clear (o0 : Nat) (h : Hp) : Res Hp :=
  bif okF o0 0 8 0 then
  bH (hs h o0 8 (0 : Int32)) fun h1 =>
  bif okF o0 0 9 0 then
  bH (hs h1 o0 9 (0 : Int32)) fun h2 =>
  bif okF o0 0 10 0 then
  bH (hs h2 o0 10 (0 : Int32)) fun h3 =>
  bif okF o0 0 11 0 then
  bH (hs h3 o0 11 (0 : Int32)) fun h4 =>
  bif okO o0 0 then
  bV (F_La_tieAll o0 h4) fun h5 =>
  retV h5
  else none
  else none
  else none
  else none
  else none
def sF_La_clear : List Value → Hp → Res Hp := fun as h => match as with | [.ref o0] => F_La_clear o0 h | _ => none
theorem w_La_clear (o0 : Nat) (h : Hp) : sF_La_clear [.ref o0] h = F_La_clear o0 h := rfl
def S_La_clear : Sem Hp := [(179, sF_La_tieAll)]
set_option maxRecDepth 100000 in
theorem e_La_clear_0 (o0 : Nat) (h : Hp) : F_La_clear o0 h = exec1 OI S_La_clear 0 k_La_clear 0 [some (.ref o0)] [] h (runF OI S_La_clear [] 0 k_La_clear 400) :=
  (x_bif (x_bH fun h1 => (x_bif (x_bH fun h2 => (x_bif (x_bH fun h3 => (x_bif (x_bH fun h4 => (x_bif (x_bV (f := sF_La_tieAll) rfl (w_La_tieAll _ _) fun h5 => rfl))))))))))
def k_Bp_noTongue : List Ent := [(0, .iload_n 0, 1, [], .null), (1, .ifCond .lt (8), 3, [9], .null), (4, .iload_n 0, 1, [], .null), (5, .iconst 5, 1, [], .int (5)), (6, .if_icmp .lt (7), 3, [13], .null), (9, .iconst 1, 1, [], .int (1)), (10, .goto (4), 3, [14], .null), (13, .iconst 0, 1, [], .int (0)), (14, .ireturn, 1, [], .null)]
def F_Bp_noTongue (x0 : Int32) (h : Hp) : Res Hp :=
  if x0 < (0 : Int32) then
  (retZ (1 : Int32) h)
  else
  (if x0 < (5 : Int32) then
  (retZ (0 : Int32) h)
  else
  (retZ (1 : Int32) h))
def sF_Bp_noTongue : List Value → Hp → Res Hp := fun as h => match as with | [.int x0] => F_Bp_noTongue x0 h | _ => none
theorem w_Bp_noTongue (x0 : Int32) (h : Hp) : sF_Bp_noTongue [.int x0] h = F_Bp_noTongue x0 h := rfl
def S_Bp_noTongue : Sem Hp := []
set_option maxRecDepth 100000 in
theorem e_Bp_noTongue_0 (x0 : Int32) (h : Hp) : F_Bp_noTongue x0 h = exec1 OI S_Bp_noTongue 2 k_Bp_noTongue 0 [some (.int x0)] [] h (runF OI S_Bp_noTongue [] 2 k_Bp_noTongue 400) :=
  (x_ite rfl (x_ite rfl rfl))
def k_Re_takesTongue : List Ent := [(0, .iload_n 1, 1, [], .null), (1, .invokestatic 75, 3, [55, 1, 2], .null), (4, .ifCond .ne (21), 3, [25], .null), (7, .iload_n 1, 1, [], .null), (8, .aload_n 0, 1, [], .null), (9, .getfield 15, 3, [3, 2, 0], .null), (12, .if_icmp .le (13), 3, [25], .null), (15, .aload_n 0, 1, [], .null), (16, .getfield 24, 3, [3, 0, 1], .null), (19, .getfield 68, 3, [0, 8, 0], .null), (22, .ifCond .ne (5), 3, [27], .null), (25, .iconst 0, 1, [], .int (0)), (26, .ireturn, 1, [], .null), (27, .aload_n 0, 1, [], .null), (28, .getfield 24, 3, [3, 0, 1], .null), (31, .getfield 78, 3, [0, 1, 1], .null), (34, .aload_n 0, 1, [], .null), (35, .getfield 24, 3, [3, 0, 1], .null), (38, .getfield 68, 3, [0, 8, 0], .null), (41, .iconst 1, 1, [], .int (1)), (42, .isub, 1, [], .null), (43, .dup2, 1, [], .null), (44, .iaload, 1, [], .null), (45, .iload_n 1, 1, [], .null), (46, .invokestatic 81, 3, [64, 1, 1], .null), (49, .ior, 1, [], .null), (50, .iastore, 1, [], .null), (51, .aload_n 0, 1, [], .null), (52, .iload_n 1, 1, [], .null), (53, .putfield 15, 3, [3, 2, 0], .null), (56, .iconst 1, 1, [], .int (1)), (57, .ireturn, 1, [], .null)]
def F_Re_takesTongue (x1 : Int32) (h : Hp) : Res Hp :=
  bI (F_Bp_noTongue x1 h) fun v2 h1 =>
  if v2 = (0 : Int32) then
  (if x1 ≤ (hg h1 63 2) then
  (retZ (0 : Int32) h1)
  else
  (if (hg h1 32 8) = (0 : Int32) then
  (retZ (0 : Int32) h1)
  else
  (bif okA 34 100 ((hg h1 32 8) - (1 : Int32)) then
  bI (F_Bp_bit x1 h1) fun v4 h3 =>
  bif okA 34 100 ((hg h1 32 8) - (1 : Int32)) then
  bH (hs h3 34 ((hg h1 32 8) - (1 : Int32)).toNatClampNeg ((hg h1 34 ((hg h1 32 8) - (1 : Int32)).toNatClampNeg) ||| v4)) fun h5 =>
  bH (hs h5 63 2 x1) fun h6 =>
  retZ (1 : Int32) h6
  else none
  else none)))
  else
  (retZ (0 : Int32) h1)
def sF_Re_takesTongue : List Value → Hp → Res Hp := fun as h => match as with | [.ref f0, .int x1] => (match Nat.beq f0 63 with | true => F_Re_takesTongue x1 h | false => none) | _ => none
theorem w_Re_takesTongue (x1 : Int32) (h : Hp) : sF_Re_takesTongue [.ref 63, .int x1] h = F_Re_takesTongue x1 h := rfl
def S_Re_takesTongue : Sem Hp := [(55, sF_Bp_noTongue), (64, sF_Bp_bit)]
set_option maxRecDepth 100000 in
theorem e_Re_takesTongue_0 (x1 : Int32) (h : Hp) : F_Re_takesTongue x1 h = exec1 OI S_Re_takesTongue 2 k_Re_takesTongue 0 [some (.ref 63), some (.int x1)] [] h (runF OI S_Re_takesTongue [] 2 k_Re_takesTongue 400) :=
  (x_bI (f := sF_Bp_noTongue) rfl (w_Bp_noTongue _ _) fun v2 h1 => (x_ite (x_ite rfl (x_ite rfl (x_bif (x_bI (f := sF_Bp_bit) rfl (w_Bp_bit _ _) fun v4 h3 => (x_bif (x_bH fun h5 => (x_bH fun h6 => rfl))))))) rfl))
def k_Bp_kindBy : List Ent := [(0, .iload_n 0, 1, [], .null), (1, .lookupswitch (71) #[(99, 61), (104, 59), (108, 65), (115, 63), (117, 67), (121, 69)], 59, [72, 99, 62, 104, 60, 108, 66, 115, 64, 117, 68, 121, 70], .null), (60, .iconst 0, 1, [], .int (0)), (61, .ireturn, 1, [], .null), (62, .iconst 1, 1, [], .int (1)), (63, .ireturn, 1, [], .null), (64, .iconst 2, 1, [], .int (2)), (65, .ireturn, 1, [], .null), (66, .iconst 3, 1, [], .int (3)), (67, .ireturn, 1, [], .null), (68, .iconst 4, 1, [], .int (4)), (69, .ireturn, 1, [], .null), (70, .iconst 5, 1, [], .int (5)), (71, .ireturn, 1, [], .null), (72, .bipush (-9), 2, [], .int (-9)), (74, .ireturn, 1, [], .null)]
def F_Bp_kindBy (x0 : Int32) (h : Hp) : Res Hp :=
  if x0 = (99 : Int32) then
  (retI (1 : Int32) h)
  else if x0 = (104 : Int32) then
  (retI (0 : Int32) h)
  else if x0 = (108 : Int32) then
  (retI (3 : Int32) h)
  else if x0 = (115 : Int32) then
  (retI (2 : Int32) h)
  else if x0 = (117 : Int32) then
  (retI (4 : Int32) h)
  else if x0 = (121 : Int32) then
  (retI (5 : Int32) h)
  else 
  (retI (-9 : Int32) h)
def sF_Bp_kindBy : List Value → Hp → Res Hp := fun as h => match as with | [.int x0] => F_Bp_kindBy x0 h | _ => none
theorem w_Bp_kindBy (x0 : Int32) (h : Hp) : sF_Bp_kindBy [.int x0] h = F_Bp_kindBy x0 h := rfl
def S_Bp_kindBy : Sem Hp := []
set_option maxRecDepth 100000 in
theorem e_Bp_kindBy_0 (x0 : Int32) (h : Hp) : F_Bp_kindBy x0 h = exec1 OI S_Bp_kindBy 1 k_Bp_kindBy 0 [some (.int x0)] [] h (runF OI S_Bp_kindBy [] 1 k_Bp_kindBy 400) :=
  (x_ite rfl (x_ite rfl (x_ite rfl (x_ite rfl (x_ite rfl (x_ite rfl rfl))))))
def k_La_addHand : List Ent := [(0, .aload_n 0, 1, [], .null), (1, .getfield 41, 3, [0, 8, 0], .null), (4, .bipush (7), 2, [], .int (7)), (6, .if_icmp .ge (33), 3, [39], .null), (9, .aload_n 0, 1, [], .null), (10, .getfield 9, 3, [0, 0, 1], .null), (13, .aload_n 0, 1, [], .null), (14, .getfield 41, 3, [0, 8, 0], .null), (17, .iload_n 1, 1, [], .null), (18, .iastore, 1, [], .null), (19, .aload_n 0, 1, [], .null), (20, .getfield 15, 3, [0, 1, 1], .null), (23, .aload_n 0, 1, [], .null), (24, .getfield 41, 3, [0, 8, 0], .null), (27, .iconst 0, 1, [], .int (0)), (28, .iastore, 1, [], .null), (29, .aload_n 0, 1, [], .null), (30, .dup, 1, [], .null), (31, .getfield 41, 3, [0, 8, 0], .null), (34, .iconst 1, 1, [], .int (1)), (35, .iadd, 1, [], .null), (36, .putfield 41, 3, [0, 8, 0], .null), (39, .return_, 1, [], .null)]
def F_La_addHand (o0 : Nat) (x1 : Int32) (h : Hp) : Res Hp :=
  bif okF o0 0 8 0 then
  if (7 : Int32) ≤ (hg h o0 8) then
  (retV h)
  else
  (bif okF o0 0 0 1 then
  bif okF o0 0 8 0 then
  bif okA (shR o0 0) 100 (hg h o0 8) then
  bH (hs h (shR o0 0) (hg h o0 8).toNatClampNeg x1) fun h1 =>
  bif okF o0 0 1 1 then
  bif okF o0 0 8 0 then
  bif okA (shR o0 1) 100 (hg h1 o0 8) then
  bH (hs h1 (shR o0 1) (hg h1 o0 8).toNatClampNeg (0 : Int32)) fun h2 =>
  bif okF o0 0 8 0 then
  bif okF o0 0 8 0 then
  bH (hs h2 o0 8 ((hg h2 o0 8) + (1 : Int32))) fun h3 =>
  retV h3
  else none
  else none
  else none
  else none
  else none
  else none
  else none
  else none)
  else none
def sF_La_addHand : List Value → Hp → Res Hp := fun as h => match as with | [.ref o0, .int x1] => F_La_addHand o0 x1 h | _ => none
theorem w_La_addHand (o0 : Nat) (x1 : Int32) (h : Hp) : sF_La_addHand [.ref o0, .int x1] h = F_La_addHand o0 x1 h := rfl
def S_La_addHand : Sem Hp := []
set_option maxRecDepth 100000 in
theorem e_La_addHand_0 (o0 : Nat) (x1 : Int32) (h : Hp) : F_La_addHand o0 x1 h = exec1 OI S_La_addHand 0 k_La_addHand 0 [some (.ref o0), some (.int x1)] [] h (runF OI S_La_addHand [] 0 k_La_addHand 400) :=
  (x_bif (x_ite rfl (x_bif (x_bif (x_bif (x_bH fun h1 => (x_bif (x_bif (x_bif (x_bH fun h2 => (x_bif (x_bif (x_bH fun h3 => rfl)))))))))))))
def k_Re_takesStart : List Ent := [(0, .iload_n 1, 1, [], .null), (1, .bipush (32), 2, [], .int (32)), (3, .if_icmp .ne (10), 3, [13], .null), (6, .aload_n 0, 1, [], .null), (7, .iconst 0, 1, [], .int (0)), (8, .putfield 11, 3, [3, 1, 0], .null), (11, .iconst 1, 1, [], .int (1)), (12, .ireturn, 1, [], .null), (13, .iload_n 1, 1, [], .null), (14, .bipush (109), 2, [], .int (109)), (16, .if_icmp .ne (26), 3, [42], .null), (19, .aload_n 0, 1, [], .null), (20, .iconst 2, 1, [], .int (2)), (21, .putfield 11, 3, [3, 1, 0], .null), (24, .aload_n 0, 1, [], .null), (25, .getfield 24, 3, [3, 0, 1], .null), (28, .getfield 61, 3, [0, 9, 0], .null), (31, .bipush (16), 2, [], .int (16)), (33, .if_icmp .ge (7), 3, [40], .null), (36, .iconst 1, 1, [], .int (1)), (37, .goto (4), 3, [41], .null), (40, .iconst 0, 1, [], .int (0)), (41, .ireturn, 1, [], .null), (42, .iload_n 1, 1, [], .null), (43, .invokestatic 64, 3, [68, 1, 1], .null), (46, .istore_n 2, 1, [], .null), (47, .iload_n 2, 1, [], .null), (48, .bipush (-9), 2, [], .int (-9)), (50, .if_icmp .eq (25), 3, [75], .null), (53, .aload_n 0, 1, [], .null), (54, .getfield 24, 3, [3, 0, 1], .null), (57, .getfield 61, 3, [0, 9, 0], .null), (60, .ifCond .gt (15), 3, [75], .null), (63, .aload_n 0, 1, [], .null), (64, .getfield 24, 3, [3, 0, 1], .null), (67, .getfield 68, 3, [0, 8, 0], .null), (70, .bipush (7), 2, [], .int (7)), (72, .if_icmp .lt (5), 3, [77], .null), (75, .iconst 0, 1, [], .int (0)), (76, .ireturn, 1, [], .null), (77, .aload_n 0, 1, [], .null), (78, .getfield 24, 3, [3, 0, 1], .null), (81, .iload_n 2, 1, [], .null), (82, .invokevirtual 71, 3, [176, 2, 0, 0], .null), (85, .aload_n 0, 1, [], .null), (86, .iconst 1, 1, [], .int (1)), (87, .putfield 11, 3, [3, 1, 0], .null), (90, .aload_n 0, 1, [], .null), (91, .bipush (-9), 2, [], .int (-9)), (93, .putfield 15, 3, [3, 2, 0], .null), (96, .iconst 1, 1, [], .int (1)), (97, .ireturn, 1, [], .null)]
def F_Re_takesStart (x1 : Int32) (h : Hp) : Res Hp :=
  if x1 = (32 : Int32) then
  (bH (hs h 63 1 (0 : Int32)) fun h7 =>
  retZ (1 : Int32) h7)
  else
  (if x1 = (109 : Int32) then
  (bH (hs h 63 1 (2 : Int32)) fun h6 =>
  if (16 : Int32) ≤ (hg h6 32 9) then
  (retZ (0 : Int32) h6)
  else
  (retZ (1 : Int32) h6))
  else
  (bI (F_Bp_kindBy x1 h) fun v2 h1 =>
  if v2 = (-9 : Int32) then
  (retZ (0 : Int32) h1)
  else
  (if (0 : Int32) < (hg h1 32 9) then
  (retZ (0 : Int32) h1)
  else
  (if (hg h1 32 8) < (7 : Int32) then
  (bV (F_La_addHand 32 v2 h1) fun h3 =>
  bH (hs h3 63 1 (1 : Int32)) fun h4 =>
  bH (hs h4 63 2 (-9 : Int32)) fun h5 =>
  retZ (1 : Int32) h5)
  else
  (retZ (0 : Int32) h1)))))
def sF_Re_takesStart : List Value → Hp → Res Hp := fun as h => match as with | [.ref f0, .int x1] => (match Nat.beq f0 63 with | true => F_Re_takesStart x1 h | false => none) | _ => none
theorem w_Re_takesStart (x1 : Int32) (h : Hp) : sF_Re_takesStart [.ref 63, .int x1] h = F_Re_takesStart x1 h := rfl
def S_Re_takesStart : Sem Hp := [(68, sF_Bp_kindBy), (176, sF_La_addHand)]
set_option maxRecDepth 100000 in
theorem e_Re_takesStart_0 (x1 : Int32) (h : Hp) : F_Re_takesStart x1 h = exec1 OI S_Re_takesStart 2 k_Re_takesStart 0 [some (.ref 63), some (.int x1), none] [] h (runF OI S_Re_takesStart [] 2 k_Re_takesStart 400) :=
  (x_ite (x_bH fun h7 => rfl) (x_ite (x_bH fun h6 => (x_ite rfl rfl)) (x_bI (f := sF_Bp_kindBy) rfl (w_Bp_kindBy _ _) fun v2 h1 => (x_ite rfl (x_ite rfl (x_ite (x_bV (f := sF_La_addHand) rfl (w_La_addHand _ _ _) fun h3 => (x_bH fun h4 => (x_bH fun h5 => rfl))) rfl))))))
def k_La_lacks : List Ent := [(0, .iload_n 1, 1, [], .null), (1, .ifCond .lt (11), 3, [12], .null), (4, .iload_n 1, 1, [], .null), (5, .aload_n 0, 1, [], .null), (6, .getfield 41, 3, [0, 8, 0], .null), (9, .if_icmp .lt (7), 3, [16], .null), (12, .iconst 1, 1, [], .int (1)), (13, .goto (4), 3, [17], .null), (16, .iconst 0, 1, [], .int (0)), (17, .ireturn, 1, [], .null)]
def F_La_lacks (o0 : Nat) (x1 : Int32) (h : Hp) : Res Hp :=
  if x1 < (0 : Int32) then
  (retZ (1 : Int32) h)
  else
  (bif okF o0 0 8 0 then
  if x1 < (hg h o0 8) then
  (retZ (0 : Int32) h)
  else
  (retZ (1 : Int32) h)
  else none)
def sF_La_lacks : List Value → Hp → Res Hp := fun as h => match as with | [.ref o0, .int x1] => F_La_lacks o0 x1 h | _ => none
theorem w_La_lacks (o0 : Nat) (x1 : Int32) (h : Hp) : sF_La_lacks [.ref o0, .int x1] h = F_La_lacks o0 x1 h := rfl
def S_La_lacks : Sem Hp := []
set_option maxRecDepth 100000 in
theorem e_La_lacks_0 (o0 : Nat) (x1 : Int32) (h : Hp) : F_La_lacks o0 x1 h = exec1 OI S_La_lacks 2 k_La_lacks 0 [some (.ref o0), some (.int x1)] [] h (runF OI S_La_lacks [] 2 k_La_lacks 400) :=
  (x_ite rfl (x_bif (x_ite rfl rfl)))
def k_Re_takesOne : List Ent := [(0, .aload_n 0, 1, [], .null), (1, .iload_n 1, 1, [], .null), (2, .putfield 18, 3, [3, 3, 0], .null), (5, .aload_n 0, 1, [], .null), (6, .iconst 3, 1, [], .int (3)), (7, .putfield 11, 3, [3, 1, 0], .null), (10, .aload_n 0, 1, [], .null), (11, .getfield 24, 3, [3, 0, 1], .null), (14, .iload_n 1, 1, [], .null), (15, .invokevirtual 84, 3, [175, 2, 2, 0], .null), (18, .ifCond .ne (7), 3, [25], .null), (21, .iconst 1, 1, [], .int (1)), (22, .goto (4), 3, [26], .null), (25, .iconst 0, 1, [], .int (0)), (26, .ireturn, 1, [], .null)]
def F_Re_takesOne (x1 : Int32) (h : Hp) : Res Hp :=
  bH (hs h 63 3 x1) fun h1 =>
  bH (hs h1 63 1 (3 : Int32)) fun h2 =>
  bI (F_La_lacks 32 x1 h2) fun v4 h3 =>
  if v4 = (0 : Int32) then
  (retZ (1 : Int32) h3)
  else
  (retZ (0 : Int32) h3)
def sF_Re_takesOne : List Value → Hp → Res Hp := fun as h => match as with | [.ref f0, .int x1] => (match Nat.beq f0 63 with | true => F_Re_takesOne x1 h | false => none) | _ => none
theorem w_Re_takesOne (x1 : Int32) (h : Hp) : sF_Re_takesOne [.ref 63, .int x1] h = F_Re_takesOne x1 h := rfl
def S_Re_takesOne : Sem Hp := [(175, sF_La_lacks)]
set_option maxRecDepth 100000 in
theorem e_Re_takesOne_0 (x1 : Int32) (h : Hp) : F_Re_takesOne x1 h = exec1 OI S_Re_takesOne 2 k_Re_takesOne 0 [some (.ref 63), some (.int x1)] [] h (runF OI S_Re_takesOne [] 2 k_Re_takesOne 400) :=
  (x_bH fun h1 => (x_bH fun h2 => (x_bI (f := sF_La_lacks) rfl (w_La_lacks _ _ _) fun v4 h3 => (x_ite rfl rfl))))
def k_Re_takesOther : List Ent := [(0, .aload_n 0, 1, [], .null), (1, .iload_n 1, 1, [], .null), (2, .putfield 21, 3, [3, 4, 0], .null), (5, .aload_n 0, 1, [], .null), (6, .iconst 4, 1, [], .int (4)), (7, .putfield 11, 3, [3, 1, 0], .null), (10, .aload_n 0, 1, [], .null), (11, .getfield 24, 3, [3, 0, 1], .null), (14, .iload_n 1, 1, [], .null), (15, .invokevirtual 84, 3, [175, 2, 2, 0], .null), (18, .ifCond .ne (15), 3, [33], .null), (21, .iload_n 1, 1, [], .null), (22, .aload_n 0, 1, [], .null), (23, .getfield 18, 3, [3, 3, 0], .null), (26, .if_icmp .eq (7), 3, [33], .null), (29, .iconst 1, 1, [], .int (1)), (30, .goto (4), 3, [34], .null), (33, .iconst 0, 1, [], .int (0)), (34, .ireturn, 1, [], .null)]
def F_Re_takesOther (x1 : Int32) (h : Hp) : Res Hp :=
  bH (hs h 63 4 x1) fun h1 =>
  bH (hs h1 63 1 (4 : Int32)) fun h2 =>
  bI (F_La_lacks 32 x1 h2) fun v4 h3 =>
  if v4 = (0 : Int32) then
  (if x1 = (hg h3 63 3) then
  (retZ (0 : Int32) h3)
  else
  (retZ (1 : Int32) h3))
  else
  (retZ (0 : Int32) h3)
def sF_Re_takesOther : List Value → Hp → Res Hp := fun as h => match as with | [.ref f0, .int x1] => (match Nat.beq f0 63 with | true => F_Re_takesOther x1 h | false => none) | _ => none
theorem w_Re_takesOther (x1 : Int32) (h : Hp) : sF_Re_takesOther [.ref 63, .int x1] h = F_Re_takesOther x1 h := rfl
def S_Re_takesOther : Sem Hp := [(175, sF_La_lacks)]
set_option maxRecDepth 100000 in
theorem e_Re_takesOther_0 (x1 : Int32) (h : Hp) : F_Re_takesOther x1 h = exec1 OI S_Re_takesOther 2 k_Re_takesOther 0 [some (.ref 63), some (.int x1)] [] h (runF OI S_Re_takesOther [] 2 k_Re_takesOther 400) :=
  (x_bH fun h1 => (x_bH fun h2 => (x_bI (f := sF_La_lacks) rfl (w_La_lacks _ _ _) fun v4 h3 => (x_ite (x_ite rfl rfl) rfl))))
def k_La_addMeeting : List Ent := [(0, .aload_n 0, 1, [], .null), (1, .getfield 45, 3, [0, 9, 0], .null), (4, .bipush (16), 2, [], .int (16)), (6, .if_icmp .ge (50), 3, [56], .null), (9, .aload_n 0, 1, [], .null), (10, .getfield 18, 3, [0, 2, 1], .null), (13, .aload_n 0, 1, [], .null), (14, .getfield 45, 3, [0, 9, 0], .null), (17, .iload_n 1, 1, [], .null), (18, .iastore, 1, [], .null), (19, .aload_n 0, 1, [], .null), (20, .getfield 21, 3, [0, 3, 1], .null), (23, .aload_n 0, 1, [], .null), (24, .getfield 45, 3, [0, 9, 0], .null), (27, .iload_n 2, 1, [], .null), (28, .iastore, 1, [], .null), (29, .aload_n 0, 1, [], .null), (30, .getfield 24, 3, [0, 4, 1], .null), (33, .aload_n 0, 1, [], .null), (34, .getfield 45, 3, [0, 9, 0], .null), (37, .iload_n 3, 1, [], .null), (38, .iastore, 1, [], .null), (39, .aload_n 0, 1, [], .null), (40, .iload_n 1, 1, [], .null), (41, .iload_n 2, 1, [], .null), (42, .iload_n 3, 1, [], .null), (43, .invokevirtual 68, 3, [178, 4, 0, 0], .null), (46, .aload_n 0, 1, [], .null), (47, .dup, 1, [], .null), (48, .getfield 45, 3, [0, 9, 0], .null), (51, .iconst 1, 1, [], .int (1)), (52, .iadd, 1, [], .null), (53, .putfield 45, 3, [0, 9, 0], .null), (56, .return_, 1, [], .null)]
def F_La_addMeeting (o0 : Nat) (x1 : Int32) (x2 : Int32) (x3 : Int32) (h : Hp) : Res Hp :=
  bif okF o0 0 9 0 then
  if (16 : Int32) ≤ (hg h o0 9) then
  (retV h)
  else
  (bif okF o0 0 2 1 then
  bif okF o0 0 9 0 then
  bif okA (shR o0 2) 100 (hg h o0 9) then
  bH (hs h (shR o0 2) (hg h o0 9).toNatClampNeg x1) fun h1 =>
  bif okF o0 0 3 1 then
  bif okF o0 0 9 0 then
  bif okA (shR o0 3) 100 (hg h1 o0 9) then
  bH (hs h1 (shR o0 3) (hg h1 o0 9).toNatClampNeg x2) fun h2 =>
  bif okF o0 0 4 1 then
  bif okF o0 0 9 0 then
  bif okA (shR o0 4) 100 (hg h2 o0 9) then
  bH (hs h2 (shR o0 4) (hg h2 o0 9).toNatClampNeg x3) fun h3 =>
  bif okO o0 0 then
  bV (F_La_tie o0 x1 x2 x3 h3) fun h4 =>
  bif okF o0 0 9 0 then
  bif okF o0 0 9 0 then
  bH (hs h4 o0 9 ((hg h4 o0 9) + (1 : Int32))) fun h5 =>
  retV h5
  else none
  else none
  else none
  else none
  else none
  else none
  else none
  else none
  else none
  else none
  else none
  else none)
  else none
def sF_La_addMeeting : List Value → Hp → Res Hp := fun as h => match as with | [.ref o0, .int x1, .int x2, .int x3] => F_La_addMeeting o0 x1 x2 x3 h | _ => none
theorem w_La_addMeeting (o0 : Nat) (x1 : Int32) (x2 : Int32) (x3 : Int32) (h : Hp) : sF_La_addMeeting [.ref o0, .int x1, .int x2, .int x3] h = F_La_addMeeting o0 x1 x2 x3 h := rfl
def S_La_addMeeting : Sem Hp := [(178, sF_La_tie)]
set_option maxRecDepth 100000 in
theorem e_La_addMeeting_0 (o0 : Nat) (x1 : Int32) (x2 : Int32) (x3 : Int32) (h : Hp) : F_La_addMeeting o0 x1 x2 x3 h = exec1 OI S_La_addMeeting 0 k_La_addMeeting 0 [some (.ref o0), some (.int x1), some (.int x2), some (.int x3)] [] h (runF OI S_La_addMeeting [] 0 k_La_addMeeting 400) :=
  (x_bif (x_ite rfl (x_bif (x_bif (x_bif (x_bH fun h1 => (x_bif (x_bif (x_bif (x_bH fun h2 => (x_bif (x_bif (x_bif (x_bH fun h3 => (x_bif (x_bV (f := sF_La_tie) rfl (w_La_tie _ _ _ _ _) fun h4 => (x_bif (x_bif (x_bH fun h5 => rfl)))))))))))))))))))
def k_Re_takesTime : List Ent := [(0, .iload_n 1, 1, [], .null), (1, .ifCond .lt (9), 3, [10], .null), (4, .iload_n 1, 1, [], .null), (5, .bipush (8), 2, [], .int (8)), (7, .if_icmp .lt (5), 3, [12], .null), (10, .iconst 0, 1, [], .int (0)), (11, .ireturn, 1, [], .null), (12, .aload_n 0, 1, [], .null), (13, .getfield 24, 3, [3, 0, 1], .null), (16, .aload_n 0, 1, [], .null), (17, .getfield 18, 3, [3, 3, 0], .null), (20, .aload_n 0, 1, [], .null), (21, .getfield 21, 3, [3, 4, 0], .null), (24, .iload_n 1, 1, [], .null), (25, .invokevirtual 87, 3, [177, 4, 0, 0], .null), (28, .aload_n 0, 1, [], .null), (29, .iconst 0, 1, [], .int (0)), (30, .putfield 11, 3, [3, 1, 0], .null), (33, .iconst 1, 1, [], .int (1)), (34, .ireturn, 1, [], .null)]
def F_Re_takesTime (x1 : Int32) (h : Hp) : Res Hp :=
  if x1 < (0 : Int32) then
  (retZ (0 : Int32) h)
  else
  (if x1 < (8 : Int32) then
  (bV (F_La_addMeeting 32 (hg h 63 3) (hg h 63 4) x1 h) fun h1 =>
  bH (hs h1 63 1 (0 : Int32)) fun h2 =>
  retZ (1 : Int32) h2)
  else
  (retZ (0 : Int32) h))
def sF_Re_takesTime : List Value → Hp → Res Hp := fun as h => match as with | [.ref f0, .int x1] => (match Nat.beq f0 63 with | true => F_Re_takesTime x1 h | false => none) | _ => none
theorem w_Re_takesTime (x1 : Int32) (h : Hp) : sF_Re_takesTime [.ref 63, .int x1] h = F_Re_takesTime x1 h := rfl
def S_Re_takesTime : Sem Hp := [(177, sF_La_addMeeting)]
set_option maxRecDepth 100000 in
theorem e_Re_takesTime_0 (x1 : Int32) (h : Hp) : F_Re_takesTime x1 h = exec1 OI S_Re_takesTime 2 k_Re_takesTime 0 [some (.ref 63), some (.int x1)] [] h (runF OI S_Re_takesTime [] 2 k_Re_takesTime 400) :=
  (x_ite rfl (x_ite (x_bV (f := sF_La_addMeeting) rfl (w_La_addMeeting _ _ _ _ _) fun h1 => (x_bH fun h2 => rfl)) rfl))
def k_Re_takes : List Ent := [(0, .iload_n 1, 1, [], .null), (1, .bipush (48), 2, [], .int (48)), (3, .if_icmp .lt (16), 3, [19], .null), (6, .iload_n 1, 1, [], .null), (7, .bipush (57), 2, [], .int (57)), (9, .if_icmp .gt (10), 3, [19], .null), (12, .iload_n 1, 1, [], .null), (13, .bipush (48), 2, [], .int (48)), (15, .isub, 1, [], .null), (16, .goto (5), 3, [21], .null), (19, .bipush (-9), 2, [], .int (-9)), (21, .istore_n 2, 1, [], .null), (22, .aload_n 0, 1, [], .null), (23, .getfield 11, 3, [3, 1, 0], .null), (26, .tableswitch (70) 1 4 #[30, 52, 58, 64], 30, [96, 1, 56, 2, 78, 3, 84, 4, 90], .null), (56, .aload_n 0, 1, [], .null), (57, .iload_n 2, 1, [], .null), (58, .invokevirtual 46, 3, [220, 2, 2, 3], .null), (61, .ifCond .ne (11), 3, [72], .null), (64, .aload_n 0, 1, [], .null), (65, .iload_n 1, 1, [], .null), (66, .invokevirtual 49, 3, [219, 2, 2, 3], .null), (69, .ifCond .eq (7), 3, [76], .null), (72, .iconst 1, 1, [], .int (1)), (73, .goto (4), 3, [77], .null), (76, .iconst 0, 1, [], .int (0)), (77, .ireturn, 1, [], .null), (78, .aload_n 0, 1, [], .null), (79, .iload_n 2, 1, [], .null), (80, .invokevirtual 52, 3, [221, 2, 2, 3], .null), (83, .ireturn, 1, [], .null), (84, .aload_n 0, 1, [], .null), (85, .iload_n 2, 1, [], .null), (86, .invokevirtual 55, 3, [222, 2, 2, 3], .null), (89, .ireturn, 1, [], .null), (90, .aload_n 0, 1, [], .null), (91, .iload_n 2, 1, [], .null), (92, .invokevirtual 58, 3, [223, 2, 2, 3], .null), (95, .ireturn, 1, [], .null), (96, .aload_n 0, 1, [], .null), (97, .iload_n 1, 1, [], .null), (98, .invokevirtual 49, 3, [219, 2, 2, 3], .null), (101, .ireturn, 1, [], .null)]
def F_Re_takes (x1 : Int32) (h : Hp) : Res Hp :=
  if x1 < (48 : Int32) then
  (if (hg h 63 1) = (1 : Int32) then
  (bI (F_Re_takesTongue (-9 : Int32) h) fun v2 h1 =>
  if v2 = (0 : Int32) then
  (bI (F_Re_takesStart x1 h1) fun v4 h3 =>
  if v4 = (0 : Int32) then
  (retZ (0 : Int32) h3)
  else
  (retZ (1 : Int32) h3))
  else
  (retZ (1 : Int32) h1))
  else if (hg h 63 1) = (2 : Int32) then
  (bI (F_Re_takesOne (-9 : Int32) h) fun v6 h5 =>
  retZ v6 h5)
  else if (hg h 63 1) = (3 : Int32) then
  (bI (F_Re_takesOther (-9 : Int32) h) fun v8 h7 =>
  retZ v8 h7)
  else if (hg h 63 1) = (4 : Int32) then
  (bI (F_Re_takesTime (-9 : Int32) h) fun v10 h9 =>
  retZ v10 h9)
  else 
  (bI (F_Re_takesStart x1 h) fun v12 h11 =>
  retZ v12 h11))
  else
  (if (57 : Int32) < x1 then
  (if (hg h 63 1) = (1 : Int32) then
  (bI (F_Re_takesTongue (-9 : Int32) h) fun v14 h13 =>
  if v14 = (0 : Int32) then
  (bI (F_Re_takesStart x1 h13) fun v16 h15 =>
  if v16 = (0 : Int32) then
  (retZ (0 : Int32) h15)
  else
  (retZ (1 : Int32) h15))
  else
  (retZ (1 : Int32) h13))
  else if (hg h 63 1) = (2 : Int32) then
  (bI (F_Re_takesOne (-9 : Int32) h) fun v18 h17 =>
  retZ v18 h17)
  else if (hg h 63 1) = (3 : Int32) then
  (bI (F_Re_takesOther (-9 : Int32) h) fun v20 h19 =>
  retZ v20 h19)
  else if (hg h 63 1) = (4 : Int32) then
  (bI (F_Re_takesTime (-9 : Int32) h) fun v22 h21 =>
  retZ v22 h21)
  else 
  (bI (F_Re_takesStart x1 h) fun v24 h23 =>
  retZ v24 h23))
  else
  (if (hg h 63 1) = (1 : Int32) then
  (bI (F_Re_takesTongue (x1 - (48 : Int32)) h) fun v26 h25 =>
  if v26 = (0 : Int32) then
  (bI (F_Re_takesStart x1 h25) fun v28 h27 =>
  if v28 = (0 : Int32) then
  (retZ (0 : Int32) h27)
  else
  (retZ (1 : Int32) h27))
  else
  (retZ (1 : Int32) h25))
  else if (hg h 63 1) = (2 : Int32) then
  (bI (F_Re_takesOne (x1 - (48 : Int32)) h) fun v30 h29 =>
  retZ v30 h29)
  else if (hg h 63 1) = (3 : Int32) then
  (bI (F_Re_takesOther (x1 - (48 : Int32)) h) fun v32 h31 =>
  retZ v32 h31)
  else if (hg h 63 1) = (4 : Int32) then
  (bI (F_Re_takesTime (x1 - (48 : Int32)) h) fun v34 h33 =>
  retZ v34 h33)
  else 
  (bI (F_Re_takesStart x1 h) fun v36 h35 =>
  retZ v36 h35)))
def sF_Re_takes : List Value → Hp → Res Hp := fun as h => match as with | [.ref f0, .int x1] => (match Nat.beq f0 63 with | true => F_Re_takes x1 h | false => none) | _ => none
theorem w_Re_takes (x1 : Int32) (h : Hp) : sF_Re_takes [.ref 63, .int x1] h = F_Re_takes x1 h := rfl
def S_Re_takes : Sem Hp := [(220, sF_Re_takesTongue), (219, sF_Re_takesStart), (221, sF_Re_takesOne), (222, sF_Re_takesOther), (223, sF_Re_takesTime)]
set_option maxRecDepth 100000 in
theorem e_Re_takes_0 (x1 : Int32) (h : Hp) : F_Re_takes x1 h = exec1 OI S_Re_takes 2 k_Re_takes 0 [some (.ref 63), some (.int x1), none] [] h (runF OI S_Re_takes [] 2 k_Re_takes 400) :=
  (x_ite (x_ite (x_bI (f := sF_Re_takesTongue) rfl (w_Re_takesTongue _ _) fun v2 h1 => (x_ite (x_bI (f := sF_Re_takesStart) rfl (w_Re_takesStart _ _) fun v4 h3 => (x_ite rfl rfl)) rfl)) (x_ite (x_bI (f := sF_Re_takesOne) rfl (w_Re_takesOne _ _) fun v6 h5 => rfl) (x_ite (x_bI (f := sF_Re_takesOther) rfl (w_Re_takesOther _ _) fun v8 h7 => rfl) (x_ite (x_bI (f := sF_Re_takesTime) rfl (w_Re_takesTime _ _) fun v10 h9 => rfl) (x_bI (f := sF_Re_takesStart) rfl (w_Re_takesStart _ _) fun v12 h11 => rfl))))) (x_ite (x_ite (x_bI (f := sF_Re_takesTongue) rfl (w_Re_takesTongue _ _) fun v14 h13 => (x_ite (x_bI (f := sF_Re_takesStart) rfl (w_Re_takesStart _ _) fun v16 h15 => (x_ite rfl rfl)) rfl)) (x_ite (x_bI (f := sF_Re_takesOne) rfl (w_Re_takesOne _ _) fun v18 h17 => rfl) (x_ite (x_bI (f := sF_Re_takesOther) rfl (w_Re_takesOther _ _) fun v20 h19 => rfl) (x_ite (x_bI (f := sF_Re_takesTime) rfl (w_Re_takesTime _ _) fun v22 h21 => rfl) (x_bI (f := sF_Re_takesStart) rfl (w_Re_takesStart _ _) fun v24 h23 => rfl))))) (x_ite (x_bI (f := sF_Re_takesTongue) rfl (w_Re_takesTongue _ _) fun v26 h25 => (x_ite (x_bI (f := sF_Re_takesStart) rfl (w_Re_takesStart _ _) fun v28 h27 => (x_ite rfl rfl)) rfl)) (x_ite (x_bI (f := sF_Re_takesOne) rfl (w_Re_takesOne _ _) fun v30 h29 => rfl) (x_ite (x_bI (f := sF_Re_takesOther) rfl (w_Re_takesOther _ _) fun v32 h31 => rfl) (x_ite (x_bI (f := sF_Re_takesTime) rfl (w_Re_takesTime _ _) fun v34 h33 => rfl) (x_bI (f := sF_Re_takesStart) rfl (w_Re_takesStart _ _) fun v36 h35 => rfl)))))))
def k_Re_faultOf : List Ent := [(0, .aload_n 0, 1, [], .null), (1, .getfield 24, 3, [3, 0, 1], .null), (4, .invokevirtual 28, 3, [173, 1, 0, 0], .null), (7, .aload_n 0, 1, [], .null), (8, .iconst 0, 1, [], .int (0)), (9, .putfield 11, 3, [3, 1, 0], .null), (12, .iconst 0, 1, [], .int (0)), (13, .istore_n 2, 1, [], .null), (14, .iload_n 2, 1, [], .null), (15, .aload_n 1, 1, [], .null), (16, .getfield 33, 3, [4, 1, 0], .null), (19, .if_icmp .ge (24), 3, [43], .null), (22, .aload_n 0, 1, [], .null), (23, .aload_n 1, 1, [], .null), (24, .getfield 38, 3, [4, 0, 1], .null), (27, .iload_n 2, 1, [], .null), (28, .iaload, 1, [], .null), (29, .invokevirtual 42, 3, [218, 2, 2, 3], .null), (32, .ifCond .ne (5), 3, [37], .null), (35, .iload_n 2, 1, [], .null), (36, .ireturn, 1, [], .null), (37, .iinc 2 (1), 3, [], .int (1)), (40, .goto (-26), 3, [14], .null), (43, .aload_n 0, 1, [], .null), (44, .getfield 11, 3, [3, 1, 0], .null), (47, .iconst 2, 1, [], .int (2)), (48, .if_icmp .lt (10), 3, [58], .null), (51, .aload_n 1, 1, [], .null), (52, .getfield 33, 3, [4, 1, 0], .null), (55, .goto (5), 3, [60], .null), (58, .bipush (-9), 2, [], .int (-9)), (60, .ireturn, 1, [], .null)]
def Re_faultOf_14    : (Nat × Int32 × Hp) → ((Nat × Int32 × Hp) → Res Hp) → Res Hp := fun s κ14 => match s with
  | (o1, x2, h) =>
  bif okF o1 4 1 0 then
  if (hg h o1 1) ≤ x2 then
  (if (hg h 63 1) < (2 : Int32) then
  (retI (-9 : Int32) h)
  else
  (bif okF o1 4 1 0 then
  retI (hg h o1 1) h
  else none))
  else
  (bif okF o1 4 0 1 then
  bif okA (shR o1 0) 100 x2 then
  bI (F_Re_takes (hg h (shR o1 0) x2.toNatClampNeg) h) fun v2 h1 =>
  if v2 = (0 : Int32) then
  (retI x2 h1)
  else
  (κ14 (o1, (x2 + (1 : Int32)), h1))
  else none
  else none)
  else none
def F_Re_faultOf (o1 : Nat) (h : Hp) : Res Hp :=
  bV (F_La_clear 32 h) fun h1 =>
  bH (hs h1 63 1 (0 : Int32)) fun h2 =>
  loopC (Re_faultOf_14   ) FU (o1, (0 : Int32), h2)
def sF_Re_faultOf : List Value → Hp → Res Hp := fun as h => match as with | [.ref f0, .ref o1] => (match Nat.beq f0 63 with | true => F_Re_faultOf o1 h | false => none) | _ => none
theorem w_Re_faultOf (o1 : Nat) (h : Hp) : sF_Re_faultOf [.ref 63, .ref o1] h = F_Re_faultOf o1 h := rfl
def S_Re_faultOf : Sem Hp := [(173, sF_La_clear), (218, sF_Re_takes)]
set_option maxRecDepth 100000 in
theorem e_Re_faultOf_0 (o1 : Nat) (h : Hp) : F_Re_faultOf o1 h = exec1 OI S_Re_faultOf 1 k_Re_faultOf 0 [some (.ref 63), some (.ref o1), none] [] h (runF OI S_Re_faultOf [(14, [0, 1, 2], fun vs st h => match vs, st with | [.ref f0, .ref o1, .int x2], [] => (match Nat.beq f0 63 with | true => loopC (Re_faultOf_14   ) FU (o1, x2, h) | false => none) | _, _ => none)] 1 k_Re_faultOf 400) :=
  (x_bV (f := sF_La_clear) rfl (w_La_clear _ _) fun h1 => (x_bH fun h2 => rfl))
set_option maxRecDepth 100000 in
theorem e_Re_faultOf_14 (κ14 : (Nat × Int32 × Hp) → Res Hp) (o1 : Nat) (x2 : Int32)  (h : Hp) : Re_faultOf_14    (o1, x2, h) κ14 = exec1 OI S_Re_faultOf 1 k_Re_faultOf 14 [some (.ref 63), some (.ref o1), some (.int x2)] [] h (runF OI S_Re_faultOf [(14, [0, 1, 2], fun vs st h => match vs, st with | [.ref f0, .ref o1, .int x2], [] => (match Nat.beq f0 63 with | true => κ14 (o1, x2, h) | false => none) | _, _ => none)] 1 k_Re_faultOf 400) :=
  (x_bif (x_ite (x_ite rfl (x_bif rfl)) (x_bif (x_bif (x_bI (f := sF_Re_takes) rfl (w_Re_takes _ _) fun v2 h1 => (x_ite rfl rfl))))))
def k_Bp_fault : List Ent := [(0, .iload_n 1, 1, [], .null), (1, .invokestatic 117, 3, [53, 1, 2], .null), (4, .ifCond .eq (5), 3, [9], .null), (7, .iconst (-1), 1, [], .int (-1)), (8, .ireturn, 1, [], .null), (9, .aload_n 0, 1, [], .null), (10, .getfield 15, 3, [6, 1, 1], .null), (13, .iload_n 1, 1, [], .null), (14, .aaload, 1, [], .null), (15, .invokevirtual 96, 3, [225, 1, 2, 4], .null), (18, .ifCond .ne (9), 3, [27], .null), (21, .aload_n 0, 1, [], .null), (22, .iconst 1, 1, [], .int (1)), (23, .invokevirtual 79, 3, [50, 2, 1, 6], .null), (26, .ireturn, 1, [], .null), (27, .aload_n 0, 1, [], .null), (28, .getfield 41, 3, [6, 6, 1], .null), (31, .aload_n 0, 1, [], .null), (32, .getfield 15, 3, [6, 1, 1], .null), (35, .iload_n 1, 1, [], .null), (36, .aaload, 1, [], .null), (37, .invokevirtual 120, 3, [217, 2, 1, 3], .null), (40, .ireturn, 1, [], .null)]
def F_Bp_fault (x1 : Int32) (h : Hp) : Res Hp :=
  bI (F_Bp_noText x1 h) fun v2 h1 =>
  if v2 = (0 : Int32) then
  (bif okR 2 x1 then
  bif okO (shR 2 x1.toNatClampNeg) 4 then
  bI (F_Sh_isThere (shR 2 x1.toNatClampNeg) h1) fun v4 h3 =>
  if v4 = (0 : Int32) then
  (bI (F_Bp_found (1 : Int32) h3) fun v8 h7 =>
  retI v8 h7)
  else
  (bif okR 2 x1 then
  bI (F_Re_faultOf (shR 2 x1.toNatClampNeg) h3) fun v6 h5 =>
  retI v6 h5
  else none)
  else none
  else none)
  else
  (retI (-1 : Int32) h1)
def sF_Bp_fault : List Value → Hp → Res Hp := fun as h => match as with | [.ref f0, .int x1] => (match Nat.beq f0 0 with | true => F_Bp_fault x1 h | false => none) | _ => none
theorem w_Bp_fault (x1 : Int32) (h : Hp) : sF_Bp_fault [.ref 0, .int x1] h = F_Bp_fault x1 h := rfl
def S_Bp_fault : Sem Hp := [(53, sF_Bp_noText), (225, sF_Sh_isThere), (217, sF_Re_faultOf), (50, sF_Bp_found)]
set_option maxRecDepth 100000 in
theorem e_Bp_fault_0 (x1 : Int32) (h : Hp) : F_Bp_fault x1 h = exec1 OI S_Bp_fault 1 k_Bp_fault 0 [some (.ref 0), some (.int x1)] [] h (runF OI S_Bp_fault [] 1 k_Bp_fault 400) :=
  (x_bI (f := sF_Bp_noText) rfl (w_Bp_noText _ _) fun v2 h1 => (x_ite (x_bif (x_bif (x_bI (f := sF_Sh_isThere) rfl (w_Sh_isThere _ _) fun v4 h3 => (x_ite (x_bI (f := sF_Bp_found) rfl (w_Bp_found _ _) fun v8 h7 => rfl) (x_bif (x_bI (f := sF_Re_faultOf) rfl (w_Re_faultOf _ _) fun v6 h5 => rfl)))))) rfl))
def k_Le_takeFrom : List Ent := [(0, .aload_n 1, 1, [], .null), (1, .getfield 9, 3, [1, 0, 1], .null), (4, .iconst 0, 1, [], .int (0)), (5, .aload_n 0, 1, [], .null), (6, .getfield 9, 3, [1, 0, 1], .null), (9, .iconst 0, 1, [], .int (0)), (10, .bipush (7), 2, [], .int (7)), (12, .invokestatic 28, 3, [], .null), (15, .aload_n 1, 1, [], .null), (16, .getfield 15, 3, [1, 1, 1], .null), (19, .iconst 0, 1, [], .int (0)), (20, .aload_n 0, 1, [], .null), (21, .getfield 15, 3, [1, 1, 1], .null), (24, .iconst 0, 1, [], .int (0)), (25, .bipush (7), 2, [], .int (7)), (27, .invokestatic 28, 3, [], .null), (30, .aload_n 0, 1, [], .null), (31, .aload_n 1, 1, [], .null), (32, .getfield 18, 3, [1, 2, 0], .null), (35, .putfield 18, 3, [1, 2, 0], .null), (38, .aload_n 0, 1, [], .null), (39, .aload_n 1, 1, [], .null), (40, .getfield 22, 3, [1, 3, 0], .null), (43, .putfield 22, 3, [1, 3, 0], .null), (46, .aload_n 0, 1, [], .null), (47, .aload_n 1, 1, [], .null), (48, .getfield 25, 3, [1, 4, 0], .null), (51, .putfield 25, 3, [1, 4, 0], .null), (54, .return_, 1, [], .null)]
def F_Le_takeFrom (o0 : Nat) (o1 : Nat) (h : Hp) : Res Hp :=
  bif okF o1 1 0 1 then
  bif okF o0 1 0 1 then
  bif okC (shR o1 0) (0 : Int32) (shR o0 0) (0 : Int32) (7 : Int32) then
  bH (hcp h (shR o1 0) (0 : Int32) (shR o0 0) (0 : Int32) (7 : Int32)) fun h1 =>
  bif okF o1 1 1 1 then
  bif okF o0 1 1 1 then
  bif okC (shR o1 1) (0 : Int32) (shR o0 1) (0 : Int32) (7 : Int32) then
  bH (hcp h1 (shR o1 1) (0 : Int32) (shR o0 1) (0 : Int32) (7 : Int32)) fun h2 =>
  bif okF o1 1 2 0 then
  bif okF o0 1 2 0 then
  bH (hs h2 o0 2 (hg h2 o1 2)) fun h3 =>
  bif okF o1 1 3 0 then
  bif okF o0 1 3 0 then
  bH (hs h3 o0 3 (hg h3 o1 3)) fun h4 =>
  bif okF o1 1 4 0 then
  bif okF o0 1 4 0 then
  bH (hs h4 o0 4 (hg h4 o1 4)) fun h5 =>
  retV h5
  else none
  else none
  else none
  else none
  else none
  else none
  else none
  else none
  else none
  else none
  else none
  else none
def sF_Le_takeFrom : List Value → Hp → Res Hp := fun as h => match as with | [.ref o0, .ref o1] => F_Le_takeFrom o0 o1 h | _ => none
theorem w_Le_takeFrom (o0 : Nat) (o1 : Nat) (h : Hp) : sF_Le_takeFrom [.ref o0, .ref o1] h = F_Le_takeFrom o0 o1 h := rfl
def S_Le_takeFrom : Sem Hp := []
set_option maxRecDepth 100000 in
theorem e_Le_takeFrom_0 (o0 : Nat) (o1 : Nat) (h : Hp) : F_Le_takeFrom o0 o1 h = exec1 OI S_Le_takeFrom 0 k_Le_takeFrom 0 [some (.ref o0), some (.ref o1)] [] h (runF OI S_Le_takeFrom [] 0 k_Le_takeFrom 400) :=
  (x_bif (x_bif (x_bif (x_bH fun h1 => (x_bif (x_bif (x_bif (x_bH fun h2 => (x_bif (x_bif (x_bH fun h3 => (x_bif (x_bif (x_bH fun h4 => (x_bif (x_bif (x_bH fun h5 => rfl)))))))))))))))))
end
