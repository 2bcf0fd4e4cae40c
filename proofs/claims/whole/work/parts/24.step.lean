section STEPS
variable {p : Program} {l : Launch} {e : Env} {R : Room} {s : State} {m : MethodId} {args : Array Value} {below : List Frame} {meth : Method} {c : Code} {B nL : Nat} {H0 : Heap} {cells slots : Nat} {Q : State → Prop} {cc : ByteArray} {pc : Nat} {L : Loca} {st : List Value} {D : va_G} {Hp : Type} {O : Ops Hp} {toG : Hp → List GC} {rk own : Nat} {z : Option Value × Hp}
/-- the returns: with z the machine comes to Q -/
def RetOK (p : Program) (l : Launch) (e : Env) (R : Room) (s : State) (m : MethodId) (args : Array Value) (below : List Frame) (meth : Method) (c : Code) (B nL : Nat) (H0 : Heap) (cells slots : Nat) (Q : State → Prop) (cc : ByteArray) (D : va_G) {Hp : Type} (toG : Hp → List GC) (rk : Nat) (z : Option Value × Hp) : Prop :=
  (∀ (v : Int32) (h : Hp) (pc : Nat) (L : Loca), rk = 1 → z = (some (.int v), h) → decode cc pc = .ok (.ireturn, 1) → At p l e R s m args below meth c B nL H0 cells slots Q (Wd D s B (toG h)) pc L [.int v]) ∧
  (∀ (v : Int32) (h : Hp) (pc : Nat) (L : Loca), rk = 2 → (v = 0 ∨ v = 1) → z = (some (.int v), h) → decode cc pc = .ok (.ireturn, 1) → At p l e R s m args below meth c B nL H0 cells slots Q (Wd D s B (toG h)) pc L [.int v]) ∧
  (∀ (v : Int64) (h : Hp) (pc : Nat) (L : Loca), rk = 3 → z = (some (.long v), h) → decode cc pc = .ok (.lreturn, 1) → At p l e R s m args below meth c B nL H0 cells slots Q (Wd D s B (toG h)) pc L [.long v]) ∧
  (∀ (h : Hp) (pc : Nat) (L : Loca), rk = 0 → z = (none, h) → decode cc pc = .ok (.return_, 1) → At p l e R s m args below meth c B nL H0 cells slots Q (Wd D s B (toG h)) pc L [])
set_option maxHeartbeats 4000000 in
set_option maxRecDepth 100000 in
theorem step_sound (hO : OpsOK O toG) (hx : p.tables.exec = Jvm.exec) (hb : c.code = cc) (hts : ∀ w ∈ lw_g, w.before args s = true) (hown : s.vm.findClass (ownN own) = some m.cls) (hK : va_K D vwCl [] s) {i : Instr} {len : Nat} {aux : List Nat} {val : Value} {h : Hp} {k : Kt Hp} (hd : decode cc pc = .ok (i, len)) (hc : chkL own pc i len aux val = true)
    (hk : ∀ pc' L' st' h', k pc' L' st' h' = some z → At p l e R s m args below meth c B nL H0 cells slots Q (Wd D s B (toG h')) pc' L' st') (hr : RetOK p l e R s m args below meth c B nL H0 cells slots Q cc D toG rk z) (ez : step O rk i aux val pc L st h k = some z) : At p l e R s m args below meth c B nL H0 cells slots Q (Wd D s B (toG h)) pc L st := by
  obtain ⟨oGI, oGR, oGL, oPI, oPL, oLN, oAI, oAZ, oAR, oSI, oSZ, oCP, oPR, oSR, -⟩ := hO
  unfold step at ez
  split at ez
  · -- iconst
    simp only [chkL, Bool.and_eq_true, decide_eq_true_eq] at hc
    obtain ⟨hv, hl⟩ := hc
    have hl := Nat.eq_of_beq_eq_true hl
    subst hl
    subst hv
    exact p_iconst hx hb hd rfl (hk _ _ _ _ ez)
  · -- bipush
    simp only [chkL, Bool.and_eq_true, decide_eq_true_eq] at hc
    obtain ⟨hv, hl⟩ := hc
    have hl := Nat.eq_of_beq_eq_true hl
    subst hl
    subst hv
    exact p_bipush hx hb hd rfl (hk _ _ _ _ ez)
  · -- sipush
    simp only [chkL, Bool.and_eq_true, decide_eq_true_eq] at hc
    obtain ⟨hv, hl⟩ := hc
    have hl := Nat.eq_of_beq_eq_true hl
    subst hl
    subst hv
    exact p_sipush hx hb hd rfl (hk _ _ _ _ ez)
  · -- lconst
    simp only [chkL, Bool.and_eq_true, decide_eq_true_eq] at hc
    obtain ⟨hv, hl⟩ := hc
    have hl := Nat.eq_of_beq_eq_true hl
    subst hl
    subst hv
    exact p_lconst hx hb hd rfl (hk _ _ _ _ ez)
  · -- ldc
    simp only [chkL, Bool.and_eq_true] at hc
    obtain ⟨hl, hv⟩ := hc
    have hl := Nat.eq_of_beq_eq_true hl
    subst hl
    split at hv
    · next v =>
      rw [decide_eq_true_eq] at hv
      exact fun H locs ls hX hS ha => lv_ldc hx hb hown (hts _ (inG (cstL_ok _ hv) rfl)) hd (hk _ _ _ _ ez H locs ls hX hS ha)
    · cases hv
  · -- ldc_w
    simp only [chkL, Bool.and_eq_true] at hc
    obtain ⟨hl, hv⟩ := hc
    have hl := Nat.eq_of_beq_eq_true hl
    subst hl
    split at hv
    · next v =>
      rw [decide_eq_true_eq] at hv
      exact fun H locs ls hX hS ha => lv_ldcw hx hb hown (hts _ (inG (cstL_ok _ hv) rfl)) hd (hk _ _ _ _ ez H locs ls hX hS ha)
    · cases hv
  · -- ldc2_w
    simp only [chkL, Bool.and_eq_true] at hc
    obtain ⟨hl, hv⟩ := hc
    have hl := Nat.eq_of_beq_eq_true hl
    subst hl
    split at hv
    · next v =>
      rw [decide_eq_true_eq] at hv
      exact fun H locs ls hX hS ha => lv_ldc2 hx hb hown (hts _ (inG (cstJ_ok _ hv) rfl)) hd (hk _ _ _ _ ez H locs ls hX hS ha)
    · cases hv
  · -- iload_n
    have hl : len = 1 := Nat.eq_of_beq_eq_true hc
    subst hl
    obtain ⟨x, h1, ez⟩ := ldI_inv ez
    exact p_iload_n hx hb hd h1 (hk _ _ _ _ ez)
  · -- iload
    have hl : len = 2 := Nat.eq_of_beq_eq_true hc
    subst hl
    obtain ⟨x, h1, ez⟩ := ldI_inv ez
    exact p_iload hx hb hd h1 (hk _ _ _ _ ez)
  · -- lload_n
    have hl : len = 1 := Nat.eq_of_beq_eq_true hc
    subst hl
    obtain ⟨x, h1, ez⟩ := ldL_inv ez
    exact p_lload_n hx hb hd h1 (hk _ _ _ _ ez)
  · -- lload
    have hl : len = 2 := Nat.eq_of_beq_eq_true hc
    subst hl
    obtain ⟨x, h1, ez⟩ := ldL_inv ez
    exact p_lload hx hb hd h1 (hk _ _ _ _ ez)
  · -- aload_n
    have hl : len = 1 := Nat.eq_of_beq_eq_true hc
    subst hl
    obtain ⟨x, h1, ez⟩ := ldA_inv ez
    exact p_aload_n hx hb hd h1 (hk _ _ _ _ ez)
  · -- aload
    have hl : len = 2 := Nat.eq_of_beq_eq_true hc
    subst hl
    obtain ⟨x, h1, ez⟩ := ldA_inv ez
    exact p_aload hx hb hd h1 (hk _ _ _ _ ez)
  · -- istore_n
    have hl : len = 1 := Nat.eq_of_beq_eq_true hc
    subst hl
    obtain ⟨x, r, hq8, e8⟩ := un1_inv ez
    subst hq8
    clear ez
    have ez := e8
    clear e8
    obtain ⟨h1, h2, ez⟩ := on1_inv ez
    exact p_istore_n hx hb hd h1 h2 (hk _ _ _ _ ez)
  · -- istore
    have hl : len = 2 := Nat.eq_of_beq_eq_true hc
    subst hl
    obtain ⟨x, r, hq8, e8⟩ := un1_inv ez
    subst hq8
    clear ez
    have ez := e8
    clear e8
    obtain ⟨h1, h2, ez⟩ := on1_inv ez
    exact p_istore hx hb hd h1 h2 (hk _ _ _ _ ez)
  · -- lstore_n
    have hl : len = 1 := Nat.eq_of_beq_eq_true hc
    subst hl
    obtain ⟨x, r, hq8, e8⟩ := ul1_inv ez
    subst hq8
    clear ez
    have ez := e8
    clear e8
    obtain ⟨h1, h2, ez⟩ := on2_inv ez
    exact p_lstore_n hx hb hd h1 h2 (hk _ _ _ _ ez)
  · -- lstore
    have hl : len = 2 := Nat.eq_of_beq_eq_true hc
    subst hl
    obtain ⟨x, r, hq8, e8⟩ := ul1_inv ez
    subst hq8
    clear ez
    have ez := e8
    clear e8
    obtain ⟨h1, h2, ez⟩ := on2_inv ez
    exact p_lstore hx hb hd h1 h2 (hk _ _ _ _ ez)
  · -- astore_n
    have hl : len = 1 := Nat.eq_of_beq_eq_true hc
    subst hl
    obtain ⟨x, r, hq8, e8⟩ := ua1_inv ez
    subst hq8
    clear ez
    have ez := e8
    clear e8
    obtain ⟨h1, h2, ez⟩ := on1_inv ez
    exact p_astore_n hx hb hd h1 h2 (hk _ _ _ _ ez)
  · -- astore
    have hl : len = 2 := Nat.eq_of_beq_eq_true hc
    subst hl
    obtain ⟨x, r, hq8, e8⟩ := ua1_inv ez
    subst hq8
    clear ez
    have ez := e8
    clear e8
    obtain ⟨h1, h2, ez⟩ := on1_inv ez
    exact p_astore hx hb hd h1 h2 (hk _ _ _ _ ez)
  · -- iinc
    simp only [chkL, Bool.and_eq_true, decide_eq_true_eq] at hc
    obtain ⟨hv, hl⟩ := hc
    have hl := Nat.eq_of_beq_eq_true hl
    subst hl
    subst hv
    obtain ⟨x, h1, ez⟩ := ldI_inv ez
    obtain ⟨h2, h3, ez⟩ := on1_inv ez
    exact p_iinc hx hb hd h1 rfl h2 h3 (hk _ _ _ _ ez)
  · -- iadd
    have hl : len = 1 := Nat.eq_of_beq_eq_true hc
    subst hl
    obtain ⟨x, y, r, hq8, e8⟩ := un2_inv ez
    subst hq8
    clear ez
    have ez := e8
    clear e8
    exact fun H locs ls hX hS ha => lv_iadd hx hb hd (hk _ _ _ _ ez H locs ls hX hS ha)
  · -- isub
    have hl : len = 1 := Nat.eq_of_beq_eq_true hc
    subst hl
    obtain ⟨x, y, r, hq8, e8⟩ := un2_inv ez
    subst hq8
    clear ez
    have ez := e8
    clear e8
    exact fun H locs ls hX hS ha => lv_isub hx hb hd (hk _ _ _ _ ez H locs ls hX hS ha)
  · -- imul
    have hl : len = 1 := Nat.eq_of_beq_eq_true hc
    subst hl
    obtain ⟨x, y, r, hq8, e8⟩ := un2_inv ez
    subst hq8
    clear ez
    have ez := e8
    clear e8
    exact fun H locs ls hX hS ha => lv_imul hx hb hd (hk _ _ _ _ ez H locs ls hX hS ha)
  · -- iand
    have hl : len = 1 := Nat.eq_of_beq_eq_true hc
    subst hl
    obtain ⟨x, y, r, hq8, e8⟩ := un2_inv ez
    subst hq8
    clear ez
    have ez := e8
    clear e8
    exact fun H locs ls hX hS ha => lv_iand hx hb hd (hk _ _ _ _ ez H locs ls hX hS ha)
  · -- ior
    have hl : len = 1 := Nat.eq_of_beq_eq_true hc
    subst hl
    obtain ⟨x, y, r, hq8, e8⟩ := un2_inv ez
    subst hq8
    clear ez
    have ez := e8
    clear e8
    exact fun H locs ls hX hS ha => lv_ior hx hb hd (hk _ _ _ _ ez H locs ls hX hS ha)
  · -- ixor
    have hl : len = 1 := Nat.eq_of_beq_eq_true hc
    subst hl
    obtain ⟨x, y, r, hq8, e8⟩ := un2_inv ez
    subst hq8
    clear ez
    have ez := e8
    clear e8
    exact fun H locs ls hX hS ha => lv_ixor hx hb hd (hk _ _ _ _ ez H locs ls hX hS ha)
  · -- ishl
    have hl : len = 1 := Nat.eq_of_beq_eq_true hc
    subst hl
    obtain ⟨x, y, r, hq8, e8⟩ := un2_inv ez
    subst hq8
    clear ez
    have ez := e8
    clear e8
    exact fun H locs ls hX hS ha => lv_ishl hx hb hd (hk _ _ _ _ ez H locs ls hX hS ha)
  · -- ishr
    have hl : len = 1 := Nat.eq_of_beq_eq_true hc
    subst hl
    obtain ⟨x, y, r, hq8, e8⟩ := un2_inv ez
    subst hq8
    clear ez
    have ez := e8
    clear e8
    exact fun H locs ls hX hS ha => lv_ishr hx hb hd (hk _ _ _ _ ez H locs ls hX hS ha)
  · -- iushr
    have hl : len = 1 := Nat.eq_of_beq_eq_true hc
    subst hl
    obtain ⟨x, y, r, hq8, e8⟩ := un2_inv ez
    subst hq8
    clear ez
    have ez := e8
    clear e8
    exact fun H locs ls hX hS ha => lv_iushr hx hb hd rfl (hk _ _ _ _ ez H locs ls hX hS ha)
  · -- idiv
    have hl : len = 1 := Nat.eq_of_beq_eq_true hc
    subst hl
    obtain ⟨x, y, r, hq8, e8⟩ := un2_inv ez
    subst hq8
    clear ez
    have ez := e8
    clear e8
    split at ez
    · cases ez
    · next hne => exact fun H locs ls hX hS ha => lv_idiv hx hb hd hne (hk _ _ _ _ ez H locs ls hX hS ha)
  · -- irem
    have hl : len = 1 := Nat.eq_of_beq_eq_true hc
    subst hl
    obtain ⟨x, y, r, hq8, e8⟩ := un2_inv ez
    subst hq8
    clear ez
    have ez := e8
    clear e8
    split at ez
    · cases ez
    · next hne => exact fun H locs ls hX hS ha => lv_irem hx hb hd hne (hk _ _ _ _ ez H locs ls hX hS ha)
  · -- ladd
    have hl : len = 1 := Nat.eq_of_beq_eq_true hc
    subst hl
    obtain ⟨x, y, r, hq8, e8⟩ := ul2_inv ez
    subst hq8
    clear ez
    have ez := e8
    clear e8
    exact fun H locs ls hX hS ha => lv_ladd hx hb hd (hk _ _ _ _ ez H locs ls hX hS ha)
  · -- lsub
    have hl : len = 1 := Nat.eq_of_beq_eq_true hc
    subst hl
    obtain ⟨x, y, r, hq8, e8⟩ := ul2_inv ez
    subst hq8
    clear ez
    have ez := e8
    clear e8
    exact fun H locs ls hX hS ha => lv_lsub hx hb hd (hk _ _ _ _ ez H locs ls hX hS ha)
  · -- lmul
    have hl : len = 1 := Nat.eq_of_beq_eq_true hc
    subst hl
    obtain ⟨x, y, r, hq8, e8⟩ := ul2_inv ez
    subst hq8
    clear ez
    have ez := e8
    clear e8
    exact fun H locs ls hX hS ha => lv_lmul hx hb hd (hk _ _ _ _ ez H locs ls hX hS ha)
  · -- ldiv
    have hl : len = 1 := Nat.eq_of_beq_eq_true hc
    subst hl
    obtain ⟨x, y, r, hq8, e8⟩ := ul2_inv ez
    subst hq8
    clear ez
    have ez := e8
    clear e8
    split at ez
    · cases ez
    · next hne => exact fun H locs ls hX hS ha => lv_ldiv hx hb hd hne (hk _ _ _ _ ez H locs ls hX hS ha)
  · -- lrem
    have hl : len = 1 := Nat.eq_of_beq_eq_true hc
    subst hl
    obtain ⟨x, y, r, hq8, e8⟩ := ul2_inv ez
    subst hq8
    clear ez
    have ez := e8
    clear e8
    split at ez
    · cases ez
    · next hne => exact fun H locs ls hX hS ha => lv_lrem hx hb hd hne (hk _ _ _ _ ez H locs ls hX hS ha)
  · -- lcmp
    have hl : len = 1 := Nat.eq_of_beq_eq_true hc
    subst hl
    obtain ⟨x, y, r, hq8, e8⟩ := ul2_inv ez
    subst hq8
    clear ez
    have ez := e8
    clear e8
    exact fun H locs ls hX hS ha => W.lcmp hx hb hd (hk _ _ _ _ ez H locs ls hX hS ha)
  · -- i2l
    have hl : len = 1 := Nat.eq_of_beq_eq_true hc
    subst hl
    obtain ⟨x, r, hq8, e8⟩ := un1_inv ez
    subst hq8
    clear ez
    have ez := e8
    clear e8
    exact fun H locs ls hX hS ha => lv_i2l hx hb hd rfl (hk _ _ _ _ ez H locs ls hX hS ha)
  · -- l2i
    have hl : len = 1 := Nat.eq_of_beq_eq_true hc
    subst hl
    obtain ⟨x, r, hq8, e8⟩ := ul1_inv ez
    subst hq8
    clear ez
    have ez := e8
    clear e8
    exact fun H locs ls hX hS ha => lv_l2i hx hb hd rfl (hk _ _ _ _ ez H locs ls hX hS ha)
  · -- i2b
    have hl : len = 1 := Nat.eq_of_beq_eq_true hc
    subst hl
    obtain ⟨x, r, hq8, e8⟩ := un1_inv ez
    subst hq8
    clear ez
    have ez := e8
    clear e8
    exact fun H locs ls hX hS ha => lv_i2b hx hb hd rfl (hk _ _ _ _ ez H locs ls hX hS ha)
  · -- dup
    have hl : len = 1 := Nat.eq_of_beq_eq_true hc
    subst hl
    split at ez
    · exact fun H locs ls hX hS ha => lv_dup hx hb hd rfl (hk _ _ _ _ ez H locs ls hX hS ha)
    · exact fun H locs ls hX hS ha => lv_dup hx hb hd rfl (hk _ _ _ _ ez H locs ls hX hS ha)
    · cases ez
  · -- dup2
    have hl : len = 1 := Nat.eq_of_beq_eq_true hc
    subst hl
    split at ez
    · exact fun H locs ls hX hS ha => lv_dup2_11 hx hb hd rfl rfl (hk _ _ _ _ ez H locs ls hX hS ha)
    · cases ez
  · -- pop
    have hl : len = 1 := Nat.eq_of_beq_eq_true hc
    subst hl
    split at ez
    · exact fun H locs ls hX hS ha => lv_pop hx hb hd rfl (hk _ _ _ _ ez H locs ls hX hS ha)
    · cases ez
  · -- goto
    simp only [chkL, Bool.and_eq_true] at hc
    obtain ⟨hl, hv⟩ := hc
    have hl := Nat.eq_of_beq_eq_true hl
    subst hl
    split at ez
    · next t ts =>
      split at hv
      · next t2 h9 =>
        cases h9
        rw [decide_eq_true_eq] at hv
        exact fun H locs ls hX hS ha => lv_goto hx hb hd hv (hk _ _ _ _ ez H locs ls hX hS ha)
      · cases hv
    · cases ez
  · -- ifCond
    simp only [chkL, Bool.and_eq_true] at hc
    obtain ⟨hl, hv⟩ := hc
    have hl := Nat.eq_of_beq_eq_true hl
    subst hl
    split at ez
    · next t ts =>
      split at hv
      · next t2 h9 =>
        cases h9
        rw [decide_eq_true_eq] at hv
        obtain ⟨x, r, hq8, e8⟩ := un1_inv ez
        subst hq8
        clear ez
        have ez := e8
        clear e8
        unfold stIf at ez
        split at ez
        · exact fun H locs ls hX hS ha => lv_if_eq hx hb hd hv (fun q => hk _ _ _ _ (by rw [if_pos q] at ez; exact ez) H locs ls hX hS ha) (fun q => hk _ _ _ _ (by rw [if_neg q] at ez; exact ez) H locs ls hX hS ha)
        · exact fun H locs ls hX hS ha => lv_if_ne hx hb hd hv (fun q => hk _ _ _ _ (by rw [if_neg q] at ez; exact ez) H locs ls hX hS ha) (fun q => hk _ _ _ _ (by rw [if_pos q] at ez; exact ez) H locs ls hX hS ha)
        · exact fun H locs ls hX hS ha => lv_if_lt hx hb hd hv (fun q => hk _ _ _ _ (by rw [if_pos q] at ez; exact ez) H locs ls hX hS ha) (fun q => hk _ _ _ _ (by rw [if_neg q] at ez; exact ez) H locs ls hX hS ha)
        · exact fun H locs ls hX hS ha => lv_if_ge hx hb hd hv (fun q => hk _ _ _ _ (by rw [if_pos q] at ez; exact ez) H locs ls hX hS ha) (fun q => hk _ _ _ _ (by rw [if_neg q] at ez; exact ez) H locs ls hX hS ha)
        · exact fun H locs ls hX hS ha => lv_if_gt hx hb hd hv (fun q => hk _ _ _ _ (by rw [if_pos q] at ez; exact ez) H locs ls hX hS ha) (fun q => hk _ _ _ _ (by rw [if_neg q] at ez; exact ez) H locs ls hX hS ha)
        · exact fun H locs ls hX hS ha => lv_if_le hx hb hd hv (fun q => hk _ _ _ _ (by rw [if_pos q] at ez; exact ez) H locs ls hX hS ha) (fun q => hk _ _ _ _ (by rw [if_neg q] at ez; exact ez) H locs ls hX hS ha)
      · cases hv
    · cases ez
  · -- if_icmp
    simp only [chkL, Bool.and_eq_true] at hc
    obtain ⟨hl, hv⟩ := hc
    have hl := Nat.eq_of_beq_eq_true hl
    subst hl
    split at ez
    · next t ts =>
      split at hv
      · next t2 h9 =>
        cases h9
        rw [decide_eq_true_eq] at hv
        obtain ⟨x, y, r, hq8, e8⟩ := un2_inv ez
        subst hq8
        clear ez
        have ez := e8
        clear e8
        unfold stIf at ez
        split at ez
        · exact fun H locs ls hX hS ha => lv_icmp_eq hx hb hd hv (fun q => hk _ _ _ _ (by rw [if_pos q] at ez; exact ez) H locs ls hX hS ha) (fun q => hk _ _ _ _ (by rw [if_neg q] at ez; exact ez) H locs ls hX hS ha)
        · exact fun H locs ls hX hS ha => lv_icmp_ne hx hb hd hv (fun q => hk _ _ _ _ (by rw [if_neg q] at ez; exact ez) H locs ls hX hS ha) (fun q => hk _ _ _ _ (by rw [if_pos q] at ez; exact ez) H locs ls hX hS ha)
        · exact fun H locs ls hX hS ha => lv_icmp_lt hx hb hd hv (fun q => hk _ _ _ _ (by rw [if_pos q] at ez; exact ez) H locs ls hX hS ha) (fun q => hk _ _ _ _ (by rw [if_neg q] at ez; exact ez) H locs ls hX hS ha)
        · exact fun H locs ls hX hS ha => lv_icmp_ge hx hb hd hv (fun q => hk _ _ _ _ (by rw [if_pos q] at ez; exact ez) H locs ls hX hS ha) (fun q => hk _ _ _ _ (by rw [if_neg q] at ez; exact ez) H locs ls hX hS ha)
        · exact fun H locs ls hX hS ha => lv_icmp_gt hx hb hd hv (fun q => hk _ _ _ _ (by rw [if_pos q] at ez; exact ez) H locs ls hX hS ha) (fun q => hk _ _ _ _ (by rw [if_neg q] at ez; exact ez) H locs ls hX hS ha)
        · exact fun H locs ls hX hS ha => lv_icmp_le hx hb hd hv (fun q => hk _ _ _ _ (by rw [if_pos q] at ez; exact ez) H locs ls hX hS ha) (fun q => hk _ _ _ _ (by rw [if_neg q] at ez; exact ez) H locs ls hX hS ha)
      · cases hv
    · cases ez
  · -- tableswitch
    split at ez
    · next t ts =>
      simp only [chkL, Bool.and_eq_true, decide_eq_true_eq] at hc
      obtain ⟨⟨⟨⟨h1, h2⟩, h3⟩, h4⟩, h5⟩ := hc
      obtain ⟨x, r, hq8, e8⟩ := un1_inv ez
      subst hq8
      clear ez
      have ez := e8
      clear e8
      have hlo : ((_ : Int).toNat : Int) = _ := Int.toNat_of_nonneg h3
      rcases swTab_ok _ _ _ h2 (by rw [Array.length_toList]; omega) ez with ⟨j, o, t', a1, a2, a3, a4⟩ | ⟨a1, a2⟩
      · exact fun H locs ls hX hS ha => lv_tableIn hx hb hd (by omega) (by have := (List.getElem?_eq_some_iff.mp a1).1; rw [Array.length_toList] at this; omega) (by rw [show (x.toInt - _).toNat = j by omega]; simpa using a1) a2 (hk _ _ _ _ a4 H locs ls hX hS ha)
      · exact fun H locs ls hX hS ha => lv_tableOut hx hb hd (by rw [Array.length_toList] at a1; omega) h1 (hk _ _ _ _ a2 H locs ls hX hS ha)
    · cases ez
  · -- lookupswitch
    split at ez
    · next t ts =>
      simp only [chkL, Bool.and_eq_true, decide_eq_true_eq] at hc
      obtain ⟨⟨h1, h2⟩, h3⟩ := hc
      obtain ⟨x, r, hq8, e8⟩ := un1_inv ez
      subst hq8
      clear ez
      have ez := e8
      clear e8
      obtain ⟨t', a1, a2⟩ := swLook_ok h1 _ _ h2 ez
      exact fun H locs ls hX hS ha => lv_lookup hx hb hd h3 rfl a1 (hk _ _ _ _ a2 H locs ls hX hS ha)
    · cases ez
  · -- getfield
    simp only [chkL, Bool.and_eq_true] at hc
    obtain ⟨hl, hv⟩ := hc
    have hl := Nat.eq_of_beq_eq_true hl
    subst hl
    split at ez
    · next ci f =>
      have hv := of_decide_eq_true hv
      obtain ⟨a, r, hq8, e8⟩ := ua1_inv ez
      subst hq8
      clear ez
      have ez := e8
      clear e8
      obtain ⟨v, fs, g1, g2, ez⟩ := oGI _ _ _ _ _ _ ez
      exact p_getf hx hb hts hown hK (fldL_ok _ hv) g1 g2 hd (hk _ _ _ _ ez)
    · next ci f =>
      have hv := of_decide_eq_true hv
      obtain ⟨a, r, hq8, e8⟩ := ua1_inv ez
      subst hq8
      clear ez
      have ez := e8
      clear e8
      obtain ⟨v, fs, g1, g2, ez⟩ := oGR _ _ _ _ _ _ ez
      exact p_getf hx hb hts hown hK (fldL_ok _ hv) g1 g2 hd (hk _ _ _ _ ez)
    · next ci f =>
      have hv := of_decide_eq_true hv
      obtain ⟨a, r, hq8, e8⟩ := ua1_inv ez
      subst hq8
      clear ez
      have ez := e8
      clear e8
      obtain ⟨v, fs, g1, g2, ez⟩ := oGL _ _ _ _ _ _ ez
      exact p_getf hx hb hts hown hK (fldL_ok _ hv) g1 g2 hd (hk _ _ _ _ ez)
    · cases ez
  · -- putfield
    simp only [chkL, Bool.and_eq_true] at hc
    obtain ⟨hl, hv⟩ := hc
    have hl := Nat.eq_of_beq_eq_true hl
    subst hl
    split at ez
    · next ci f =>
      have hv := Bool.and_eq_true_iff.mp hv
      have hv1 := of_decide_eq_true hv.1
      obtain ⟨v, r, hq8, e8⟩ := un1_inv ez
      subst hq8
      clear ez
      have ez := e8
      clear e8
      obtain ⟨a, r, hq8, e8⟩ := ua1_inv ez
      subst hq8
      clear ez
      have ez := e8
      clear e8
      obtain ⟨fs, h', g1, g2, g3, ez⟩ := oPI _ _ _ _ _ _ _ ez
      refine p_putf hx hb hts hown hK (fldL_ok _ hv1) (fun C T N hq => ?_) rfl g1 g2 hd (by rw [← g3]; exact hk _ _ _ _ ez)
      have hv2 := hv.2
      unfold chkP at hv2
      rw [hq] at hv2
      simp only [Bool.and_eq_true, Bool.not_eq_true', Bool.or_eq_true, decide_eq_true_eq] at hv2
      refine ⟨hv2.1, .int, ?_, rfl, rfl⟩
      rcases hv2.2 with hv3 | hv3
      · exact hv3.2
      · exact absurd (Nat.eq_of_beq_eq_true hv3.1) (by decide)
    · next ci f =>
      obtain ⟨v, r, hq8, e8⟩ := ua1_inv ez
      subst hq8
      clear ez
      have ez := e8
      clear e8
      obtain ⟨a, r, hq8, e8⟩ := ua1_inv ez
      subst hq8
      clear ez
      have ez := e8
      clear e8
      rw [oPR] at ez
      cases ez
    · next ci f =>
      have hv := Bool.and_eq_true_iff.mp hv
      have hv1 := of_decide_eq_true hv.1
      obtain ⟨v, r, hq8, e8⟩ := ul1_inv ez
      subst hq8
      clear ez
      have ez := e8
      clear e8
      obtain ⟨a, r, hq8, e8⟩ := ua1_inv ez
      subst hq8
      clear ez
      have ez := e8
      clear e8
      obtain ⟨fs, h', g1, g2, g3, ez⟩ := oPL _ _ _ _ _ _ _ ez
      refine p_putf hx hb hts hown hK (fldL_ok _ hv1) (fun C T N hq => ?_) rfl g1 g2 hd (by rw [← g3]; exact hk _ _ _ _ ez)
      have hv2 := hv.2
      unfold chkP at hv2
      rw [hq] at hv2
      simp only [Bool.and_eq_true, Bool.not_eq_true', Bool.or_eq_true, decide_eq_true_eq] at hv2
      refine ⟨hv2.1, .long, ?_, rfl, rfl⟩
      rcases hv2.2 with hv3 | hv3
      · exact absurd (Nat.eq_of_beq_eq_true hv3.1) (by decide)
      · exact hv3.2
    · cases ez
  · -- arraylength
    have hl : len = 1 := Nat.eq_of_beq_eq_true hc
    subst hl
    obtain ⟨a, r, hq8, e8⟩ := ua1_inv ez
    subst hq8
    clear ez
    have ez := e8
    clear e8
    obtain ⟨ty, x, g1, ez⟩ := oLN _ _ _ _ ez
    exact p_alen hx hb hK g1 hd (hk _ _ _ _ ez)
  · -- iaload
    have hl : len = 1 := Nat.eq_of_beq_eq_true hc
    subst hl
    obtain ⟨j, r, hq8, e8⟩ := un1_inv ez
    subst hq8
    clear ez
    have ez := e8
    clear e8
    obtain ⟨a, r, hq8, e8⟩ := ua1_inv ez
    subst hq8
    clear ez
    have ez := e8
    clear e8
    obtain ⟨n, f, g1, g2, ez⟩ := oAI _ _ _ _ _ ez
    exact p_iald hx hb hK g1 g2 hd (hk _ _ _ _ ez)
  · -- baload
    have hl : len = 1 := Nat.eq_of_beq_eq_true hc
    subst hl
    obtain ⟨j, r, hq8, e8⟩ := un1_inv ez
    subst hq8
    clear ez
    have ez := e8
    clear e8
    obtain ⟨a, r, hq8, e8⟩ := ua1_inv ez
    subst hq8
    clear ez
    have ez := e8
    clear e8
    obtain ⟨n, f, g1, g2, ez⟩ := oAZ _ _ _ _ _ ez
    exact p_zald hx hb hK g1 g2 hd (hk _ _ _ _ ez)
  · -- aaload
    have hl : len = 1 := Nat.eq_of_beq_eq_true hc
    subst hl
    obtain ⟨j, r, hq8, e8⟩ := un1_inv ez
    subst hq8
    clear ez
    have ez := e8
    clear e8
    obtain ⟨a, r, hq8, e8⟩ := ua1_inv ez
    subst hq8
    clear ez
    have ez := e8
    clear e8
    obtain ⟨ty, n, f, b, g0, g1, g2, g3, ez⟩ := oAR _ _ _ _ _ ez
    exact p_aald hx hb g0 g1 g2 g3 hd (hk _ _ _ _ ez)
  · -- iastore
    have hl : len = 1 := Nat.eq_of_beq_eq_true hc
    subst hl
    obtain ⟨j, v, r, hq8, e8⟩ := un2_inv ez
    subst hq8
    clear ez
    have ez := e8
    clear e8
    obtain ⟨a, r, hq8, e8⟩ := ua1_inv ez
    subst hq8
    clear ez
    have ez := e8
    clear e8
    obtain ⟨n, f, h', g1, g2, g3, ez⟩ := oSI _ _ _ _ _ _ ez
    exact p_iast hx hb hK g1 g2 hd (by rw [← g3]; exact hk _ _ _ _ ez)
  · -- bastore
    have hl : len = 1 := Nat.eq_of_beq_eq_true hc
    subst hl
    obtain ⟨j, v, r, hq8, e8⟩ := un2_inv ez
    subst hq8
    clear ez
    have ez := e8
    clear e8
    obtain ⟨a, r, hq8, e8⟩ := ua1_inv ez
    subst hq8
    clear ez
    have ez := e8
    clear e8
    obtain ⟨n, f, h', g1, g2, g3, ez⟩ := oSZ _ _ _ _ _ _ ez
    exact p_zast hx hb hK g1 g2 hd (by rw [← g3]; exact hk _ _ _ _ ez)
  · -- aastore
    have hl : len = 1 := Nat.eq_of_beq_eq_true hc
    subst hl
    obtain ⟨v, r, hq8, e8⟩ := ua1_inv ez
    subst hq8
    clear ez
    have ez := e8
    clear e8
    obtain ⟨j, r, hq8, e8⟩ := un1_inv ez
    subst hq8
    clear ez
    have ez := e8
    clear e8
    obtain ⟨a, r, hq8, e8⟩ := ua1_inv ez
    subst hq8
    clear ez
    have ez := e8
    clear e8
    rw [oSR] at ez
    cases ez
  · -- ireturn
    have hl : len = 1 := Nat.eq_of_beq_eq_true hc
    subst hl
    split at ez
    · split at ez
      · exact hr.1 _ _ _ _ rfl (Option.some.inj ez).symm hd
      · unfold retZ at ez
        split at ez
        · next q => subst q; exact hr.2.1 _ _ _ _ rfl (Or.inl rfl) (Option.some.inj ez).symm hd
        · split at ez
          · next q => subst q; exact hr.2.1 _ _ _ _ rfl (Or.inr rfl) (Option.some.inj ez).symm hd
          · cases ez
      · cases ez
    · cases ez
  · -- lreturn
    have hl : len = 1 := Nat.eq_of_beq_eq_true hc
    subst hl
    split at ez
    · split at ez
      · exact hr.2.2.1 _ _ _ _ rfl (Option.some.inj ez).symm hd
      · cases ez
    · cases ez
  · -- return
    have hl : len = 1 := Nat.eq_of_beq_eq_true hc
    subst hl
    split at ez
    · split at ez
      · exact hr.2.2.2 _ _ _ rfl (Option.some.inj ez).symm hd
      · cases ez
    · cases ez
  · cases ez
end STEPS
