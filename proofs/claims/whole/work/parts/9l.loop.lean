/-! the law: the constructors called, the loop -/
section LAWS
variable {p : Program} {l : Launch} {e : Env} {R : Room} {s : State} {m : MethodId} {args : Array Value} {below : List Frame} {meth : Method} {c : Code} {H : Heap} {locs : List Loc} {cells slots : Nat} {Q : State → Prop} {D : va_G} {b Ln i pc B nL n0 : Nat} {xs : Nat → Int32} {ls : Array Slot} {rest : List Value} {cc : ByteArray} {G : List GC}
theorem pw_new (hx : p.tables.exec = Jvm.exec) (hb : c.code = cc) (hts : ∀ w ∈ lw_g, w.before args s = true) {own idx ci : Nat} {qc : vw_C} (hown : s.vm.findClass (ownN own) = some m.cls) (hK : va_K D vwCl [] s) (hc : vwCl[ci]? = some qc) (w1 : Cond.classLink (ownN own) idx qc.1 ∈ lw_tbl) (w2 : Cond.instantiable qc.1 qc.2.2 ∈ lw_tbl) (w3 : Cond.initialized qc.1 ∈ lw_tbl) (hB : s.heap.size = B + n0) (hG : G.length = n0 + cells) (hcells : cells + 1 ≤ R.cells) (hslots : slots + fldN ci ≤ R.slots) (hd : decode cc pc = .ok (.new idx, 3)) (hX : Wd D s B G H) (hS : va_S (fun q => B ≤ q) s.heap H locs)
    (k : ∀ H1, Wd D s B (G ++ [.inr (ci, dfl ci)]) H1 → va_S (fun q => B ≤ q) s.heap H1 locs → W p l e R s m args below meth c H1 locs (cells + 1) (slots + fldN ci) Q (F0 m (pc + 3) ls (.ref (B + G.length) :: rest))) : W p l e R s m args below meth c H locs cells slots Q (F0 m pc ls rest) := by
  obtain ⟨kc, hP, hT⟩ := hX
  obtain ⟨h4, ty0, h5, h6⟩ := cl_ok _ _ hc
  obtain ⟨h7, h8⟩ := dfl_ok hc
  rw [← h7] at hslots k
  refine va_new (T := qc.2.1) (N := qc.2.2) (ci := ci) (fs := dfl ci) hx hb hts h4 ty0 h5 hown (hts _ (inG w1 rfl)) (hts _ (inG w2 rfl)) (hts _ (inG w3 rfl)) hK hP (toW_D B kc G) hS (fun q hq => by omega) hc (h8 ty0 h5) hcells hslots hd fun q H1 hP1 hD1 hS1 => W_hs fun hs => ?_
  have hq := new_at hP1 hD1 hs hB hG
  have e1 : (Sum.inr (ci, dfl ci) : va_E) = conc B 0 (.inr (ci, dfl ci)) := by show _ = Sum.inr (ci, (dfl ci).map (cv B)); rw [dfl_cv]
  rw [e1] at hP1
  have := k H1 (Wd_push hP1 hq hT (fun ty x h => by cases h)) hS1
  rw [hq]
  exact this
theorem pw_ctor (hx : p.tables.exec = Jvm.exec) (hb : c.code = cc) (hml : c.maxLocals = nL) (hts : ∀ w ∈ lw_g, w.before args s = true) {own idx a mi d' mc ms : Nat} {G' : List GC} (hown : s.vm.findClass (ownN own) = some m.cls) (hK : va_K D vwCl [] s) (hN : Nst s) (hO : Own s) (hm : MtOK mi) (hr : mtR mi = none) (hn0 : mtN mi = 0) (hok : OkC mi d' mc ms [.ref a] G G') (hB : s.heap.size = B + n0) (hG : G.length = n0 + cells) (hR : d' + 1 ≤ R.frames ∧ 40 * (d' + 1) ≤ R.locals) (hcs : cells + mc ≤ R.cells ∧ slots + ms ≤ R.slots) (hf : (rest.map fun v => v.category).sum ≤ 8) (hd : decode cc pc = .ok (.invokespecial idx, 3)) (hw : (own, idx, mi) ∈ ctoL) (hls : ls.size = nL) (hX : Wd D s B G H) (hS : va_S (fun q => B ≤ q) s.heap H locs)
    (k : ∀ H1 locs1, Wd D s B G' H1 → va_S (fun q => B ≤ q) s.heap H1 locs1 → W p l e R s m args below meth c H1 locs1 (cells + mc) (slots + ms) Q (F0 m (pc + 3) ls rest)) : W p l e R s m args below meth c H locs cells slots Q (F0 m pc ls (.ref (B + a) :: rest)) := by
  refine W_hs fun hs => ?_
  have hlo := Wd_lo hX (by have := hS.1; omega)
  have hsz : H.size = B + G.length := by omega
  have hg : GoodIn lw_g (Cond.code (mtY mi) (mtC mi) (mtM mi) none :: lw_g) := by
    have := good_m hm
    rw [hr] at this
    exact this
  have hfr : (rmC d' mc ms).frames + 1 ≤ R.frames ∧ 8 + (mtM mi + 11) + (rmC d' mc ms).locals ≤ R.locals := ⟨hR.1, by show 8 + (mtM mi + 11) + 40 * d' ≤ _; have := hm.2.2.2; omega⟩
  have hpre : PreS s H (va_Pc ([Value.ref a].map (cv B)) (fun U => Wd D U B G U.heap ∧ U.heap.size = B + G.length ∧ va_K D vwCl [] U ∧ Nst U ∧ Own U)) [.ref (B + a)] := ⟨preC_blind, fun U hU hW => ⟨rfl, Wd_moved hW.alike (by rw [hU]; exact hX), by rw [hU]; exact hsz, va_K.moved hW.alike hK, hN.warm hW, hO.warm hW⟩⟩
  have hrun : va_Run p l e R s m args below meth c H locs cells slots mc ms (F0 m pc ls (.ref (B + a) :: rest)) rest (va_Qv (S := Unit) (fun _ => True) (fun _ t => Wd D t B G' t.heap) (fun q => B ≤ q) [Value.ref (B + a)].toArray) (fun q => B ≤ q) := va_runI (Ts := lw_g) (own := ownN own) (n := mtN mi) (As := []) ⟨hx, hb, hml, hown, hts⟩ (hok l D B) ⟨callB_of (mtN mi) hts hg rfl rfl rfl (hts _ (inG hm.2.1 rfl)) (hts _ (inG (ctoL_ok _ hw).1 rfl)) hm.2.2.1 hfr, (ctoL_ok _ hw).2.2, hts _ (inG (ctoL_ok _ hw).2.1 rfl)⟩ hpre rfl hn0.symm hls rfl (lv_room hf) hd hcs
  exact va_callv (S := Unit) (post := fun _ => True) (B := fun _ t => Wd D t B G' t.heap) (A1 := fun q => B ≤ q) hrun hS (fun _ _ q => q) (fun _ q => q) (fun u t H1 locs1 ht hvm _ hB1 _ _ hS1 => k H1 locs1 (Wd_moved hvm.symm (by rw [ht] at hB1; exact hB1)) hS1)
end LAWS
theorem cl_inst : ∀ (ci : Nat) (q : vw_C), vwCl[ci]? = some q → Cond.instantiable q.1 q.2.2 ∈ lw_tbl := by
  have go : ∀ (o j ci : Nat) (q : vw_C), (o, j, ci) ∈ newL → vwCl[ci]? = some q → Cond.instantiable q.1 q.2.2 ∈ lw_tbl := fun o j ci q hm hq => by
    obtain ⟨qc, h1, h2, h3, h4⟩ := newL_ok _ hm
    have : qc = q := Option.some.inj (h1.symm.trans hq)
    subst this
    exact h3
  intro ci q hq
  match ci, hq with
  | 0, hq => exact go 6 18 0 q (by decide) hq
  | 1, hq => exact go 0 35 1 q (by decide) hq
  | 2, hq => exact go 6 52 2 q (by decide) hq
  | 3, hq => exact go 6 36 3 q (by decide) hq
  | 4, hq => exact go 6 9 4 q (by decide) hq
  | 5, hq => exact go 6 45 5 q (by decide) hq
  | 6, hq => exact go 8 7 6 q (by decide) hq
  | 7, hq => exact go 8 10 7 q (by decide) hq
  | n + 8, hq => simp [vwCl] at hq
theorem kn_all {s : State} {args : Array Value} (hts : ∀ w ∈ lw_g, w.before args s = true) : ∃ D : va_G, va_K D vwCl [] s := by
  have h : ∀ c : Nat, ∃ x : ClassId × (Nat → Nat), ∀ q, vwCl[c]? = some q → u_Kn s q.1 q.2.1 q.2.2 x.1 x.2 := by
    intro c
    cases hq : vwCl[c]? with
    | none => exact ⟨((0 : Nat), fun _ => 0), fun q h => by cases h⟩
    | some q =>
      obtain ⟨cC, iS, hk⟩ := u_known hts (cl_ok _ _ hq).1 (hts _ (inG (cl_inst c q hq) rfl))
      exact ⟨(cC, iS), fun q' h => by cases h; exact hk⟩
  exact ⟨(fun c => (Classical.choose (h c)).1, fun c => (Classical.choose (h c)).2), fun c q hq => Classical.choose_spec (h c) q hq, fun k q hk => by simp at hk⟩
theorem nst_all {s : State} {args : Array Value} (hts : ∀ w ∈ lw_tbl, w.before args s = true) : Nst s := by
  rintro ⟨o, ix, mi, kd⟩ hq h2
  have h2 : kd = 2 := h2
  subst h2
  obtain ⟨l1, l2⟩ : Cond.methodLinkNest (ownN o) ix (mtY mi) "BlindPost" ∈ lw_tbl ∧ Cond.static (mtY mi) ∈ lw_tbl := mthL_ok _ hq
  exact va_tabs rfl rfl (hts _ l1)
theorem own_all {s : State} {args : Array Value} (hts : ∀ w ∈ lw_tbl, w.before args s = true) : Own s := by
  refine ⟨fun k => ?_, Av2.of (hts _ (List.mem_of_getElem? (i := 99) (by decide +kernel))), va_tabs rfl rfl (hts _ (List.mem_of_getElem? (i := 103) (by decide +kernel)))⟩
  match k with
  | 0 => exact va_AO.of (hts _ (List.mem_of_getElem? (i := 91) (by decide +kernel)))
  | 1 => exact va_AO.of (hts _ (List.mem_of_getElem? (i := 183) (by decide +kernel)))
  | n + 2 =>
    show va_AO "BlindPost$Letter" s
    exact va_AO.of (hts _ (List.mem_of_getElem? (i := 101) (by decide +kernel)))
theorem dl_0 : decode code 0 = .ok (.new 7, 3) := by decide +kernel
theorem dl_3 : decode code 3 = .ok (.dup, 1) := by decide +kernel
theorem dl_4 : decode code 4 = .ok (.invokespecial 9, 3) := by decide +kernel
theorem dl_7 : decode code 7 = .ok (.astore_n 1, 1) := by decide +kernel
theorem dl_8 : decode code 8 = .ok (.new 10, 3) := by decide +kernel
theorem dl_11 : decode code 11 = .ok (.dup, 1) := by decide +kernel
theorem dl_12 : decode code 12 = .ok (.invokespecial 12, 3) := by decide +kernel
theorem dl_15 : decode code 15 = .ok (.astore_n 2, 1) := by decide +kernel
theorem dl_16 : decode code 16 = .ok (.iconst 0, 1) := by decide +kernel
theorem dl_17 : decode code 17 = .ok (.istore_n 3, 1) := by decide +kernel
theorem dl_18 : decode code 18 = .ok (.iload_n 3, 1) := by decide +kernel
theorem dl_19 : decode code 19 = .ok (.aload_n 0, 1) := by decide +kernel
theorem dl_20 : decode code 20 = .ok (.arraylength, 1) := by decide +kernel
theorem dl_21 : decode code 21 = .ok (.bipush 6, 2) := by decide +kernel
theorem dl_23 : decode code 23 = .ok (.isub, 1) := by decide +kernel
theorem dl_24 : decode code 24 = .ok (.if_icmp .gt (1730 - 24), 3) := by decide +kernel
theorem dl_27 : decode code 27 = .ok (.aload_n 0, 1) := by decide +kernel
theorem dl_28 : decode code 28 = .ok (.iload_n 3, 1) := by decide +kernel
theorem dl_29 : decode code 29 = .ok (.iaload, 1) := by decide +kernel
theorem dl_30 : decode code 30 = .ok (.bipush 63, 2) := by decide +kernel
theorem dl_32 : decode code 32 = .ok (.iand, 1) := by decide +kernel
theorem dl_1724 : decode code 1724 = .ok (.iinc 3 6, 3) := by decide +kernel
theorem dl_1727 : decode code 1727 = .ok (.goto (18 - 1727), 3) := by decide +kernel
theorem dl_1730 : decode code 1730 = .ok (.iconst 1, 1) := by decide +kernel
theorem dl_1731 : decode code 1731 = .ok (.ireturn, 1) := by decide +kernel
theorem sm_6 : ∀ n, n < 6 → (nI n - nI 6).toInt < 0 := by decide +kernel
theorem opL_n5 : ∀ q ∈ opL, q.2.1 ≤ 5 := by decide +kernel
section LAWL
variable {p : Program} {l : Launch} {e : Env} {R : Room} {s : State} {m : MethodId} {args : Array Value} {below : List Frame} {meth : Method} {c : Code} {cells slots : Nat} {Q : State → Prop} {D : va_G} {b Ln : Nat} {xs : Nat → Int32}
theorem lw_loop (C : LwC p R s m args c D b Ln xs) (hcs : cells ≤ R.cells ∧ slots ≤ R.slots) (hex : ∀ (H : Heap) (locs : List Loc) (ls : Array Slot), va_S (fun q => s.heap.size ≤ q) s.heap H locs → W p l e R s m args below meth c H locs cells slots Q (F0 m 1730 ls [])) (n : Nat) : ∀ (i : Nat) (h : Hp) (H : Heap) (locs : List Loc) (ls : Array Slot), Inv h → Ln < i + 6 * n → i ≤ Ln → Wd D s s.heap.size (toGI h) H → va_S (fun q => s.heap.size ≤ q) s.heap H locs → lv_has ls 4 (lwL b s.heap.size i) → W p l e R s m args below meth c H locs cells slots Q (F0 m 18 ls []) := by
  induction n with
  | zero =>
    intro i h H locs ls I h1 h2 hW hS hL
    exact absurd h1 (by omega)
  | succ n ih =>
    intro i h H locs ls I h1 h2 hW hS hL
    obtain ⟨hx, hb, hml, hts, hown, hK, hN, hR, hX, hbl, h3⟩ := id C
    have hbA : ¬ (fun q => s.heap.size ≤ q) b := fun z => absurd (show s.heap.size ≤ b from z) (by omega)
    refine lv_iload_n hx hb dl_18 rfl (lwL_3 hL) (lv_aload_n hx hb dl_19 rfl (lwL_0 hL) (va_slen hx hb hX hbl hbA hS dl_20 (lv_bipush hx hb dl_21 (v := nI 6) rfl (lv_isub hx hb dl_23 (lv_icmp_gt hx hb dl_24 (tgt := 1730) (by decide) (fun _ => hex H locs ls hS) fun hng => ?_)))))
    have hi : i + 6 ≤ Ln := by
      rcases Nat.lt_or_ge Ln (i + 6) with hlt | hge
      · refine absurd ?_ hng
        show nI Ln - nI 6 < nI i
        by_cases h6 : 6 ≤ Ln
        · rw [nI_sb h6]
          exact nI_lt (by omega) (by omega)
        · rw [lt_toInt]
          have := sm_6 Ln (by omega)
          rw [nI_toInt (by omega : i < 2 ^ 31)]
          omega
      · exact hge
    have tail : ∀ (h2 : Hp) (H1 : Heap) (locs1 : List Loc), Inv h2 → Wd D s s.heap.size (toGI h2) H1 → va_S (fun q => s.heap.size ≤ q) s.heap H1 locs1 → W p l e R s m args below meth c H1 locs1 cells slots Q (F0 m 1724 ls []) := fun h2 H1 locs1 I2 hW1 hS1 =>
      lv_iinc (k := 0) (x := nI i) (v := nI (i + 6)) hx hb dl_1724 hL rfl (by show nI i + nI 6 = _; rw [nI_add]) (by decide) (lv' := lwL b s.heap.size (i + 6)) rfl fun ls' hL' => lv_goto hx hb dl_1727 (tgt := 18) (by decide) (ih (i + 6) h2 H1 locs1 ls' I2 (by omega) hi hW1 hS1 hL')
    refine lv_aload_n hx hb dl_27 rfl (lwL_0 hL) (lv_iload_n hx hb dl_28 rfl (lwL_3 hL) (va_sld hx hb hX hbl hbA hS (nI_in (by omega) (by omega)) dl_29 (lv_bipush hx hb dl_30 (v := nI 63) rfl (lv_iand hx hb dl_32 ?_))))
    generalize (xs (nI i).toNatClampNeg &&& nI 63) = w
    by_cases hw : w.toInt < 0 ∨ 48 < w.toInt
    · exact lv_tableOut hx hb sw_dec hw (tgt := 1724) (by decide) (tail h H locs I hW hS)
    · obtain ⟨q, hq, ho⟩ := sw_at w.toInt.toNat (by omega)
      have hmem : q ∈ opL := List.mem_of_getElem? hq
      refine lv_tableIn hx hb sw_dec (fun z => hw (Or.inl z)) (fun z => hw (Or.inr z)) (off := (q.1 : Int) - 33) (tgt := q.1) (by rw [show (w.toInt - 0).toNat = w.toInt.toNat by omega]; exact ho) (by omega) ?_
      exact lw_op C (opL_chk q hmem) (opL_ok q hmem) I hi (opL_n5 q hmem) hcs hW hS hL tail
end LAWL
