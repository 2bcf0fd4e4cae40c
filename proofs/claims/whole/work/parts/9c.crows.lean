/-! the constructors' machine: its rows -/
theorem W_hs {p : Program} {l : Launch} {e : Env} {R : Room} {s : State} {m : MethodId} {args : Array Value} {below : List Frame} {meth : Method} {c : Code} {H : Heap} {locs : List Loc} {cells slots : Nat} {Q : State → Prop} {g : JFrame} (k : H.size ≤ s.heap.size + cells → W p l e R s m args below meth c H locs cells slots Q g) : W p l e R s m args below meth c H locs cells slots Q g := fun T hT X => k (by rw [← hT]; exact X.heapSize) T hT X
theorem at_lt {D : va_G} {cl : List vw_C} {q : Nat × va_E} {H : Heap} (h : va_at D cl q H) : q.1 < H.size := va_at.lt h
theorem Wd_lo {D : va_G} {s : State} {B : Nat} {G : List GC} {H : Heap} (h : Wd D s B G H) (hB : B ≤ H.size) : B + G.length ≤ H.size := by
  obtain ⟨kc, hP, -⟩ := h
  cases hl : G.length with
  | zero => omega
  | succ n =>
    have hn : n < G.length := by omega
    have := at_lt (hP n _ (toW_get (B := B) (kc := kc) (List.getElem?_eq_getElem hn)))
    have h2 : B + n < H.size := this
    omega
theorem toW_app {B : Nat} {kc : Nat → ClassId} {G : List GC} {c : GC} {cA : ClassId} : toW B kc G ++ [(B + G.length, conc B cA c)] = toW B (fun k => if k = G.length then cA else kc k) (G ++ [c]) := by
  apply List.ext_getElem?
  intro i
  have hlen : (toW B kc G).length = G.length := by unfold toW; simp
  unfold toW
  rw [List.getElem?_mapIdx]
  by_cases h : i < G.length
  · rw [List.getElem?_append_left (by simpa using h), List.getElem?_append_left h, List.getElem?_mapIdx]
    show _ = Option.map (fun c => (B + i, conc B (if i = G.length then cA else kc i) c)) G[i]?
    rw [if_neg (by omega)]
  · by_cases h2 : i = G.length
    · subst h2
      rw [List.getElem?_append_right (by simp), List.getElem?_append_right (by omega)]
      simp
    · rw [List.getElem?_eq_none (by simp; omega), List.getElem?_eq_none (by simp; omega)]
      rfl
theorem newq {B : Nat} {kc : Nat → ClassId} {G : List GC} {q : Nat} {x : va_E} (h : va_D (fun q => B ≤ q) (toW B kc G ++ [(q, x)])) : B + G.length ≤ q := by
  have hlen : (toW B kc G).length = G.length := by unfold toW; simp
  have hq : (toW B kc G ++ [(q, x)])[G.length]? = some (q, x) := by
    rw [List.getElem?_append_right (by omega), hlen]
    simp
  have h1 : B ≤ q := h.2 _ _ hq
  rcases Nat.lt_or_ge q (B + G.length) with h2 | h2
  · exfalso
    have hi : q - B < G.length := by omega
    have := h.1 (q - B) G.length _ _ (by rw [List.getElem?_append_left (by omega)]; exact toW_get (List.getElem?_eq_getElem hi)) hq (by show B + (q - B) = q; omega)
    omega
  · exact h2
theorem Wd_push {D : va_G} {s : State} {B : Nat} {G : List GC} {c : GC} {cA : ClassId} {kc : Nat → ClassId} {H1 : Heap} {q : Nat} (hP : va_P D vwCl (toW B kc G ++ [(q, conc B cA c)]) H1) (hq : q = B + G.length) (hT : ∀ (k : Nat) (ty : FieldType) (x : vp_A), G[k]? = some (.inl (ty, x)) → ArrOfT s (kc k) ty ∧ va_RA s (kc k) ty) (hc : ∀ ty x, c = .inl (ty, x) → ArrOfT s cA ty ∧ va_RA s cA ty) : Wd D s B (G ++ [c]) H1 := by
  subst hq
  refine ⟨_, by rw [← toW_app]; exact hP, fun k ty x hk => ?_⟩
  by_cases h : k < G.length
  · rw [List.getElem?_append_left h] at hk
    rw [if_neg (by omega)]
    exact hT k ty x hk
  · have h2 : k = G.length := by
      have := (List.getElem?_eq_some_iff.mp hk).1
      simp at this
      omega
    subst h2
    rw [if_pos rfl]
    rw [List.getElem?_append_right (by omega)] at hk
    simp at hk
    exact hc ty x hk
section CROWS
variable {p : Program} {l : Launch} {e : Env} {R : Room} {s : State} {m : MethodId} {args : Array Value} {below : List Frame} {meth : Method} {c : Code} {B nL n0 : Nat} {cells slots : Nat} {Q : State → Prop} {cc : ByteArray} {pc : Nat} {L : Loca} {st : List Value} {D : va_G} {G : List GC}
/-- where the new cell lies -/
theorem new_at {H1 : Heap} {kc : Nat → ClassId} {q : Nat} {x : va_E} (hP1 : va_P D vwCl (toW B kc G ++ [(q, x)]) H1) (hD1 : va_D (fun q => B ≤ q) (toW B kc G ++ [(q, x)])) (hs : H1.size ≤ s.heap.size + (cells + 1)) (hB : s.heap.size = B + n0) (hG : G.length = n0 + cells) : q = B + G.length := by
  have h1 := newq hD1
  have hlen : (toW B kc G).length = G.length := by unfold toW; simp
  have h2 := at_lt (hP1 G.length (q, x) (by rw [List.getElem?_append_right (by omega), hlen]; simp))
  have h3 : q < H1.size := h2
  omega
theorem p_new (hx : p.tables.exec = Jvm.exec) (hb : c.code = cc) (hts : ∀ w ∈ lw_g, w.before args s = true) {own idx ci : Nat} {qc : vw_C} (hown : s.vm.findClass (ownN own) = some m.cls) (hK : va_K D vwCl [] s) (hc : vwCl[ci]? = some qc) (w1 : Cond.classLink (ownN own) idx qc.1 ∈ lw_tbl) (w2 : Cond.instantiable qc.1 qc.2.2 ∈ lw_tbl) (w3 : Cond.initialized qc.1 ∈ lw_tbl) (hB : s.heap.size = B + n0) (hG : G.length = n0 + cells) (hcells : cells + 1 ≤ R.cells) (hslots : slots + fldN ci ≤ R.slots) (hd : decode cc pc = .ok (.new idx, 3))
    (k : At p l e R s m args below meth c B nL s.heap (cells + 1) (slots + fldN ci) Q (Wd D s B (G ++ [.inr (ci, dfl ci)])) (pc + 3) L (.ref G.length :: st)) : At p l e R s m args below meth c B nL s.heap cells slots Q (Wd D s B G) pc L st := by
  intro H locs ls hX hS ha
  obtain ⟨kc, hP, hT⟩ := hX
  obtain ⟨h4, ty0, h5, h6⟩ := cl_ok _ _ hc
  obtain ⟨h7, h8⟩ := dfl_ok hc
  rw [← h7] at hslots k
  refine va_new (T := qc.2.1) (N := qc.2.2) (ci := ci) (fs := dfl ci) hx hb hts h4 ty0 h5 hown (hts _ (inG w1 rfl)) (hts _ (inG w2 rfl)) (hts _ (inG w3 rfl)) hK hP (toW_D B kc G) hS (fun q hq => by omega) hc (h8 ty0 h5) hcells hslots hd fun q H1 hP1 hD1 hS1 => W_hs fun hs => ?_
  have hq := new_at hP1 hD1 hs hB hG
  have e1 : (Sum.inr (ci, dfl ci) : va_E) = conc B 0 (.inr (ci, dfl ci)) := by show _ = Sum.inr (ci, (dfl ci).map (cv B)); rw [dfl_cv]
  rw [e1] at hP1
  have := k H1 locs ls (Wd_push hP1 hq hT (fun ty x h => by cases h)) hS1 ha
  rw [hq]
  exact this
theorem p_newa (hx : p.tables.exec = Jvm.exec) (hb : c.code = cc) (hts : ∀ w ∈ lw_g, w.before args s = true) (hK : va_K D vwCl [] s) {t : ArrayType} {ty : FieldType} (hty : Op.newarray.typeOf t = ty) (w1 : Cond.arrayClass ty ∈ lw_tbl) {x : Int32} (hx0 : cntC x = true) (hdv : ∀ (cA : ClassId) (N : Nat), vp_cell cA (N, .inl fun _ => 0) = arrV cA N (fun _ => defaultValue ty)) (hcb : componentBytes ty ≤ 4) (hB : s.heap.size = B + n0) (hG : G.length = n0 + cells) (hcells : cells + 1 ≤ R.cells) (hslots : slots + x.toNatClampNeg ≤ R.slots) (hd : decode cc pc = .ok (.newarray t, 2))
    (k : At p l e R s m args below meth c B nL s.heap (cells + 1) (slots + x.toNatClampNeg) Q (Wd D s B (G ++ [.inl (ty, x.toNatClampNeg, .inl fun _ => 0)])) (pc + 2) L (.ref G.length :: st)) : At p l e R s m args below meth c B nL s.heap cells slots Q (Wd D s B G) pc L (.int x :: st) := by
  intro H locs ls hX hS ha
  obtain ⟨kc, hP, hT⟩ := hX
  unfold cntC at hx0
  simp only [Bool.and_eq_true, Bool.not_eq_true', decide_eq_false_iff_not] at hx0
  have hx1 := Nat.le_of_ble_eq_true hx0.2
  subst hty
  have hmul : x.toNatClampNeg * componentBytes (Op.newarray.typeOf t) ≤ 1000 * 4 := Nat.mul_le_mul hx1 hcb
  refine va_newa (a0 := (x.toNatClampNeg, .inl fun _ => 0)) hx hb (hts _ (inG w1 rfl)) rfl hK hP (toW_D B kc G) hS (fun q hq => by omega) (fun cA => hdv cA _) hx0.1 rfl (by omega) hcells hslots hd fun q cA H1 hK1 hP1 hD1 hS1 => W_hs fun hs => ?_
  have hq := new_at hP1 hD1 hs hB hG
  have := k H1 locs ls (Wd_push (cA := cA) (c := .inl (Op.newarray.typeOf t, x.toNatClampNeg, .inl fun _ => 0)) hP1 hq hT (fun ty x h => by cases h; exact hK1.2 0 _ rfl)) hS1 ha
  rw [hq]
  exact this
theorem p_newq (hx : p.tables.exec = Jvm.exec) (hb : c.code = cc) (hts : ∀ w ∈ lw_g, w.before args s = true) {own idx : Nat} {C : String} (hown : s.vm.findClass (ownN own) = some m.cls) (hK : va_K D vwCl [] s) (w1 : Cond.classLink (ownN own) idx C ∈ lw_tbl) (hov : va_AO C s) {x : Int32} (hx0 : cntC x = true) (hB : s.heap.size = B + n0) (hG : G.length = n0 + cells) (hcells : cells + 1 ≤ R.cells) (hslots : slots + x.toNatClampNeg ≤ R.slots) (hd : decode cc pc = .ok (.anewarray idx, 3))
    (k : At p l e R s m args below meth c B nL s.heap (cells + 1) (slots + x.toNatClampNeg) Q (Wd D s B (G ++ [.inl (.object C, x.toNatClampNeg, .inr (.inr (.inr (.inr fun _ => none))))])) (pc + 3) L (.ref G.length :: st)) : At p l e R s m args below meth c B nL s.heap cells slots Q (Wd D s B G) pc L (.int x :: st) := by
  intro H locs ls hX hS ha
  obtain ⟨kc, hP, hT⟩ := hX
  unfold cntC at hx0
  simp only [Bool.and_eq_true, Bool.not_eq_true', decide_eq_false_iff_not] at hx0
  have hx1 := Nat.le_of_ble_eq_true hx0.2
  refine va_newq hx hb hown (hts _ (inG w1 rfl)) hov hK hP (toW_D B kc G) hS (fun q hq => by omega) hx0.1 rfl (by omega) hcells hslots hd fun q cA H1 hK1 hP1 hD1 hS1 => W_hs fun hs => ?_
  have hq := new_at hP1 hD1 hs hB hG
  have := k H1 locs ls (Wd_push (cA := cA) (c := .inl (.object C, x.toNatClampNeg, .inr (.inr (.inr (.inr fun _ => none))))) hP1 hq hT (fun ty x h => by cases h; exact hK1.2 0 _ rfl)) hS1 ha
  rw [hq]
  exact this
theorem p_putF (hx : p.tables.exec = Jvm.exec) (hb : c.code = cc) (hts : ∀ w ∈ lw_g, w.before args s = true) {own idx : Nat} (hown : s.vm.findClass (ownN own) = some m.cls) (hK : va_K D vwCl [] s) {a ci f v : Nat} {fs : List Value} {qc : vw_C} (hc : vwCl[ci]? = some qc) (hF : FldOK (own, idx, ci, f)) (hfin : (qc.2.1 f).2.2.2 = true) (hdecl : (qc.2.1 f).1 = ownN own) {ty : FieldType} (hty : parseFieldDescriptor (qc.2.1 f).2.2.1 = some ty) (href : ty.isReference = true) (hnm : meth.name = "<init>") (hG : G[a]? = some (.inr (ci, fs))) (hl : f < fs.length) (hd : decode cc pc = .ok (.putfield idx, 3))
    (k : At p l e R s m args below meth c B nL s.heap cells slots Q (Wd D s B (G.set a (.inr (ci, fs.set f (.ref v))))) (pc + 3) L st) : At p l e R s m args below meth c B nL s.heap cells slots Q (Wd D s B G) pc L (.ref v :: .ref a :: st) := by
  intro H locs ls hX hS ha
  obtain ⟨kc, hP, hT⟩ := hX
  obtain ⟨C, T, N, h1, h2, h3⟩ := hF
  have e0 : qc = (C, T, N) := Option.some.inj (hc.symm.trans h1)
  subst e0
  obtain ⟨h4, ty0, h5, h6⟩ := cl_ok _ _ h1
  refine va_putF (v := .ref (B + v)) hx hb hts h4 ty0 h5 h6 hown hK hP (toW_D B kc G) hS a (toW_get hG) h1 f h2 (hts _ (inG h3 rfl)) (fun _ h9 => h9) hfin hnm hdecl hty (by cases ty <;> first | rfl | cases href) (by cases ty <;> first | rfl | cases href) (by rw [List.length_map]; exact hl) hd fun H1 locs1 hP1 _ hS1 => ?_
  refine k H1 locs1 ls ⟨kc, ?_, Wd_setT hT hG (fun ty x h => by cases h)⟩ hS1 ha
  have e1 : ((fs.map (cv B)).set f (.ref (B + v))) = (fs.set f (.ref v)).map (cv B) := by rw [List.map_set]; rfl
  rw [e1] at hP1
  rw [← toW_set]
  exact hP1
theorem p_aast (hx : p.tables.exec = Jvm.exec) (hb : c.code = cc) (hK : va_K D vwCl [] s) {a v n ci : Nat} {f : Nat → Option Nat} {i : Int32} {vs : List Value} {qc : vw_C} (hc : vwCl[ci]? = some qc) (hG : G[a]? = some (.inl (.object qc.1, n, .inr (.inr (.inr (.inr f)))))) (hV : G[v]? = some (.inr (ci, vs))) (hi : vp_in i n) (hd : decode cc pc = .ok (.aastore, 1))
    (k : At p l e R s m args below meth c B nL s.heap cells slots Q (Wd D s B (G.set a (.inl (.object qc.1, n, .inr (.inr (.inr (.inr (va_up f i.toNatClampNeg (some v))))))))) (pc + 1) L st) : At p l e R s m args below meth c B nL s.heap cells slots Q (Wd D s B G) pc L (.ref v :: .int i :: .ref a :: st) := by
  intro H locs ls hX hS ha
  obtain ⟨kc, hP, hT⟩ := hX
  refine va_astq hx hb (Wd_K hK (hT a _ _ hG)) hP (toW_D B kc G) hS a 0 v ci (toW_get hG) rfl (toW_get hV) hc hi hd fun H1 locs1 hP1 _ hS1 => ?_
  refine k H1 locs1 ls ⟨kc, ?_, Wd_setT hT hG (fun ty x h => by cases h; exact ⟨_, rfl⟩)⟩ hS1 ha
  rw [← toW_set]
  have e1 : (va_up (fun j => (f j).map fun a => B + a) i.toNatClampNeg (some (B + v))) = fun j => ((va_up f i.toNatClampNeg (some v)) j).map fun a => B + a := by
    funext j
    unfold va_up
    split <;> rfl
  rw [e1] at hP1
  exact hP1
theorem p_objI (hx : p.tables.exec = Jvm.exec) (hb : c.code = cc) (hml : c.maxLocals = nL) (hts : ∀ w ∈ lw_g, w.before args s = true) {own idx a : Nat} (hown : s.vm.findClass (ownN own) = some m.cls) (w1 : Cond.methodLink (ownN own) idx Lib.objectInit ∈ lw_tbl) (w2 : Cond.instanceMethod Lib.objectInit ∈ lw_tbl) (w3 : Cond.code Lib.objectInit ⟨#[0xb1]⟩ 1 none ∈ lw_tbl) (h1 : 1 ≤ R.frames) (h2 : 40 ≤ R.locals) (hf : cats st ≤ 8) (hd : decode cc pc = .ok (.invokespecial idx, 3))
    (k : At p l e R s m args below meth c B nL s.heap cells slots Q (Wd D s B G) (pc + 3) L st) : At p l e R s m args below meth c B nL s.heap cells slots Q (Wd D s B G) pc L (.ref a :: st) := by
  intro H locs ls hX hS ha
  refine W.objInit hx hb hown (hts _ (inG w1 rfl)) (hts _ (inG w2 rfl)) (hts _ (inG w3 rfl)) rfl (by rw [hml]; exact ha.2.1) (a := B + a) (rest := st.map (cv B)) rfl hd h1 ?_ (k H locs ls hX hS ha)
  have := lv_room (m := m) (pc := pc) (ls := ls) (rest := (.ref a :: st).map (cv B)) (st := st.map (cv B)) (by rw [cats_map]; exact hf)
  omega
end CROWS
