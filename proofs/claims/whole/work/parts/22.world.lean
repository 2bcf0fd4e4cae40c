/-- the words that stay true while the machine runs on -/
def lw_g : List Cond := lw_tbl.filter goodWord
theorem inG {w : Cond} (h : w ∈ lw_tbl) (hg : goodWord w = true) : w ∈ lw_g := List.mem_filter.mpr ⟨h, hg⟩
theorem lay_good (C : String) (T : u_T) (k : Nat) : goodWord (u_lay C T k) = true := by
  unfold u_lay
  split <;> rfl
/-! the world: the cells as the machine has them -/
def conA (B : Nat) : vp_A → vp_A
  | (n, .inr (.inr (.inr (.inr f)))) => (n, .inr (.inr (.inr (.inr (fun i => (f i).map fun a => B + a)))))
  | (n, .inl f) => (n, .inl f)
  | (n, .inr (.inl f)) => (n, .inr (.inl f))
  | (n, .inr (.inr (.inl f))) => (n, .inr (.inr (.inl f)))
  | (n, .inr (.inr (.inr (.inl f)))) => (n, .inr (.inr (.inr (.inl f))))
def conc (B : Nat) (cA : ClassId) : GC → va_E
  | .inl (_, x) => .inl (cA, conA B x)
  | .inr (ci, fs) => .inr (ci, fs.map (cv B))
def toW (B : Nat) (kc : Nat → ClassId) (G : List GC) : va_W := G.mapIdx fun k c => (B + k, conc B (kc k) c)
theorem toW_get {B : Nat} {kc : Nat → ClassId} {G : List GC} {k : Nat} {c : GC} (h : G[k]? = some c) : (toW B kc G)[k]? = some (B + k, conc B (kc k) c) := by
  unfold toW
  rw [List.getElem?_mapIdx, h]
  rfl
theorem toW_inv {B : Nat} {kc : Nat → ClassId} {G : List GC} {k : Nat} {q : Nat × va_E} (h : (toW B kc G)[k]? = some q) : ∃ c, G[k]? = some c ∧ q = (B + k, conc B (kc k) c) := by
  unfold toW at h
  rw [List.getElem?_mapIdx] at h
  cases hg : G[k]? with
  | none => rw [hg] at h; cases h
  | some c =>
    rw [hg] at h
    exact ⟨c, rfl, (Option.some.inj h).symm⟩
theorem toW_set {B : Nat} {kc : Nat → ClassId} {G : List GC} {k : Nat} {c : GC} : (toW B kc G).set k (B + k, conc B (kc k) c) = toW B kc (G.set k c) := by
  apply List.ext_getElem?
  intro i
  unfold toW
  rw [List.getElem?_mapIdx, List.getElem?_set, List.getElem?_set]
  by_cases e : k = i
  · subst e
    simp only [if_true, List.length_mapIdx]
    by_cases hl : k < G.length
    · simp [hl]
    · simp [hl]
  · simp [e, List.getElem?_mapIdx]
theorem toW_D (B : Nat) (kc : Nat → ClassId) (G : List GC) : va_D (fun q => B ≤ q) (toW B kc G) := by
  refine ⟨fun i j x y hi hj hxy => ?_, fun k q hk => ?_⟩
  · obtain ⟨c, -, rfl⟩ := toW_inv hi
    obtain ⟨d, -, rfl⟩ := toW_inv hj
    have h : B + i = B + j := hxy
    omega
  · obtain ⟨c, -, rfl⟩ := toW_inv hk
    exact Nat.le_add_right _ _
/-- the heap holds the cells G from B on; array classes are of their types -/
def Wd (D : va_G) (s : State) (B : Nat) (G : List GC) (H : Heap) : Prop := ∃ kc : Nat → ClassId, va_P D vwCl (toW B kc G) H ∧ ∀ (k : Nat) (ty : FieldType) (x : vp_A), G[k]? = some (.inl (ty, x)) → ArrOfT s (kc k) ty ∧ va_RA s (kc k) ty
theorem Wd_K {D : va_G} {s : State} (hK : va_K D vwCl [] s) {cA : ClassId} {ty : FieldType} (h : ArrOfT s cA ty ∧ va_RA s cA ty) : va_K D vwCl [(cA, ty)] s := by
  refine ⟨hK.1, fun k q hk => ?_⟩
  have h0 : k < 1 := (List.getElem?_eq_some_iff.mp hk).1
  rw [show k = 0 by omega] at hk
  cases hk
  exact h
theorem Wd_setT {s : State} {kc : Nat → ClassId} {G : List GC} {a : Nat} {c0 c1 : GC} (h : ∀ (k : Nat) (ty : FieldType) (x : vp_A), G[k]? = some (.inl (ty, x)) → ArrOfT s (kc k) ty ∧ va_RA s (kc k) ty) (h0 : G[a]? = some c0) (ht : ∀ ty x, c1 = .inl (ty, x) → ∃ x0, c0 = .inl (ty, x0)) : ∀ (k : Nat) (ty : FieldType) (x : vp_A), (G.set a c1)[k]? = some (.inl (ty, x)) → ArrOfT s (kc k) ty ∧ va_RA s (kc k) ty := by
  intro k ty x hk
  have hl := (List.getElem?_eq_some_iff.mp h0).1
  by_cases e : a = k
  · subst e
    rw [List.getElem?_set_self hl] at hk
    obtain ⟨x0, hx0⟩ := ht ty x (Option.some.inj hk)
    rw [hx0] at h0
    exact h a ty x0 h0
  · rw [List.getElem?_set_ne e] at hk
    exact h k ty x hk
theorem lay_in {C : String} {T : u_T} {N : Nat} (h : ∀ w ∈ u_ws C T N, w ∈ lw_tbl) : ∀ w ∈ u_ws C T N, w ∈ lw_g := by
  intro w hw
  obtain ⟨k, -, rfl⟩ := List.mem_map.mp hw
  exact inG (h _ hw) (lay_good C T k)
/-- what the classes' tables say -/
theorem cl_ok : ∀ (ci : Nat) (q : vw_C), vwCl[ci]? = some q → (∀ w ∈ u_ws q.1 q.2.1 q.2.2, w ∈ lw_g) ∧ ∃ ty0 : Nat → FieldType, (∀ k, k < q.2.2 → parseFieldDescriptor (q.2.1 k).2.2.1 = some (ty0 k)) ∧ ∀ a, a < q.2.2 → ∀ b, b < q.2.2 → a ≠ b → (q.2.1 a).2.1 ≠ (q.2.1 b).2.1 := by
  intro ci q h
  match ci, h with
  | 0, h => cases h; exact ⟨lay_in i_X0, tyX0, tyX0_ok, nmX0⟩
  | 1, h => cases h; exact ⟨lay_in i_X1, tyX1, tyX1_ok, nmX1⟩
  | 2, h => cases h; exact ⟨lay_in i_X2, tyX2, tyX2_ok, nmX2⟩
  | 3, h => cases h; exact ⟨lay_in i_X3, tyX3, tyX3_ok, nmX3⟩
  | 4, h => cases h; exact ⟨lay_in i_X4, tyX4, tyX4_ok, nmX4⟩
  | 5, h => cases h; exact ⟨lay_in i_X5, tyX5, tyX5_ok, nmX5⟩
  | 6, h => cases h; exact ⟨lay_in i_X6, tyX6, tyX6_ok, nmX6⟩
  | 7, h => cases h; exact ⟨lay_in i_X7, tyX7, tyX7_ok, nmX7⟩
  | n + 8, h => simp [vwCl] at h
section HEAP
variable {p : Program} {l : Launch} {e : Env} {R : Room} {s : State} {m : MethodId} {args : Array Value} {below : List Frame} {meth : Method} {c : Code} {B nL : Nat} {H0 : Heap} {cells slots : Nat} {Q : State → Prop} {cc : ByteArray} {pc : Nat} {L : Loca} {st : List Value} {D : va_G} {G : List GC}
theorem p_getf (hx : p.tables.exec = Jvm.exec) (hb : c.code = cc) (hts : ∀ w ∈ lw_g, w.before args s = true) {own idx : Nat} (hown : s.vm.findClass (ownN own) = some m.cls) (hK : va_K D vwCl [] s) {a ci f : Nat} {fs : List Value} {v : Value} (hF : FldOK (own, idx, ci, f)) (hG : G[a]? = some (.inr (ci, fs))) (hv : fs[f]? = some v) (hd : decode cc pc = .ok (.getfield idx, 3))
    (k : At p l e R s m args below meth c B nL H0 cells slots Q (Wd D s B G) (pc + 3) L (v :: st)) : At p l e R s m args below meth c B nL H0 cells slots Q (Wd D s B G) pc L (.ref a :: st) := by
  intro H locs ls hX hS ha
  obtain ⟨kc, hP, hT⟩ := hX
  obtain ⟨C, T, N, h1, h2, h3⟩ := hF
  obtain ⟨h4, -⟩ := cl_ok _ _ h1
  exact va_get hx hb hts h4 hown hK hP a (toW_get hG) h1 f h2 (hts _ (inG h3 rfl)) (fun _ h9 => h9) (show (fs.map (cv B))[f]? = some (cv B v) by rw [List.getElem?_map, hv]; rfl) hd (k H locs ls ⟨kc, hP, hT⟩ hS ha)
theorem p_putf (hx : p.tables.exec = Jvm.exec) (hb : c.code = cc) (hts : ∀ w ∈ lw_g, w.before args s = true) {own idx : Nat} (hown : s.vm.findClass (ownN own) = some m.cls) (hK : va_K D vwCl [] s) {a ci f : Nat} {fs : List Value} {v : Value} (hF : FldOK (own, idx, ci, f)) (hnf : ∀ C T N, vwCl[ci]? = some (C, T, N) → (T f).2.2.2 = false ∧ ∃ ty, parseFieldDescriptor (T f).2.2.1 = some ty ∧ narrow ty v = v ∧ fits ty v = true) (hcv : cv B v = v) (hG : G[a]? = some (.inr (ci, fs))) (hl : f < fs.length) (hd : decode cc pc = .ok (.putfield idx, 3))
    (k : At p l e R s m args below meth c B nL H0 cells slots Q (Wd D s B (G.set a (.inr (ci, fs.set f v)))) (pc + 3) L st) : At p l e R s m args below meth c B nL H0 cells slots Q (Wd D s B G) pc L (v :: .ref a :: st) := by
  intro H locs ls hX hS ha
  obtain ⟨kc, hP, hT⟩ := hX
  obtain ⟨C, T, N, h1, h2, h3⟩ := hF
  obtain ⟨h4, ty0, h5, h6⟩ := cl_ok _ _ h1
  obtain ⟨h7, ty, h8, h9, h10⟩ := hnf _ _ _ h1
  refine va_put hx hb hts h4 ty0 h5 h6 hown hK hP (toW_D B kc G) hS a (toW_get hG) h1 f h2 (hts _ (inG h3 rfl)) (fun _ h9 => h9) h7 h8 (by rw [hcv]; exact h9) (by rw [hcv]; exact h10) (by rw [List.length_map]; exact hl) hd fun H1 locs1 hP1 _ hS1 => ?_
  refine k H1 locs1 ls ⟨kc, ?_, Wd_setT hT hG (fun ty x h => by cases h)⟩ hS1 ha
  have e1 : ((fs.map (cv B)).set f (cv B v)) = (fs.set f v).map (cv B) := by rw [List.map_set]
  rw [e1] at hP1
  rw [← toW_set]
  exact hP1
theorem p_iald (hx : p.tables.exec = Jvm.exec) (hb : c.code = cc) (hK : va_K D vwCl [] s) {a n : Nat} {f : Nat → Int32} {i : Int32} (hG : G[a]? = some (.inl (.int, n, .inl f))) (hi : vp_in i n) (hd : decode cc pc = .ok (.iaload, 1))
    (k : At p l e R s m args below meth c B nL H0 cells slots Q (Wd D s B G) (pc + 1) L (.int (f i.toNatClampNeg) :: st)) : At p l e R s m args below meth c B nL H0 cells slots Q (Wd D s B G) pc L (.int i :: .ref a :: st) := by
  intro H locs ls hX hS ha
  obtain ⟨kc, hP, hT⟩ := hX
  exact va_iald hx hb (Wd_K hK (hT a _ _ hG)) hP a 0 (toW_get hG) rfl hi hd (k H locs ls ⟨kc, hP, hT⟩ hS ha)
theorem p_zald (hx : p.tables.exec = Jvm.exec) (hb : c.code = cc) (hK : va_K D vwCl [] s) {a n : Nat} {f : Nat → Int32} {i : Int32} (hG : G[a]? = some (.inl (.boolean, n, .inl f))) (hi : vp_in i n) (hd : decode cc pc = .ok (.baload, 1))
    (k : At p l e R s m args below meth c B nL H0 cells slots Q (Wd D s B G) (pc + 1) L (.int (f i.toNatClampNeg) :: st)) : At p l e R s m args below meth c B nL H0 cells slots Q (Wd D s B G) pc L (.int i :: .ref a :: st) := by
  intro H locs ls hX hS ha
  obtain ⟨kc, hP, hT⟩ := hX
  exact va_zald hx hb (Wd_K hK (hT a _ _ hG)) hP a 0 (toW_get hG) rfl hi hd (k H locs ls ⟨kc, hP, hT⟩ hS ha)
theorem p_aald (hx : p.tables.exec = Jvm.exec) (hb : c.code = cc) {a n b : Nat} {ty : FieldType} {f : Nat → Option Nat} {i : Int32} (hty : ty.isReference = true) (hG : G[a]? = some (.inl (ty, n, .inr (.inr (.inr (.inr f)))))) (hi : vp_in i n) (hf : f i.toNatClampNeg = some b) (hd : decode cc pc = .ok (.aaload, 1))
    (k : At p l e R s m args below meth c B nL H0 cells slots Q (Wd D s B G) (pc + 1) L (.ref b :: st)) : At p l e R s m args below meth c B nL H0 cells slots Q (Wd D s B G) pc L (.int i :: .ref a :: st) := by
  intro H locs ls hX hS ha
  obtain ⟨kc, hP, hT⟩ := hX
  have hlt : i.toNatClampNeg < n := Nat.not_le.mp fun q => hi (Or.inr q)
  have hP1 : H[B + a]? = some (vp_cell (kc a) (n, .inr (.inr (.inr (.inr (fun i => (f i).map fun a => B + a)))))) := hP a _ (toW_get hG)
  refine W.aald (v := .ref (B + b)) (ty := ty) hx hb hP1 ((hT a _ _ hG).1 n (fun j => va_rf ((f j).map fun a => B + a))) hty (fun q => by cases q) (by show ¬ (i < 0 ∨ (arrV _ _ _).slots.size ≤ _); rw [arrV_size]; exact hi) (by show (arrV _ _ _).slots[_]? = _; rw [arrV_read _ _ hlt]; show some (va_rf ((f i.toNatClampNeg).map fun a => B + a)) = _; rw [hf]; rfl) rfl rfl hd (k H locs ls ⟨kc, hP, hT⟩ hS ha)
theorem p_alen (hx : p.tables.exec = Jvm.exec) (hb : c.code = cc) (hK : va_K D vwCl [] s) {a : Nat} {ty : FieldType} {x : vp_A} (hG : G[a]? = some (.inl (ty, x))) (hd : decode cc pc = .ok (.arraylength, 1))
    (k : At p l e R s m args below meth c B nL H0 cells slots Q (Wd D s B G) (pc + 1) L (.int (Int32.ofNat x.1) :: st)) : At p l e R s m args below meth c B nL H0 cells slots Q (Wd D s B G) pc L (.ref a :: st) := by
  intro H locs ls hX hS ha
  obtain ⟨kc, hP, hT⟩ := hX
  have e1 : (conA B x).1 = x.1 := by
    obtain ⟨n, f | f | f | f | f⟩ := x <;> rfl
  exact va_alen hx hb (Wd_K hK (hT a _ _ hG)) hP a 0 (toW_get hG) rfl (v := Int32.ofNat x.1) (by rw [e1]) hd (k H locs ls ⟨kc, hP, hT⟩ hS ha)
theorem p_iast (hx : p.tables.exec = Jvm.exec) (hb : c.code = cc) (hK : va_K D vwCl [] s) {a n : Nat} {f : Nat → Int32} {i x : Int32} (hG : G[a]? = some (.inl (.int, n, .inl f))) (hi : vp_in i n) (hd : decode cc pc = .ok (.iastore, 1))
    (k : At p l e R s m args below meth c B nL H0 cells slots Q (Wd D s B (G.set a (.inl (.int, n, .inl (upd f i.toNatClampNeg x))))) (pc + 1) L st) : At p l e R s m args below meth c B nL H0 cells slots Q (Wd D s B G) pc L (.int x :: .int i :: .ref a :: st) := by
  intro H locs ls hX hS ha
  obtain ⟨kc, hP, hT⟩ := hX
  refine va_iast hx hb (Wd_K hK (hT a _ _ hG)) hP (toW_D B kc G) hS a 0 (toW_get hG) rfl hi hd fun H1 locs1 hP1 _ hS1 => ?_
  refine k H1 locs1 ls ⟨kc, ?_, Wd_setT hT hG (fun ty x h => by cases h; exact ⟨_, rfl⟩)⟩ hS1 ha
  rw [← toW_set]
  exact hP1
theorem p_zast (hx : p.tables.exec = Jvm.exec) (hb : c.code = cc) (hK : va_K D vwCl [] s) {a n : Nat} {f : Nat → Int32} {i x : Int32} (hG : G[a]? = some (.inl (.boolean, n, .inl f))) (hi : vp_in i n) (hd : decode cc pc = .ok (.bastore, 1))
    (k : At p l e R s m args below meth c B nL H0 cells slots Q (Wd D s B (G.set a (.inl (.boolean, n, .inl (upd f i.toNatClampNeg (vp_nar .boolean x)))))) (pc + 1) L st) : At p l e R s m args below meth c B nL H0 cells slots Q (Wd D s B G) pc L (.int x :: .int i :: .ref a :: st) := by
  intro H locs ls hX hS ha
  obtain ⟨kc, hP, hT⟩ := hX
  refine va_zast hx hb (Wd_K hK (hT a _ _ hG)) hP (toW_D B kc G) hS a 0 (toW_get hG) rfl hi hd fun H1 locs1 hP1 _ hS1 => ?_
  refine k H1 locs1 ls ⟨kc, ?_, Wd_setT hT hG (fun ty x h => by cases h; exact ⟨_, rfl⟩)⟩ hS1 ha
  rw [← toW_set]
  exact hP1
end HEAP
