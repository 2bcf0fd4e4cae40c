/-! the constructors' machine: soundness -/
def newL : List (Nat × Nat × Nat) := [(6, 9, 4), (6, 18, 0), (6, 36, 3), (6, 45, 5), (6, 52, 2), (0, 35, 1), (8, 7, 6), (8, 10, 7)]
def NewOK (q : Nat × Nat × Nat) : Prop := ∃ qc : vw_C, vwCl[q.2.2]? = some qc ∧ Cond.classLink (ownN q.1) q.2.1 qc.1 ∈ lw_tbl ∧ Cond.instantiable qc.1 qc.2.2 ∈ lw_tbl ∧ Cond.initialized qc.1 ∈ lw_tbl
theorem newL_ok : ∀ q ∈ newL, NewOK q := List.forall_mem_cons.mpr ⟨⟨_, rfl, List.mem_of_getElem? (i := 90) (by decide +kernel), List.mem_of_getElem? (i := 258) (by decide +kernel), List.mem_of_getElem? (i := 76) (by decide +kernel)⟩,
  List.forall_mem_cons.mpr ⟨⟨_, rfl, List.mem_of_getElem? (i := 92) (by decide +kernel), List.mem_of_getElem? (i := 93) (by decide +kernel), List.mem_of_getElem? (i := 71) (by decide +kernel)⟩,
  List.forall_mem_cons.mpr ⟨⟨_, rfl, List.mem_of_getElem? (i := 184) (by decide +kernel), List.mem_of_getElem? (i := 185) (by decide +kernel), List.mem_of_getElem? (i := 73) (by decide +kernel)⟩,
  List.forall_mem_cons.mpr ⟨⟨_, rfl, List.mem_of_getElem? (i := 207) (by decide +kernel), List.mem_of_getElem? (i := 208) (by decide +kernel), List.mem_of_getElem? (i := 74) (by decide +kernel)⟩,
  List.forall_mem_cons.mpr ⟨⟨_, rfl, List.mem_of_getElem? (i := 234) (by decide +kernel), List.mem_of_getElem? (i := 235) (by decide +kernel), List.mem_of_getElem? (i := 75) (by decide +kernel)⟩,
  List.forall_mem_cons.mpr ⟨⟨_, rfl, List.mem_of_getElem? (i := 100) (by decide +kernel), List.mem_of_getElem? (i := 102) (by decide +kernel), List.mem_of_getElem? (i := 72) (by decide +kernel)⟩,
  List.forall_mem_cons.mpr ⟨⟨_, rfl, List.mem_of_getElem? (i := 82) (by decide +kernel), List.mem_of_getElem? (i := 83) (by decide +kernel), List.mem_of_getElem? (i := 70) (by decide +kernel)⟩,
  List.forall_mem_cons.mpr ⟨⟨_, rfl, List.mem_of_getElem? (i := 915) (by decide +kernel), List.mem_of_getElem? (i := 916) (by decide +kernel), List.mem_of_getElem? (i := 77) (by decide +kernel)⟩, fun _ h => absurd h List.not_mem_nil⟩⟩⟩⟩⟩⟩⟩⟩
def anwL : List (Nat × Nat × Nat) := [(6, 9, 0), (6, 18, 1), (0, 35, 2)]
theorem anwL_ok : ∀ q ∈ anwL, Cond.classLink (ownN q.1) q.2.1 (arC q.2.2) ∈ lw_tbl := List.forall_mem_cons.mpr ⟨List.mem_of_getElem? (i := 90) (by decide +kernel), List.forall_mem_cons.mpr ⟨List.mem_of_getElem? (i := 92) (by decide +kernel), List.forall_mem_cons.mpr ⟨List.mem_of_getElem? (i := 100) (by decide +kernel), fun _ h => absurd h List.not_mem_nil⟩⟩⟩
def objL : List (Nat × Nat) := [(0, 3), (1, 3), (2, 3), (3, 3), (4, 3), (5, 3), (6, 1), (7, 1)]
theorem objL_ok : ∀ q ∈ objL, Cond.methodLink (ownN q.1) q.2 Lib.objectInit ∈ lw_tbl := List.forall_mem_cons.mpr ⟨List.mem_of_getElem? (i := 97) (by decide +kernel), List.forall_mem_cons.mpr ⟨List.mem_of_getElem? (i := 106) (by decide +kernel), List.forall_mem_cons.mpr ⟨List.mem_of_getElem? (i := 239) (by decide +kernel), List.forall_mem_cons.mpr ⟨List.mem_of_getElem? (i := 189) (by decide +kernel), List.forall_mem_cons.mpr ⟨List.mem_of_getElem? (i := 262) (by decide +kernel), List.forall_mem_cons.mpr ⟨List.mem_of_getElem? (i := 212) (by decide +kernel), List.forall_mem_cons.mpr ⟨List.mem_of_getElem? (i := 87) (by decide +kernel), List.forall_mem_cons.mpr ⟨List.mem_of_getElem? (i := 920) (by decide +kernel), fun _ h => absurd h List.not_mem_nil⟩⟩⟩⟩⟩⟩⟩⟩
theorem obj_w1 : Cond.instanceMethod Lib.objectInit ∈ lw_tbl := List.mem_of_getElem? (i := 88) (by decide +kernel)
theorem obj_w2 : Cond.code Lib.objectInit ⟨#[0xb1]⟩ 1 none ∈ lw_tbl := List.mem_of_getElem? (i := 89) (by decide +kernel)
def ctoL : List (Nat × Nat × Nat) := [(6, 20, 172), (6, 38, 216), (6, 47, 232), (6, 54, 206), (6, 72, 224), (8, 9, 0), (8, 12, 70)]
def CtoOK (q : Nat × Nat × Nat) : Prop := Cond.methodLink (ownN q.1) q.2.1 (mtY q.2.2) ∈ lw_tbl ∧ Cond.instanceMethod (mtY q.2.2) ∈ lw_tbl ∧ (mtY q.2.2).name = "<init>"
theorem ctoL_ok : ∀ q ∈ ctoL, CtoOK q := List.forall_mem_cons.mpr ⟨⟨List.mem_of_getElem? (i := 94) (by decide +kernel), List.mem_of_getElem? (i := 95) (by decide +kernel), rfl⟩, List.forall_mem_cons.mpr ⟨⟨List.mem_of_getElem? (i := 186) (by decide +kernel), List.mem_of_getElem? (i := 187) (by decide +kernel), rfl⟩, List.forall_mem_cons.mpr ⟨⟨List.mem_of_getElem? (i := 209) (by decide +kernel), List.mem_of_getElem? (i := 210) (by decide +kernel), rfl⟩, List.forall_mem_cons.mpr ⟨⟨List.mem_of_getElem? (i := 236) (by decide +kernel), List.mem_of_getElem? (i := 237) (by decide +kernel), rfl⟩, List.forall_mem_cons.mpr ⟨⟨List.mem_of_getElem? (i := 259) (by decide +kernel), List.mem_of_getElem? (i := 260) (by decide +kernel), rfl⟩, List.forall_mem_cons.mpr ⟨⟨List.mem_of_getElem? (i := 84) (by decide +kernel), List.mem_of_getElem? (i := 85) (by decide +kernel), rfl⟩, List.forall_mem_cons.mpr ⟨⟨List.mem_of_getElem? (i := 917) (by decide +kernel), List.mem_of_getElem? (i := 918) (by decide +kernel), rfl⟩, fun _ h => absurd h List.not_mem_nil⟩⟩⟩⟩⟩⟩⟩
theorem let_w : Cond.instanceMethod (mtY 195) ∈ lw_tbl ∧ (mtY 195).name = "<init>" := ⟨List.mem_of_getElem? (i := 104) (by decide +kernel), rfl⟩
theorem mul_w1 : Cond.classLink (ownN 0) 27 ("[" ++ (FieldType.array .int).toString) ∈ lw_tbl := List.mem_of_getElem? (i := 98) (by decide +kernel)
theorem ai_w : Cond.arrayClass .int ∈ lw_tbl := List.mem_of_getElem? (i := 129) (by decide +kernel)
theorem az_w : Cond.arrayClass .boolean ∈ lw_tbl := List.mem_of_getElem? (i := 206) (by decide +kernel)
/-- what else the constructors need of the tables -/
def Own (U : State) : Prop := (∀ k, va_AO (arC k) U) ∧ Av2 U ∧ va_Nw (.methodLinkNest (ownN 0) 54 (mtY 195) "BlindPost") U
theorem Own.warm {s U : State} (hW : s.WarmedH U.vm) (h : Own s) : Own U := ⟨fun k => (h.1 k).moved hW.alike, h.2.1.moved hW.alike, h.2.2.warmM hW⟩
theorem Own.same {s U : State} (hv : s.vm = U.vm) (h : Own s) : Own U := ⟨fun k => (h.1 k).moved (by rw [← hv]; exact Vm.Alike.refl s.vm), h.2.1.moved (by rw [← hv]; exact Vm.Alike.refl s.vm), h.2.2.same rfl hv⟩
def chkF (own ci f : Nat) : Bool := match vwCl[ci]? with
  | some q => (q.2.1 f).2.2.2 && decide ((q.2.1 f).1 = ownN own) && (match parseFieldDescriptor (q.2.1 f).2.2.1 with
    | some ty => ty.isReference
    | none => false)
  | none => false
def chkX (own : Nat) (cc : ByteArray) (en : Ent) : Bool := decide (decode cc en.1 = .ok (en.2.1, en.2.2.1)) && (match en.2.1 with
  | .new j => Nat.beq en.2.2.1 3 && (match en.2.2.2.1 with
    | [ci] => decide ((own, j, ci) ∈ newL)
    | _ => false)
  | .newarray t => Nat.beq en.2.2.1 2 && (decide (t = .int) || decide (t = .boolean))
  | .anewarray j => Nat.beq en.2.2.1 3 && (match en.2.2.2.1 with
    | [k] => decide ((own, j, k) ∈ anwL)
    | _ => false)
  | .multianewarray j d => Nat.beq en.2.2.1 4 && Nat.beq d 2 && Nat.beq j 27 && Nat.beq own 0
  | .putfield j => Nat.beq en.2.2.1 3 && (match en.2.2.2.1 with
    | [ci, f, _] => decide ((own, j, ci, f) ∈ fldL) && chkF own ci f
    | _ => false)
  | .aastore => Nat.beq en.2.2.1 1
  | .invokespecial j => Nat.beq en.2.2.1 3 && (match en.2.2.2.1 with
    | [] => decide ((own, j) ∈ objL)
    | [mi, nn] => (decide ((own, j, mi) ∈ ctoL) || (Nat.beq own 0 && Nat.beq j 54 && Nat.beq mi 195)) && Nat.beq nn (mtN mi + 1)
    | _ => false)
  | .return_ => Nat.beq en.2.2.1 1
  | _ => false)
/-- THE CONTRACT of a constructor -/
def rmC (d CB SB : Nat) : Room := { frames := d, cells := CB, slots := SB, locals := 40 * d }
def OkC (mi d CB SB : Nat) (as : List Value) (G G' : List GC) : Prop := ∀ (l : Launch) (D : va_G) (B : Nat), Met l (mtY mi) (Cond.code (mtY mi) (mtC mi) (mtM mi) none :: lw_g) (rmC d CB SB) (va_Pc (as.map (cv B)) (fun U => Wd D U B G U.heap ∧ U.heap.size = B + G.length ∧ va_K D vwCl [] U ∧ Nst U ∧ Own U)) (va_Qv (S := Unit) (fun _ => True) (fun _ t => Wd D t B G' t.heap) (fun q => B ≤ q)) CB SB (fun q => B ≤ q)
def SemCOK (S : SemC) (d : Nat) : Prop := ∀ q ∈ S, MtOK q.1 ∧ mtR q.1 = none ∧ ∃ d', d' < d ∧ ∀ as G G', q.2.2.2 as G = some G' → OkC q.1 d' q.2.1 q.2.2.1 as G G'
theorem semC_ok {d : Nat} : ∀ {S : SemC} {mi mc ms : Nat} {f : List Value → List GC → Option (List GC)}, SemCOK S d → semC S mi = some (mc, ms, f) → MtOK mi ∧ mtR mi = none ∧ ∃ d', d' < d ∧ ∀ as G G', f as G = some G' → OkC mi d' mc ms as G G'
  | [], mi, mc, ms, f, _, e => by cases e
  | q :: S, mi, mc, ms, f, hS, e => by
    unfold semC at e
    split at e
    · next hq =>
      have hq := Nat.eq_of_beq_eq_true hq
      subst hq
      have e2 : q.2 = (mc, ms, f) := Option.some.inj e
      have := hS q List.mem_cons_self
      rw [e2] at this
      exact this
    · exact semC_ok (fun q hq => hS q (List.mem_cons_of_mem _ hq)) e
/-- what a constructor's body has at its entry -/
def CxC (p : Program) (R : Room) (s : State) (m : MethodId) (args : Array Value) (meth : Method) (c : Code) (D : va_G) (B n0 own mi d CB SB : Nat) : Prop := p.tables.exec = Jvm.exec ∧ c.code = mtC mi ∧ c.maxLocals = mtM mi ∧ (∀ w ∈ lw_g, w.before args s = true) ∧ s.vm.findClass (ownN own) = some m.cls ∧ va_K D vwCl [] s ∧ Nst s ∧ Own s ∧ (d ≤ R.frames ∧ 40 * d ≤ R.locals) ∧ 1 ≤ d ∧ (CB ≤ R.cells ∧ SB ≤ R.slots) ∧ meth.name = "<init>" ∧ s.heap.size = B + n0
def EndC (own mi d n0 CB SB : Nat) (G' : List GC) (pc : Nat) (L : Loca) (st : List Value) (G : List GC) (ck sk : Nat) : Prop := ∀ (p : Program) (l : Launch) (e : Env) (R : Room) (s : State) (m : MethodId) (args : Array Value) (below : List Frame) (meth : Method) (c : Code) (B : Nat) (Q : State → Prop) (D : va_G),
  CxC p R s m args meth c D B n0 own mi d CB SB → (∀ pc L, decode (mtC mi) pc = .ok (.return_, 1) → At p l e R s m args below meth c B (mtM mi) s.heap CB SB Q (Wd D s B G') pc L []) → ck ≤ CB → sk ≤ SB → At p l e R s m args below meth c B (mtM mi) s.heap ck sk Q (Wd D s B G) pc L st
theorem aloC_inv {ρ : Type} {n0 CB SB ck sk n : Nat} {G : List GC} {c : GC} {κ : List GC → Nat → Nat → Option ρ} {z : ρ} (h : aloC n0 CB SB G ck sk n c κ = some z) : G.length = n0 + ck ∧ ck + 1 ≤ CB ∧ sk + n ≤ SB ∧ κ (G ++ [c]) (ck + 1) (sk + n) = some z := by
  unfold aloC at h
  split at h
  · next q =>
    rw [Bool.and_eq_true, Bool.and_eq_true] at q
    rw [frG_eq] at h
    exact ⟨Nat.eq_of_beq_eq_true q.1.1, Nat.le_of_ble_eq_true q.1.2, Nat.le_of_ble_eq_true q.2, h⟩
  · cases h
theorem preC_blind {D0 : va_G} {B : Nat} {G : List GC} {as : List Value} : FrameBlind (va_Pc (as.map (cv B)) (fun U => Wd D0 U B G U.heap ∧ U.heap.size = B + G.length ∧ va_K D0 vwCl [] U ∧ Nst U ∧ Own U)) := fun a U g mk q => ⟨q.1, Wd_moved (s := U) (U := U.calling g mk a) (Vm.Alike.refl U.vm) q.2.1, q.2.2.1, va_K.moved (u := U) (U := U.calling g mk a) (Vm.Alike.refl U.vm) q.2.2.2.1, q.2.2.2.2.1.same (U := U.calling g mk a) rfl, q.2.2.2.2.2.same (U := U.calling g mk a) rfl⟩
section CALLC
variable {p : Program} {l : Launch} {e : Env} {R : Room} {s : State} {m : MethodId} {args : Array Value} {below : List Frame} {meth : Method} {c : Code} {B nL n0 : Nat} {cells slots : Nat} {Q : State → Prop} {cc : ByteArray} {pc : Nat} {L : Loca} {st : List Value} {D : va_G} {G : List GC}
theorem p_ctor (hx : p.tables.exec = Jvm.exec) (hb : c.code = cc) (hml : c.maxLocals = nL) (hts : ∀ w ∈ lw_g, w.before args s = true) {own idx a mi d' mc ms nn : Nat} {as r : List Value} {G' : List GC} (hown : s.vm.findClass (ownN own) = some m.cls) (hK : va_K D vwCl [] s) (hN : Nst s) (hO : Own s) (hm : MtOK mi) (hr : mtR mi = none) (hok : OkC mi d' mc ms (.ref a :: as) G G') (hB : s.heap.size = B + n0) (hG : G.length = n0 + cells) (hR : d' + 1 ≤ R.frames ∧ 40 * (d' + 1) ≤ R.locals) (hcs : cells + mc ≤ R.cells ∧ slots + ms ≤ R.slots) (ht : topn nn [] st = some (.ref a :: as, r)) (hnn : nn = mtN mi + 1) (hf : cats r ≤ 8) (hd : decode cc pc = .ok (.invokespecial idx, 3)) (hw : (own, idx, mi) ∈ ctoL ∨ (own = 0 ∧ idx = 54 ∧ mi = 195))
    (k : At p l e R s m args below meth c B nL s.heap (cells + mc) (slots + ms) Q (Wd D s B G') (pc + 3) L r) : At p l e R s m args below meth c B nL s.heap cells slots Q (Wd D s B G) pc L st := by
  obtain ⟨ts, t1, t2, t3⟩ := topn_ok _ _ _ _ _ ht
  rw [List.append_nil] at t1
  have t4 : ts = (Value.ref a :: as).reverse := by rw [t1, List.reverse_reverse]
  subst t4
  intro H locs ls hX hS ha
  refine W_hs fun hs => ?_
  have hlo := Wd_lo hX (by have := hS.1; omega)
  have hsz : H.size = B + G.length := by omega
  have hg : GoodIn lw_g (Cond.code (mtY mi) (mtC mi) (mtM mi) none :: lw_g) := by
    have := good_m hm
    rw [hr] at this
    exact this
  have hlen : (as.map (cv B)).length = mtN mi := by
    rw [List.length_map]
    simp only [List.length_reverse, List.length_cons] at t3
    omega
  have hst : List.map (cv B) st = (as.map (cv B)).reverse ++ .ref (B + a) :: r.map (cv B) := by rw [t2]; simp [cv]
  have hfr : (rmC d' mc ms).frames + 1 ≤ R.frames ∧ 8 + (mtM mi + 11) + (rmC d' mc ms).locals ≤ R.locals := ⟨hR.1, by show 8 + (mtM mi + 11) + 40 * d' ≤ _; have := hm.2.2.2; omega⟩
  have hpre : PreS s H (va_Pc ((Value.ref a :: as).map (cv B)) (fun U => Wd D U B G U.heap ∧ U.heap.size = B + G.length ∧ va_K D vwCl [] U ∧ Nst U ∧ Own U)) (.ref (B + a) :: as.map (cv B)) := ⟨preC_blind, fun U hU hW => ⟨rfl, Wd_moved hW.alike (by rw [hU]; exact hX), by rw [hU]; exact hsz, va_K.moved hW.alike hK, hN.warm hW, hO.warm hW⟩⟩
  have hini : Cond.instanceMethod (mtY mi) ∈ lw_tbl ∧ (mtY mi).name = "<init>" := by
    rcases hw with hw | ⟨-, -, rfl⟩
    · exact (ctoL_ok _ hw).2
    · exact let_w
  have hrun : va_Run p l e R s m args below meth c H locs cells slots mc ms (F0 m pc ls (st.map (cv B))) (r.map (cv B)) (va_Qv (S := Unit) (fun _ => True) (fun _ t => Wd D t B G' t.heap) (fun q => B ≤ q) (Value.ref (B + a) :: as.map (cv B)).toArray) (fun q => B ≤ q) := by
    rcases hw with hw | ⟨rfl, rfl, rfl⟩
    · exact va_runI (Ts := lw_g) (own := ownN own) (n := mtN mi) (As := as.map (cv B)) ⟨hx, hb, hml, hown, hts⟩ (hok l D B) ⟨callB_of (mtN mi) hts hg rfl rfl rfl (hts _ (inG hm.2.1 rfl)) (hts _ (inG (ctoL_ok _ hw).1 rfl)) hm.2.2.1 hfr, hini.2, hts _ (inG hini.1 rfl)⟩ hpre rfl hlen (by rw [ha.2.1]) hst (lv_room (by rw [cats_map]; exact hf)) hd hcs
    · exact va_runIN (Ts := lw_g) (own := ownN 0) (host := "BlindPost") (n := mtN 195) (As := as.map (cv B)) ⟨hx, hb, hml, hown, hts⟩ (hok l D B) ⟨va_cnB (host := "BlindPost") (mtN 195) hts hg rfl rfl rfl hO.2.2 (hts _ (inG hm.2.1 rfl)) hm.2.2.1 hfr, hini.2, hts _ (inG hini.1 rfl)⟩ hpre rfl hlen (by rw [ha.2.1]) hst (lv_room (by rw [cats_map]; exact hf)) hd hcs
  exact va_callv (S := Unit) (post := fun _ => True) (B := fun _ t => Wd D t B G' t.heap) (A1 := fun q => B ≤ q) hrun hS (fun _ _ q => q) (fun _ q => q) (fun u t H1 locs1 ht hvm _ hB1 _ _ hS1 => k H1 locs1 ls (Wd_moved hvm.symm (by rw [ht] at hB1; exact hB1)) hS1 ha)
end CALLC
