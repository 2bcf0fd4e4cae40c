/-! calls, and whole methods -/
def rmD (d : Nat) : Room := { frames := d, cells := 0, slots := 0, locals := 40 * d }
theorem Wd_moved {D : va_G} {s U : State} {B : Nat} {G : List GC} {H : Heap} (hvm : s.vm.Alike U.vm) (h : Wd D s B G H) : Wd D U B G H := by
  obtain ⟨kc, hP, hT⟩ := h
  exact ⟨kc, hP, fun k ty x hk => ⟨arrOfT_moved hvm (hT k ty x hk).1, (hT k ty x hk).2.moved hvm⟩⟩
theorem topn_ok : ∀ (n : Nat) (acc st as r : List Value), topn n acc st = some (as, r) → ∃ ts, as = ts.reverse ++ acc ∧ st = ts ++ r ∧ ts.length = n
  | 0, acc, st, as, r, h => by cases h; exact ⟨[], rfl, rfl, rfl⟩
  | n + 1, acc, [], as, r, h => by cases h
  | n + 1, acc, v :: st, as, r, h => by
    obtain ⟨ts, h1, h2, h3⟩ := topn_ok n (v :: acc) st as r h
    exact ⟨v :: ts, by rw [h1]; simp, by rw [h2]; rfl, by simp [h3]⟩
theorem cats_map (B : Nat) (st : List Value) : ((st.map (cv B)).map fun v => v.category).sum = cats st := by
  induction st with
  | nil => rfl
  | cons a t ih => simp [cats, cv_cat, ← ih]
theorem tbl_goodw {w : Cond} (h : w ∈ lw_g) : (w.onTables && w.keeps) = true ∨ ∃ ty, w = .arrayClass ty := good_of_word (List.mem_filter.mp h).2
theorem good_m {mi : Nat} (h : MtOK mi) : GoodIn lw_g (Cond.code (mtY mi) (mtC mi) (mtM mi) (mtR mi) :: lw_g) := by
  intro w hw
  rcases List.mem_cons.mp hw with rfl | hw
  · exact ⟨inG h.1 rfl, tbl_goodw (inG h.1 rfl)⟩
  · exact ⟨hw, tbl_goodw hw⟩
/-- the links of nest mates -/
def Nst (U : State) : Prop := ∀ q ∈ mthL, q.2.2.2 = 2 → va_Nw (.methodLinkNest (ownN q.1) q.2.1 (mtY q.2.2.1) "BlindPost") U
theorem Nst.warm {s U : State} (hW : s.WarmedH U.vm) (h : Nst s) : Nst U := fun q hq h2 => (h q hq h2).warmM hW
theorem Nst.same {s U : State} (hv : s.vm = U.vm) (h : Nst s) : Nst U := fun q hq h2 => (h q hq h2).same rfl hv
/-- a method's end with z -/
def Qz {Hp : Type} (toG : Hp → List GC) (D : va_G) (B : Nat) (z : Option Value × Hp) : Array Value → State → Outcome → State → Prop := match z.1 with
  | none => va_Qv (S := Unit) (fun _ => True) (fun _ t => Wd D t B (toG z.2) t.heap) (fun q => B ≤ q)
  | some (.int v) => va_Qi (S := Unit) (fun r _ => r = v) (fun _ t => Wd D t B (toG z.2) t.heap) (fun q => B ≤ q)
  | some (.long v) => va_Ql (S := Unit) (fun r _ => r = v) (fun _ t => Wd D t B (toG z.2) t.heap) (fun q => B ≤ q)
  | _ => fun _ _ _ _ => False
/-- THE CONTRACT: from the arguments and a heap of the world h the method mi ends with z; d: how deep it calls -/
def Okm {Hp : Type} (toG : Hp → List GC) (mi d : Nat) (as : List Value) (h : Hp) (z : Option Value × Hp) : Prop := ∀ (l : Launch) (D : va_G) (B : Nat), Met l (mtY mi) (Cond.code (mtY mi) (mtC mi) (mtM mi) (mtR mi) :: lw_g) (rmD d) (va_Pc (as.map (cv B)) (fun U => Wd D U B (toG h) U.heap ∧ va_K D vwCl [] U ∧ Nst U)) (Qz toG D B z) 0 0 (fun q => B ≤ q)
def SemOK {Hp : Type} (toG : Hp → List GC) (S : Sem Hp) (d : Nat) : Prop := ∀ q ∈ S, MtOK q.1 ∧ ∃ d', d' < d ∧ ∀ as h z, q.2 as h = some z → Okm toG q.1 d' as h z
theorem semOf_ok {Hp : Type} {toG : Hp → List GC} {d : Nat} : ∀ {S : Sem Hp} {mi : Nat} {as : List Value} {h : Hp} {z : Option Value × Hp}, SemOK toG S d → semOf S mi as h = some z → MtOK mi ∧ ∃ d', d' < d ∧ Okm toG mi d' as h z
  | [], mi, as, h, z, _, e => by cases e
  | q :: S, mi, as, h, z, hS, e => by
    have e : (match Nat.beq q.1 mi with
      | true => q.2
      | false => semOf S mi) as h = some z := e
    cases hq : Nat.beq q.1 mi with
    | true =>
      rw [hq] at e
      have hq := Nat.eq_of_beq_eq_true hq
      subst hq
      obtain ⟨h1, d', h2, h3⟩ := hS q List.mem_cons_self
      exact ⟨h1, d', h2, h3 _ _ _ e⟩
    | false =>
      rw [hq] at e
      exact semOf_ok (fun q hq => hS q (List.mem_cons_of_mem _ hq)) e
def chkO (own idx : Nat) (aux : List Nat) : Bool := match aux with
  | [mi, n, _, ci] => decide ((own, idx, mi, 0) ∈ mthL) && Nat.beq n (mtN mi + 1) && (match vwCl[ci]? with
    | some q => decide (q.1 = (mtY mi).cls)
    | none => false)
  | _ => false
def chkS (own idx : Nat) (aux : List Nat) : Bool := match aux with
  | [] => decide ((own, idx) ∈ cpyL)
  | [mx] => decide ((own, idx, mx) ∈ mmxL)
  | [mi, n, _] => (decide ((own, idx, mi, 1) ∈ mthL) || decide ((own, idx, mi, 2) ∈ mthL)) && Nat.beq n (mtN mi)
  | _ => false
section CALLS
variable {p : Program} {l : Launch} {e : Env} {R : Room} {s : State} {m : MethodId} {args : Array Value} {below : List Frame} {meth : Method} {c : Code} {B nL : Nat} {H0 : Heap} {cells slots : Nat} {Q : State → Prop} {cc : ByteArray} {pc : Nat} {L : Loca} {st : List Value} {D : va_G} {Hp : Type} {O : Ops Hp} {toG : Hp → List GC} {rk own d idx : Nat} {z : Option Value × Hp} {S : Sem Hp} {h : Hp} {k : Kt Hp}
theorem call_go {H : Heap} {locs : List Loc} {ls : Array Slot} {st0 as r : List Value} {mi : Nat} {a : Array Value} (hS : va_S (fun q => B ≤ q) H0 H locs) (ha : al_has B ls nL L) (hk : ∀ pc' L' st' h', k pc' L' st' h' = some z → At p l e R s m args below meth c B nL H0 cells slots Q (Wd D s B (toG h')) pc' L' st')
    (hrun : ∀ z', cats r ≤ 8 → semOf S mi as h = some z' → va_Run p l e R s m args below meth c H locs cells slots 0 0 (F0 m pc ls st0) (r.map (cv B)) (Qz toG D B z' a) (fun q => B ≤ q)) (ez : callW S mi rk as r pc L h k = some z) : W p l e R s m args below meth c H locs cells slots Q (F0 m pc ls st0) := by
  unfold callW at ez
  split at ez
  · cases ez
  · next hf =>
    have hf : cats r ≤ 8 := Nat.le_of_ble_eq_true hf
    split at ez
    · obtain ⟨h', e1, e2⟩ := bV_inv ez
      exact va_callv (S := Unit) (a := a) (post := fun _ => True) (B := fun _ t => Wd D t B (toG h') t.heap) (A1 := fun q => B ≤ q) (hrun (none, h') hf e1) hS (fun _ _ q => q) (fun _ q => q) (fun u t H1 locs1 ht hvm _ hB _ _ hS1 => hk _ _ _ _ e2 H1 locs1 ls (Wd_moved hvm.symm (by rw [ht] at hB; exact hB)) hS1 ha)
    · obtain ⟨v, h', e1, e2⟩ := bL_inv ez
      exact va_calll (S := Unit) (a := a) (post := fun r _ => r = v) (B := fun _ t => Wd D t B (toG h') t.heap) (A1 := fun q => B ≤ q) (hrun (some (.long v), h') hf e1) hS (fun _ _ q => q) (fun _ q => q) (fun r u t H1 locs1 ht hvm hp hB _ _ hS1 => by subst hp; exact hk _ _ _ _ e2 H1 locs1 ls (Wd_moved hvm.symm (by rw [ht] at hB; exact hB)) hS1 ha)
    · obtain ⟨v, h', e1, e2⟩ := bI_inv ez
      exact va_calli (S := Unit) (a := a) (post := fun r _ => r = v) (B := fun _ t => Wd D t B (toG h') t.heap) (A1 := fun q => B ≤ q) (hrun (some (.int v), h') hf e1) hS (fun _ _ q => q) (fun _ q => q) (fun r u t H1 locs1 ht hvm hp hB _ _ hS1 => by subst hp; exact hk _ _ _ _ e2 H1 locs1 ls (Wd_moved hvm.symm (by rw [ht] at hB; exact hB)) hS1 ha)
theorem pre_blind {as : List Value} : FrameBlind (va_Pc (as.map (cv B)) (fun U => Wd D U B (toG h) U.heap ∧ va_K D vwCl [] U ∧ Nst U)) := fun a U g mk q => ⟨q.1, Wd_moved (s := U) (U := U.calling g mk a) (Vm.Alike.refl U.vm) q.2.1, va_K.moved (u := U) (U := U.calling g mk a) (Vm.Alike.refl U.vm) q.2.2.1, q.2.2.2.same (U := U.calling g mk a) rfl⟩
theorem callO_sound (hO : OpsOK O toG) (hx : p.tables.exec = Jvm.exec) (hb : c.code = cc) (hml : c.maxLocals = nL) (hts : ∀ w ∈ lw_g, w.before args s = true) (hown : s.vm.findClass (ownN own) = some m.cls) (hK : va_K D vwCl [] s) (hN : Nst s) (hSem : SemOK toG S d) (hR : d ≤ R.frames ∧ 40 * d ≤ R.locals) (hcs : cells ≤ R.cells ∧ slots ≤ R.slots) {aux : List Nat} (hd : decode cc pc = .ok (.invokevirtual idx, 3)) (hc : chkO own idx aux = true)
    (hk : ∀ pc' L' st' h', k pc' L' st' h' = some z → At p l e R s m args below meth c B nL H0 cells slots Q (Wd D s B (toG h')) pc' L' st') (ez : callO O S aux pc L st h k = some z) : At p l e R s m args below meth c B nL H0 cells slots Q (Wd D s B (toG h)) pc L st := by
  unfold callO at ez
  split at ez
  · next mi n rk ci =>
    simp only [chkO, Bool.and_eq_true, decide_eq_true_eq] at hc
    obtain ⟨⟨c1, c2⟩, c3⟩ := hc
    have c2 := Nat.eq_of_beq_eq_true c2
    split at ez
    · next a as r ht =>
      obtain ⟨⟨fs, g1⟩, ez⟩ := hO.2.2.2.2.2.2.2.2.2.2.2.2.2.2 _ _ _ _ _ ez
      obtain ⟨ts, t1, t2, t3⟩ := topn_ok _ _ _ _ _ ht
      rw [List.append_nil] at t1
      have t4 : ts = (Value.ref a :: as).reverse := by rw [t1, List.reverse_reverse]
      subst t4
      intro H locs ls hX hS ha
      refine call_go hS ha hk (fun z' hf e1 => ?_) ez (a := (Value.ref (B + a) :: as.map (cv B)).toArray)
      obtain ⟨hm, d', hd', hok⟩ := semOf_ok hSem e1
      obtain ⟨l1, l2, l3⟩ : Cond.methodLink (ownN own) idx (mtY mi) ∈ lw_tbl ∧ Cond.instanceMethod (mtY mi) ∈ lw_tbl ∧ Cond.selects (mtY mi).cls (mtY mi) (mtY mi) ∈ lw_tbl := mthL_ok _ c1
      obtain ⟨kc, hP, hT⟩ := id hX
      cases hq : vwCl[ci]? with
      | none => rw [hq] at c3; cases c3
      | some q =>
        rw [hq] at c3
        have c3 := of_decide_eq_true c3
        have hrv := va_recv hK hP hq (toW_get g1)
        rw [c3] at hrv
        refine va_runV (Ts := lw_g) (own := ownN own) (n := mtN mi) (As := as.map (cv B)) ⟨hx, hb, hml, hown, hts⟩ (hok l D B) ⟨callB_of (mtN mi) hts (good_m hm) rfl rfl rfl (hts _ (inG hm.2.1 rfl)) (hts _ (inG l1 rfl)) hm.2.2.1 ⟨by show d' + 1 ≤ _; omega, by show 8 + (mtM mi + 11) + 40 * d' ≤ _; have := hm.2.2.2; omega⟩, hts _ (inG l2 rfl), hts _ (inG l3 rfl)⟩
          ⟨pre_blind, hrv, fun U hU hW => ⟨rfl, Wd_moved hW.alike (by rw [hU]; exact hX), va_K.moved hW.alike hK, hN.warm hW⟩⟩ rfl (by rw [List.length_map]; simp only [List.length_reverse, List.length_cons] at t3; omega) (by rw [ha.2.1]) (by show List.map (cv B) st = _; rw [t2]; simp [cv]) (lv_room (by rw [cats_map]; exact hf)) hd hcs
    · cases ez
  · cases ez
theorem callF_sound (hx : p.tables.exec = Jvm.exec) (hb : c.code = cc) (hml : c.maxLocals = nL) (hts : ∀ w ∈ lw_g, w.before args s = true) (hown : s.vm.findClass (ownN own) = some m.cls) (hK : va_K D vwCl [] s) (hN : Nst s) (hSem : SemOK toG S d) (hR : d ≤ R.frames ∧ 40 * d ≤ R.locals) (hcs : cells ≤ R.cells ∧ slots ≤ R.slots) {aux : List Nat} (hd : decode cc pc = .ok (.invokestatic idx, 3)) (hc : chkS own idx aux = true)
    (hk : ∀ pc' L' st' h', k pc' L' st' h' = some z → At p l e R s m args below meth c B nL H0 cells slots Q (Wd D s B (toG h')) pc' L' st') (ez : callF S aux pc L st h k = some z) : At p l e R s m args below meth c B nL H0 cells slots Q (Wd D s B (toG h)) pc L st := by
  unfold callF at ez
  split at ez
  · next mi n rk =>
    simp only [chkS, Bool.and_eq_true, Bool.or_eq_true, decide_eq_true_eq] at hc
    obtain ⟨c1, c2⟩ := hc
    have c2 := Nat.eq_of_beq_eq_true c2
    split at ez
    · next as r ht =>
      obtain ⟨ts, t1, t2, t3⟩ := topn_ok _ _ _ _ _ ht
      rw [List.append_nil] at t1
      have t4 : ts = as.reverse := by rw [t1, List.reverse_reverse]
      subst t4
      intro H locs ls hX hS ha
      refine call_go hS ha hk (fun z' hf e1 => ?_) ez (a := (as.map (cv B)).toArray)
      obtain ⟨hm, d', hd', hok⟩ := semOf_ok hSem e1
      have hlen : (as.map (cv B)).length = mtN mi := by rw [List.length_map]; simp only [List.length_reverse] at t3; omega
      have hst : List.map (cv B) st = (as.map (cv B)).reverse ++ r.map (cv B) := by rw [t2]; simp
      have hfr : (rmD d').frames + 1 ≤ R.frames ∧ 8 + (mtM mi + 11) + (rmD d').locals ≤ R.locals := ⟨by show d' + 1 ≤ _; omega, by show 8 + (mtM mi + 11) + 40 * d' ≤ _; have := hm.2.2.2; omega⟩
      rcases c1 with c1 | c1
      · obtain ⟨l1, l2⟩ : Cond.methodLink (ownN own) idx (mtY mi) ∈ lw_tbl ∧ Cond.static (mtY mi) ∈ lw_tbl := mthL_ok _ c1
        exact va_runS (Ts := lw_g) (own := ownN own) (n := mtN mi) ⟨hx, hb, hml, hown, hts⟩ (hok l D B) ⟨callB_of (mtN mi) hts (good_m hm) rfl rfl rfl (hts _ (inG hm.2.1 rfl)) (hts _ (inG l1 rfl)) hm.2.2.1 hfr, hts _ (inG l2 rfl)⟩
          ⟨pre_blind, fun U hU hW => ⟨rfl, Wd_moved hW.alike (by rw [hU]; exact hX), va_K.moved hW.alike hK, hN.warm hW⟩⟩ rfl hlen (by rw [ha.2.1]) hst (lv_room (by rw [cats_map]; exact hf)) hd hcs
      · obtain ⟨l1, l2⟩ : Cond.methodLinkNest (ownN own) idx (mtY mi) "BlindPost" ∈ lw_tbl ∧ Cond.static (mtY mi) ∈ lw_tbl := mthL_ok _ c1
        exact va_runSN (Ts := lw_g) (own := ownN own) (n := mtN mi) ⟨hx, hb, hml, hown, hts⟩ (hok l D B) ⟨va_cnB (host := "BlindPost") (mtN mi) hts (good_m hm) rfl rfl rfl (hN _ c1 rfl) (hts _ (inG hm.2.1 rfl)) hm.2.2.1 hfr, hts _ (inG l2 rfl), trivial⟩
          ⟨pre_blind, fun U hU hW => ⟨rfl, Wd_moved hW.alike (by rw [hU]; exact hX), va_K.moved hW.alike hK, hN.warm hW⟩⟩ rfl hlen (by rw [ha.2.1]) hst (lv_room (by rw [cats_map]; exact hf)) hd hcs
    · cases ez
  · cases ez
end CALLS
