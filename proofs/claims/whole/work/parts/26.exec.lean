/-! a method's code run: exec1, runF, the contract out of them -/
def chkE (own : Nat) (cc : ByteArray) (en : Ent) : Bool := decide (decode cc en.1 = .ok (en.2.1, en.2.2.1)) && (match en.2.1 with
  | .invokevirtual j => Nat.beq en.2.2.1 3 && chkO own j en.2.2.2.1
  | .invokestatic j => Nat.beq en.2.2.1 3 && chkS own j en.2.2.2.1
  | i => chkL own en.1 i en.2.2.1 en.2.2.2.1 en.2.2.2.2)
theorem fetch_mem : ∀ {code : List Ent} {pc : Nat} {x : Instr × Nat × List Nat × Value}, fetch code pc = some x → (pc, x) ∈ code
  | [], pc, x, h => by cases h
  | q :: t, pc, x, h => by
    unfold fetch at h
    split at h
    · next hq =>
      have hq := Nat.eq_of_beq_eq_true hq
      cases h
      rw [← hq]
      exact List.mem_cons_self
    · exact List.mem_cons_of_mem _ (fetch_mem h)
section EXEC
variable {p : Program} {l : Launch} {e : Env} {R : Room} {s : State} {m : MethodId} {args : Array Value} {below : List Frame} {meth : Method} {c : Code} {B nL : Nat} {H0 : Heap} {cells slots : Nat} {Q : State → Prop} {cc : ByteArray} {pc : Nat} {L : Loca} {st : List Value} {D : va_G} {Hp : Type} {O : Ops Hp} {toG : Hp → List GC} {rk own d idx : Nat} {z : Option Value × Hp} {S : Sem Hp} {h : Hp} {k : Kt Hp}
theorem copyF_sound (hO : OpsOK O toG) (hx : p.tables.exec = Jvm.exec) (hb : c.code = cc) (hml : c.maxLocals = nL) (hts : ∀ w ∈ lw_g, w.before args s = true) (hown : s.vm.findClass (ownN own) = some m.cls) (hK : va_K D vwCl [] s) (hR : d ≤ R.frames ∧ 40 * d ≤ R.locals) (h1 : 1 ≤ d) (hd : decode cc pc = .ok (.invokestatic idx, 3)) (hc : (own, idx) ∈ cpyL)
    (hk : ∀ pc' L' st' h', k pc' L' st' h' = some z → At p l e R s m args below meth c B nL H0 cells slots Q (Wd D s B (toG h')) pc' L' st') (ez : copyF O pc L st h k = some z) : At p l e R s m args below meth c B nL H0 cells slots Q (Wd D s B (toG h)) pc L st := by
  unfold copyF at ez
  split at ez
  · next n j b i a r =>
    split at ez
    · next hf =>
      have hf : cats r ≤ 8 := Nat.le_of_ble_eq_true hf
      obtain ⟨n0, n1, f, g, h', g1, g2, g3, g4, g5, g6, g7, g8, ez⟩ := hO.2.2.2.2.2.2.2.2.2.2.2.1 _ _ _ _ _ _ _ _ ez
      intro H locs ls hX hS ha
      obtain ⟨kc, hP, hT⟩ := hX
      have hK2 : va_K D vwCl [(kc a, .int), (kc b, .int)] s := (Wd_K hK (hT a _ _ g1)).app (Wd_K hK (hT b _ _ g2))
      refine va_copyi (ty := .int) hx hb (by rw [hml, ha.2.1]) hown (hts _ (inG (cpyL_ok _ hc) rfl)) (hts _ (inG cpy_w.1 rfl)) (hts _ (inG cpy_w.2.1 rfl)) (hts _ (inG cpy_w.2.2 rfl)) hK2 hP (toW_D B kc (toG h)) hS a b 0 1 (toW_get g1) (toW_get g2) rfl rfl rfl g3 g4 g5 g6 g7 (fun _ _ => rfl) (by omega)
        (by rw [cats_map]; have : nativeFrameWords "java/lang/System" "arraycopy" 5 ≤ 21 := by decide +kernel
            omega) hd fun H1 locs1 hP1 _ hS1 => ?_
      refine hk _ _ _ _ ez H1 locs1 ls ⟨kc, ?_, ?_⟩ hS1 ha
      · rw [g8, ← toW_set]
        exact hP1
      · rw [g8]
        exact Wd_setT hT g2 (fun ty x q => by cases q; exact ⟨_, rfl⟩)
    · cases ez
  · cases ez
theorem mathF_sound (hx : p.tables.exec = Jvm.exec) (hb : c.code = cc) (hml : c.maxLocals = nL) (hts : ∀ w ∈ lw_g, w.before args s = true) (hown : s.vm.findClass (ownN own) = some m.cls) (hR : d ≤ R.frames ∧ 40 * d ≤ R.locals) (h1 : 1 ≤ d) (hcs : cells ≤ R.cells ∧ slots ≤ R.slots) {mx : Nat} (hd : decode cc pc = .ok (.invokestatic idx, 3)) (hc : (own, idx, mx) ∈ mmxL)
    (hk : ∀ pc' L' st' h', k pc' L' st' h' = some z → At p l e R s m args below meth c B nL H0 cells slots Q (Wd D s B (toG h')) pc' L' st') (ez : mathF mx pc L st h k = some z) : At p l e R s m args below meth c B nL H0 cells slots Q (Wd D s B (toG h)) pc L st := by
  unfold mathF at ez
  split at ez
  · next y x r =>
    split at ez
    · next hf =>
      have hf : cats r ≤ 8 := Nat.le_of_ble_eq_true hf
      split at ez
      · intro H locs ls hX hS ha
        exact va_mmax hx hb (by rw [hml, ha.2.1]) hown (hts _ (inG (mmxL_ok _ hc) rfl)) (hts _ (inG mmx_w.1 rfl)) (hts _ (inG mmx_w.2.2.2.2 rfl)) (hts _ (inG mmx_w.2.1 rfl)) (by omega) (by rw [cats_map]; omega) hcs.1 hcs.2 hd (hk _ _ _ _ ez H locs ls hX hS ha)
      · next hm =>
        intro H locs ls hX hS ha
        have e1 : mmxN mx = Lib.Math.min.name := by
          unfold mmxN
          split
          · exact absurd rfl hm
          · rfl
        have hl := mmxL_ok _ hc
        rw [e1] at hl
        exact va_mmin hx hb (by rw [hml, ha.2.1]) hown (hts _ (inG hl rfl)) (hts _ (inG mmx_w.2.2.1 rfl)) (hts _ (inG mmx_w.2.2.2.2 rfl)) (hts _ (inG mmx_w.2.2.2.1 rfl)) (by omega) (by rw [cats_map]; omega) hcs.1 hcs.2 hd (hk _ _ _ _ ez H locs ls hX hS ha)
    · cases ez
  · cases ez
theorem exec_sound {code : List Ent} (hO : OpsOK O toG) (hx : p.tables.exec = Jvm.exec) (hb : c.code = cc) (hml : c.maxLocals = nL) (hts : ∀ w ∈ lw_g, w.before args s = true) (hown : s.vm.findClass (ownN own) = some m.cls) (hK : va_K D vwCl [] s) (hN : Nst s) (hSem : SemOK toG S d) (hR : d ≤ R.frames ∧ 40 * d ≤ R.locals) (h1 : 1 ≤ d) (hcs : cells ≤ R.cells ∧ slots ≤ R.slots) (hcode : code.all (chkE own cc) = true)
    (hk : ∀ pc' L' st' h', k pc' L' st' h' = some z → At p l e R s m args below meth c B nL H0 cells slots Q (Wd D s B (toG h')) pc' L' st') (hr : RetOK p l e R s m args below meth c B nL H0 cells slots Q cc D toG rk z) (ez : exec1 O S rk code pc L st h k = some z) : At p l e R s m args below meth c B nL H0 cells slots Q (Wd D s B (toG h)) pc L st := by
  unfold exec1 at ez
  split at ez
  · cases ez
  · next i len aux val hf =>
    have hE := List.all_eq_true.mp hcode _ (fetch_mem hf)
    unfold chkE at hE
    rw [Bool.and_eq_true] at hE
    obtain ⟨hE1, hE2⟩ := hE
    have hdec : decode cc pc = .ok (i, len) := of_decide_eq_true hE1
    dsimp only at hE2
    split at ez
    · next j =>
      dsimp only at hE2
      rw [Bool.and_eq_true] at hE2
      have hl := Nat.eq_of_beq_eq_true hE2.1
      subst hl
      exact callO_sound hO hx hb hml hts hown hK hN hSem hR hcs hdec hE2.2 hk ez
    · next j =>
      dsimp only at hE2
      rw [Bool.and_eq_true] at hE2
      have hl := Nat.eq_of_beq_eq_true hE2.1
      subst hl
      split at ez
      · exact copyF_sound hO hx hb hml hts hown hK hR h1 hdec (of_decide_eq_true hE2.2) hk ez
      · exact mathF_sound hx hb hml hts hown hR h1 hcs hdec (of_decide_eq_true hE2.2) hk ez
      · exact callF_sound hx hb hml hts hown hK hN hSem hR hcs hdec hE2.2 hk ez
    · next n1 n2 =>
      split at hE2
      · next j => exact absurd rfl (n1 j)
      · next j => exact absurd rfl (n2 j)
      · exact step_sound hO hx hb hts hown hK hdec hE2 hk hr ez
end EXEC
/-- what a method's body has at its entry -/
def Cx (p : Program) (R : Room) (s : State) (m : MethodId) (args : Array Value) (c : Code) (D : va_G) (own mi d cells slots : Nat) : Prop := p.tables.exec = Jvm.exec ∧ c.code = mtC mi ∧ c.maxLocals = mtM mi ∧ (∀ w ∈ lw_g, w.before args s = true) ∧ s.vm.findClass (ownN own) = some m.cls ∧ va_K D vwCl [] s ∧ Nst s ∧ (d ≤ R.frames ∧ 40 * d ≤ R.locals) ∧ 1 ≤ d ∧ (cells ≤ R.cells ∧ slots ≤ R.slots)
/-- from here the method ends with z -/
def Ends {Hp : Type} (toG : Hp → List GC) (own mi d rk : Nat) (z : Option Value × Hp) (pc : Nat) (L : Loca) (st : List Value) (h : Hp) : Prop := ∀ (p : Program) (l : Launch) (e : Env) (R : Room) (s : State) (m : MethodId) (args : Array Value) (below : List Frame) (meth : Method) (c : Code) (B : Nat) (H0 : Heap) (cells slots : Nat) (Q : State → Prop) (D : va_G),
  Cx p R s m args c D own mi d cells slots → RetOK p l e R s m args below meth c B (mtM mi) H0 cells slots Q (mtC mi) D toG rk z → At p l e R s m args below meth c B (mtM mi) H0 cells slots Q (Wd D s B (toG h)) pc L st
section ENDS
variable {Hp : Type} {O : Ops Hp} {toG : Hp → List GC} {rk own d mi : Nat} {z : Option Value × Hp} {S : Sem Hp} {h : Hp} {k : Kt Hp} {pc : Nat} {L : Loca} {st : List Value} {code : List Ent}
theorem exec_E (hO : OpsOK O toG) (hcode : code.all (chkE own (mtC mi)) = true) (hSem : SemOK toG S d) (hk : ∀ pc' L' st' h', k pc' L' st' h' = some z → Ends toG own mi d rk z pc' L' st' h') (ez : exec1 O S rk code pc L st h k = some z) : Ends toG own mi d rk z pc L st h := by
  intro p l e R s m args below meth c B H0 cells slots Q D hC hr
  obtain ⟨hx, hb, hml, hts, hown, hK, hN, hR, h1, hcs⟩ := id hC
  exact exec_sound hO hx hb hml hts hown hK hN hSem hR h1 hcs hcode (fun pc' L' st' h' q => hk pc' L' st' h' q p l e R s m args below meth c B H0 cells slots Q D hC hr) hr ez
theorem runF_E {Z : Stop Hp} (hO : OpsOK O toG) (hcode : code.all (chkE own (mtC mi)) = true) (hSem : SemOK toG S d) (hZ : ∀ q ∈ Z, ∀ L st h vs, pickL L q.2.1 = some vs → q.2.2 vs st h = some z → Ends toG own mi d rk z q.1 L st h) : ∀ n pc L st h, runF O S Z rk code n pc L st h = some z → Ends toG own mi d rk z pc L st h
  | 0, pc, L, st, h, ez => by cases ez
  | n + 1, pc, L, st, h, ez => by
    have ez : (match stopOf Z pc with
      | some z => match pickL L z.1 with
        | some vs => z.2 vs st h
        | none => none
      | none => exec1 O S rk code pc L st h (runF O S Z rk code n)) = some z := ez
    split at ez
    · next q hq =>
      split at ez
      · next vs hv =>
        have hm : ∀ {Z : Stop Hp} {q : List Nat × (List Value → List Value → Hp → Res Hp)}, stopOf Z pc = some q → (pc, q) ∈ Z := by
          intro Z q
          induction Z with
          | nil => intro h; cases h
          | cons x t ih =>
            intro h
            unfold stopOf at h
            split at h
            · next hx =>
              have hx := Nat.eq_of_beq_eq_true hx
              cases h
              rw [← hx]
              exact List.mem_cons_self
            · exact List.mem_cons_of_mem _ (ih h)
        exact hZ _ (hm hq) L st h vs hv ez
      · cases ez
    · exact exec_E hO hcode hSem (runF_E hO hcode hSem hZ n) ez
/-- locals out of the live places and their values -/
def spr (n : Nat) : List Nat → List Value → Loca
  | i :: is, v :: vs => lset (spr n is vs) i (some v)
  | _, _ => List.replicate n none
theorem spr_len (n : Nat) : ∀ (is : List Nat) (vs : List Value), (spr n is vs).length = n
  | i :: is, v :: vs => by rw [spr, lset_len]; exact spr_len n is vs
  | [], [] => by simp [spr]
  | [], _ :: _ => by simp [spr]
  | _ :: _, [] => by simp [spr]
theorem lget_rep (n i : Nat) : lget (List.replicate n none) i = none := by
  induction n generalizing i with
  | zero => rfl
  | succ n ih =>
    cases i with
    | zero => rfl
    | succ i => exact ih i
theorem spr_get {L : Loca} {n : Nat} : ∀ {is : List Nat} {vs : List Value}, pickL L is = some vs → ∀ i v, lget (spr n is vs) i = some v → lget L i = some v
  | [], vs, h, i, v, hv => by
    cases h
    rw [spr, lget_rep] at hv
    · cases hv
    · intros; simp_all
  | j :: is, vs, h, i, v, hv => by
    unfold pickL at h
    split at h
    · cases h
    · next u hu =>
      split at h
      · cases h
      · next us hus =>
        cases h
        rw [spr] at hv
        by_cases e : i = j
        · subst e
          by_cases hl : i < (spr n is us).length
          · rw [lget_lset_eq _ hl] at hv
            cases hv
            exact hu
          · rw [lget_none (by rw [lset_len]; omega)] at hv
            cases hv
        · rw [lget_lset_ne _ e] at hv
          exact spr_get hus i v hv
theorem Ends.at {is : List Nat} {vs : List Value} (hp : pickL L is = some vs) (hE : Ends toG own mi d rk z pc (spr (mtM mi) is vs) st h) : Ends toG own mi d rk z pc L st h :=
  fun p l e R s m args below meth c B H0 cells slots Q D hC hr => (hE p l e R s m args below meth c B H0 cells slots Q D hC hr).mono (spr_len _ _ _) (spr_get hp)
end ENDS
