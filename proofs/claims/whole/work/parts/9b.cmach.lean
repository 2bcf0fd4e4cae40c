/-! THE CONSTRUCTORS' MACHINE: the heap a list of cells, counters of cells and slots made -/
def gC (G : List GC) (a : Nat) : Option GC := match drp G a with
  | [] => none
  | c :: _ => some c
theorem drp_drop {α : Type} (l : List α) : ∀ n, drp l n = l.drop n
  | 0 => rfl
  | n + 1 => by
    show (drp l n).tail = _
    rw [drp_drop l n, List.tail_drop]
theorem gC_eq (G : List GC) (a : Nat) : gC G a = G[a]? := by
  unfold gC
  rw [drp_drop]
  by_cases h : a < G.length
  · rw [List.drop_eq_getElem_cons h, List.getElem?_eq_getElem h]
  · rw [List.drop_eq_nil_of_le (by omega), List.getElem?_eq_none (by omega)]
def gV (fs : List Value) (k : Nat) : Option Value := match drp fs k with
  | [] => none
  | v :: _ => some v
theorem gV_eq (G : List Value) (a : Nat) : gV G a = G[a]? := by
  unfold gV
  rw [drp_drop]
  by_cases h : a < G.length
  · rw [List.drop_eq_getElem_cons h, List.getElem?_eq_getElem h]
  · rw [List.drop_eq_nil_of_le (by omega), List.getElem?_eq_none (by omega)]
/-- forced before it goes on -/
def frV {ρ : Type} : List Value → (List Value → ρ) → ρ
  | [], κ => κ []
  | .ref a :: t, κ => frV t fun t => κ (.ref a :: t)
  | .int a :: t, κ => frV t fun t => κ (.int a :: t)
  | .null :: t, κ => frV t fun t => κ (.null :: t)
  | v :: t, κ => frV t fun t => κ (v :: t)
theorem frV_eq {ρ : Type} : ∀ (l : List Value) (κ : List Value → ρ), frV l κ = κ l
  | [], κ => rfl
  | v :: t, κ => by cases v <;> exact frV_eq t _
def frG {ρ : Type} : List GC → (List GC → ρ) → ρ
  | [], κ => κ []
  | .inl (ty, n, x) :: t, κ => frG t fun t => κ (.inl (ty, n, x) :: t)
  | .inr (ci, fs) :: t, κ => frV fs fun fs => frG t fun t => κ (.inr (ci, fs) :: t)
theorem frG_eq {ρ : Type} : ∀ (l : List GC) (κ : List GC → ρ), frG l κ = κ l
  | [], κ => rfl
  | .inl (ty, n, x) :: t, κ => frG_eq t _
  | .inr (ci, fs) :: t, κ => by
    unfold frG
    rw [frV_eq]
    exact frG_eq t _
def cGR (G : List GC) (a ci k : Nat) (κ : Nat → Res (List GC)) : Res (List GC) := match gC G a with
  | some (.inr (cj, fs)) => match Nat.beq cj ci, gV fs k with
    | true, some (.ref v) => κ v
    | _, _ => none
  | _ => none
def cPI (G : List GC) (a ci k : Nat) (v : Int32) (κ : List GC → Res (List GC)) : Res (List GC) := match gC G a with
  | some (.inr (cj, fs)) => match Nat.beq cj ci && Nat.blt k fs.length with
    | true => frG (G.set a (.inr (cj, fs.set k (.int v)))) κ
    | false => none
  | _ => none
def cSI (G : List GC) (a : Nat) (i v : Int32) (κ : List GC → Res (List GC)) : Res (List GC) := match gC G a with
  | some (.inl (.int, n, .inl f)) => match inB i n with
    | true => frG (G.set a (.inl (.int, n, .inl (upd f i.toNatClampNeg v)))) κ
    | false => none
  | _ => none
def OC : Ops (List GC) :=
  (fun _ _ _ _ _ => none, cGR, fun _ _ _ _ _ => none, cPI, fun _ _ _ _ _ _ => none, fun _ _ _ _ _ _ => none, fun _ _ _ => none, fun _ _ _ _ => none, fun _ _ _ _ => none, fun _ _ _ _ => none, cSI, fun _ _ _ _ _ => none, fun _ _ _ _ _ => none, fun _ _ _ _ _ _ _ => none, fun _ _ _ _ => none)
theorem inB_in {i : Int32} {n : Nat} (h : inB i n = true) : vp_in i n := by
  unfold inB at h
  simp only [Bool.and_eq_true, Bool.not_eq_true', decide_eq_false_iff_not] at h
  intro q
  rcases q with q | q
  · exact h.1 q
  · have := Nat.le_of_ble_eq_true h.2
    omega
theorem OC_ok : OpsOK OC (fun G => G) := by
  refine ⟨?_, ?_, ?_, ?_, ?_, ?_, ?_, ?_, ?_, ?_, ?_, ?_, ?_, ?_, ?_⟩
  · intro h a ci k κ z e
    cases e
  · intro h a ci k κ z e
    have e9 : cGR h a ci k κ = some z := e
    clear e
    have e := e9
    clear e9
    unfold cGR at e
    split at e
    · next cj fs hg =>
      split at e
      · next v q1 q2 =>
        have q1 := Nat.eq_of_beq_eq_true q1
        subst q1
        exact ⟨v, fs, by rw [← gC_eq]; exact hg, by rw [← gV_eq]; exact q2, e⟩
      · cases e
    · cases e
  · intro h a ci k κ z e
    cases e
  · intro h a ci k v κ z e
    have e9 : cPI h a ci k v κ = some z := e
    clear e
    have e := e9
    clear e9
    unfold cPI at e
    split at e
    · next cj fs hg =>
      split at e
      · next q =>
        rw [Bool.and_eq_true] at q
        have q1 := Nat.eq_of_beq_eq_true q.1
        subst q1
        rw [frG_eq] at e
        exact ⟨fs, _, by rw [← gC_eq]; exact hg, Nat.le_of_ble_eq_true q.2, rfl, e⟩
      · cases e
    · cases e
  · intro h a ci k v κ z e
    cases e
  · intro h a κ z e
    cases e
  · intro h a i κ z e
    cases e
  · intro h a i κ z e
    cases e
  · intro h a i κ z e
    cases e
  · intro h a i v κ z e
    have e9 : cSI h a i v κ = some z := e
    clear e
    have e := e9
    clear e9
    unfold cSI at e
    split at e
    · next n f hg =>
      split at e
      · next q =>
        rw [frG_eq] at e
        exact ⟨n, f, _, by rw [← gC_eq]; exact hg, inB_in q, rfl, e⟩
      · cases e
    · cases e
  · intro h a i v κ z e
    cases e
  · intro h a i b j n κ z e
    cases e
  · intro h a ci k v κ
    rfl
  · intro h a i v κ
    rfl
  · intro h a ci r z e
    cases e
/-- a new object's fields -/
def dfV : Nat → Value
  | 0 => .int 0
  | 1 => .null
  | _ => .long 0
def dfl (ci : Nat) : List Value := (nthL fkT ci).map dfV
theorem dfl_cv (B ci : Nat) : (dfl ci).map (cv B) = dfl ci := by
  unfold dfl
  rw [List.map_map]
  apply List.map_congr_left
  intro k _
  show cv B (dfV k) = dfV k
  unfold dfV
  split <;> rfl
def chkD (ci : Nat) : Bool := match vwCl[ci]? with
  | some q => Nat.beq q.2.2 (fldN ci) && (List.range q.2.2).all fun j => match parseFieldDescriptor (q.2.1 j).2.2.1 with
    | some t => decide (defaultValue t = vp_V (dfl ci) j)
    | none => false
  | none => true
set_option maxRecDepth 100000 in
theorem chkD_ok : ∀ ci, ci < 8 → chkD ci = true := by decide +kernel
theorem dfl_ok {ci : Nat} {q : vw_C} (h : vwCl[ci]? = some q) : q.2.2 = fldN ci ∧ ∀ (ty : Nat → FieldType), (∀ k, k < q.2.2 → parseFieldDescriptor (q.2.1 k).2.2.1 = some (ty k)) → ∀ j, j < q.2.2 → defaultValue (ty j) = vp_V (dfl ci) j := by
  have h8 : ci < 8 := (List.getElem?_eq_some_iff.mp h).1
  have hc := chkD_ok ci h8
  unfold chkD at hc
  rw [h] at hc
  dsimp only at hc
  rw [Bool.and_eq_true] at hc
  refine ⟨Nat.eq_of_beq_eq_true hc.1, fun ty hty j hj => ?_⟩
  have := List.all_eq_true.mp hc.2 j (List.mem_range.mpr hj)
  rw [hty j hj] at this
  exact of_decide_eq_true this
/-- a new cell, if there is room -/
def aloC {ρ : Type} (n0 CB SB : Nat) (G : List GC) (ck sk n : Nat) (c : GC) (κ : List GC → Nat → Nat → Option ρ) : Option ρ := match Nat.beq G.length (n0 + ck) && Nat.ble (ck + 1) CB && Nat.ble (sk + n) SB with
  | true => frG (G ++ [c]) fun G' => κ G' (ck + 1) (sk + n)
  | false => none
def cntC (x : Int32) : Bool := !(decide (x < 0)) && Nat.ble x.toNatClampNeg 1000
def arC : Nat → String
  | 0 => "BlindPost$Sheet"
  | 1 => "BlindPost$Land"
  | _ => "BlindPost$Letter"
abbrev SemC : Type := List (Nat × Nat × Nat × (List Value → List GC → Option (List GC)))
def semC : SemC → Nat → Option (Nat × Nat × (List Value → List GC → Option (List GC)))
  | [], _ => none
  | q :: t, mi => match Nat.beq q.1 mi with
    | true => some q.2
    | false => semC t mi
def my_G (G : List GC) (N M : Nat) : List GC := G ++ (.inl (.array .int, N, .inr (.inr (.inr (.inr fun j => if j < N then some (G.length + 1 + j) else none)))) :: List.replicate N (.inl (.int, M, .inl fun _ => 0)))
noncomputable def bodyC (S : SemC) (n0 CB SB : Nat) (kx ko : List Ent) (ih : Nat → Loca → List Value → List GC → Nat → Nat → Res (List GC)) (pc : Nat) (L : Loca) (st : List Value) (G : List GC) (ck sk : Nat) : Res (List GC) := match fetch kx pc with
    | none => exec1 OC [] 9 ko pc L st G fun pc' L' st' G' => ih pc' L' st' G' ck sk
    | some (i, _, aux, _) => match i with
      | .new _ => match aux with
        | [ci] => aloC n0 CB SB G ck sk (fldN ci) (.inr (ci, dfl ci)) fun G' ck' sk' => ih (pc + 3) L (.ref (n0 + ck) :: st) G' ck' sk'
        | _ => none
      | .newarray t => match st with
        | .int x :: r => match cntC x with
          | true => aloC n0 CB SB G ck sk x.toNatClampNeg (.inl (Op.newarray.typeOf t, x.toNatClampNeg, .inl fun _ => 0)) fun G' ck' sk' => ih (pc + 2) L (.ref (n0 + ck) :: r) G' ck' sk'
          | false => none
        | _ => none
      | .anewarray _ => match aux with
        | [k] => match st with
          | .int x :: r => match cntC x with
            | true => aloC n0 CB SB G ck sk x.toNatClampNeg (.inl (.object (arC k), x.toNatClampNeg, .inr (.inr (.inr (.inr fun _ => none))))) fun G' ck' sk' => ih (pc + 3) L (.ref (n0 + ck) :: r) G' ck' sk'
            | false => none
          | _ => none
        | _ => none
      | .multianewarray _ _ => match st with
        | .int y :: .int x :: r => match cntC x && cntC y && Nat.beq G.length (n0 + ck) && Nat.ble (ck + (1 + x.toNatClampNeg)) CB && Nat.ble (sk + (x.toNatClampNeg + x.toNatClampNeg * y.toNatClampNeg)) SB with
          | true => frG (my_G G x.toNatClampNeg y.toNatClampNeg) fun G' => ih (pc + 4) L (.ref (n0 + ck) :: r) G' (ck + 1 + x.toNatClampNeg) (sk + x.toNatClampNeg + x.toNatClampNeg * y.toNatClampNeg)
          | false => none
        | _ => none
      | .putfield _ => match aux with
        | [ci, f, _] => match st with
          | .ref v :: .ref a :: r => match gC G a with
            | some (.inr (cj, fs)) => match Nat.beq cj ci && Nat.blt f fs.length with
              | true => frG (G.set a (.inr (cj, fs.set f (.ref v)))) fun G' => ih (pc + 3) L r G' ck sk
              | false => none
            | _ => none
          | _ => none
        | _ => none
      | .aastore => match st with
        | .ref v :: .int i :: .ref a :: r => match gC G a, gC G v with
          | some (.inl (.object C, n, .inr (.inr (.inr (.inr f))))), some (.inr (ci, _)) => match vwCl[ci]? with
            | some q => if C = q.1 then (match inB i n with
              | true => frG (G.set a (.inl (.object C, n, .inr (.inr (.inr (.inr (va_up f i.toNatClampNeg (some v)))))))) fun G' => ih (pc + 1) L r G' ck sk
              | false => none) else none
            | none => none
          | _, _ => none
        | _ => none
      | .invokespecial _ => match aux with
        | [] => match st with
          | .ref _ :: r => match fewc r with
            | true => ih (pc + 3) L r G ck sk
            | false => none
          | _ => none
        | [mi, nn] => match topn nn [] st with
          | some (.ref a :: as, r) => match semC S mi, fewc r && Nat.beq G.length (n0 + ck) with
            | some (mc, ms, f), true => match Nat.ble (ck + mc) CB && Nat.ble (sk + ms) SB with
              | true => match f (.ref a :: as) G with
                | some G' => ih (pc + 3) L r G' (ck + mc) (sk + ms)
                | none => none
              | false => none
            | _, _ => none
          | _ => none
        | _ => none
      | .return_ => match st with
        | [] => match Nat.beq ck CB && Nat.ble sk SB with
          | true => some (none, G)
          | false => none
        | _ => none
      | _ => none
noncomputable def runC (S : SemC) (n0 CB SB : Nat) (kx ko : List Ent) (n : Nat) : Nat → Loca → List Value → List GC → Nat → Nat → Res (List GC) := Nat.rec (fun _ _ _ _ _ _ => none) (fun _ ih => bodyC S n0 CB SB kx ko ih) n
/-- a constructor as a function of the cells -/
noncomputable def ctrC (S : SemC) (CB SB : Nat) (kx ko : List Ent) (nL : Nat) (as : List Value) (G : List GC) : Option (List GC) := match Nat.ble (lg_sl as).length nL with
  | true => match runC S G.length CB SB kx ko 512 0 (entL nL as) [] G 0 0 with
    | some (none, G') => some G'
    | _ => none
  | false => none
