/-- what the heap's operations must give -/
def OpsOK {Hp : Type} (O : Ops Hp) (toG : Hp → List GC) : Prop :=
  (∀ h a ci k κ z, oGI O h a ci k κ = some z → ∃ v fs, (toG h)[a]? = some (.inr (ci, fs)) ∧ fs[k]? = some (.int v) ∧ κ v = some z) ∧
  (∀ h a ci k κ z, oGR O h a ci k κ = some z → ∃ v fs, (toG h)[a]? = some (.inr (ci, fs)) ∧ fs[k]? = some (.ref v) ∧ κ v = some z) ∧
  (∀ h a ci k κ z, oGL O h a ci k κ = some z → ∃ v fs, (toG h)[a]? = some (.inr (ci, fs)) ∧ fs[k]? = some (.long v) ∧ κ v = some z) ∧
  (∀ h a ci k v κ z, oPI O h a ci k v κ = some z → ∃ fs h', (toG h)[a]? = some (.inr (ci, fs)) ∧ k < fs.length ∧ toG h' = (toG h).set a (.inr (ci, fs.set k (.int v))) ∧ κ h' = some z) ∧
  (∀ h a ci k v κ z, oPL O h a ci k v κ = some z → ∃ fs h', (toG h)[a]? = some (.inr (ci, fs)) ∧ k < fs.length ∧ toG h' = (toG h).set a (.inr (ci, fs.set k (.long v))) ∧ κ h' = some z) ∧
  (∀ h a κ z, oLN O h a κ = some z → ∃ ty x, (toG h)[a]? = some (.inl (ty, x)) ∧ κ x.1 = some z) ∧
  (∀ h a i κ z, oAI O h a i κ = some z → ∃ n f, (toG h)[a]? = some (.inl (.int, n, .inl f)) ∧ vp_in i n ∧ κ (f i.toNatClampNeg) = some z) ∧
  (∀ h a i κ z, oAZ O h a i κ = some z → ∃ n f, (toG h)[a]? = some (.inl (.boolean, n, .inl f)) ∧ vp_in i n ∧ κ (f i.toNatClampNeg) = some z) ∧
  (∀ h a i κ z, oAR O h a i κ = some z → ∃ ty n f b, ty.isReference = true ∧ (toG h)[a]? = some (.inl (ty, n, .inr (.inr (.inr (.inr f))))) ∧ vp_in i n ∧ f i.toNatClampNeg = some b ∧ κ b = some z) ∧
  (∀ h a i v κ z, oSI O h a i v κ = some z → ∃ n f h', (toG h)[a]? = some (.inl (.int, n, .inl f)) ∧ vp_in i n ∧ toG h' = (toG h).set a (.inl (.int, n, .inl (upd f i.toNatClampNeg v))) ∧ κ h' = some z) ∧
  (∀ h a i v κ z, oSZ O h a i v κ = some z → ∃ n f h', (toG h)[a]? = some (.inl (.boolean, n, .inl f)) ∧ vp_in i n ∧ toG h' = (toG h).set a (.inl (.boolean, n, .inl (upd f i.toNatClampNeg (vp_nar .boolean v)))) ∧ κ h' = some z) ∧
  (∀ h a i b j n κ z, oCP O h a i b j n κ = some z → ∃ n0 n1 f g h', (toG h)[a]? = some (.inl (.int, n0, .inl f)) ∧ (toG h)[b]? = some (.inl (.int, n1, .inl g)) ∧ ¬ i < 0 ∧ ¬ j < 0 ∧ ¬ n < 0 ∧ i.toNatClampNeg + n.toNatClampNeg ≤ n0 ∧ j.toNatClampNeg + n.toNatClampNeg ≤ n1 ∧ toG h' = (toG h).set b (.inl (.int, n1, .inl (va_cpy f g i.toNatClampNeg j.toNatClampNeg n.toNatClampNeg))) ∧ κ h' = some z) ∧
  (∀ h a ci k v κ, oPR O h a ci k v κ = none) ∧ (∀ h a i v κ, oSR O h a i v κ = none) ∧ (∀ h a ci r z, oCK O h a ci r = some z → (∃ fs, (toG h)[a]? = some (.inr (ci, fs))) ∧ r = some z)
/-- pairs of a switch, in the order of the table from lo on -/
def swTab (pc : Nat) : Nat → List Int → List Nat → Bool
  | _, [], [] => true
  | k, o :: os, k' :: t :: r => Nat.beq k k' && decide ((pc : Int) + o = (t : Int)) && swTab pc (k + 1) os r
  | _, _, _ => false
def swLook (pc : Nat) : List (Int × Int) → List Nat → Bool
  | [], [] => true
  | (a, o) :: os, k' :: t :: r => decide (a = (k' : Int)) && decide (k' < 2 ^ 31) && decide ((pc : Int) + o = (t : Int)) && swLook pc os r
  | _, _ => false
def chkP (ci f kd : Nat) : Bool := match vwCl[ci]? with
  | some q => !(q.2.1 f).2.2.2 && ((Nat.beq kd 0 && decide (parseFieldDescriptor (q.2.1 f).2.2.1 = some .int)) || (Nat.beq kd 2 && decide (parseFieldDescriptor (q.2.1 f).2.2.1 = some .long)))
  | none => false
/-- an entry is as the bytes and the tables have it -/
def chkL (own pc : Nat) (i : Instr) (len : Nat) (aux : List Nat) (val : Value) : Bool := match i with
  | .iconst n => decide (val = .int (Int32.ofInt n)) && Nat.beq len 1
  | .bipush n => decide (val = .int (Int8.ofInt n).toInt32) && Nat.beq len 2
  | .sipush n => decide (val = .int (Int16.ofInt n).toInt32) && Nat.beq len 3
  | .lconst n => decide (val = .long (Int64.ofNat n.val)) && Nat.beq len 1
  | .ldc j => Nat.beq len 2 && (match val with | .int v => decide ((own, j, v) ∈ cstL) | _ => false)
  | .ldc_w j => Nat.beq len 3 && (match val with | .int v => decide ((own, j, v) ∈ cstL) | _ => false)
  | .ldc2_w j => Nat.beq len 3 && (match val with | .long v => decide ((own, j, v) ∈ cstJ) | _ => false)
  | .iinc _ n => decide (val = .int (Int32.ofInt n)) && Nat.beq len 3
  | .iload _ => Nat.beq len 2
  | .lload _ => Nat.beq len 2
  | .aload _ => Nat.beq len 2
  | .istore _ => Nat.beq len 2
  | .lstore _ => Nat.beq len 2
  | .astore _ => Nat.beq len 2
  | .goto o => Nat.beq len 3 && (match aux with | [t] => decide ((pc : Int) + o = (t : Int)) | _ => false)
  | .ifCond _ o => Nat.beq len 3 && (match aux with | [t] => decide ((pc : Int) + o = (t : Int)) | _ => false)
  | .if_icmp _ o => Nat.beq len 3 && (match aux with | [t] => decide ((pc : Int) + o = (t : Int)) | _ => false)
  | .tableswitch d lo hi os => match aux with
    | t :: ps => decide ((pc : Int) + d = (t : Int)) && swTab pc lo.toNat os.toList ps && decide (0 ≤ lo) && decide (hi = lo + os.size - 1) && decide (hi < 1000)
    | [] => false
  | .lookupswitch d os => match aux with
    | t :: ps => decide ((pc : Int) + d = (t : Int)) && swLook pc os.toList ps && (os.toList.zip (os.toList.drop 1)).all (fun (a, next) => a.1 < next.1)
    | [] => false
  | .getfield j => Nat.beq len 3 && (match aux with | [ci, f, _] => decide ((own, j, ci, f) ∈ fldL) | _ => false)
  | .putfield j => Nat.beq len 3 && (match aux with
    | [ci, f, kd] => decide ((own, j, ci, f) ∈ fldL) && chkP ci f kd
    | _ => false)
  | .invokevirtual _ => Nat.beq len 3
  | .invokestatic _ => Nat.beq len 3
  | _ => Nat.beq len 1
theorem swTab_ok {Hp : Type} {pc : Nat} {z : Option Value × Hp} {x : Int32} {d : Nat} {κ : Nat → Res Hp} : ∀ (os : List Int) (k : Nat) (ps : List Nat), swTab pc k os ps = true → k + os.length ≤ 1000 → swc x ps d κ = some z → (∃ (j : Nat) (o : Int) (t : Nat), os[j]? = some o ∧ (pc : Int) + o = (t : Int) ∧ x.toInt = ((k + j : Nat) : Int) ∧ κ t = some z) ∨ ((x.toInt < (k : Int) ∨ ((k + os.length : Nat) : Int) ≤ x.toInt) ∧ κ d = some z)
  | [], k, [], _, _, e => Or.inr ⟨by simp only [List.length_nil]; omega, e⟩
  | [], k, _ :: _, h, _, _ => by simp [swTab] at h
  | o :: os, k, [], h, _, _ => by simp [swTab] at h
  | o :: os, k, [_], h, _, _ => by simp [swTab] at h
  | o :: os, k, k' :: t :: r, h, hk, e => by
    simp only [swTab, Bool.and_eq_true, decide_eq_true_eq] at h
    obtain ⟨⟨h1, h2⟩, h3⟩ := h
    have hkk : k = k' := Nat.eq_of_beq_eq_true h1
    subst hkk
    simp only [List.length_cons] at hk
    have hki : (Int32.ofNat k).toInt = (k : Int) := nI_toInt (n := k) (by omega)
    unfold swc at e
    split at e
    · next hxk =>
      exact Or.inl ⟨0, o, t, rfl, h2, by rw [hxk, hki]; rfl, e⟩
    · next hxk =>
      have hne : x.toInt ≠ (k : Int) := fun q => hxk (Int32.toInt_inj.mp (by rw [q, hki]))
      rcases swTab_ok os (k + 1) r h3 (by omega) e with ⟨j, o', t', a1, a2, a3, a4⟩ | ⟨a1, a2⟩
      · exact Or.inl ⟨j + 1, o', t', by simpa using a1, a2, by rw [a3]; omega, a4⟩
      · right
        refine ⟨?_, a2⟩
        simp only [List.length_cons]
        omega
theorem swLook_ok {Hp : Type} {pc : Nat} {z : Option Value × Hp} {x : Int32} {d : Nat} {dd : Int} (hdd : (pc : Int) + dd = (d : Int)) {κ : Nat → Res Hp} : ∀ (os : List (Int × Int)) (ps : List Nat), swLook pc os ps = true → swc x ps d κ = some z → ∃ t : Nat, (pc : Int) + Op.lookupswitch.offset os dd x.toInt = (t : Int) ∧ κ t = some z
  | [], [], _, e => ⟨d, by simpa [Op.lookupswitch.offset] using hdd, e⟩
  | [], _ :: _, h, _ => by simp [swLook] at h
  | _ :: os, [], h, _ => by simp [swLook] at h
  | _ :: os, [_], h, _ => by simp [swLook] at h
  | (a, o) :: os, k' :: t :: r, h, e => by
    simp only [swLook, Bool.and_eq_true, decide_eq_true_eq] at h
    obtain ⟨⟨⟨h0, h1⟩, h2⟩, h3⟩ := h
    have hki : (Int32.ofNat k').toInt = (k' : Int) := nI_toInt (n := k') h1
    unfold swc at e
    split at e
    · next hxk =>
      refine ⟨t, ?_, e⟩
      rw [Op.lookupswitch.offset_cons, if_pos (by rw [hxk, hki, h0])]
      exact h2
    · next hxk =>
      obtain ⟨t', a1, a2⟩ := swLook_ok hdd os r h3 e
      refine ⟨t', ?_, a2⟩
      rw [lv_osw hxk (by rw [hki, h0])]
      exact a1
