/-! THE REFLECTED MACHINE: cells numbered from a base address; one instruction in CPS over abstract locals, stack and heap; answers are Option-valued. -/
/-- a cell with relative references: an array (its component type, length, contents) or an object (its class's number, fields) -/
abbrev GC : Type := (FieldType × vp_A) ⊕ (Nat × List Value)
def cv (B : Nat) : Value → Value
  | .ref a => .ref (B + a)
  | .int x => .int x
  | .long x => .long x
  | .float x => .float x
  | .double x => .double x
  | .null => .null
  | .retAddr x => .retAddr x
abbrev Res (Hp : Type) : Type := Option (Option Value × Hp)
/-- the heap's own operations -/
abbrev Ops (Hp : Type) : Type :=
  (Hp → Nat → Nat → Nat → (Int32 → Res Hp) → Res Hp) ×
  (Hp → Nat → Nat → Nat → (Nat → Res Hp) → Res Hp) ×
  (Hp → Nat → Nat → Nat → (Int64 → Res Hp) → Res Hp) ×
  (Hp → Nat → Nat → Nat → Int32 → (Hp → Res Hp) → Res Hp) ×
  (Hp → Nat → Nat → Nat → Int64 → (Hp → Res Hp) → Res Hp) ×
  (Hp → Nat → Nat → Nat → Nat → (Hp → Res Hp) → Res Hp) ×
  (Hp → Nat → (Nat → Res Hp) → Res Hp) ×
  (Hp → Nat → Int32 → (Int32 → Res Hp) → Res Hp) ×
  (Hp → Nat → Int32 → (Int32 → Res Hp) → Res Hp) ×
  (Hp → Nat → Int32 → (Nat → Res Hp) → Res Hp) ×
  (Hp → Nat → Int32 → Int32 → (Hp → Res Hp) → Res Hp) ×
  (Hp → Nat → Int32 → Int32 → (Hp → Res Hp) → Res Hp) ×
  (Hp → Nat → Int32 → Nat → (Hp → Res Hp) → Res Hp) ×
  (Hp → Nat → Int32 → Nat → Int32 → Int32 → (Hp → Res Hp) → Res Hp) ×
  (Hp → Nat → Nat → Res Hp → Res Hp)
section OPS
variable {Hp : Type}
abbrev oGI (O : Ops Hp) := O.1
abbrev oGR (O : Ops Hp) := O.2.1
abbrev oGL (O : Ops Hp) := O.2.2.1
abbrev oPI (O : Ops Hp) := O.2.2.2.1
abbrev oPL (O : Ops Hp) := O.2.2.2.2.1
abbrev oPR (O : Ops Hp) := O.2.2.2.2.2.1
abbrev oLN (O : Ops Hp) := O.2.2.2.2.2.2.1
abbrev oAI (O : Ops Hp) := O.2.2.2.2.2.2.2.1
abbrev oAZ (O : Ops Hp) := O.2.2.2.2.2.2.2.2.1
abbrev oAR (O : Ops Hp) := O.2.2.2.2.2.2.2.2.2.1
abbrev oSI (O : Ops Hp) := O.2.2.2.2.2.2.2.2.2.2.1
abbrev oSZ (O : Ops Hp) := O.2.2.2.2.2.2.2.2.2.2.2.1
abbrev oSR (O : Ops Hp) := O.2.2.2.2.2.2.2.2.2.2.2.2.1
abbrev oCP (O : Ops Hp) := O.2.2.2.2.2.2.2.2.2.2.2.2.2.1
abbrev oCK (O : Ops Hp) := O.2.2.2.2.2.2.2.2.2.2.2.2.2.2
end OPS
/-- abstract locals: what is known at each place -/
abbrev Loca : Type := List (Option Value)
def lget : Loca → Nat → Option Value
  | [], _ => none
  | a :: _, 0 => a
  | _ :: t, i + 1 => lget t i
def lset : Loca → Nat → Option Value → Loca
  | [], _, _ => []
  | _ :: t, 0, v => v :: t
  | a :: t, i + 1, v => a :: lset t i v
/-- the place ahead holds no long: then a store here leaves it alone -/
def lfree : Loca → Nat → Bool
  | _, 0 => true
  | L, i + 1 => match lget L i with
    | some (.long _) => false
    | some (.double _) => false
    | _ => true
def lsto1 (L : Loca) (i : Nat) (v : Value) : Loca := lset L i (some v)
def lsto2 (L : Loca) (i : Nat) (v : Value) : Loca := lset (lset L (i + 1) none) i (some v)
/-- place, instruction, length, targets or numbers of what is linked, a constant -/
abbrev Ent : Type := Nat × Instr × Nat × List Nat × Value
def fetch : List Ent → Nat → Option (Instr × Nat × List Nat × Value)
  | [], _ => none
  | e :: t, pc => match Nat.beq e.1 pc with
    | true => some e.2
    | false => fetch t pc
/-- a gate that no reduction opens: what stands behind it is named, not computed -/
theorem blk_ex : ∃ b : Bool, b = true := ⟨true, rfl⟩
noncomputable def blk : Bool := Classical.choose blk_ex
theorem blk_t : blk = true := Classical.choose_spec blk_ex
noncomputable section
def gt {ρ : Type} (x : Option ρ) : Option ρ := match blk with
  | true => x
  | false => none
theorem gt_t {ρ : Type} (x : Option ρ) : gt x = x := by unfold gt; rw [blk_t]
/-- a call's answer, by its kind -/
def bI {Hp ρ : Type} (r : Res Hp) (k : Int32 → Hp → Option ρ) : Option ρ := match blk, r with
  | true, some (some (.int v), h) => k v h
  | _, _ => none
def bL {Hp ρ : Type} (r : Res Hp) (k : Int64 → Hp → Option ρ) : Option ρ := match blk, r with
  | true, some (some (.long v), h) => k v h
  | _, _ => none
def bV {Hp ρ : Type} (r : Res Hp) (k : Hp → Option ρ) : Option ρ := match blk, r with
  | true, some (none, h) => k h
  | _, _ => none
/-- a new heap gets a name -/
def bH {Hp ρ : Type} (x : Hp) (k : Hp → Option ρ) : Option ρ := match blk with
  | true => k x
  | false => none
theorem bI_some {Hp ρ : Type} (v : Int32) (h : Hp) (k : Int32 → Hp → Option ρ) : bI (some (some (.int v), h)) k = k v h := by unfold bI; rw [blk_t]
theorem bL_some {Hp ρ : Type} (v : Int64) (h : Hp) (k : Int64 → Hp → Option ρ) : bL (some (some (.long v), h)) k = k v h := by unfold bL; rw [blk_t]
theorem bV_some {Hp ρ : Type} (h : Hp) (k : Hp → Option ρ) : bV (some (none, h)) k = k h := by unfold bV; rw [blk_t]
theorem bH_t {Hp ρ : Type} (x : Hp) (k : Hp → Option ρ) : bH x k = k x := by unfold bH; rw [blk_t]
theorem bI_inv {Hp ρ : Type} {r : Res Hp} {k : Int32 → Hp → Option ρ} {z : ρ} (e : bI r k = some z) : ∃ v h, r = some (some (.int v), h) ∧ k v h = some z := by
  unfold bI at e
  split at e
  · exact ⟨_, _, rfl, e⟩
  · cases e
theorem bL_inv {Hp ρ : Type} {r : Res Hp} {k : Int64 → Hp → Option ρ} {z : ρ} (e : bL r k = some z) : ∃ v h, r = some (some (.long v), h) ∧ k v h = some z := by
  unfold bL at e
  split at e
  · exact ⟨_, _, rfl, e⟩
  · cases e
theorem bV_inv {Hp ρ : Type} {r : Res Hp} {k : Hp → Option ρ} {z : ρ} (e : bV r k = some z) : ∃ h, r = some (none, h) ∧ k h = some z := by
  unfold bV at e
  split at e
  · exact ⟨_, rfl, e⟩
  · cases e
def retI {Hp : Type} (v : Int32) (h : Hp) : Res Hp := some (some (.int v), h)
def retL {Hp : Type} (v : Int64) (h : Hp) : Res Hp := some (some (.long v), h)
def retV {Hp : Type} (h : Hp) : Res Hp := some (none, h)
def retZ {Hp : Type} (v : Int32) (h : Hp) : Res Hp := if v = 0 then some (some (.int 0), h) else if v = 1 then some (some (.int 1), h) else none
/-- the arguments of a call: the top n of the stack, the first one lowest -/
def topn : Nat → List Value → List Value → Option (List Value × List Value)
  | 0, acc, st => some (acc, st)
  | n + 1, acc, v :: st => topn n (v :: acc) st
  | _ + 1, _, [] => none
def cats : List Value → Nat
  | [] => 0
  | v :: t => v.category + cats t
def fewc (st : List Value) : Bool := Nat.ble (cats st) 8
/-- a switch: pairs of key and target, the rest -/
def swc {Hp : Type} (x : Int32) : List Nat → Nat → (Nat → Res Hp) → Res Hp
  | k :: t :: r, d, κ => if x = Int32.ofNat k then κ t else swc x r d κ
  | _, d, κ => κ d
section STEP
variable {Hp : Type}
abbrev Kt (Hp : Type) : Type := Nat → Loca → List Value → Hp → Res Hp
def ldI (L : Loca) (i : Nat) (κ : Int32 → Res Hp) : Res Hp := match lget L i with
  | some (.int x) => κ x
  | _ => none
def ldL (L : Loca) (i : Nat) (κ : Int64 → Res Hp) : Res Hp := match lget L i with
  | some (.long x) => κ x
  | _ => none
def ldA (L : Loca) (i : Nat) (κ : Nat → Res Hp) : Res Hp := match lget L i with
  | some (.ref x) => κ x
  | _ => none
def on1 (L : Loca) (i : Nat) (v : Value) (κ : Loca → Res Hp) : Res Hp := match lfree L i && Nat.ble (i + 1) L.length with
  | true => κ (lsto1 L i v)
  | false => none
def on2 (L : Loca) (i : Nat) (v : Value) (κ : Loca → Res Hp) : Res Hp := match lfree L i && Nat.ble (i + 2) L.length with
  | true => κ (lsto2 L i v)
  | false => none
def stIf (c : ClassFile.Cond) (x y : Int32) (a b : Res Hp) : Res Hp := match c with
  | .eq => if x = y then a else b
  | .ne => if x = y then b else a
  | .lt => if x < y then a else b
  | .ge => if y ≤ x then a else b
  | .gt => if y < x then a else b
  | .le => if x ≤ y then a else b
def un1 (st : List Value) (κ : Int32 → List Value → Res Hp) : Res Hp := match st with
  | .int x :: r => κ x r
  | _ => none
def un2 (st : List Value) (κ : Int32 → Int32 → List Value → Res Hp) : Res Hp := match st with
  | .int y :: .int x :: r => κ x y r
  | _ => none
def ul1 (st : List Value) (κ : Int64 → List Value → Res Hp) : Res Hp := match st with
  | .long x :: r => κ x r
  | _ => none
def ul2 (st : List Value) (κ : Int64 → Int64 → List Value → Res Hp) : Res Hp := match st with
  | .long y :: .long x :: r => κ x y r
  | _ => none
def ua1 (st : List Value) (κ : Nat → List Value → Res Hp) : Res Hp := match st with
  | .ref x :: r => κ x r
  | _ => none
/-- one instruction that makes no cell and calls nothing; rk: what kind the method returns (0 void, 1 int, 2 boolean, 3 long) -/
def step (O : Ops Hp) (rk : Nat) (i : Instr) (aux : List Nat) (val : Value) (pc : Nat) (L : Loca) (st : List Value) (h : Hp) (k : Kt Hp) : Res Hp := match i with
  | .iconst _ => k (pc + 1) L (val :: st) h
  | .bipush _ => k (pc + 2) L (val :: st) h
  | .sipush _ => k (pc + 3) L (val :: st) h
  | .lconst _ => k (pc + 1) L (val :: st) h
  | .ldc _ => k (pc + 2) L (val :: st) h
  | .ldc_w _ => k (pc + 3) L (val :: st) h
  | .ldc2_w _ => k (pc + 3) L (val :: st) h
  | .iload_n j => ldI L j.val fun x => k (pc + 1) L (.int x :: st) h
  | .iload j => ldI L j fun x => k (pc + 2) L (.int x :: st) h
  | .lload_n j => ldL L j.val fun x => k (pc + 1) L (.long x :: st) h
  | .lload j => ldL L j fun x => k (pc + 2) L (.long x :: st) h
  | .aload_n j => ldA L j.val fun x => k (pc + 1) L (.ref x :: st) h
  | .aload j => ldA L j fun x => k (pc + 2) L (.ref x :: st) h
  | .istore_n j => un1 st fun x r => on1 L j.val (.int x) fun L' => k (pc + 1) L' r h
  | .istore j => un1 st fun x r => on1 L j (.int x) fun L' => k (pc + 2) L' r h
  | .lstore_n j => ul1 st fun x r => on2 L j.val (.long x) fun L' => k (pc + 1) L' r h
  | .lstore j => ul1 st fun x r => on2 L j (.long x) fun L' => k (pc + 2) L' r h
  | .astore_n j => ua1 st fun x r => on1 L j.val (.ref x) fun L' => k (pc + 1) L' r h
  | .astore j => ua1 st fun x r => on1 L j (.ref x) fun L' => k (pc + 2) L' r h
  | .iinc j _ => ldI L j fun x => match val with
    | .int v => on1 L j (.int (x + v)) fun L' => k (pc + 3) L' st h
    | _ => none
  | .iadd => un2 st fun x y r => k (pc + 1) L (.int (x + y) :: r) h
  | .isub => un2 st fun x y r => k (pc + 1) L (.int (x - y) :: r) h
  | .imul => un2 st fun x y r => k (pc + 1) L (.int (x * y) :: r) h
  | .iand => un2 st fun x y r => k (pc + 1) L (.int (x &&& y) :: r) h
  | .ior => un2 st fun x y r => k (pc + 1) L (.int (x ||| y) :: r) h
  | .ixor => un2 st fun x y r => k (pc + 1) L (.int (x ^^^ y) :: r) h
  | .ishl => un2 st fun x y r => k (pc + 1) L (.int (x <<< (y &&& 31)) :: r) h
  | .ishr => un2 st fun x y r => k (pc + 1) L (.int (x >>> (y &&& 31)) :: r) h
  | .iushr => un2 st fun x y r => k (pc + 1) L (.int (x.toUInt32 >>> (y.toUInt32 &&& Int32.toUInt32 31)).toInt32 :: r) h
  | .idiv => un2 st fun x y r => if y = 0 then none else k (pc + 1) L (.int (x / y) :: r) h
  | .irem => un2 st fun x y r => if y = 0 then none else k (pc + 1) L (.int (x - x / y * y) :: r) h
  | .ladd => ul2 st fun x y r => k (pc + 1) L (.long (x + y) :: r) h
  | .lsub => ul2 st fun x y r => k (pc + 1) L (.long (x - y) :: r) h
  | .lmul => ul2 st fun x y r => k (pc + 1) L (.long (x * y) :: r) h
  | .ldiv => ul2 st fun x y r => if y = 0 then none else k (pc + 1) L (.long (x / y) :: r) h
  | .lrem => ul2 st fun x y r => if y = 0 then none else k (pc + 1) L (.long (x - x / y * y) :: r) h
  | .lcmp => ul2 st fun x y r => k (pc + 1) L (.int (lg_cmp x y) :: r) h
  | .i2l => un1 st fun x r => k (pc + 1) L (.long x.toInt64 :: r) h
  | .l2i => ul1 st fun x r => k (pc + 1) L (.int x.toInt32 :: r) h
  | .i2b => un1 st fun x r => k (pc + 1) L (.int x.toInt8.toInt32 :: r) h
  | .dup => match st with
    | .int x :: r => k (pc + 1) L (.int x :: .int x :: r) h
    | .ref x :: r => k (pc + 1) L (.ref x :: .ref x :: r) h
    | _ => none
  | .dup2 => match st with
    | .int y :: .ref x :: r => k (pc + 1) L (.int y :: .ref x :: .int y :: .ref x :: r) h
    | _ => none
  | .pop => match st with
    | .int _ :: r => k (pc + 1) L r h
    | _ => none
  | .goto _ => match aux with
    | t :: _ => k t L st h
    | [] => none
  | .ifCond c _ => match aux with
    | t :: _ => un1 st fun x r => stIf c x 0 (k t L r h) (k (pc + 3) L r h)
    | [] => none
  | .if_icmp c _ => match aux with
    | t :: _ => un2 st fun x y r => stIf c x y (k t L r h) (k (pc + 3) L r h)
    | [] => none
  | .tableswitch _ _ _ _ => match aux with
    | d :: ps => un1 st fun x r => swc x ps d fun t => k t L r h
    | [] => none
  | .lookupswitch _ _ => match aux with
    | d :: ps => un1 st fun x r => swc x ps d fun t => k t L r h
    | [] => none
  | .getfield _ => match aux with
    | [ci, f, 0] => ua1 st fun a r => oGI O h a ci f fun v => k (pc + 3) L (.int v :: r) h
    | [ci, f, 1] => ua1 st fun a r => oGR O h a ci f fun v => k (pc + 3) L (.ref v :: r) h
    | [ci, f, 2] => ua1 st fun a r => oGL O h a ci f fun v => k (pc + 3) L (.long v :: r) h
    | _ => none
  | .putfield _ => match aux with
    | [ci, f, 0] => un1 st fun v r => ua1 r fun a r => oPI O h a ci f v fun h' => k (pc + 3) L r h'
    | [ci, f, 1] => ua1 st fun v r => ua1 r fun a r => oPR O h a ci f v fun h' => k (pc + 3) L r h'
    | [ci, f, 2] => ul1 st fun v r => ua1 r fun a r => oPL O h a ci f v fun h' => k (pc + 3) L r h'
    | _ => none
  | .arraylength => ua1 st fun a r => oLN O h a fun n => k (pc + 1) L (.int (Int32.ofNat n) :: r) h
  | .iaload => un1 st fun i r => ua1 r fun a r => oAI O h a i fun v => k (pc + 1) L (.int v :: r) h
  | .baload => un1 st fun i r => ua1 r fun a r => oAZ O h a i fun v => k (pc + 1) L (.int v :: r) h
  | .aaload => un1 st fun i r => ua1 r fun a r => oAR O h a i fun v => k (pc + 1) L (.ref v :: r) h
  | .iastore => un2 st fun i v r => ua1 r fun a r => oSI O h a i v fun h' => k (pc + 1) L r h'
  | .bastore => un2 st fun i v r => ua1 r fun a r => oSZ O h a i v fun h' => k (pc + 1) L r h'
  | .aastore => ua1 st fun v r => un1 r fun i r => ua1 r fun a r => oSR O h a i v fun h' => k (pc + 1) L r h'
  | .ireturn => match st with
    | [.int v] => match rk with
      | 1 => retI v h
      | 2 => retZ v h
      | _ => none
    | _ => none
  | .lreturn => match st with
    | [.long v] => match rk with
      | 3 => retL v h
      | _ => none
    | _ => none
  | .return_ => match st with
    | [] => match rk with
      | 0 => retV h
      | _ => none
    | _ => none
  | _ => none
abbrev Sem (Hp : Type) : Type := List (Nat × (List Value → Hp → Res Hp))
def semOf : Sem Hp → Nat → List Value → Hp → Res Hp
  | [], _ => fun _ _ => none
  | e :: t, mi => match Nat.beq e.1 mi with
    | true => e.2
    | false => semOf t mi
/-- a call: the method's number, the kind that it returns, its arguments, what lies below them -/
def callW (S : Sem Hp) (mi rk : Nat) (as r : List Value) (pc : Nat) (L : Loca) (h : Hp) (k : Kt Hp) : Res Hp := match fewc r with
  | false => none
  | true => match rk with
    | 0 => bV (semOf S mi as h) fun h' => k (pc + 3) L r h'
    | 3 => bL (semOf S mi as h) fun v h' => k (pc + 3) L (.long v :: r) h'
    | _ => bI (semOf S mi as h) fun v h' => k (pc + 3) L (.int v :: r) h'
/-- of a static method: aux = its number, how many values it takes, what kind it returns -/
def callF (S : Sem Hp) (aux : List Nat) (pc : Nat) (L : Loca) (st : List Value) (h : Hp) (k : Kt Hp) : Res Hp := match aux with
  | [mi, n, rk] => match topn n [] st with
    | some (as, r) => callW S mi rk as r pc L h k
    | none => none
  | _ => none
/-- of an object's method: also the class of which the object must be -/
def callO (O : Ops Hp) (S : Sem Hp) (aux : List Nat) (pc : Nat) (L : Loca) (st : List Value) (h : Hp) (k : Kt Hp) : Res Hp := match aux with
  | [mi, n, rk, ci] => match topn n [] st with
    | some (.ref a :: as, r) => oCK O h a ci (callW S mi rk (.ref a :: as) r pc L h k)
    | _ => none
  | _ => none
/-- System.arraycopy over ints -/
def copyF (O : Ops Hp) (pc : Nat) (L : Loca) (st : List Value) (h : Hp) (k : Kt Hp) : Res Hp := match st with
  | .int n :: .int j :: .ref b :: .int i :: .ref a :: r => match fewc r with
    | true => oCP O h a i b j n fun h' => k (pc + 3) L r h'
    | false => none
  | _ => none
/-- Math.max (0) and Math.min (1) over ints -/
def mathF (mx : Nat) (pc : Nat) (L : Loca) (st : List Value) (h : Hp) (k : Kt Hp) : Res Hp := match st with
  | .int y :: .int x :: r => match fewc r with
    | true => match mx with
      | 0 => k (pc + 3) L (.int (if x < y then y else x) :: r) h
      | _ => k (pc + 3) L (.int (if y < x then y else x) :: r) h
    | false => none
  | _ => none
/-- the instructions of a method that makes no cell -/
def exec1 (O : Ops Hp) (S : Sem Hp) (rk : Nat) (code : List Ent) (pc : Nat) (L : Loca) (st : List Value) (h : Hp) (k : Kt Hp) : Res Hp := match fetch code pc with
  | none => none
  | some (i, _, aux, val) => match i with
    | .invokevirtual _ => callO O S aux pc L st h k
    | .invokestatic _ => match aux with
      | [] => copyF O pc L st h k
      | [mx] => mathF mx pc L st h k
      | _ => callF S aux pc L st h k
    | _ => step O rk i aux val pc L st h k
abbrev Stop (Hp : Type) : Type := List (Nat × List Nat × (List Value → List Value → Hp → Res Hp))
def pickL (L : Loca) : List Nat → Option (List Value)
  | [] => some []
  | i :: is => match lget L i with
    | none => none
    | some v => match pickL L is with
      | none => none
      | some vs => some (v :: vs)
def stopOf : Stop Hp → Nat → Option (List Nat × (List Value → List Value → Hp → Res Hp))
  | [], _ => none
  | e :: t, pc => match Nat.beq e.1 pc with
    | true => some e.2
    | false => stopOf t pc
def runF (O : Ops Hp) (S : Sem Hp) (Z : Stop Hp) (rk : Nat) (code : List Ent) (n : Nat) : Kt Hp :=
  Nat.rec (fun _ _ _ _ => none) (fun _ ih pc L st h => match stopOf Z pc with
    | some z => match pickL L z.1 with
      | some vs => z.2 vs st h
      | none => none
    | none => exec1 O S rk code pc L st h ih) n
end STEP
/-- a loop in CPS -/
def loopC {S ρ : Type} (b : S → (S → Option ρ) → Option ρ) (n : Nat) : S → Option ρ :=
  Nat.rec (fun _ => none) (fun _ ih s => b s ih) n
end
