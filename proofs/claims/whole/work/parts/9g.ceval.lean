/-! the constructors evaluated: the heap behind them -/
noncomputable def S_cLa : SemC := [(195, 2, 14, ctrC [] 2 14 kx_Le ko_Le 1)]
noncomputable def S_cBp : SemC := [(172, 28, 213, ctrC S_cLa 28 213 kx_La ko_La 2), (216, 0, 0, ctrC [] 0 0 kx_Re ko_Re 2), (232, 3, 21, ctrC [] 3 21 kx_Wa ko_Wa 2), (206, 1, 5, ctrC [] 1 5 kx_Pa ko_Pa 3), (224, 1, 80, ctrC [] 1 80 kx_Sh ko_Sh 2)]
/-- the ints at the start -/
def h0r (a : Nat) : Nat → Int32 := bif Nat.beq (shC a) 1 then (fun k => bif Nat.beq k 2 then 1 else 0) else bif Nat.beq (shC a) 4 then (fun k => bif Nat.beq k 1 then -1 else 0) else bif Nat.beq a 63 then (fun k => bif Nat.beq k 2 then -9 else 0) else bif Nat.beq a 180 then (fun k => bif Nat.blt k 6 then -9 else 0) else bif Nat.beq a 183 then (fun k => bif Nat.blt k 4 then -9 else 0) else bif Nat.beq a 192 then (fun k => bif Nat.beq k 0 || Nat.beq k 140 || Nat.beq k 280 then -9 else 0) else fun _ => 0
def h0 : Hp := (h0r, 0)
def bpG : List GC := (List.range 178).map (cellG h0)
def eqF (n : Nat) (f g : Nat → Int32) : Bool := (List.range n).all fun j => decide (f j = g j)
def eqO (n : Nat) (f g : Nat → Option Nat) : Bool := (List.range n).all fun j => decide (f j = g j)
def eqC : GC → GC → Bool
  | .inr (a, fs), .inr (b, gs) => Nat.beq a b && decide (fs = gs)
  | .inl (t, n, .inl f), .inl (u, m, .inl g) => decide (t = u) && Nat.beq n m && eqF n f g
  | .inl (t, n, .inr (.inr (.inr (.inr f)))), .inl (u, m, .inr (.inr (.inr (.inr g)))) => decide (t = u) && Nat.beq n m && eqO n f g
  | _, _ => false
def eqG : List GC → List GC → Bool
  | [], [] => true
  | a :: s, b :: t => eqC a b && eqG s t
  | _, _ => false
def eqS (x : Option (List GC)) (y : List GC) : Bool := match x with
  | some g => eqG g y
  | none => false
set_option maxRecDepth 1000000 in
theorem ev_Le : eqS (ctrC [] 2 14 kx_Le ko_Le 1 [.ref 0] [.inr (1, dfl 1)]) [.inr (1, [.ref 1, .ref 2, .int 1, .int 0, .int 0]), .inl (.int, 7, .inl fun _ => 0), .inl (.int, 7, .inl fun _ => 0)] = true := by decide +kernel
set_option maxRecDepth 1000000 in
theorem ev_Mo : eqS (ctrC [] 18 2000 kx_Mo ko_Mo 2 [.ref 178] (bpG ++ [.inr (7, dfl 7)])) (toGI h0) = true := by decide +kernel
set_option maxRecDepth 1000000 in
theorem ev_Bp : eqS (ctrC S_cBp 177 3000 kx_Bp ko_Bp 2 [.ref 0] [.inr (6, dfl 6)]) bpG = true := by decide +kernel
