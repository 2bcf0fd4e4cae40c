section INV
variable {Hp : Type}
theorem un1_inv {st : List Value} {κ : Int32 → List Value → Res Hp} {z : Option Value × Hp} (e : un1 st κ = some z) : ∃ x r, st = .int x :: r ∧ κ x r = some z := by
  unfold un1 at e
  split at e
  · exact ⟨_, _, rfl, e⟩
  · cases e
theorem un2_inv {st : List Value} {κ : Int32 → Int32 → List Value → Res Hp} {z : Option Value × Hp} (e : un2 st κ = some z) : ∃ x y r, st = .int y :: .int x :: r ∧ κ x y r = some z := by
  unfold un2 at e
  split at e
  · exact ⟨_, _, _, rfl, e⟩
  · cases e
theorem ul1_inv {st : List Value} {κ : Int64 → List Value → Res Hp} {z : Option Value × Hp} (e : ul1 st κ = some z) : ∃ x r, st = .long x :: r ∧ κ x r = some z := by
  unfold ul1 at e
  split at e
  · exact ⟨_, _, rfl, e⟩
  · cases e
theorem ul2_inv {st : List Value} {κ : Int64 → Int64 → List Value → Res Hp} {z : Option Value × Hp} (e : ul2 st κ = some z) : ∃ x y r, st = .long y :: .long x :: r ∧ κ x y r = some z := by
  unfold ul2 at e
  split at e
  · exact ⟨_, _, _, rfl, e⟩
  · cases e
theorem ua1_inv {st : List Value} {κ : Nat → List Value → Res Hp} {z : Option Value × Hp} (e : ua1 st κ = some z) : ∃ x r, st = .ref x :: r ∧ κ x r = some z := by
  unfold ua1 at e
  split at e
  · exact ⟨_, _, rfl, e⟩
  · cases e
theorem ldI_inv {L : Loca} {i : Nat} {κ : Int32 → Res Hp} {z : Option Value × Hp} (e : ldI L i κ = some z) : ∃ x, lget L i = some (.int x) ∧ κ x = some z := by
  unfold ldI at e
  split at e
  · next h => exact ⟨_, h, e⟩
  · cases e
theorem ldL_inv {L : Loca} {i : Nat} {κ : Int64 → Res Hp} {z : Option Value × Hp} (e : ldL L i κ = some z) : ∃ x, lget L i = some (.long x) ∧ κ x = some z := by
  unfold ldL at e
  split at e
  · next h => exact ⟨_, h, e⟩
  · cases e
theorem ldA_inv {L : Loca} {i : Nat} {κ : Nat → Res Hp} {z : Option Value × Hp} (e : ldA L i κ = some z) : ∃ x, lget L i = some (.ref x) ∧ κ x = some z := by
  unfold ldA at e
  split at e
  · next h => exact ⟨_, h, e⟩
  · cases e
theorem on1_inv {L : Loca} {i : Nat} {v : Value} {κ : Loca → Res Hp} {z : Option Value × Hp} (e : on1 L i v κ = some z) : lfree L i = true ∧ i < L.length ∧ κ (lsto1 L i v) = some z := by
  unfold on1 at e
  split at e
  · next h =>
    rw [Bool.and_eq_true] at h
    exact ⟨h.1, Nat.le_of_ble_eq_true h.2, e⟩
  · cases e
theorem on2_inv {L : Loca} {i : Nat} {v : Value} {κ : Loca → Res Hp} {z : Option Value × Hp} (e : on2 L i v κ = some z) : lfree L i = true ∧ i + 1 < L.length ∧ κ (lsto2 L i v) = some z := by
  unfold on2 at e
  split at e
  · next h =>
    rw [Bool.and_eq_true] at h
    exact ⟨h.1, Nat.le_of_ble_eq_true h.2, e⟩
  · cases e
end INV
section PURE
variable {p : Program} {l : Launch} {e : Env} {R : Room} {s : State} {m : MethodId} {args : Array Value} {below : List Frame} {meth : Method} {c : Code} {B nL : Nat} {H0 : Heap} {cells slots : Nat} {Q : State → Prop} {X : Heap → Prop} {cc : ByteArray} {pc : Nat} {L : Loca} {st : List Value}
/-- a store of one slot -/
theorem sto1_go {ls : Array Slot} {i : Nat} {v : Value} (ha : al_has B ls nL L) (hf : lfree L i = true) (hi : i < L.length) (hc : v.category = 1) {g : JFrame} {Wg : JFrame → Prop} (hg : ∀ ls', al_has B ls' nL (lsto1 L i v) → Wg { g with locals := ls' }) :
    ∀ ls', lv_has ls' nL ((i, cv B v) :: (al_l B L).filter (fun q => !(q.1 == i) && !(q.1 + 1 == i && q.2.category == 2))) → Wg { g with locals := ls' } := fun ls' h => hg ls' (al_sto1 ha.1 hf h)
theorem p_iconst (hx : p.tables.exec = Jvm.exec) (hb : c.code = cc) {n : Int} {v : Int32} (hd : decode cc pc = .ok (.iconst n, 1)) (hv : Int32.ofInt n = v) (k : At p l e R s m args below meth c B nL H0 cells slots Q X (pc + 1) L (.int v :: st)) : At p l e R s m args below meth c B nL H0 cells slots Q X pc L st :=
  fun H locs ls hX hS ha => lv_iconst hx hb hd hv (k H locs ls hX hS ha)
theorem p_bipush (hx : p.tables.exec = Jvm.exec) (hb : c.code = cc) {n : Int} {v : Int32} (hd : decode cc pc = .ok (.bipush n, 2)) (hv : (Int8.ofInt n).toInt32 = v) (k : At p l e R s m args below meth c B nL H0 cells slots Q X (pc + 2) L (.int v :: st)) : At p l e R s m args below meth c B nL H0 cells slots Q X pc L st :=
  fun H locs ls hX hS ha => lv_bipush hx hb hd hv (k H locs ls hX hS ha)
theorem p_sipush (hx : p.tables.exec = Jvm.exec) (hb : c.code = cc) {n : Int} {v : Int32} (hd : decode cc pc = .ok (.sipush n, 3)) (hv : (Int16.ofInt n).toInt32 = v) (k : At p l e R s m args below meth c B nL H0 cells slots Q X (pc + 3) L (.int v :: st)) : At p l e R s m args below meth c B nL H0 cells slots Q X pc L st :=
  fun H locs ls hX hS ha => lv_sipush hx hb hd hv (k H locs ls hX hS ha)
theorem p_lconst (hx : p.tables.exec = Jvm.exec) (hb : c.code = cc) {n : Fin 2} {v : Int64} (hd : decode cc pc = .ok (.lconst n, 1)) (hv : Int64.ofNat (n : Nat) = v) (k : At p l e R s m args below meth c B nL H0 cells slots Q X (pc + 1) L (.long v :: st)) : At p l e R s m args below meth c B nL H0 cells slots Q X pc L st :=
  fun H locs ls hX hS ha => lv_lconst hx hb hd hv (k H locs ls hX hS ha)
theorem p_iload_n (hx : p.tables.exec = Jvm.exec) (hb : c.code = cc) {j : Fin 4} {x : Int32} (hd : decode cc pc = .ok (.iload_n j, 1)) (hl : lget L j.val = some (.int x)) (k : At p l e R s m args below meth c B nL H0 cells slots Q X (pc + 1) L (.int x :: st)) : At p l e R s m args below meth c B nL H0 cells slots Q X pc L st :=
  fun H locs ls hX hS ha => lv_iload_n hx hb hd rfl (ha.2.2.2 _ _ hl) (k H locs ls hX hS ha)
theorem p_iload (hx : p.tables.exec = Jvm.exec) (hb : c.code = cc) {j : Nat} {x : Int32} (hd : decode cc pc = .ok (.iload j, 2)) (hl : lget L j = some (.int x)) (k : At p l e R s m args below meth c B nL H0 cells slots Q X (pc + 2) L (.int x :: st)) : At p l e R s m args below meth c B nL H0 cells slots Q X pc L st :=
  fun H locs ls hX hS ha => lv_iload hx hb hd (ha.2.2.2 _ _ hl) (k H locs ls hX hS ha)
theorem p_lload_n (hx : p.tables.exec = Jvm.exec) (hb : c.code = cc) {j : Fin 4} {x : Int64} (hd : decode cc pc = .ok (.lload_n j, 1)) (hl : lget L j.val = some (.long x)) (k : At p l e R s m args below meth c B nL H0 cells slots Q X (pc + 1) L (.long x :: st)) : At p l e R s m args below meth c B nL H0 cells slots Q X pc L st :=
  fun H locs ls hX hS ha => lv_lload_n hx hb hd rfl (ha.2.2.2 _ _ hl) (k H locs ls hX hS ha)
theorem p_lload (hx : p.tables.exec = Jvm.exec) (hb : c.code = cc) {j : Nat} {x : Int64} (hd : decode cc pc = .ok (.lload j, 2)) (hl : lget L j = some (.long x)) (k : At p l e R s m args below meth c B nL H0 cells slots Q X (pc + 2) L (.long x :: st)) : At p l e R s m args below meth c B nL H0 cells slots Q X pc L st :=
  fun H locs ls hX hS ha => lv_lload hx hb hd (ha.2.2.2 _ _ hl) (k H locs ls hX hS ha)
theorem p_aload_n (hx : p.tables.exec = Jvm.exec) (hb : c.code = cc) {j : Fin 4} {x : Nat} (hd : decode cc pc = .ok (.aload_n j, 1)) (hl : lget L j.val = some (.ref x)) (k : At p l e R s m args below meth c B nL H0 cells slots Q X (pc + 1) L (.ref x :: st)) : At p l e R s m args below meth c B nL H0 cells slots Q X pc L st :=
  fun H locs ls hX hS ha => lv_aload_n hx hb hd rfl (ha.2.2.2 _ _ hl) (k H locs ls hX hS ha)
theorem p_aload (hx : p.tables.exec = Jvm.exec) (hb : c.code = cc) {j : Nat} {x : Nat} (hd : decode cc pc = .ok (.aload j, 2)) (hl : lget L j = some (.ref x)) (k : At p l e R s m args below meth c B nL H0 cells slots Q X (pc + 2) L (.ref x :: st)) : At p l e R s m args below meth c B nL H0 cells slots Q X pc L st :=
  fun H locs ls hX hS ha => lv_aload hx hb hd (ha.2.2.2 _ _ hl) (k H locs ls hX hS ha)
theorem p_istore_n (hx : p.tables.exec = Jvm.exec) (hb : c.code = cc) {j : Fin 4} {x : Int32} (hd : decode cc pc = .ok (.istore_n j, 1)) (hf : lfree L j.val = true) (hi : j.val < L.length) (k : At p l e R s m args below meth c B nL H0 cells slots Q X (pc + 1) (lsto1 L j.val (.int x)) st) : At p l e R s m args below meth c B nL H0 cells slots Q X pc L (.int x :: st) :=
  fun H locs ls hX hS ha => lv_istore_n hx hb hd rfl (al_lv ha) (ha.1 ▸ hi) rfl fun ls' h => k H locs ls' hX hS (al_sto1 (v := .int x) ha.1 hf h)
theorem p_istore (hx : p.tables.exec = Jvm.exec) (hb : c.code = cc) {j : Nat} {x : Int32} (hd : decode cc pc = .ok (.istore j, 2)) (hf : lfree L j = true) (hi : j < L.length) (k : At p l e R s m args below meth c B nL H0 cells slots Q X (pc + 2) (lsto1 L j (.int x)) st) : At p l e R s m args below meth c B nL H0 cells slots Q X pc L (.int x :: st) :=
  fun H locs ls hX hS ha => lv_istore hx hb hd (al_lv ha) (ha.1 ▸ hi) rfl fun ls' h => k H locs ls' hX hS (al_sto1 (v := .int x) ha.1 hf h)
theorem p_lstore_n (hx : p.tables.exec = Jvm.exec) (hb : c.code = cc) {j : Fin 4} {x : Int64} (hd : decode cc pc = .ok (.lstore_n j, 1)) (hf : lfree L j.val = true) (hi : j.val + 1 < L.length) (k : At p l e R s m args below meth c B nL H0 cells slots Q X (pc + 1) (lsto2 L j.val (.long x)) st) : At p l e R s m args below meth c B nL H0 cells slots Q X pc L (.long x :: st) :=
  fun H locs ls hX hS ha => lv_lstore_n hx hb hd rfl (al_lv ha) (ha.1 ▸ hi) rfl fun ls' h => k H locs ls' hX hS (al_sto2 (v := .long x) ha.1 hf h)
theorem p_lstore (hx : p.tables.exec = Jvm.exec) (hb : c.code = cc) {j : Nat} {x : Int64} (hd : decode cc pc = .ok (.lstore j, 2)) (hf : lfree L j = true) (hi : j + 1 < L.length) (k : At p l e R s m args below meth c B nL H0 cells slots Q X (pc + 2) (lsto2 L j (.long x)) st) : At p l e R s m args below meth c B nL H0 cells slots Q X pc L (.long x :: st) :=
  fun H locs ls hX hS ha => lv_lstore hx hb hd (al_lv ha) (ha.1 ▸ hi) rfl fun ls' h => k H locs ls' hX hS (al_sto2 (v := .long x) ha.1 hf h)
theorem p_astore_n (hx : p.tables.exec = Jvm.exec) (hb : c.code = cc) {j : Fin 4} {x : Nat} (hd : decode cc pc = .ok (.astore_n j, 1)) (hf : lfree L j.val = true) (hi : j.val < L.length) (k : At p l e R s m args below meth c B nL H0 cells slots Q X (pc + 1) (lsto1 L j.val (.ref x)) st) : At p l e R s m args below meth c B nL H0 cells slots Q X pc L (.ref x :: st) :=
  fun H locs ls hX hS ha => lv_astore_n hx hb hd rfl (al_lv ha) (ha.1 ▸ hi) rfl fun ls' h => k H locs ls' hX hS (al_sto1 (v := .ref x) ha.1 hf h)
theorem p_astore (hx : p.tables.exec = Jvm.exec) (hb : c.code = cc) {j : Nat} {x : Nat} (hd : decode cc pc = .ok (.astore j, 2)) (hf : lfree L j = true) (hi : j < L.length) (k : At p l e R s m args below meth c B nL H0 cells slots Q X (pc + 2) (lsto1 L j (.ref x)) st) : At p l e R s m args below meth c B nL H0 cells slots Q X pc L (.ref x :: st) :=
  fun H locs ls hX hS ha => lv_astore hx hb hd (al_lv ha) (ha.1 ▸ hi) rfl fun ls' h => k H locs ls' hX hS (al_sto1 (v := .ref x) ha.1 hf h)
theorem p_iinc (hx : p.tables.exec = Jvm.exec) (hb : c.code = cc) {j : Nat} {n : Int} {x v : Int32} (hd : decode cc pc = .ok (.iinc j n, 3)) (hl : lget L j = some (.int x)) (hv : Int32.ofInt n = v) (hf : lfree L j = true) (hi : j < L.length) (k : At p l e R s m args below meth c B nL H0 cells slots Q X (pc + 3) (lsto1 L j (.int (x + v))) st) : At p l e R s m args below meth c B nL H0 cells slots Q X pc L st := by
  intro H locs ls hX hS ha
  obtain ⟨q, hq⟩ := List.getElem?_of_mem (al_mem.mpr ⟨_, hl, rfl⟩ : (j, cv B (.int x)) ∈ al_l B L)
  exact lv_iinc (v := x + v) hx hb hd (al_lv ha) hq (by rw [hv]) (ha.1 ▸ hi) rfl fun ls' h => k H locs ls' hX hS (al_sto1 (v := .int (x + v)) ha.1 hf h)
end PURE
