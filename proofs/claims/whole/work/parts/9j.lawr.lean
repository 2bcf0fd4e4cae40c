/-! the law: its rows -/
set_option maxRecDepth 1000000 in
theorem sw_dec : decode code 33 = .ok (.tableswitch (1724 - 33) 0 48 swO, swN) := by decide +kernel
set_option maxRecDepth 1000000 in
theorem sw_at : ∀ j, j < 49 → ∃ q, opL[j]? = some q ∧ swO[j]? = some ((q.1 : Int) - 33) := by
  have h : ((List.range 49).all fun j => match opL[j]? with
    | some q => decide (swO[j]? = some ((q.1 : Int) - 33))
    | none => false) = true := by decide +kernel
  intro j hj
  have := List.all_eq_true.mp h j (List.mem_range.mpr hj)
  cases e : opL[j]? with
  | none => rw [e] at this; cases this
  | some q => rw [e] at this; exact ⟨q, rfl, of_decide_eq_true this⟩
/-- what the law has at its entry -/
def LwC (p : Program) (R : Room) (s : State) (m : MethodId) (args : Array Value) (c : Code) (D : va_G) (b Ln : Nat) (xs : Nat → Int32) : Prop := p.tables.exec = Jvm.exec ∧ c.code = code ∧ c.maxLocals = 4 ∧ (∀ w ∈ lw_g, w.before args s = true) ∧ s.vm.findClass (ownN 8) = some m.cls ∧ va_K D vwCl [] s ∧ Nst s ∧ (100 ≤ R.frames ∧ 4000 ≤ R.locals) ∧ va_X b Ln xs s s.heap ∧ b < s.heap.size ∧ Ln ≤ 3072
def lwL (b B i : Nat) : List (Nat × Value) := [(3, .int (nI i)), (2, .ref (B + 178)), (1, .ref B), (0, .ref b)]
theorem cg_0 (h : Hp) : ∃ fs, (toGI h)[0]? = some (.inr (6, fs)) := by
  have := (okF_inv (a := 0) (ci := 6) (k := 10) (kd := 0) (by decide +kernel) (by decide)).2.2.2.2.2 h
  exact ⟨_, by rw [toGI_get (by omega), this]; rfl⟩
theorem cg_178 (h : Hp) : ∃ fs, (toGI h)[178]? = some (.inr (7, fs)) := by
  have := (okF_inv (a := 178) (ci := 7) (k := 0) (kd := 0) (by decide +kernel) (by decide)).2.2.2.2.2 h
  exact ⟨_, by rw [toGI_get (by omega), this]; rfl⟩
section LAWR
variable {p : Program} {l : Launch} {e : Env} {R : Room} {s : State} {m : MethodId} {args : Array Value} {below : List Frame} {meth : Method} {c : Code} {H : Heap} {locs : List Loc} {cells slots : Nat} {Q : State → Prop} {D : va_G} {b Ln i pc : Nat} {xs : Nat → Int32} {ls : Array Slot} {r : List Value}
theorem lwL_0 {B : Nat} (h : lv_has ls 4 (lwL b B i)) : ls[0]? = some (.val (.ref b)) := lv_at h 3 rfl
theorem lwL_1 {B : Nat} (h : lv_has ls 4 (lwL b B i)) : ls[1]? = some (.val (.ref B)) := lv_at h 2 rfl
theorem lwL_2 {B : Nat} (h : lv_has ls 4 (lwL b B i)) : ls[2]? = some (.val (.ref (B + 178))) := lv_at h 1 rfl
theorem lwL_3 {B : Nat} (h : lv_has ls 4 (lwL b B i)) : ls[3]? = some (.val (.int (nI i))) := lv_at h 0 rfl
theorem icI {k : Nat} : Int32.ofInt (k : Int) = nI k := rfl
/-- the arguments out of the script -/
theorem lw_rd (C : LwC p R s m args c D b Ln xs) (hS : va_S (fun q => s.heap.size ≤ q) s.heap H locs) (hL : lv_has ls 4 (lwL b s.heap.size i)) (n : Nat) : ∀ (q k : Nat) (r : List Value), rdChk q k n = true → i + k + n ≤ Ln → W p l e R s m args below meth c H locs cells slots Q (F0 m (q + 5 * n) ls ((agL (fun j => xs (i + j)) k n).reverse ++ r)) → W p l e R s m args below meth c H locs cells slots Q (F0 m q ls r) := by
  induction n with
  | zero =>
    intro q k r _ _ kk
    exact kk
  | succ n ih =>
    intro q k r hc hb9 kk
    obtain ⟨hx, hb, hml, hts, hown, hK, hN, hR, hX, hbl, h3⟩ := id C
    simp only [rdChk, Bool.and_eq_true, decide_eq_true_eq] at hc
    obtain ⟨⟨⟨⟨⟨c1, c2⟩, c3⟩, c4⟩, c5⟩, c6⟩ := hc
    refine lv_aload_n hx hb c1 rfl (lwL_0 hL) (lv_iload_n hx hb c2 rfl (lwL_3 hL) (lv_iconst hx hb c3 icI (lv_iadd hx hb c4 (va_sld hx hb hX hbl (fun z => absurd (show s.heap.size ≤ b from z) (by omega)) hS ?_ c5 ?_))))
    · rw [nI_add]
      exact nI_in (by omega) (by omega)
    · rw [nI_add, nI_clamp (by omega)]
      refine ih (q + 5) (k + 1) _ c6 (by omega) ?_
      rw [show q + 5 + 5 * n = q + 5 * (n + 1) by omega]
      have e1 : (agL (fun j => xs (i + j)) k (n + 1)).reverse ++ r = (agL (fun j => xs (i + j)) (k + 1) n).reverse ++ (.int (xs (i + k)) :: r) := by
        show (Value.int (xs (i + k)) :: agL (fun j => xs (i + j)) (k + 1) n).reverse ++ r = _
        simp
      rw [e1] at kk
      exact kk
theorem agL_cv (B : Nat) (f : Nat → Int32) : ∀ k n, (agL f k n).map (cv B) = agL f k n
  | _, 0 => rfl
  | k, n + 1 => by
    show cv B (.int (f k)) :: (agL f (k + 1) n).map (cv B) = _
    rw [agL_cv B f (k + 1) n]
    rfl
theorem agL_len (f : Nat → Int32) : ∀ k n, (agL f k n).length = n
  | _, 0 => rfl
  | k, n + 1 => by
    show (agL f (k + 1) n).length + 1 = _
    rw [agL_len f (k + 1) n]
/-- a call of one of the operations -/
theorem lw_call (C : LwC p R s m args c D b Ln xs) {mi d idx a ci : Nat} {as : List Value} {h h1 : Hp} {v : Value} {fs : List Value} {qc : vw_C} (hok : Okm toGI mi d (.ref a :: as) h (some v, h1)) (hm : MtOK mi) (hd : d < 100) (hw : (8, idx, mi, 0) ∈ mthL) (hg : (toGI h)[a]? = some (.inr (ci, fs))) (hq : vwCl[ci]? = some qc) (hcl : qc.1 = (mtY mi).cls) (hlen : as.length = mtN mi) (hv : (∃ x, v = .int x) ∨ ∃ x, v = .long x) (has : as.map (cv s.heap.size) = as)
    (hdec : decode code pc = .ok (.invokevirtual idx, 3)) (hcs : cells ≤ R.cells ∧ slots ≤ R.slots) (hW : Wd D s s.heap.size (toGI h) H) (hS : va_S (fun q => s.heap.size ≤ q) s.heap H locs) (hls : ls.size = 4) (hr : (r.map fun v => v.category).sum ≤ 8)
    (k : ∀ (H1 : Heap) (locs1 : List Loc), Wd D s s.heap.size (toGI h1) H1 → va_S (fun q => s.heap.size ≤ q) s.heap H1 locs1 → W p l e R s m args below meth c H1 locs1 cells slots Q (F0 m (pc + 3) ls (v :: r))) : W p l e R s m args below meth c H locs cells slots Q (F0 m pc ls (as.reverse ++ .ref (s.heap.size + a) :: r)) := by
  obtain ⟨hx, hb, hml, hts, hown, hK, hN, hR, hX, hbl, h3⟩ := id C
  obtain ⟨l1, l2, l3⟩ : Cond.methodLink (ownN 8) idx (mtY mi) ∈ lw_tbl ∧ Cond.instanceMethod (mtY mi) ∈ lw_tbl ∧ Cond.selects (mtY mi).cls (mtY mi) (mtY mi) ∈ lw_tbl := mthL_ok _ hw
  obtain ⟨kc, hP, hT⟩ := id hW
  have hrv := va_recv hK hP hq (toW_get hg)
  rw [hcl] at hrv
  have hrun : va_Run p l e R s m args below meth c H locs cells slots 0 0 (F0 m pc ls (as.reverse ++ .ref (s.heap.size + a) :: r)) r (Qz toGI D s.heap.size (some v, h1) (Value.ref (s.heap.size + a) :: as.map (cv s.heap.size)).toArray) (fun q => s.heap.size ≤ q) := va_runV (Ts := lw_g) (own := ownN 8) (n := mtN mi) (As := as.map (cv s.heap.size)) ⟨hx, hb, hml, hown, hts⟩ (hok l D s.heap.size) ⟨callB_of (mtN mi) hts (good_m hm) rfl rfl rfl (hts _ (inG hm.2.1 rfl)) (hts _ (inG l1 rfl)) hm.2.2.1 ⟨by show d + 1 ≤ _; omega, by show 8 + (mtM mi + 11) + 40 * d ≤ _; have := hm.2.2.2; omega⟩, hts _ (inG l2 rfl), hts _ (inG l3 rfl)⟩
      ⟨pre_blind, hrv, fun U hU hWm => ⟨rfl, Wd_moved hWm.alike (by rw [hU]; exact hW), va_K.moved hWm.alike hK, hN.warm hWm⟩⟩ rfl (by rw [List.length_map]; exact hlen) hls (by show as.reverse ++ _ = (as.map (cv s.heap.size)).reverse ++ _; rw [has]) (lv_room hr) hdec hcs
  rcases hv with ⟨x, rfl⟩ | ⟨x, rfl⟩
  · exact va_calli (S := Unit) (a := (Value.ref (s.heap.size + a) :: as.map (cv s.heap.size)).toArray) (post := fun r _ => r = x) (B := fun _ t => Wd D t s.heap.size (toGI h1) t.heap) (A1 := fun q => s.heap.size ≤ q) hrun hS (fun _ _ q => q) (fun _ q => q) (fun r u t H1 locs1 ht hvm hp hB _ _ hS1 => by subst hp; exact k H1 locs1 (Wd_moved hvm.symm (by rw [ht] at hB; exact hB)) hS1)
  · exact va_calll (S := Unit) (a := (Value.ref (s.heap.size + a) :: as.map (cv s.heap.size)).toArray) (post := fun r _ => r = x) (B := fun _ t => Wd D t s.heap.size (toGI h1) t.heap) (A1 := fun q => s.heap.size ≤ q) hrun hS (fun _ _ q => q) (fun _ q => q) (fun r u t H1 locs1 ht hvm hp hB _ _ hS1 => by subst hp; exact k H1 locs1 (Wd_moved hvm.symm (by rw [ht] at hB; exact hB)) hS1)
/-- one operation on both sides, and the answers compared -/
theorem lw_op (C : LwC p R s m args c D b Ln xs) {q : LwR} (hq : opChk q = true) (ho : OpSem q) {h : Hp} (I : Inv h) (hi : i + 6 ≤ Ln) (hn5 : q.2.1 ≤ 5) (hcs : cells ≤ R.cells ∧ slots ≤ R.slots) (hW : Wd D s s.heap.size (toGI h) H) (hS : va_S (fun q => s.heap.size ≤ q) s.heap H locs) (hL : lv_has ls 4 (lwL b s.heap.size i))
    (k : ∀ (h2 : Hp) (H1 : Heap) (locs1 : List Loc), Inv h2 → Wd D s s.heap.size (toGI h2) H1 → va_S (fun q => s.heap.size ≤ q) s.heap H1 locs1 → W p l e R s m args below meth c H1 locs1 cells slots Q (F0 m 1724 ls [])) : W p l e R s m args below meth c H locs cells slots Q (F0 m q.1 ls []) := by
  obtain ⟨hx, hb, hml, hts, hown, hK, hN, hR, hX, hbl, h3⟩ := id C
  obtain ⟨m1, m2, hsem⟩ := ho
  obtain ⟨v, h1, h2, d1, d2, hk, hd1, hd2, ok1, ok2, I2⟩ := hsem h (fun j => xs (i + j)) I
  simp only [opChk, Bool.and_eq_true, decide_eq_true_eq, clB] at hq
  obtain ⟨⟨⟨⟨⟨⟨⟨c1, c2⟩, c3⟩, c4⟩, c5⟩, c6⟩, c7⟩, ⟨⟨⟨⟨⟨w1, w2⟩, n1⟩, n2⟩, y1⟩, y2⟩⟩ := hq
  have n1 := Nat.eq_of_beq_eq_true n1
  have n2 := Nat.eq_of_beq_eq_true n2
  have hv : (∃ x, v = .int x) ∨ ∃ x, v = .long x := by
    unfold isKd at hk
    split at hk
    · exact Or.inl hk
    · exact Or.inr hk
  obtain ⟨fs0, hg0⟩ := cg_0 h
  obtain ⟨fs1, hg1⟩ := cg_178 h1
  refine lv_aload_n hx hb c1 rfl (lwL_1 hL) (lw_rd C hS hL q.2.1 (q.1 + 1) 1 _ c2 (by omega) ?_)
  refine lw_call C (a := 0) (ci := 6) ok1 m1 hd1 w1 hg0 rfl y1.symm (by rw [agL_len]; exact n1.symm) hv (agL_cv _ _ _ _) c3 hcs hW hS hL.1 (by simp) fun H1 locs1 hW1 hS1 => ?_
  refine lv_aload_n hx hb c4 rfl (lwL_2 hL) (lw_rd C hS1 hL q.2.1 _ 1 _ c5 (by omega) ?_)
  refine lw_call C (a := 178) (ci := 7) ok2 m2 hd2 w2 hg1 rfl y2.symm (by rw [agL_len]; exact n2.symm) hv (agL_cv _ _ _ _) c6 hcs hW1 hS1 hL.1 (by rcases hv with ⟨x, rfl⟩ | ⟨x, rfl⟩ <;> simp [Value.category]) fun H2 locs2 hW2 hS2 => ?_
  have kk := k h2 H2 locs2 I2 hW2 hS2
  unfold isKd at hk
  split at c7
  · next hz =>
    rw [hz] at hk
    obtain ⟨x, rfl⟩ := hk
    exact lv_icmp_eq hx hb (of_decide_eq_true c7) (by omega) (fun _ => kk) (fun z => absurd rfl z)
  · next hz =>
    split at hk
    · next hz2 => exact absurd hz2 hz
    · obtain ⟨x, rfl⟩ := hk
      rw [Bool.and_eq_true, decide_eq_true_eq, decide_eq_true_eq] at c7
      refine W.lcmp hx hb c7.1 (lv_if_eq hx hb c7.2 (by omega) (fun _ => kk) (fun z => absurd ?_ z))
      unfold lg_cmp
      simp
end LAWR
