section PRO
variable {p : Program} {l : Launch} {e : Env} {R : Room} {s : State} {m : MethodId} {args : Array Value} {below : List Frame} {meth : Method} {c : Code} {Q : State → Prop} {D : va_G} {b Ln : Nat} {xs : Nat → Int32}
/-- the first constructor called -/
theorem lw_pro1 (C : LwC p R s m args c D b Ln xs) (hO : Own s) (hR : 178 ≤ R.cells ∧ 3012 ≤ R.slots) {G1 ga : List GC} (he1 : eqG ga G1 = true) (ok1 : OkC 0 3 177 3000 [.ref 0] [.inr (6, dfl 6)] ga) {ls : Array Slot} (hL0 : lv_has ls 4 [(0, .ref b)])
    (k : ∀ (H : Heap) (locs : List Loc) (ls1 : Array Slot), Wd D s s.heap.size G1 H → va_S (fun q => s.heap.size ≤ q) s.heap H locs → lv_has ls1 4 [(1, .ref s.heap.size), (0, .ref b)] → W p l e R s m args below meth c H locs 178 3012 Q (F0 m 8 ls1 [])) : W p l e R s m args below meth c s.heap [] 0 0 Q (F0 m 0 ls []) := by
  obtain ⟨hx, hb, hml, hts, hown, hK, hN, hR1, hX, hbl, h3⟩ := id C
  have hW0 : Wd D s s.heap.size [] s.heap := ⟨fun _ => (0 : Nat), fun k q hk => by simp [toW] at hk, fun k ty x hk => by simp at hk⟩
  have hS0 : va_S (fun q => s.heap.size ≤ q) s.heap s.heap [] := va_S.rf
  obtain ⟨qc6, n1, n2, n3, n4⟩ := newL_ok (8, 7, 6) (by decide)
  have f6 : fldN 6 = 12 := by decide +kernel
  refine pw_new (own := 8) (idx := 7) (ci := 6) (n0 := 0) (G := []) hx hb hts hown hK n1 n2 n3 n4 rfl rfl (by omega) (by rw [f6]; omega) dl_0 hW0 hS0 fun H1 hW1 hS1 => ?_
  rw [f6]
  refine lv_dup hx hb dl_3 rfl ?_
  refine pw_ctor (own := 8) (idx := 9) (a := 0) (mi := 0) (d' := 3) (mc := 177) (ms := 3000) (n0 := 0) (G := [.inr (6, dfl 6)]) (G' := ga) (rest := [.ref (s.heap.size + 0)]) hx hb hml hts hown hK hN hO mt_0 rfl rfl ok1 rfl rfl ⟨by omega, by omega⟩ ⟨by omega, by omega⟩ (by simp [Value.category]) dl_4 (by decide) hL0.1 hW1 hS1 fun H2 locs2 hW2 hS2 => ?_
  exact lv_astore_n hx hb dl_7 rfl hL0 (by decide) (lv' := [(1, .ref (s.heap.size + 0)), (0, .ref b)]) rfl fun ls1 hL1 => k H2 locs2 ls1 (eqG_Wd he1 hW2) hS2 hL1
/-- the second -/
theorem lw_pro2 (C : LwC p R s m args c D b Ln xs) (hO : Own s) (hR : 197 ≤ R.cells ∧ 5045 ≤ R.slots) {A : Nat} {G1 G2 gb : List GC} (hlen : G1.length = A) (hA : A = 178) (he2 : eqG gb G2 = true) (ok2 : OkC 70 1 18 2000 [.ref A] (G1 ++ [.inr (7, dfl 7)]) gb) {ls : Array Slot} {H : Heap} {locs : List Loc} (hW : Wd D s s.heap.size G1 H) (hS : va_S (fun q => s.heap.size ≤ q) s.heap H locs) (hL0 : lv_has ls 4 [(1, .ref s.heap.size), (0, .ref b)])
    (k : ∀ (H : Heap) (locs : List Loc) (ls1 : Array Slot), Wd D s s.heap.size G2 H → va_S (fun q => s.heap.size ≤ q) s.heap H locs → lv_has ls1 4 [(3, .int (nI 0)), (2, .ref (s.heap.size + A)), (1, .ref s.heap.size), (0, .ref b)] → W p l e R s m args below meth c H locs 197 5045 Q (F0 m 18 ls1 [])) : W p l e R s m args below meth c H locs 178 3012 Q (F0 m 8 ls []) := by
  obtain ⟨hx, hb, hml, hts, hown, hK, hN, hR1, hX, hbl, h3⟩ := id C
  obtain ⟨qc7, n1, n2, n3, n4⟩ := newL_ok (8, 10, 7) (by decide)
  have f7 : fldN 7 = 33 := by decide +kernel
  have r70 : mtR 70 = none := by decide +kernel
  have n70 : mtN 70 = 0 := by decide +kernel
  have hg2 : (G1 ++ [(Sum.inr (7, dfl 7) : GC)]).length = 0 + 179 := by rw [List.length_append, hlen, hA]; rfl
  refine pw_new (own := 8) (idx := 10) (ci := 7) (n0 := 0) (G := G1) hx hb hts hown hK n1 n2 n3 n4 rfl (by omega) (by omega) (by rw [f7]; omega) dl_8 hW hS fun H3 hW3 hS3 => ?_
  rw [hlen, f7]
  refine lv_dup hx hb dl_11 rfl ?_
  refine pw_ctor (own := 8) (idx := 12) (a := A) (mi := 70) (d' := 1) (mc := 18) (ms := 2000) (n0 := 0) (G := G1 ++ [.inr (7, dfl 7)]) (G' := gb) (rest := [.ref (s.heap.size + A)]) hx hb hml hts hown hK hN hO mt_70 r70 n70 ok2 rfl hg2 ⟨by omega, by omega⟩ ⟨by omega, by omega⟩ (by simp [Value.category]) dl_12 (by decide) hL0.1 hW3 hS3 fun H4 locs4 hW4 hS4 => ?_
  refine lv_astore_n hx hb dl_15 rfl hL0 (by decide) (lv' := [(2, .ref (s.heap.size + A)), (1, .ref s.heap.size), (0, .ref b)]) rfl fun ls2 hL2 => ?_
  exact lv_iconst hx hb dl_16 (v := nI 0) rfl (lv_istore_n hx hb dl_17 rfl hL2 (by decide) (lv' := [(3, .int (nI 0)), (2, .ref (s.heap.size + A)), (1, .ref s.heap.size), (0, .ref b)]) rfl fun ls3 hL3 => k H4 locs4 ls3 (eqG_Wd he2 hW4) hS4 hL3)
end PRO
/-- from the entry, for every script of at most 3072 ints, the law comes to its end with true -/
theorem whole_start {p : Program} {e : Env} {s : State} {m : MethodId} {below : List Frame} {meth : Method} {c : Code} (l : Launch) (hflags : l.flags = flags0) {b L : Nat} {xs : Nat → Int32} (hL : L ≤ 3072) (C0 : lw_At p s m meth c b L xs) : W p l e room_1 s m #[Value.ref b] below meth c s.heap [] 0 0 (lw_Z below #[Value.ref b] s) (entryFrame m ([Value.ref b] : List Value).toArray 4) := by
  obtain ⟨hx, hb, hr, hml, hown, hts, hX, hbl, hlocks, hgv⟩ := C0
  have htg : ∀ w ∈ lw_g, w.before #[Value.ref b] s = true := fun w hw => hts w (List.mem_filter.mp hw).1
  obtain ⟨D, hK⟩ := kn_all htg
  have hN := nst_all hts
  have hO := own_all hts
  have hown8 : s.vm.findClass (ownN 8) = some m.cls := hown
  obtain ⟨g1, he1, ok1⟩ := okc_Bp
  obtain ⟨g2, he2, ok2⟩ := okc_Mo
  have C : LwC p room_1 s m #[Value.ref b] c D b L xs := ⟨hx, hb, hml, htg, hown8, hK, hN, ⟨by decide, by decide⟩, hX, hbl, hL⟩
  have hl := lv_entry [Value.ref b] (n := 4) (by show 1 ≤ 4; omega)
  rw [lg_entry_eq]
  have hL0 : lv_has ((lg_sl [Value.ref b] ++ List.replicate (4 - (lg_sl [Value.ref b]).length) Slot.unset).toArray) 4 [(0, .ref b)] := hl
  generalize ((lg_sl [Value.ref b] ++ List.replicate (4 - (lg_sl [Value.ref b]).length) Slot.unset).toArray) = ls at hL0 ⊢
  have hbp : bpG.length = 178 := by unfold bpG; rw [List.length_map, List.length_range]
  refine lw_pro1 C hO ⟨by decide, by decide⟩ he1 ok1 hL0 fun H1 locs1 ls1 hW1 hS1 hL1 => ?_
  refine lw_pro2 C hO ⟨by decide, by decide⟩ hbp rfl he2 ok2 hW1 hS1 hL1 fun H2 locs2 ls2 hW2 hS2 hL2 => ?_
  refine lw_loop C ⟨by decide, by decide⟩ (fun H locs ls hS => ?_) 513 0 h0 H2 locs2 ls2 Inv_h0 (by omega) (Nat.zero_le _) hW2 hS2 hL2
  exact va_forget (fun q hq => hS.2.2 q hq) (W.widen (by decide) (by decide) (lv_iconst hx hb dl_1730 (v := 1) rfl (lw_ret hx hb hr hlocks dl_1731)))
