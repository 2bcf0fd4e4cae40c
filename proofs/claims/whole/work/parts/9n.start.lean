set_option maxHeartbeats 4000000 in
set_option maxRecDepth 100000 in
/-- from the entry, for every script of at most 3072 ints, the law comes to its end with true -/
theorem whole_start {p : Program} {e : Env} {s : State} {m : MethodId} {below : List Frame} {meth : Method} {c : Code} (l : Launch) (hflags : l.flags = flags0) {b L : Nat} {xs : Nat → Int32} (hL : L ≤ 3072) (C0 : lw_At p s m meth c b L xs) : W p l e room_1 s m #[Value.ref b] below meth c s.heap [] 0 0 (lw_Z below #[Value.ref b] s) (entryFrame m ([Value.ref b] : List Value).toArray 4) := by
  obtain ⟨hx, hb, hr, hml, hown, hts, hX, hbl, hlocks, hgv⟩ := C0
  have htg : ∀ w ∈ lw_g, w.before #[Value.ref b] s = true := fun w hw => hts w (List.mem_filter.mp hw).1
  obtain ⟨D, hK⟩ := kn_all htg
  have hN := nst_all hts
  have hO := own_all hts
  have hown8 : s.vm.findClass (ownN 8) = some m.cls := hown
  obtain ⟨g1, he1, ok1⟩ := okc_Bp
  obtain ⟨g2, he2, ok2⟩ := okc_Mo
  have C : LwC p room_1 s m #[Value.ref b] c D b L xs := ⟨hx, hb, hml, htg, hown8, hK, hN, ⟨by decide, by decide⟩, hX, hbl, hL⟩
  have hl := lv_entry [Value.ref b] (n := 4) (by show 1 ≤ 4; omega)
  rw [lg_entry_eq]
  have hL0 : lv_has ((lg_sl [Value.ref b] ++ List.replicate (4 - (lg_sl [Value.ref b]).length) Slot.unset).toArray) 4 [(0, .ref b)] := hl
  generalize ((lg_sl [Value.ref b] ++ List.replicate (4 - (lg_sl [Value.ref b]).length) Slot.unset).toArray) = ls at hL0 ⊢
  have hW0 : Wd D s s.heap.size [] s.heap := ⟨fun _ => (0 : Nat), fun k q hk => by simp [toW] at hk, fun k ty x hk => by simp at hk⟩
  have hS0 : va_S (fun q => s.heap.size ≤ q) s.heap s.heap [] := va_S.rf
  obtain ⟨qc6, n1, n2, n3, n4⟩ := newL_ok (8, 7, 6) (by decide)
  obtain ⟨qc7, k1, k2, k3, k4⟩ := newL_ok (8, 10, 7) (by decide)
  have hbp : bpG.length = 178 := by unfold bpG; rw [List.length_map, List.length_range]
  have hg2 : (bpG ++ [(Sum.inr (7, dfl 7) : GC)]).length = 179 := by rw [List.length_append, hbp]; rfl
  have r70 : mtR 70 = none := by decide +kernel
  have n70 : mtN 70 = 0 := by decide +kernel
  have f6 : fldN 6 = 12 := by decide +kernel
  have f7 : fldN 7 = 33 := by decide +kernel
  refine pw_new (own := 8) (idx := 7) (ci := 6) (n0 := 0) (G := []) hx hb htg hown8 hK n1 n2 n3 n4 rfl rfl (by decide) (by rw [f6]; decide) dl_0 hW0 hS0 fun H1 hW1 hS1 => ?_
  refine lv_dup hx hb dl_3 rfl ?_
  refine pw_ctor (own := 8) (idx := 9) (a := 0) (mi := 0) (n0 := 0) (G := [.inr (6, dfl 6)]) (rest := [.ref (s.heap.size + 0)]) hx hb hml htg hown8 hK hN hO mt_0 rfl rfl ok1 rfl rfl ⟨by decide, by decide⟩ ⟨by decide, by rw [f6]; decide⟩ (by simp [Value.category]) dl_4 (by decide) hL0.1 hW1 hS1 fun H2 locs2 hW2 hS2 => ?_
  refine lv_astore_n hx hb dl_7 rfl hL0 (by decide) (lv' := [(1, .ref (s.heap.size + 0)), (0, .ref b)]) rfl fun ls1 hL1 => ?_
  refine pw_new (own := 8) (idx := 10) (ci := 7) (n0 := 0) (G := bpG) hx hb htg hown8 hK k1 k2 k3 k4 rfl (by rw [hbp]) (by decide) (by rw [f6, f7]; decide) dl_8 (eqG_Wd he1 hW2) hS2 fun H3 hW3 hS3 => ?_
  rw [hbp]
  refine lv_dup hx hb dl_11 rfl ?_
  refine pw_ctor (own := 8) (idx := 12) (a := 178) (mi := 70) (n0 := 0) (cells := 0 + 1 + 177 + 1) (d' := 1) (mc := 18) (ms := 2000) (G' := g2) (G := bpG ++ [.inr (7, dfl 7)]) (rest := [.ref (s.heap.size + 178)]) hx hb hml htg hown8 hK hN hO mt_70 r70 n70 ok2 rfl (hg2.trans (by decide)) ⟨by decide, by decide⟩ ⟨by decide, by rw [f6, f7]; decide⟩ (by simp [Value.category]) dl_12 (by decide) hL1.1 hW3 hS3 fun H4 locs4 hW4 hS4 => ?_
  refine lv_astore_n hx hb dl_15 rfl hL1 (by decide) (lv' := [(2, .ref (s.heap.size + 178)), (1, .ref (s.heap.size + 0)), (0, .ref b)]) rfl fun ls2 hL2 => ?_
  refine lv_iconst hx hb dl_16 (v := nI 0) rfl (lv_istore_n hx hb dl_17 rfl hL2 (by decide) (lv' := lwL b s.heap.size 0) rfl fun ls3 hL3 => ?_)
  refine lw_loop C ⟨by rw [f6, f7]; decide, by rw [f6, f7]; decide⟩ (fun H locs ls hS => ?_) 513 0 h0 H4 locs4 ls3 Inv_h0 (by omega) (Nat.zero_le _) (eqG_Wd he2 hW4) hS4 hL3
  exact va_forget (fun q hq => hS.2.2 q hq) (W.widen (by rw [f6, f7]; decide) (by rw [f6, f7]; decide) (lv_iconst hx hb dl_1730 (v := 1) rfl (lw_ret hx hb hr hlocks dl_1731)))
