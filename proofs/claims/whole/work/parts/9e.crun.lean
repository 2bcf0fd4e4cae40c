/-! the constructors' machine: arrays of arrays, the run, the contract -/
theorem my_G0 {G : List GC} {N M k : Nat} (h : k < G.length) : (my_G G N M)[k]? = G[k]? := by
  unfold my_G
  rw [List.getElem?_append_left h]
theorem my_G1 {G : List GC} {N M : Nat} : (my_G G N M)[G.length]? = some (.inl (.array .int, N, .inr (.inr (.inr (.inr fun j => if j < N then some (G.length + 1 + j) else none))))) := by
  unfold my_G
  rw [List.getElem?_append_right (Nat.le_refl _), Nat.sub_self]
  rfl
theorem my_G2 {G : List GC} {N M j : Nat} : (my_G G N M)[G.length + 1 + j]? = if j < N then some (.inl (.int, M, .inl fun _ => 0)) else none := by
  unfold my_G
  rw [List.getElem?_append_right (by omega), show G.length + 1 + j - G.length = j + 1 by omega, List.getElem?_cons_succ, List.getElem?_replicate]
theorem my_Gc {G : List GC} {N M k : Nat} {c : GC} (h : (my_G G N M)[k]? = some c) : (k < G.length ∧ G[k]? = some c) ∨ (k = G.length ∧ c = .inl (.array .int, N, .inr (.inr (.inr (.inr fun j => if j < N then some (G.length + 1 + j) else none))))) ∨ ∃ j, j < N ∧ k = G.length + 1 + j ∧ c = .inl (.int, M, .inl fun _ => 0) := by
  by_cases h1 : k < G.length
  · rw [my_G0 h1] at h
    exact Or.inl ⟨h1, h⟩
  · by_cases h2 : k = G.length
    · subst h2
      rw [my_G1] at h
      exact Or.inr (Or.inl ⟨rfl, (Option.some.inj h).symm⟩)
    · obtain ⟨j, rfl⟩ : ∃ j, k = G.length + 1 + j := ⟨k - G.length - 1, by omega⟩
      rw [my_G2] at h
      split at h
      · next hj => exact Or.inr (Or.inr ⟨j, hj, rfl, (Option.some.inj h).symm⟩)
      · cases h
section CMUL
variable {p : Program} {l : Launch} {e : Env} {R : Room} {s : State} {m : MethodId} {args : Array Value} {below : List Frame} {meth : Method} {c : Code} {B nL n0 : Nat} {cells slots : Nat} {Q : State → Prop} {cc : ByteArray} {pc : Nat} {L : Loca} {st : List Value} {D : va_G} {G : List GC}
theorem p_mul (hx : p.tables.exec = Jvm.exec) (hb : c.code = cc) (hts : ∀ w ∈ lw_g, w.before args s = true) {own idx : Nat} (hown : s.vm.findClass (ownN own) = some m.cls) (w1 : Cond.classLink (ownN own) idx ("[" ++ (FieldType.array .int).toString) ∈ lw_tbl) (w2 : Cond.arrayClass .int ∈ lw_tbl) (hov : Av2 s) {x y : Int32} (hx0 : cntC x = true) (hy0 : cntC y = true) (hB : s.heap.size = B + n0) (hG : G.length = n0 + cells) (hcells : cells + (1 + x.toNatClampNeg) ≤ R.cells) (hslots : slots + (x.toNatClampNeg + x.toNatClampNeg * y.toNatClampNeg) ≤ R.slots) (hd : decode cc pc = .ok (.multianewarray idx 2, 4))
    (k : At p l e R s m args below meth c B nL s.heap (cells + 1 + x.toNatClampNeg) (slots + x.toNatClampNeg + x.toNatClampNeg * y.toNatClampNeg) Q (Wd D s B (my_G G x.toNatClampNeg y.toNatClampNeg)) (pc + 4) L (.ref G.length :: st)) : At p l e R s m args below meth c B nL s.heap cells slots Q (Wd D s B G) pc L (.int y :: .int x :: st) := by
  intro H locs ls hX hS ha
  refine W_hs fun hs => ?_
  have hlo := Wd_lo hX (by have := hS.1; omega)
  have hsz : H.size = B + G.length := by omega
  obtain ⟨kc, hP, hT⟩ := hX
  unfold cntC at hx0 hy0
  simp only [Bool.and_eq_true, Bool.not_eq_true', decide_eq_false_iff_not] at hx0 hy0
  have hx1 := Nat.le_of_ble_eq_true hx0.2
  have hy1 := Nat.le_of_ble_eq_true hy0.2
  refine my_multi (N := x.toNatClampNeg) (M := y.toNatClampNeg) hx hb hown (hts _ (inG w1 rfl)) hov (hts _ (inG w2 rfl)) rfl hd rfl hx0.1 hy0.1 rfl rfl (by omega) (by omega) hcells hslots fun H1 cA cI L' hL hfA hfC hArA hArC z1 e1 e2 o1 => ?_
  rw [hsz] at e1 e2 ⊢
  refine k H1 (locs ++ L') ls ⟨fun k => if k < G.length then kc k else if k = G.length then cA else cI, fun k q hk => ?_, fun k ty x hk => ?_⟩ ⟨by have := hS.1; omega, fun q h1 h2 => (o1 q (Nat.lt_of_lt_of_le h1 hS.1)).trans (hS.2.1 q h1 h2), fun q hq => ?_⟩ ha
  · obtain ⟨c, hc, rfl⟩ := toW_inv hk
    rcases my_Gc hc with ⟨h1, h2⟩ | ⟨rfl, rfl⟩ | ⟨j, hj, rfl, rfl⟩
    · have h0 := hP k _ (toW_get h2)
      try dsimp only
      rw [if_pos h1]
      exact h0.kept (o1 _ (at_lt h0))
    · try dsimp only
      rw [if_neg (Nat.lt_irrefl _), if_pos rfl]
      show H1[B + G.length]? = some (arrV cA x.toNatClampNeg (fun j => va_rf (Option.map (fun a => B + a) (if j < x.toNatClampNeg then some (G.length + 1 + j) else none))))
      rw [e1]
      unfold my_o
      congr 2
      funext j
      split
      · show va_rf (some _) = va_rf (some _)
        congr 2
        show B + G.length + 1 + j = B + (G.length + 1 + j)
        omega
      · rfl
    · try dsimp only
      rw [if_neg (by omega), if_neg (by omega)]
      show H1[B + (G.length + 1 + j)]? = some (vp_cell _ _)
      rw [show B + (G.length + 1 + j) = B + G.length + 1 + j by omega, e2 j hj]
      rfl
  · rcases my_Gc hk with ⟨h1, h2⟩ | ⟨rfl, h2⟩ | ⟨j, hj, rfl, h2⟩
    · try dsimp only
      rw [if_pos h1]
      exact hT k ty x h2
    · cases h2
      try dsimp only
      rw [if_neg (Nat.lt_irrefl _), if_pos rfl]
      exact ⟨hArA, hfA⟩
    · cases h2
      try dsimp only
      rw [if_neg (by omega), if_neg (by omega)]
      exact ⟨hArC, hfC⟩
  · rcases List.mem_append.mp hq with hq | hq
    · exact hS.2.2 q hq
    · show B ≤ q.base
      rw [hL q hq]
      omega
end CMUL
set_option maxHeartbeats 4000000 in
theorem runC_E {S : SemC} {own mi d n0 CB SB : Nat} {G' : List GC} {kx ko : List Ent} (hkx : kx.all (chkX own (mtC mi)) = true) (hko : ko.all (chkE own (mtC mi)) = true) (hS : SemCOK S d) : ∀ n pc L st G ck sk, runC S n0 CB SB kx ko n pc L st G ck sk = some (none, G') → EndC own mi d n0 CB SB G' pc L st G ck sk
  | 0, pc, L, st, G, ck, sk, ez => by cases ez
  | n + 1, pc, L, st, G, ck, sk, ez => by
    have ih := runC_E (n0 := n0) (CB := CB) (SB := SB) (G' := G') hkx hko hS n
    have ez2 : bodyC S n0 CB SB kx ko (runC S n0 CB SB kx ko n) pc L st G ck sk = some (none, G') := ez
    clear ez
    have ez := ez2
    clear ez2
    intro p l e R s m args below meth c B Q D hC hret hck hsk
    obtain ⟨hx, hb, hml, hts, hown, hK, hN, hO, hR, h1, hcs, hnm, hB⟩ := id hC
    have go : ∀ pc' L' st' G1 ck' sk', runC S n0 CB SB kx ko n pc' L' st' G1 ck' sk' = some (none, G') → ck' ≤ CB → sk' ≤ SB → At p l e R s m args below meth c B (mtM mi) s.heap ck' sk' Q (Wd D s B G1) pc' L' st' := fun pc' L' st' G1 ck' sk' q h2 h3 => ih pc' L' st' G1 ck' sk' q p l e R s m args below meth c B Q D hC hret h2 h3
    clear ih
    unfold bodyC at ez
    split at ez
    · exact exec_sound (z := (none, G')) (d := d) (S := []) (rk := 9) (k := fun pc' L' st' G1 => runC S n0 CB SB kx ko n pc' L' st' G1 ck sk) OC_ok hx hb hml hts hown hK hN (fun q h => absurd h List.not_mem_nil) hR h1 ⟨by omega, by omega⟩ hko (fun pc' L' st' h' q => go pc' L' st' h' ck sk q hck hsk) ⟨fun _ _ _ _ h => absurd h (by decide), fun _ _ _ _ h => absurd h (by decide), fun _ _ _ _ h => absurd h (by decide), fun _ _ _ h => absurd h (by decide)⟩ ez
    · next i len aux val hf =>
      have hE := List.all_eq_true.mp hkx _ (fetch_mem hf)
      unfold chkX at hE
      rw [Bool.and_eq_true] at hE
      obtain ⟨hE1, hE2⟩ := hE
      have hdec : decode (mtC mi) pc = .ok (i, len) := of_decide_eq_true hE1
      dsimp only at hE2
      split at ez
      · next j =>
        split at ez
        · next ci =>
          obtain ⟨g1, g2, g3, ez⟩ := aloC_inv ez
          simp only [Bool.and_eq_true, decide_eq_true_eq] at hE2
          have hl := Nat.eq_of_beq_eq_true hE2.1
          subst hl
          obtain ⟨qc, q1, q2, q3, q4⟩ := newL_ok _ hE2.2
          refine p_new (ci := ci) hx hb hts hown hK q1 q2 q3 q4 hB g1 (by omega) (Nat.le_trans g3 hcs.2) hdec ?_
          rw [g1]
          exact go _ _ _ _ _ _ ez g2 g3
        · cases ez
      · next t =>
        split at ez
        · next x r =>
          split at ez
          · next hcn =>
            obtain ⟨g1, g2, g3, ez⟩ := aloC_inv ez
            simp only [Bool.and_eq_true, Bool.or_eq_true, decide_eq_true_eq] at hE2
            have hl := Nat.eq_of_beq_eq_true hE2.1
            subst hl
            rcases hE2.2 with rfl | rfl
            · refine p_newa (t := .int) (ty := .int) hx hb hts hK rfl ai_w hcn (fun cA N => rfl) (by decide) hB g1 (by omega) (by omega) hdec ?_
              rw [g1]
              exact go _ _ _ _ _ _ ez g2 g3
            · refine p_newa (t := .boolean) (ty := .boolean) hx hb hts hK rfl az_w hcn (fun cA N => rfl) (by decide) hB g1 (by omega) (by omega) hdec ?_
              rw [g1]
              exact go _ _ _ _ _ _ ez g2 g3
          · cases ez
        · cases ez
      · next j =>
        split at ez
        · next k =>
          split at ez
          · next x r =>
            split at ez
            · next hcn =>
              obtain ⟨g1, g2, g3, ez⟩ := aloC_inv ez
              simp only [Bool.and_eq_true, decide_eq_true_eq] at hE2
              have hl := Nat.eq_of_beq_eq_true hE2.1
              subst hl
              refine p_newq hx hb hts hown hK (anwL_ok _ hE2.2) (hO.1 k) hcn hB g1 (by omega) (by omega) hdec ?_
              rw [g1]
              exact go _ _ _ _ _ _ ez g2 g3
            · cases ez
          · cases ez
        · cases ez
      · next j dm =>
        split at ez
        · next y x r =>
          split at ez
          · next hcn =>
            simp only [Bool.and_eq_true] at hcn hE2
            obtain ⟨⟨⟨⟨c1, c2⟩, c3⟩, c4⟩, c5⟩ := hcn
            obtain ⟨⟨⟨d1, d2⟩, d3⟩, d4⟩ := hE2
            have g1 := Nat.eq_of_beq_eq_true c3
            have g2 := Nat.le_of_ble_eq_true c4
            have g3 := Nat.le_of_ble_eq_true c5
            have hl := Nat.eq_of_beq_eq_true d1
            subst hl
            have hl := Nat.eq_of_beq_eq_true d2
            subst hl
            have hl := Nat.eq_of_beq_eq_true d3
            subst hl
            have hl := Nat.eq_of_beq_eq_true d4
            subst hl
            rw [frG_eq] at ez
            refine p_mul hx hb hts hown mul_w1 ai_w hO.2.1 c1 c2 hB g1 (by omega) (by omega) hdec ?_
            rw [g1]
            exact go _ _ _ _ _ _ ez (by omega) (by omega)
          · cases ez
        · cases ez
      · next j =>
        split at ez
        · next ci f kd =>
          split at ez
          · next v a r =>
            split at ez
            · next cj fs hg =>
              split at ez
              · next hq =>
                rw [Bool.and_eq_true] at hq
                simp only [Bool.and_eq_true, decide_eq_true_eq] at hE2
                have hl := Nat.eq_of_beq_eq_true hE2.1
                subst hl
                have hl := Nat.eq_of_beq_eq_true hq.1
                subst hl
                rw [frG_eq] at ez
                rw [gC_eq] at hg
                have hF := hE2.2.2
                unfold chkF at hF
                split at hF
                · next qc hqc =>
                  simp only [Bool.and_eq_true, decide_eq_true_eq] at hF
                  obtain ⟨⟨f1, f2⟩, f3⟩ := hF
                  split at f3
                  · next ty hty =>
                    exact p_putF hx hb hts hown hK hqc (fldL_ok _ hE2.2.1) f1 f2 hty f3 hnm hg (Nat.le_of_ble_eq_true hq.2) hdec (go _ _ _ _ _ _ ez hck hsk)
                  · cases f3
                · cases hF
              · cases ez
            · cases ez
          · cases ez
        · cases ez
      · split at ez
        · next v ix a r =>
          split at ez
          · next C nn f ci vs hg1 hg2 =>
            split at ez
            · next qc hqc =>
              split at ez
              · next hCe =>
                split at ez
                · next hin =>
                  have hl := Nat.eq_of_beq_eq_true hE2
                  subst hl
                  subst hCe
                  rw [frG_eq] at ez
                  rw [gC_eq] at hg1 hg2
                  exact p_aast hx hb hK hqc hg1 hg2 (inB_in hin) hdec (go _ _ _ _ _ _ ez hck hsk)
                · cases ez
              · cases ez
            · cases ez
          · cases ez
        · cases ez
      · next j =>
        split at ez
        · split at ez
          · next a r =>
            split at ez
            · next hfe =>
              simp only [Bool.and_eq_true, decide_eq_true_eq] at hE2
              have hl := Nat.eq_of_beq_eq_true hE2.1
              subst hl
              exact p_objI hx hb hml hts hown (objL_ok _ hE2.2) obj_w1 obj_w2 (by omega) (by omega) (Nat.le_of_ble_eq_true hfe) hdec (go _ _ _ _ _ _ ez hck hsk)
            · cases ez
          · cases ez
        · next mj nn =>
          split at ez
          · next a as r ht =>
            split at ez
            · next mc ms f hsem hcn =>
              split at ez
              · next hcb =>
                split at ez
                · next G1 hfe =>
                  simp only [Bool.and_eq_true, Bool.or_eq_true, decide_eq_true_eq] at hE2 hcn hcb
                  obtain ⟨hE3, hE4, hE5⟩ := hE2
                  have hl := Nat.eq_of_beq_eq_true hE3
                  subst hl
                  obtain ⟨hm, hr, d', hd', hok⟩ := semC_ok hS hsem
                  refine p_ctor hx hb hml hts hown hK hN hO hm hr (hok _ _ _ hfe) hB (Nat.eq_of_beq_eq_true hcn.2) (by omega) ⟨by have := Nat.le_of_ble_eq_true hcb.1; omega, by have := Nat.le_of_ble_eq_true hcb.2; omega⟩ ht (Nat.eq_of_beq_eq_true hE5) (Nat.le_of_ble_eq_true hcn.1) hdec ?_ (go _ _ _ _ _ _ ez (Nat.le_of_ble_eq_true hcb.1) (Nat.le_of_ble_eq_true hcb.2))
                  rcases hE4 with h | h
                  · exact Or.inl h
                  · exact Or.inr ⟨Nat.eq_of_beq_eq_true h.1.1, Nat.eq_of_beq_eq_true h.1.2, Nat.eq_of_beq_eq_true h.2⟩
                · cases ez
              · cases ez
            · cases ez
          · cases ez
        · cases ez
      · split at ez
        · split at ez
          · next hcn =>
            rw [Bool.and_eq_true] at hcn
            have hl := Nat.eq_of_beq_eq_true hE2
            subst hl
            have e3 : G = G' := (Prod.mk.inj (Option.some.inj ez)).2
            clear ez
            subst e3
            have e1 := Nat.eq_of_beq_eq_true hcn.1
            have e2 := Nat.le_of_ble_eq_true hcn.2
            subst e1
            exact fun H locs ls hX hS ha => W.widen (Nat.le_refl _) e2 (hret _ _ hdec H locs ls hX hS ha)
          · cases ez
        · cases ez
      · cases ez
theorem okC_of {S : SemC} {own mi d CB SB : Nat} {as : List Value} {G G' : List GC} {kx ko : List Ent} (hp : plainName (mtY mi).cls = true) (hown : ownN own = (mtY mi).cls) (hnm : (mtY mi).name = "<init>") (hr : mtR mi = none) (h1 : 1 ≤ d) (hkx : kx.all (chkX own (mtC mi)) = true) (hko : ko.all (chkE own (mtC mi)) = true) (hS : SemCOK S d) (ez : ctrC S CB SB kx ko (mtM mi) as G = some G') : OkC mi d CB SB as G G' := by
  unfold ctrC at ez
  split at ez
  · next hle =>
   have hlen : (lg_sl as).length ≤ mtM mi := Nat.le_of_ble_eq_true hle
   split at ez
   · next G2 hrun =>
    have e0 : G2 = G' := Option.some.inj ez
    subst e0
    intro l D B
    refine Met.ofW (cc := mtC mi) (maxL := mtM mi) (ret := none) hp rfl ?_
    intro p e s m args below meth c s₁ Bd hml hv
    obtain ⟨rfl, hW, hsz, hK, hN, hO⟩ := hv
    have hx := Bd.exec
    have hb := Bd.bytes
    have hrt := Bd.returns
    have hts0 := atoms_spec (ws := Cond.code (mtY mi) (mtC mi) (mtM mi) none :: lw_g) Bd.pre
    have hts : ∀ w ∈ lw_g, w.before (as.map (cv B)).toArray s = true := fun w hw => hts0 w (List.mem_cons_of_mem _ hw)
    have hown' : s.vm.findClass (mtY mi).cls = some m.cls := findClass_of_methodNamed Bd.named
    have hlocks := Bd.notSynchronized
    have hname : meth.name = "<init>" := (name_of_methodNamed Bd.named Bd.method).1.trans hnm
    have hl := lv_entry (as.map (cv B)) (n := mtM mi) (by rw [sl_len_map]; exact hlen)
    rw [lg_entry_eq]
    have ha : al_has B ((lg_sl (as.map (cv B)) ++ List.replicate (mtM mi - (lg_sl (as.map (cv B))).length) Slot.unset).toArray) (mtM mi) (entL (mtM mi) as) := by
      refine ⟨entL_len as _ hlen, hl.1, hl.2.1, fun i v hv => ?_⟩
      have := entL_get B as (mtM mi) 0 i v hv
      rw [Nat.zero_add] at this
      exact hl.2.2 _ this
    refine runC_E hkx hko hS _ _ _ _ _ _ _ hrun p l e (rmC d CB SB) s m (as.map (cv B)).toArray below meth c B (MQ below (va_Qv (S := Unit) (fun _ => True) (fun _ t => Wd D t B G2 t.heap) (fun q => B ≤ q)) (as.map (cv B)).toArray s CB SB (fun q => B ≤ q)) D ⟨hx, hb, hml, hts, by rw [hown]; exact hown', hK, hN, hO, ⟨Nat.le_refl _, Nat.le_refl _⟩, h1, ⟨Nat.le_refl _, Nat.le_refl _⟩, hname, hsz⟩ ?_ (Nat.zero_le _) (Nat.zero_le _) s.heap [] _ hW va_S.rf ha
    intro pc L hd H locs ls hX hS ha
    exact W.vret hx hb hrt (fun t ht hW => ⟨⟨(), rfl, trivial, Wd_moved hW.alike (by rw [ht]; exact hX)⟩, hS.F ht⟩) hS.2.2 hd
   · cases ez
  · cases ez
