set_option maxRecDepth 100000 in
theorem kc_Bp_reader : k_Bp_reader.all (chkE 6 (mtC 39)) = true := by decide +kernel
theorem so_Bp_reader : SemOK toGI S_Bp_reader 3 := List.forall_mem_cons.mpr ⟨⟨mt_61, 2, by omega, ok_Bp_refusedPairs⟩, List.forall_mem_cons.mpr ⟨⟨mt_64, 1, by omega, ok_Bp_bit⟩, List.forall_mem_cons.mpr ⟨⟨mt_62, 1, by omega, ok_Bp_readsSo⟩, fun _ h => absurd h List.not_mem_nil⟩⟩⟩
set_option maxRecDepth 100000 in
theorem E_Bp_reader_17 {z : Option Value × Hp} {x1 : Int32} {x3 : Int32} {x4 : Int32} {h : Hp} (hz : loopC (Bp_reader_17   ) FU (x1, x3, x4, h) = some z) : Ends toGI 6 39 3 1 z 17 (spr (mtM 39) [0, 1, 3, 4] [.ref 0, .int x1, .int x3, .int x4]) [] h := by
  refine loop_E (b := Bp_reader_17   ) (P := fun s => match s with | (x1, x3, x4, h) => Ends toGI 6 39 3 1 z 17 (spr (mtM 39) [0, 1, 3, 4] [.ref 0, .int x1, .int x3, .int x4]) [] h) (fun s κ17 hκ hz => ?_) FU (x1, x3, x4, h) hz
  obtain ⟨x1, x3, x4, h⟩ := s
  have hκ17 : ∀ (x1 : Int32) (x3 : Int32) (x4 : Int32) (h : Hp), κ17 (x1, x3, x4, h) = some z → Ends toGI 6 39 3 1 z 17 (spr (mtM 39) [0, 1, 3, 4] [.ref 0, .int x1, .int x3, .int x4]) [] h := fun x1 x3 x4 h q => hκ (x1, x3, x4, h) q
  exact exec_E OI_ok kc_Bp_reader so_Bp_reader (runF_E OI_ok kc_Bp_reader so_Bp_reader (List.forall_mem_cons.mpr ⟨(by
    intro L st h vs hp hf
    dsimp only at hf
    split at hf
    · split at hf
      · next hq9 =>
        have hq9 := Nat.eq_of_beq_eq_true hq9
        subst hq9
        exact Ends.at hp (hκ17 _ _ _ _ hf)
      · cases hf
    · cases hf), fun _ h => absurd h List.not_mem_nil⟩) 400) ((e_Bp_reader_17  κ17 x1 x3 x4 h).symm.trans hz)
set_option maxRecDepth 100000 in
theorem ok_Bp_reader : ∀ as h z, sF_Bp_reader as h = some z → Okm toGI 39 3 as h z := by
  intro as h z hz
  unfold sF_Bp_reader at hz
  split at hz
  · next f0 x1 =>
    split at hz
    · next hq9 =>
      have hq9 := Nat.eq_of_beq_eq_true hq9
      subst hq9
      exact okm_of (own := 6) (rk := 1) (by decide +kernel) (by decide +kernel) (by omega) rfl (Nat.le_of_ble_eq_true rfl) (exec_E OI_ok kc_Bp_reader so_Bp_reader (runF_E OI_ok kc_Bp_reader so_Bp_reader (List.forall_mem_cons.mpr ⟨(by
          intro L st h vs hp hf
          dsimp only at hf
          split at hf
          · split at hf
            · next hq9 =>
              have hq9 := Nat.eq_of_beq_eq_true hq9
              subst hq9
              exact Ends.at hp (E_Bp_reader_17 hf)
            · cases hf
          · cases hf), fun _ h => absurd h List.not_mem_nil⟩) 400) ((e_Bp_reader_0 x1 h).symm.trans hz))
    · cases hz
  · cases hz
set_option maxRecDepth 100000 in
theorem kc_Bp_readers : k_Bp_readers.all (chkE 6 (mtC 40)) = true := by decide +kernel
theorem so_Bp_readers : SemOK toGI S_Bp_readers 3 := List.forall_mem_cons.mpr ⟨⟨mt_61, 2, by omega, ok_Bp_refusedPairs⟩, List.forall_mem_cons.mpr ⟨⟨mt_64, 1, by omega, ok_Bp_bit⟩, List.forall_mem_cons.mpr ⟨⟨mt_62, 1, by omega, ok_Bp_readsSo⟩, fun _ h => absurd h List.not_mem_nil⟩⟩⟩
set_option maxRecDepth 100000 in
theorem E_Bp_readers_35 {z : Option Value × Hp} {κ17 : (Int32 × Int32 × Int32 × Hp) → Res Hp} (hκ17 : ∀ (x1 : Int32) (x3 : Int32) (x4 : Int32) (h : Hp), κ17 (x1, x3, x4, h) = some z → Ends toGI 6 40 3 1 z 17 (spr (mtM 40) [0, 1, 3, 4] [.ref 0, .int x1, .int x3, .int x4]) [] h) {x1 : Int32} {x3 : Int32} {x4 : Int32} {x5 : Int32} {h : Hp} (hz : loopC (Bp_readers_35 κ17  ) FU (x1, x3, x4, x5, h) = some z) : Ends toGI 6 40 3 1 z 35 (spr (mtM 40) [0, 1, 3, 4, 5] [.ref 0, .int x1, .int x3, .int x4, .int x5]) [] h := by
  refine loop_E (b := Bp_readers_35 κ17  ) (P := fun s => match s with | (x1, x3, x4, x5, h) => Ends toGI 6 40 3 1 z 35 (spr (mtM 40) [0, 1, 3, 4, 5] [.ref 0, .int x1, .int x3, .int x4, .int x5]) [] h) (fun s κ35 hκ hz => ?_) FU (x1, x3, x4, x5, h) hz
  obtain ⟨x1, x3, x4, x5, h⟩ := s
  have hκ35 : ∀ (x1 : Int32) (x3 : Int32) (x4 : Int32) (x5 : Int32) (h : Hp), κ35 (x1, x3, x4, x5, h) = some z → Ends toGI 6 40 3 1 z 35 (spr (mtM 40) [0, 1, 3, 4, 5] [.ref 0, .int x1, .int x3, .int x4, .int x5]) [] h := fun x1 x3 x4 x5 h q => hκ (x1, x3, x4, x5, h) q
  exact exec_E OI_ok kc_Bp_readers so_Bp_readers (runF_E OI_ok kc_Bp_readers so_Bp_readers (List.forall_mem_cons.mpr ⟨(by
    intro L st h vs hp hf
    dsimp only at hf
    split at hf
    · split at hf
      · next hq9 =>
        have hq9 := Nat.eq_of_beq_eq_true hq9
        subst hq9
        exact Ends.at hp (hκ17 _ _ _ _ hf)
      · cases hf
    · cases hf), List.forall_mem_cons.mpr ⟨(by
    intro L st h vs hp hf
    dsimp only at hf
    split at hf
    · split at hf
      · next hq9 =>
        have hq9 := Nat.eq_of_beq_eq_true hq9
        subst hq9
        exact Ends.at hp (hκ35 _ _ _ _ _ hf)
      · cases hf
    · cases hf), fun _ h => absurd h List.not_mem_nil⟩⟩) 400) ((e_Bp_readers_35 κ17 κ35 x1 x3 x4 x5 h).symm.trans hz)
set_option maxRecDepth 100000 in
theorem E_Bp_readers_17 {z : Option Value × Hp} {x1 : Int32} {x3 : Int32} {x4 : Int32} {h : Hp} (hz : loopC (Bp_readers_17   ) FU (x1, x3, x4, h) = some z) : Ends toGI 6 40 3 1 z 17 (spr (mtM 40) [0, 1, 3, 4] [.ref 0, .int x1, .int x3, .int x4]) [] h := by
  refine loop_E (b := Bp_readers_17   ) (P := fun s => match s with | (x1, x3, x4, h) => Ends toGI 6 40 3 1 z 17 (spr (mtM 40) [0, 1, 3, 4] [.ref 0, .int x1, .int x3, .int x4]) [] h) (fun s κ17 hκ hz => ?_) FU (x1, x3, x4, h) hz
  obtain ⟨x1, x3, x4, h⟩ := s
  have hκ17 : ∀ (x1 : Int32) (x3 : Int32) (x4 : Int32) (h : Hp), κ17 (x1, x3, x4, h) = some z → Ends toGI 6 40 3 1 z 17 (spr (mtM 40) [0, 1, 3, 4] [.ref 0, .int x1, .int x3, .int x4]) [] h := fun x1 x3 x4 h q => hκ (x1, x3, x4, h) q
  exact exec_E OI_ok kc_Bp_readers so_Bp_readers (runF_E OI_ok kc_Bp_readers so_Bp_readers (List.forall_mem_cons.mpr ⟨(by
    intro L st h vs hp hf
    dsimp only at hf
    split at hf
    · split at hf
      · next hq9 =>
        have hq9 := Nat.eq_of_beq_eq_true hq9
        subst hq9
        exact Ends.at hp (E_Bp_readers_35 hκ17 hf)
      · cases hf
    · cases hf), fun _ h => absurd h List.not_mem_nil⟩) 400) ((e_Bp_readers_17  κ17 x1 x3 x4 h).symm.trans hz)
set_option maxRecDepth 100000 in
theorem ok_Bp_readers : ∀ as h z, sF_Bp_readers as h = some z → Okm toGI 40 3 as h z := by
  intro as h z hz
  unfold sF_Bp_readers at hz
  split at hz
  · next f0 x1 =>
    split at hz
    · next hq9 =>
      have hq9 := Nat.eq_of_beq_eq_true hq9
      subst hq9
      exact okm_of (own := 6) (rk := 1) (by decide +kernel) (by decide +kernel) (by omega) rfl (Nat.le_of_ble_eq_true rfl) (exec_E OI_ok kc_Bp_readers so_Bp_readers (runF_E OI_ok kc_Bp_readers so_Bp_readers (List.forall_mem_cons.mpr ⟨(by
          intro L st h vs hp hf
          dsimp only at hf
          split at hf
          · split at hf
            · next hq9 =>
              have hq9 := Nat.eq_of_beq_eq_true hq9
              subst hq9
              exact Ends.at hp (E_Bp_readers_17 hf)
            · cases hf
          · cases hf), fun _ h => absurd h List.not_mem_nil⟩) 400) ((e_Bp_readers_0 x1 h).symm.trans hz))
    · cases hz
  · cases hz
set_option maxRecDepth 100000 in
theorem kc_Bp_knows : k_Bp_knows.all (chkE 6 (mtC 41)) = true := by decide +kernel
theorem so_Bp_knows : SemOK toGI S_Bp_knows 2 := List.forall_mem_cons.mpr ⟨⟨mt_52, 1, by omega, ok_Bp_noRow⟩, List.forall_mem_cons.mpr ⟨⟨mt_225, 1, by omega, ok_Sh_isThere⟩, List.forall_mem_cons.mpr ⟨⟨mt_250, 1, by omega, ok_Jint_bitCount⟩, List.forall_mem_cons.mpr ⟨⟨mt_56, 1, by omega, ok_Bp_noTongues⟩, List.forall_mem_cons.mpr ⟨⟨mt_50, 1, by omega, ok_Bp_found⟩, fun _ h => absurd h List.not_mem_nil⟩⟩⟩⟩⟩
set_option maxRecDepth 100000 in
theorem E_Bp_knows_34 {z : Option Value × Hp} {o2 : Nat} {x3 : Int32} {x4 : Int32} {h : Hp} (hz : loopC (Bp_knows_34   ) FU (o2, x3, x4, h) = some z) : Ends toGI 6 41 2 1 z 34 (spr (mtM 41) [0, 2, 3, 4] [.ref 0, .ref o2, .int x3, .int x4]) [] h := by
  refine loop_E (b := Bp_knows_34   ) (P := fun s => match s with | (o2, x3, x4, h) => Ends toGI 6 41 2 1 z 34 (spr (mtM 41) [0, 2, 3, 4] [.ref 0, .ref o2, .int x3, .int x4]) [] h) (fun s κ34 hκ hz => ?_) FU (o2, x3, x4, h) hz
  obtain ⟨o2, x3, x4, h⟩ := s
  have hκ34 : ∀ (o2 : Nat) (x3 : Int32) (x4 : Int32) (h : Hp), κ34 (o2, x3, x4, h) = some z → Ends toGI 6 41 2 1 z 34 (spr (mtM 41) [0, 2, 3, 4] [.ref 0, .ref o2, .int x3, .int x4]) [] h := fun o2 x3 x4 h q => hκ (o2, x3, x4, h) q
  exact exec_E OI_ok kc_Bp_knows so_Bp_knows (runF_E OI_ok kc_Bp_knows so_Bp_knows (List.forall_mem_cons.mpr ⟨(by
    intro L st h vs hp hf
    dsimp only at hf
    split at hf
    · split at hf
      · next hq9 =>
        have hq9 := Nat.eq_of_beq_eq_true hq9
        subst hq9
        exact Ends.at hp (hκ34 _ _ _ _ hf)
      · cases hf
    · cases hf), fun _ h => absurd h List.not_mem_nil⟩) 400) ((e_Bp_knows_34  κ34 o2 x3 x4 h).symm.trans hz)
set_option maxRecDepth 100000 in
theorem ok_Bp_knows : ∀ as h z, sF_Bp_knows as h = some z → Okm toGI 41 2 as h z := by
  intro as h z hz
  unfold sF_Bp_knows at hz
  split at hz
  · next f0 x1 =>
    split at hz
    · next hq9 =>
      have hq9 := Nat.eq_of_beq_eq_true hq9
      subst hq9
      exact okm_of (own := 6) (rk := 1) (by decide +kernel) (by decide +kernel) (by omega) rfl (Nat.le_of_ble_eq_true rfl) (exec_E OI_ok kc_Bp_knows so_Bp_knows (runF_E OI_ok kc_Bp_knows so_Bp_knows (List.forall_mem_cons.mpr ⟨(by
          intro L st h vs hp hf
          dsimp only at hf
          split at hf
          · split at hf
            · next hq9 =>
              have hq9 := Nat.eq_of_beq_eq_true hq9
              subst hq9
              exact Ends.at hp (E_Bp_knows_34 hf)
            · cases hf
          · cases hf), fun _ h => absurd h List.not_mem_nil⟩) 400) ((e_Bp_knows_0 x1 h).symm.trans hz))
    · cases hz
  · cases hz
set_option maxRecDepth 100000 in
theorem kc_Bp_memberAt : k_Bp_memberAt.all (chkE 6 (mtC 66)) = true := by decide +kernel
theorem so_Bp_memberAt : SemOK toGI S_Bp_memberAt 2 := List.forall_mem_cons.mpr ⟨⟨mt_65, 1, by omega, ok_Bp_has⟩, fun _ h => absurd h List.not_mem_nil⟩
set_option maxRecDepth 100000 in
theorem E_Bp_memberAt_4 {z : Option Value × Hp} {x0 : Int32} {x1 : Int32} {x2 : Int32} {x3 : Int32} {h : Hp} (hz : loopC (Bp_memberAt_4   ) FU (x0, x1, x2, x3, h) = some z) : Ends toGI 6 66 2 1 z 4 (spr (mtM 66) [0, 1, 2, 3] [.int x0, .int x1, .int x2, .int x3]) [] h := by
  refine loop_E (b := Bp_memberAt_4   ) (P := fun s => match s with | (x0, x1, x2, x3, h) => Ends toGI 6 66 2 1 z 4 (spr (mtM 66) [0, 1, 2, 3] [.int x0, .int x1, .int x2, .int x3]) [] h) (fun s κ4 hκ hz => ?_) FU (x0, x1, x2, x3, h) hz
  obtain ⟨x0, x1, x2, x3, h⟩ := s
  have hκ4 : ∀ (x0 : Int32) (x1 : Int32) (x2 : Int32) (x3 : Int32) (h : Hp), κ4 (x0, x1, x2, x3, h) = some z → Ends toGI 6 66 2 1 z 4 (spr (mtM 66) [0, 1, 2, 3] [.int x0, .int x1, .int x2, .int x3]) [] h := fun x0 x1 x2 x3 h q => hκ (x0, x1, x2, x3, h) q
  exact exec_E OI_ok kc_Bp_memberAt so_Bp_memberAt (runF_E OI_ok kc_Bp_memberAt so_Bp_memberAt (List.forall_mem_cons.mpr ⟨(by
    intro L st h vs hp hf
    dsimp only at hf
    split at hf
    · exact Ends.at hp (hκ4 _ _ _ _ _ hf)
    · cases hf), fun _ h => absurd h List.not_mem_nil⟩) 400) ((e_Bp_memberAt_4  κ4 x0 x1 x2 x3 h).symm.trans hz)
set_option maxRecDepth 100000 in
theorem ok_Bp_memberAt : ∀ as h z, sF_Bp_memberAt as h = some z → Okm toGI 66 2 as h z := by
  intro as h z hz
  unfold sF_Bp_memberAt at hz
  split at hz
  · next x0 x1 =>
    exact okm_of (own := 6) (rk := 1) (by decide +kernel) (by decide +kernel) (by omega) rfl (Nat.le_of_ble_eq_true rfl) (exec_E OI_ok kc_Bp_memberAt so_Bp_memberAt (runF_E OI_ok kc_Bp_memberAt so_Bp_memberAt (List.forall_mem_cons.mpr ⟨(by
          intro L st h vs hp hf
          dsimp only at hf
          split at hf
          · exact Ends.at hp (E_Bp_memberAt_4 hf)
          · cases hf), fun _ h => absurd h List.not_mem_nil⟩) 400) ((e_Bp_memberAt_0 x0 x1 h).symm.trans hz))
  · cases hz
set_option maxRecDepth 100000 in
theorem kc_La_goBy : k_La_goBy.all (chkE 0 (mtC 187)) = true := by decide +kernel
theorem so_La_goBy : SemOK toGI S_La_goBy 6 := List.forall_mem_cons.mpr ⟨⟨mt_184, 5, by omega, ok_La_takers⟩, List.forall_mem_cons.mpr ⟨⟨mt_250, 1, by omega, ok_Jint_bitCount⟩, List.forall_mem_cons.mpr ⟨⟨mt_66, 2, by omega, ok_Bp_memberAt⟩, List.forall_mem_cons.mpr ⟨⟨mt_186, 3, by omega, ok_La_pass⟩, fun _ h => absurd h List.not_mem_nil⟩⟩⟩⟩
set_option maxRecDepth 100000 in
theorem E_La_goBy_18 {z : Option Value × Hp} {κ9 : (Nat × Int32 × Int64 × Int32 × Int32 × Hp) → Res Hp} (hκ9 : ∀ (o0 : Nat) (x1 : Int32) (y3 : Int64) (x5 : Int32) (x6 : Int32) (h : Hp), κ9 (o0, x1, y3, x5, x6, h) = some z → Ends toGI 0 187 6 1 z 9 (spr (mtM 187) [0, 1, 3, 5, 6] [.ref o0, .int x1, .long y3, .int x5, .int x6]) [] h) {o0 : Nat} {x1 : Int32} {y3 : Int64} {x5 : Int32} {x6 : Int32} {x7 : Int32} {h : Hp} (hz : loopC (La_goBy_18 κ9  ) FU (o0, x1, y3, x5, x6, x7, h) = some z) : Ends toGI 0 187 6 1 z 18 (spr (mtM 187) [0, 1, 3, 5, 6, 7] [.ref o0, .int x1, .long y3, .int x5, .int x6, .int x7]) [] h := by
  refine loop_E (b := La_goBy_18 κ9  ) (P := fun s => match s with | (o0, x1, y3, x5, x6, x7, h) => Ends toGI 0 187 6 1 z 18 (spr (mtM 187) [0, 1, 3, 5, 6, 7] [.ref o0, .int x1, .long y3, .int x5, .int x6, .int x7]) [] h) (fun s κ18 hκ hz => ?_) FU (o0, x1, y3, x5, x6, x7, h) hz
  obtain ⟨o0, x1, y3, x5, x6, x7, h⟩ := s
  have hκ18 : ∀ (o0 : Nat) (x1 : Int32) (y3 : Int64) (x5 : Int32) (x6 : Int32) (x7 : Int32) (h : Hp), κ18 (o0, x1, y3, x5, x6, x7, h) = some z → Ends toGI 0 187 6 1 z 18 (spr (mtM 187) [0, 1, 3, 5, 6, 7] [.ref o0, .int x1, .long y3, .int x5, .int x6, .int x7]) [] h := fun o0 x1 y3 x5 x6 x7 h q => hκ (o0, x1, y3, x5, x6, x7, h) q
  exact exec_E OI_ok kc_La_goBy so_La_goBy (runF_E OI_ok kc_La_goBy so_La_goBy (List.forall_mem_cons.mpr ⟨(by
    intro L st h vs hp hf
    dsimp only at hf
    split at hf
    · exact Ends.at hp (hκ9 _ _ _ _ _ _ hf)
    · cases hf), List.forall_mem_cons.mpr ⟨(by
    intro L st h vs hp hf
    dsimp only at hf
    split at hf
    · exact Ends.at hp (hκ18 _ _ _ _ _ _ _ hf)
    · cases hf), fun _ h => absurd h List.not_mem_nil⟩⟩) 400) ((e_La_goBy_18 κ9 κ18 o0 x1 y3 x5 x6 x7 h).symm.trans hz)
set_option maxRecDepth 100000 in
theorem E_La_goBy_9 {z : Option Value × Hp} {o0 : Nat} {x1 : Int32} {y3 : Int64} {x5 : Int32} {x6 : Int32} {h : Hp} (hz : loopC (La_goBy_9   ) FU (o0, x1, y3, x5, x6, h) = some z) : Ends toGI 0 187 6 1 z 9 (spr (mtM 187) [0, 1, 3, 5, 6] [.ref o0, .int x1, .long y3, .int x5, .int x6]) [] h := by
  refine loop_E (b := La_goBy_9   ) (P := fun s => match s with | (o0, x1, y3, x5, x6, h) => Ends toGI 0 187 6 1 z 9 (spr (mtM 187) [0, 1, 3, 5, 6] [.ref o0, .int x1, .long y3, .int x5, .int x6]) [] h) (fun s κ9 hκ hz => ?_) FU (o0, x1, y3, x5, x6, h) hz
  obtain ⟨o0, x1, y3, x5, x6, h⟩ := s
  have hκ9 : ∀ (o0 : Nat) (x1 : Int32) (y3 : Int64) (x5 : Int32) (x6 : Int32) (h : Hp), κ9 (o0, x1, y3, x5, x6, h) = some z → Ends toGI 0 187 6 1 z 9 (spr (mtM 187) [0, 1, 3, 5, 6] [.ref o0, .int x1, .long y3, .int x5, .int x6]) [] h := fun o0 x1 y3 x5 x6 h q => hκ (o0, x1, y3, x5, x6, h) q
  exact exec_E OI_ok kc_La_goBy so_La_goBy (runF_E OI_ok kc_La_goBy so_La_goBy (List.forall_mem_cons.mpr ⟨(by
    intro L st h vs hp hf
    dsimp only at hf
    split at hf
    · exact Ends.at hp (E_La_goBy_18 hκ9 hf)
    · cases hf), fun _ h => absurd h List.not_mem_nil⟩) 400) ((e_La_goBy_9  κ9 o0 x1 y3 x5 x6 h).symm.trans hz)
set_option maxRecDepth 100000 in
theorem ok_La_goBy : ∀ as h z, sF_La_goBy as h = some z → Okm toGI 187 6 as h z := by
  intro as h z hz
  unfold sF_La_goBy at hz
  split at hz
  · next o0 x1 x2 =>
    exact okm_of (own := 0) (rk := 1) (by decide +kernel) (by decide +kernel) (by omega) rfl (Nat.le_of_ble_eq_true rfl) (exec_E OI_ok kc_La_goBy so_La_goBy (runF_E OI_ok kc_La_goBy so_La_goBy (List.forall_mem_cons.mpr ⟨(by
          intro L st h vs hp hf
          dsimp only at hf
          split at hf
          · exact Ends.at hp (E_La_goBy_9 hf)
          · cases hf), fun _ h => absurd h List.not_mem_nil⟩) 400) ((e_La_goBy_0 o0 x1 x2 h).symm.trans hz))
  · cases hz
set_option maxRecDepth 100000 in
theorem kc_Bp_days : k_Bp_days.all (chkE 6 (mtC 42)) = true := by decide +kernel
theorem so_Bp_days : SemOK toGI S_Bp_days 7 := List.forall_mem_cons.mpr ⟨⟨mt_187, 6, by omega, ok_La_goBy⟩, fun _ h => absurd h List.not_mem_nil⟩
set_option maxRecDepth 100000 in
theorem ok_Bp_days : ∀ as h z, sF_Bp_days as h = some z → Okm toGI 42 7 as h z := by
  intro as h z hz
  unfold sF_Bp_days at hz
  split at hz
  · next f0 x1 x2 =>
    split at hz
    · next hq9 =>
      have hq9 := Nat.eq_of_beq_eq_true hq9
      subst hq9
      exact okm_of (own := 6) (rk := 1) (by decide +kernel) (by decide +kernel) (by omega) rfl (Nat.le_of_ble_eq_true rfl) (exec_E OI_ok kc_Bp_days so_Bp_days (runF_E OI_ok kc_Bp_days so_Bp_days (fun _ h => absurd h List.not_mem_nil) 400) ((e_Bp_days_0 x1 x2 h).symm.trans hz))
    · cases hz
  · cases hz
set_option maxRecDepth 100000 in
theorem kc_Bp_asked : k_Bp_asked.all (chkE 6 (mtC 43)) = true := by decide +kernel
theorem so_Bp_asked : SemOK toGI S_Bp_asked 1 := fun _ h => absurd h List.not_mem_nil
set_option maxRecDepth 100000 in
theorem ok_Bp_asked : ∀ as h z, sF_Bp_asked as h = some z → Okm toGI 43 1 as h z := by
  intro as h z hz
  unfold sF_Bp_asked at hz
  split at hz
  · next f0 =>
    split at hz
    · next hq9 =>
      have hq9 := Nat.eq_of_beq_eq_true hq9
      subst hq9
      exact okm_of (own := 6) (rk := 1) (by decide +kernel) (by decide +kernel) (by omega) rfl (Nat.le_of_ble_eq_true rfl) (exec_E OI_ok kc_Bp_asked so_Bp_asked (runF_E OI_ok kc_Bp_asked so_Bp_asked (fun _ h => absurd h List.not_mem_nil) 400) ((e_Bp_asked_0  h).symm.trans hz))
    · cases hz
  · cases hz
set_option maxRecDepth 100000 in
theorem kc_Bp_commonDivisor : k_Bp_commonDivisor.all (chkE 6 (mtC 63)) = true := by decide +kernel
theorem so_Bp_commonDivisor : SemOK toGI S_Bp_commonDivisor 1 := fun _ h => absurd h List.not_mem_nil
set_option maxRecDepth 100000 in
theorem E_Bp_commonDivisor_7 {z : Option Value × Hp} {x2 : Int32} {x3 : Int32} {x4 : Int32} {h : Hp} (hz : loopC (Bp_commonDivisor_7   ) FU (x2, x3, x4, h) = some z) : Ends toGI 6 63 1 1 z 7 (spr (mtM 63) [2, 3, 4] [.int x2, .int x3, .int x4]) [] h := by
  refine loop_E (b := Bp_commonDivisor_7   ) (P := fun s => match s with | (x2, x3, x4, h) => Ends toGI 6 63 1 1 z 7 (spr (mtM 63) [2, 3, 4] [.int x2, .int x3, .int x4]) [] h) (fun s κ7 hκ hz => ?_) FU (x2, x3, x4, h) hz
  obtain ⟨x2, x3, x4, h⟩ := s
  have hκ7 : ∀ (x2 : Int32) (x3 : Int32) (x4 : Int32) (h : Hp), κ7 (x2, x3, x4, h) = some z → Ends toGI 6 63 1 1 z 7 (spr (mtM 63) [2, 3, 4] [.int x2, .int x3, .int x4]) [] h := fun x2 x3 x4 h q => hκ (x2, x3, x4, h) q
  exact exec_E OI_ok kc_Bp_commonDivisor so_Bp_commonDivisor (runF_E OI_ok kc_Bp_commonDivisor so_Bp_commonDivisor (List.forall_mem_cons.mpr ⟨(by
    intro L st h vs hp hf
    dsimp only at hf
    split at hf
    · exact Ends.at hp (hκ7 _ _ _ _ hf)
    · cases hf), fun _ h => absurd h List.not_mem_nil⟩) 400) ((e_Bp_commonDivisor_7  κ7 x2 x3 x4 h).symm.trans hz)
set_option maxRecDepth 100000 in
theorem ok_Bp_commonDivisor : ∀ as h z, sF_Bp_commonDivisor as h = some z → Okm toGI 63 1 as h z := by
  intro as h z hz
  unfold sF_Bp_commonDivisor at hz
  split at hz
  · next x0 x1 =>
    exact okm_of (own := 6) (rk := 1) (by decide +kernel) (by decide +kernel) (by omega) rfl (Nat.le_of_ble_eq_true rfl) (exec_E OI_ok kc_Bp_commonDivisor so_Bp_commonDivisor (runF_E OI_ok kc_Bp_commonDivisor so_Bp_commonDivisor (List.forall_mem_cons.mpr ⟨(by
          intro L st h vs hp hf
          dsimp only at hf
          split at hf
          · exact Ends.at hp (E_Bp_commonDivisor_7 hf)
          · cases hf), fun _ h => absurd h List.not_mem_nil⟩) 400) ((e_Bp_commonDivisor_0 x0 x1 h).symm.trans hz))
  · cases hz
set_option maxRecDepth 100000 in
theorem kc_Bp_upper : k_Bp_upper.all (chkE 6 (mtC 44)) = true := by decide +kernel
theorem so_Bp_upper : SemOK toGI S_Bp_upper 6 := List.forall_mem_cons.mpr ⟨⟨mt_209, 5, by omega, ok_Pa_tally⟩, List.forall_mem_cons.mpr ⟨⟨mt_63, 1, by omega, ok_Bp_commonDivisor⟩, fun _ h => absurd h List.not_mem_nil⟩⟩
set_option maxRecDepth 100000 in
theorem ok_Bp_upper : ∀ as h z, sF_Bp_upper as h = some z → Okm toGI 44 6 as h z := by
  intro as h z hz
  unfold sF_Bp_upper at hz
  split at hz
  · next f0 =>
    split at hz
    · next hq9 =>
      have hq9 := Nat.eq_of_beq_eq_true hq9
      subst hq9
      exact okm_of (own := 6) (rk := 3) (by decide +kernel) (by decide +kernel) (by omega) rfl (Nat.le_of_ble_eq_true rfl) (exec_E OI_ok kc_Bp_upper so_Bp_upper (runF_E OI_ok kc_Bp_upper so_Bp_upper (fun _ h => absurd h List.not_mem_nil) 400) ((e_Bp_upper_0  h).symm.trans hz))
    · cases hz
  · cases hz
set_option maxRecDepth 100000 in
theorem kc_Bp_lower : k_Bp_lower.all (chkE 6 (mtC 45)) = true := by decide +kernel
theorem so_Bp_lower : SemOK toGI S_Bp_lower 6 := List.forall_mem_cons.mpr ⟨⟨mt_209, 5, by omega, ok_Pa_tally⟩, List.forall_mem_cons.mpr ⟨⟨mt_63, 1, by omega, ok_Bp_commonDivisor⟩, fun _ h => absurd h List.not_mem_nil⟩⟩
set_option maxRecDepth 100000 in
theorem ok_Bp_lower : ∀ as h z, sF_Bp_lower as h = some z → Okm toGI 45 6 as h z := by
  intro as h z hz
  unfold sF_Bp_lower at hz
  split at hz
  · next f0 =>
    split at hz
    · next hq9 =>
      have hq9 := Nat.eq_of_beq_eq_true hq9
      subst hq9
      exact okm_of (own := 6) (rk := 3) (by decide +kernel) (by decide +kernel) (by omega) rfl (Nat.le_of_ble_eq_true rfl) (exec_E OI_ok kc_Bp_lower so_Bp_lower (runF_E OI_ok kc_Bp_lower so_Bp_lower (fun _ h => absurd h List.not_mem_nil) 400) ((e_Bp_lower_0  h).symm.trans hz))
    · cases hz
  · cases hz
set_option maxRecDepth 100000 in
theorem kc_La_lettersThere : k_La_lettersThere.all (chkE 0 (mtC 191)) = true := by decide +kernel
theorem so_La_lettersThere : SemOK toGI S_La_lettersThere 3 := List.forall_mem_cons.mpr ⟨⟨mt_200, 2, by omega, ok_Le_isThere⟩, fun _ h => absurd h List.not_mem_nil⟩
set_option maxRecDepth 100000 in
theorem E_La_lettersThere_4 {z : Option Value × Hp} {o0 : Nat} {x1 : Int32} {x2 : Int32} {h : Hp} (hz : loopC (La_lettersThere_4   ) FU (o0, x1, x2, h) = some z) : Ends toGI 0 191 3 1 z 4 (spr (mtM 191) [0, 1, 2] [.ref o0, .int x1, .int x2]) [] h := by
  refine loop_E (b := La_lettersThere_4   ) (P := fun s => match s with | (o0, x1, x2, h) => Ends toGI 0 191 3 1 z 4 (spr (mtM 191) [0, 1, 2] [.ref o0, .int x1, .int x2]) [] h) (fun s κ4 hκ hz => ?_) FU (o0, x1, x2, h) hz
  obtain ⟨o0, x1, x2, h⟩ := s
  have hκ4 : ∀ (o0 : Nat) (x1 : Int32) (x2 : Int32) (h : Hp), κ4 (o0, x1, x2, h) = some z → Ends toGI 0 191 3 1 z 4 (spr (mtM 191) [0, 1, 2] [.ref o0, .int x1, .int x2]) [] h := fun o0 x1 x2 h q => hκ (o0, x1, x2, h) q
  exact exec_E OI_ok kc_La_lettersThere so_La_lettersThere (runF_E OI_ok kc_La_lettersThere so_La_lettersThere (List.forall_mem_cons.mpr ⟨(by
    intro L st h vs hp hf
    dsimp only at hf
    split at hf
    · exact Ends.at hp (hκ4 _ _ _ _ hf)
    · cases hf), fun _ h => absurd h List.not_mem_nil⟩) 400) ((e_La_lettersThere_4  κ4 o0 x1 x2 h).symm.trans hz)
set_option maxRecDepth 100000 in
theorem ok_La_lettersThere : ∀ as h z, sF_La_lettersThere as h = some z → Okm toGI 191 3 as h z := by
  intro as h z hz
  unfold sF_La_lettersThere at hz
  split at hz
  · next o0 =>
    exact okm_of (own := 0) (rk := 1) (by decide +kernel) (by decide +kernel) (by omega) rfl (Nat.le_of_ble_eq_true rfl) (exec_E OI_ok kc_La_lettersThere so_La_lettersThere (runF_E OI_ok kc_La_lettersThere so_La_lettersThere (List.forall_mem_cons.mpr ⟨(by
          intro L st h vs hp hf
          dsimp only at hf
          split at hf
          · exact Ends.at hp (E_La_lettersThere_4 hf)
          · cases hf), fun _ h => absurd h List.not_mem_nil⟩) 400) ((e_La_lettersThere_0 o0 h).symm.trans hz))
  · cases hz
set_option maxRecDepth 100000 in
theorem kc_Bp_sheetsThere : k_Bp_sheetsThere.all (chkE 6 (mtC 59)) = true := by decide +kernel
theorem so_Bp_sheetsThere : SemOK toGI S_Bp_sheetsThere 2 := List.forall_mem_cons.mpr ⟨⟨mt_225, 1, by omega, ok_Sh_isThere⟩, fun _ h => absurd h List.not_mem_nil⟩
set_option maxRecDepth 100000 in
theorem E_Bp_sheetsThere_4 {z : Option Value × Hp} {o1 : Nat} {x2 : Int32} {x3 : Int32} {h : Hp} (hz : loopC (Bp_sheetsThere_4   ) FU (o1, x2, x3, h) = some z) : Ends toGI 6 59 2 1 z 4 (spr (mtM 59) [1, 2, 3] [.ref o1, .int x2, .int x3]) [] h := by
  refine loop_E (b := Bp_sheetsThere_4   ) (P := fun s => match s with | (o1, x2, x3, h) => Ends toGI 6 59 2 1 z 4 (spr (mtM 59) [1, 2, 3] [.ref o1, .int x2, .int x3]) [] h) (fun s κ4 hκ hz => ?_) FU (o1, x2, x3, h) hz
  obtain ⟨o1, x2, x3, h⟩ := s
  have hκ4 : ∀ (o1 : Nat) (x2 : Int32) (x3 : Int32) (h : Hp), κ4 (o1, x2, x3, h) = some z → Ends toGI 6 59 2 1 z 4 (spr (mtM 59) [1, 2, 3] [.ref o1, .int x2, .int x3]) [] h := fun o1 x2 x3 h q => hκ (o1, x2, x3, h) q
  exact exec_E OI_ok kc_Bp_sheetsThere so_Bp_sheetsThere (runF_E OI_ok kc_Bp_sheetsThere so_Bp_sheetsThere (List.forall_mem_cons.mpr ⟨(by
    intro L st h vs hp hf
    dsimp only at hf
    split at hf
    · exact Ends.at hp (hκ4 _ _ _ _ hf)
    · cases hf), fun _ h => absurd h List.not_mem_nil⟩) 400) ((e_Bp_sheetsThere_4  κ4 o1 x2 x3 h).symm.trans hz)
set_option maxRecDepth 100000 in
theorem ok_Bp_sheetsThere : ∀ as h z, sF_Bp_sheetsThere as h = some z → Okm toGI 59 2 as h z := by
  intro as h z hz
  unfold sF_Bp_sheetsThere at hz
  split at hz
  · next f0 o1 =>
    split at hz
    · next hq9 =>
      have hq9 := Nat.eq_of_beq_eq_true hq9
      subst hq9
      exact okm_of (own := 6) (rk := 1) (by decide +kernel) (by decide +kernel) (by omega) rfl (Nat.le_of_ble_eq_true rfl) (exec_E OI_ok kc_Bp_sheetsThere so_Bp_sheetsThere (runF_E OI_ok kc_Bp_sheetsThere so_Bp_sheetsThere (List.forall_mem_cons.mpr ⟨(by
          intro L st h vs hp hf
          dsimp only at hf
          split at hf
          · exact Ends.at hp (E_Bp_sheetsThere_4 hf)
          · cases hf), fun _ h => absurd h List.not_mem_nil⟩) 400) ((e_Bp_sheetsThere_0 o1 h).symm.trans hz))
    · cases hz
  · cases hz
set_option maxRecDepth 100000 in
theorem kc_Bp_landsKept : k_Bp_landsKept.all (chkE 6 (mtC 60)) = true := by decide +kernel
theorem so_Bp_landsKept : SemOK toGI S_Bp_landsKept 1 := fun _ h => absurd h List.not_mem_nil
set_option maxRecDepth 100000 in
theorem E_Bp_landsKept_4 {z : Option Value × Hp} {x1 : Int32} {x2 : Int32} {h : Hp} (hz : loopC (Bp_landsKept_4   ) FU (x1, x2, h) = some z) : Ends toGI 6 60 1 1 z 4 (spr (mtM 60) [0, 1, 2] [.ref 0, .int x1, .int x2]) [] h := by
  refine loop_E (b := Bp_landsKept_4   ) (P := fun s => match s with | (x1, x2, h) => Ends toGI 6 60 1 1 z 4 (spr (mtM 60) [0, 1, 2] [.ref 0, .int x1, .int x2]) [] h) (fun s κ4 hκ hz => ?_) FU (x1, x2, h) hz
  obtain ⟨x1, x2, h⟩ := s
  have hκ4 : ∀ (x1 : Int32) (x2 : Int32) (h : Hp), κ4 (x1, x2, h) = some z → Ends toGI 6 60 1 1 z 4 (spr (mtM 60) [0, 1, 2] [.ref 0, .int x1, .int x2]) [] h := fun x1 x2 h q => hκ (x1, x2, h) q
  exact exec_E OI_ok kc_Bp_landsKept so_Bp_landsKept (runF_E OI_ok kc_Bp_landsKept so_Bp_landsKept (List.forall_mem_cons.mpr ⟨(by
    intro L st h vs hp hf
    dsimp only at hf
    split at hf
    · split at hf
      · next hq9 =>
        have hq9 := Nat.eq_of_beq_eq_true hq9
        subst hq9
        exact Ends.at hp (hκ4 _ _ _ hf)
      · cases hf
    · cases hf), fun _ h => absurd h List.not_mem_nil⟩) 400) ((e_Bp_landsKept_4  κ4 x1 x2 h).symm.trans hz)
set_option maxRecDepth 100000 in
theorem ok_Bp_landsKept : ∀ as h z, sF_Bp_landsKept as h = some z → Okm toGI 60 1 as h z := by
  intro as h z hz
  unfold sF_Bp_landsKept at hz
  split at hz
  · next f0 =>
    split at hz
    · next hq9 =>
      have hq9 := Nat.eq_of_beq_eq_true hq9
      subst hq9
      exact okm_of (own := 6) (rk := 1) (by decide +kernel) (by decide +kernel) (by omega) rfl (Nat.le_of_ble_eq_true rfl) (exec_E OI_ok kc_Bp_landsKept so_Bp_landsKept (runF_E OI_ok kc_Bp_landsKept so_Bp_landsKept (List.forall_mem_cons.mpr ⟨(by
          intro L st h vs hp hf
          dsimp only at hf
          split at hf
          · split at hf
            · next hq9 =>
              have hq9 := Nat.eq_of_beq_eq_true hq9
              subst hq9
              exact Ends.at hp (E_Bp_landsKept_4 hf)
            · cases hf
          · cases hf), fun _ h => absurd h List.not_mem_nil⟩) 400) ((e_Bp_landsKept_0  h).symm.trans hz))
    · cases hz
  · cases hz
set_option maxRecDepth 100000 in
theorem kc_Bp_count : k_Bp_count.all (chkE 6 (mtC 46)) = true := by decide +kernel
theorem so_Bp_count : SemOK toGI S_Bp_count 4 := List.forall_mem_cons.mpr ⟨⟨mt_191, 3, by omega, ok_La_lettersThere⟩, List.forall_mem_cons.mpr ⟨⟨mt_180, 2, by omega, ok_La_ofKind⟩, List.forall_mem_cons.mpr ⟨⟨mt_250, 1, by omega, ok_Jint_bitCount⟩, List.forall_mem_cons.mpr ⟨⟨mt_59, 2, by omega, ok_Bp_sheetsThere⟩, List.forall_mem_cons.mpr ⟨⟨mt_60, 1, by omega, ok_Bp_landsKept⟩, fun _ h => absurd h List.not_mem_nil⟩⟩⟩⟩⟩
set_option maxRecDepth 100000 in
theorem ok_Bp_count : ∀ as h z, sF_Bp_count as h = some z → Okm toGI 46 4 as h z := by
  intro as h z hz
  unfold sF_Bp_count at hz
  split at hz
  · next f0 x1 =>
    split at hz
    · next hq9 =>
      have hq9 := Nat.eq_of_beq_eq_true hq9
      subst hq9
      exact okm_of (own := 6) (rk := 1) (by decide +kernel) (by decide +kernel) (by omega) rfl (Nat.le_of_ble_eq_true rfl) (exec_E OI_ok kc_Bp_count so_Bp_count (runF_E OI_ok kc_Bp_count so_Bp_count (fun _ h => absurd h List.not_mem_nil) 400) ((e_Bp_count_0 x1 h).symm.trans hz))
    · cases hz
  · cases hz
set_option maxRecDepth 100000 in
theorem kc_Bp_finding : k_Bp_finding.all (chkE 6 (mtC 47)) = true := by decide +kernel
theorem so_Bp_finding : SemOK toGI S_Bp_finding 1 := fun _ h => absurd h List.not_mem_nil
set_option maxRecDepth 100000 in
theorem ok_Bp_finding : ∀ as h z, sF_Bp_finding as h = some z → Okm toGI 47 1 as h z := by
  intro as h z hz
  unfold sF_Bp_finding at hz
  split at hz
  · next f0 =>
    split at hz
    · next hq9 =>
      have hq9 := Nat.eq_of_beq_eq_true hq9
      subst hq9
      exact okm_of (own := 6) (rk := 1) (by decide +kernel) (by decide +kernel) (by omega) rfl (Nat.le_of_ble_eq_true rfl) (exec_E OI_ok kc_Bp_finding so_Bp_finding (runF_E OI_ok kc_Bp_finding so_Bp_finding (fun _ h => absurd h List.not_mem_nil) 400) ((e_Bp_finding_0  h).symm.trans hz))
    · cases hz
  · cases hz
set_option maxRecDepth 100000 in
theorem kc_Bp_findings : k_Bp_findings.all (chkE 6 (mtC 48)) = true := by decide +kernel
theorem so_Bp_findings : SemOK toGI S_Bp_findings 1 := fun _ h => absurd h List.not_mem_nil
set_option maxRecDepth 100000 in
theorem ok_Bp_findings : ∀ as h z, sF_Bp_findings as h = some z → Okm toGI 48 1 as h z := by
  intro as h z hz
  unfold sF_Bp_findings at hz
  split at hz
  · next f0 x1 =>
    split at hz
    · next hq9 =>
      have hq9 := Nat.eq_of_beq_eq_true hq9
      subst hq9
      exact okm_of (own := 6) (rk := 1) (by decide +kernel) (by decide +kernel) (by omega) rfl (Nat.le_of_ble_eq_true rfl) (exec_E OI_ok kc_Bp_findings so_Bp_findings (runF_E OI_ok kc_Bp_findings so_Bp_findings (fun _ h => absurd h List.not_mem_nil) 400) ((e_Bp_findings_0 x1 h).symm.trans hz))
    · cases hz
  · cases hz
set_option maxRecDepth 100000 in
theorem kc_La_digestFrom : k_La_digestFrom.all (chkE 0 (mtC 194)) = true := by decide +kernel
theorem so_La_digestFrom : SemOK toGI S_La_digestFrom 5 := List.forall_mem_cons.mpr ⟨⟨mt_188, 4, by omega, ok_La_factOf⟩, fun _ h => absurd h List.not_mem_nil⟩
set_option maxRecDepth 100000 in
theorem E_La_digestFrom_165 {z : Option Value × Hp} {κ117 : (Nat × Int64 × Int32 × Hp) → Res Hp} (hκ117 : ∀ (o0 : Nat) (y3 : Int64) (x5 : Int32) (h : Hp), κ117 (o0, y3, x5, h) = some z → Ends toGI 0 194 5 3 z 117 (spr (mtM 194) [0, 3, 5] [.ref o0, .long y3, .int x5]) [] h) {o0 : Nat} {y3 : Int64} {x5 : Int32} {x6 : Int32} {h : Hp} (hz : loopC (La_digestFrom_165 κ117  ) FU (o0, y3, x5, x6, h) = some z) : Ends toGI 0 194 5 3 z 165 (spr (mtM 194) [0, 3, 5, 6] [.ref o0, .long y3, .int x5, .int x6]) [] h := by
  refine loop_E (b := La_digestFrom_165 κ117  ) (P := fun s => match s with | (o0, y3, x5, x6, h) => Ends toGI 0 194 5 3 z 165 (spr (mtM 194) [0, 3, 5, 6] [.ref o0, .long y3, .int x5, .int x6]) [] h) (fun s κ165 hκ hz => ?_) FU (o0, y3, x5, x6, h) hz
  obtain ⟨o0, y3, x5, x6, h⟩ := s
  have hκ165 : ∀ (o0 : Nat) (y3 : Int64) (x5 : Int32) (x6 : Int32) (h : Hp), κ165 (o0, y3, x5, x6, h) = some z → Ends toGI 0 194 5 3 z 165 (spr (mtM 194) [0, 3, 5, 6] [.ref o0, .long y3, .int x5, .int x6]) [] h := fun o0 y3 x5 x6 h q => hκ (o0, y3, x5, x6, h) q
  exact exec_E OI_ok kc_La_digestFrom so_La_digestFrom (runF_E OI_ok kc_La_digestFrom so_La_digestFrom (List.forall_mem_cons.mpr ⟨(by
    intro L st h vs hp hf
    dsimp only at hf
    split at hf
    · exact Ends.at hp (hκ117 _ _ _ _ hf)
    · cases hf), List.forall_mem_cons.mpr ⟨(by
    intro L st h vs hp hf
    dsimp only at hf
    split at hf
    · exact Ends.at hp (hκ165 _ _ _ _ _ hf)
    · cases hf), fun _ h => absurd h List.not_mem_nil⟩⟩) 400) ((e_La_digestFrom_165 κ117 κ165 o0 y3 x5 x6 h).symm.trans hz)
set_option maxRecDepth 100000 in
theorem E_La_digestFrom_117 {z : Option Value × Hp} {o0 : Nat} {y3 : Int64} {x5 : Int32} {h : Hp} (hz : loopC (La_digestFrom_117   ) FU (o0, y3, x5, h) = some z) : Ends toGI 0 194 5 3 z 117 (spr (mtM 194) [0, 3, 5] [.ref o0, .long y3, .int x5]) [] h := by
  refine loop_E (b := La_digestFrom_117   ) (P := fun s => match s with | (o0, y3, x5, h) => Ends toGI 0 194 5 3 z 117 (spr (mtM 194) [0, 3, 5] [.ref o0, .long y3, .int x5]) [] h) (fun s κ117 hκ hz => ?_) FU (o0, y3, x5, h) hz
  obtain ⟨o0, y3, x5, h⟩ := s
  have hκ117 : ∀ (o0 : Nat) (y3 : Int64) (x5 : Int32) (h : Hp), κ117 (o0, y3, x5, h) = some z → Ends toGI 0 194 5 3 z 117 (spr (mtM 194) [0, 3, 5] [.ref o0, .long y3, .int x5]) [] h := fun o0 y3 x5 h q => hκ (o0, y3, x5, h) q
  exact exec_E OI_ok kc_La_digestFrom so_La_digestFrom (runF_E OI_ok kc_La_digestFrom so_La_digestFrom (List.forall_mem_cons.mpr ⟨(by
    intro L st h vs hp hf
    dsimp only at hf
    split at hf
    · exact Ends.at hp (E_La_digestFrom_165 hκ117 hf)
    · cases hf), fun _ h => absurd h List.not_mem_nil⟩) 400) ((e_La_digestFrom_117  κ117 o0 y3 x5 h).symm.trans hz)
set_option maxRecDepth 100000 in
theorem E_La_digestFrom_54 {z : Option Value × Hp} {o0 : Nat} {y3 : Int64} {x5 : Int32} {h : Hp} (hz : loopC (La_digestFrom_54   ) FU (o0, y3, x5, h) = some z) : Ends toGI 0 194 5 3 z 54 (spr (mtM 194) [0, 3, 5] [.ref o0, .long y3, .int x5]) [] h := by
  refine loop_E (b := La_digestFrom_54   ) (P := fun s => match s with | (o0, y3, x5, h) => Ends toGI 0 194 5 3 z 54 (spr (mtM 194) [0, 3, 5] [.ref o0, .long y3, .int x5]) [] h) (fun s κ54 hκ hz => ?_) FU (o0, y3, x5, h) hz
  obtain ⟨o0, y3, x5, h⟩ := s
  have hκ54 : ∀ (o0 : Nat) (y3 : Int64) (x5 : Int32) (h : Hp), κ54 (o0, y3, x5, h) = some z → Ends toGI 0 194 5 3 z 54 (spr (mtM 194) [0, 3, 5] [.ref o0, .long y3, .int x5]) [] h := fun o0 y3 x5 h q => hκ (o0, y3, x5, h) q
  exact exec_E OI_ok kc_La_digestFrom so_La_digestFrom (runF_E OI_ok kc_La_digestFrom so_La_digestFrom (List.forall_mem_cons.mpr ⟨(by
    intro L st h vs hp hf
    dsimp only at hf
    split at hf
    · exact Ends.at hp (E_La_digestFrom_117 hf)
    · cases hf), List.forall_mem_cons.mpr ⟨(by
    intro L st h vs hp hf
    dsimp only at hf
    split at hf
    · exact Ends.at hp (hκ54 _ _ _ _ hf)
    · cases hf), fun _ h => absurd h List.not_mem_nil⟩⟩) 400) ((e_La_digestFrom_54  κ54 o0 y3 x5 h).symm.trans hz)
set_option maxRecDepth 100000 in
theorem E_La_digestFrom_17 {z : Option Value × Hp} {κ5 : (Nat × Int64 × Int32 × Hp) → Res Hp} (hκ5 : ∀ (o0 : Nat) (y3 : Int64) (x5 : Int32) (h : Hp), κ5 (o0, y3, x5, h) = some z → Ends toGI 0 194 5 3 z 5 (spr (mtM 194) [0, 3, 5] [.ref o0, .long y3, .int x5]) [] h) {o0 : Nat} {y3 : Int64} {x5 : Int32} {x6 : Int32} {h : Hp} (hz : loopC (La_digestFrom_17 κ5  ) FU (o0, y3, x5, x6, h) = some z) : Ends toGI 0 194 5 3 z 17 (spr (mtM 194) [0, 3, 5, 6] [.ref o0, .long y3, .int x5, .int x6]) [] h := by
  refine loop_E (b := La_digestFrom_17 κ5  ) (P := fun s => match s with | (o0, y3, x5, x6, h) => Ends toGI 0 194 5 3 z 17 (spr (mtM 194) [0, 3, 5, 6] [.ref o0, .long y3, .int x5, .int x6]) [] h) (fun s κ17 hκ hz => ?_) FU (o0, y3, x5, x6, h) hz
  obtain ⟨o0, y3, x5, x6, h⟩ := s
  have hκ17 : ∀ (o0 : Nat) (y3 : Int64) (x5 : Int32) (x6 : Int32) (h : Hp), κ17 (o0, y3, x5, x6, h) = some z → Ends toGI 0 194 5 3 z 17 (spr (mtM 194) [0, 3, 5, 6] [.ref o0, .long y3, .int x5, .int x6]) [] h := fun o0 y3 x5 x6 h q => hκ (o0, y3, x5, x6, h) q
  exact exec_E OI_ok kc_La_digestFrom so_La_digestFrom (runF_E OI_ok kc_La_digestFrom so_La_digestFrom (List.forall_mem_cons.mpr ⟨(by
    intro L st h vs hp hf
    dsimp only at hf
    split at hf
    · exact Ends.at hp (hκ5 _ _ _ _ hf)
    · cases hf), List.forall_mem_cons.mpr ⟨(by
    intro L st h vs hp hf
    dsimp only at hf
    split at hf
    · exact Ends.at hp (hκ17 _ _ _ _ _ hf)
    · cases hf), fun _ h => absurd h List.not_mem_nil⟩⟩) 400) ((e_La_digestFrom_17 κ5 κ17 o0 y3 x5 x6 h).symm.trans hz)
set_option maxRecDepth 100000 in
theorem E_La_digestFrom_5 {z : Option Value × Hp} {o0 : Nat} {y3 : Int64} {x5 : Int32} {h : Hp} (hz : loopC (La_digestFrom_5   ) FU (o0, y3, x5, h) = some z) : Ends toGI 0 194 5 3 z 5 (spr (mtM 194) [0, 3, 5] [.ref o0, .long y3, .int x5]) [] h := by
  refine loop_E (b := La_digestFrom_5   ) (P := fun s => match s with | (o0, y3, x5, h) => Ends toGI 0 194 5 3 z 5 (spr (mtM 194) [0, 3, 5] [.ref o0, .long y3, .int x5]) [] h) (fun s κ5 hκ hz => ?_) FU (o0, y3, x5, h) hz
  obtain ⟨o0, y3, x5, h⟩ := s
  have hκ5 : ∀ (o0 : Nat) (y3 : Int64) (x5 : Int32) (h : Hp), κ5 (o0, y3, x5, h) = some z → Ends toGI 0 194 5 3 z 5 (spr (mtM 194) [0, 3, 5] [.ref o0, .long y3, .int x5]) [] h := fun o0 y3 x5 h q => hκ (o0, y3, x5, h) q
  exact exec_E OI_ok kc_La_digestFrom so_La_digestFrom (runF_E OI_ok kc_La_digestFrom so_La_digestFrom (List.forall_mem_cons.mpr ⟨(by
    intro L st h vs hp hf
    dsimp only at hf
    split at hf
    · exact Ends.at hp (E_La_digestFrom_54 hf)
    · cases hf), List.forall_mem_cons.mpr ⟨(by
    intro L st h vs hp hf
    dsimp only at hf
    split at hf
    · exact Ends.at hp (E_La_digestFrom_17 hκ5 hf)
    · cases hf), fun _ h => absurd h List.not_mem_nil⟩⟩) 400) ((e_La_digestFrom_5  κ5 o0 y3 x5 h).symm.trans hz)
set_option maxRecDepth 100000 in
theorem ok_La_digestFrom : ∀ as h z, sF_La_digestFrom as h = some z → Okm toGI 194 5 as h z := by
  intro as h z hz
  unfold sF_La_digestFrom at hz
  split at hz
  · next o0 y1 =>
    exact okm_of (own := 0) (rk := 3) (by decide +kernel) (by decide +kernel) (by omega) rfl (Nat.le_of_ble_eq_true rfl) (exec_E OI_ok kc_La_digestFrom so_La_digestFrom (runF_E OI_ok kc_La_digestFrom so_La_digestFrom (List.forall_mem_cons.mpr ⟨(by
          intro L st h vs hp hf
          dsimp only at hf
          split at hf
          · exact Ends.at hp (E_La_digestFrom_5 hf)
          · cases hf), fun _ h => absurd h List.not_mem_nil⟩) 400) ((e_La_digestFrom_0 o0 y1 h).symm.trans hz))
  · cases hz
set_option maxRecDepth 100000 in
theorem kc_Sh_digestFrom : k_Sh_digestFrom.all (chkE 4 (mtC 231)) = true := by decide +kernel
theorem so_Sh_digestFrom : SemOK toGI S_Sh_digestFrom 1 := fun _ h => absurd h List.not_mem_nil
set_option maxRecDepth 100000 in
theorem E_Sh_digestFrom_15 {z : Option Value × Hp} {o0 : Nat} {y3 : Int64} {x5 : Int32} {h : Hp} (hz : loopC (Sh_digestFrom_15   ) FU (o0, y3, x5, h) = some z) : Ends toGI 4 231 1 3 z 15 (spr (mtM 231) [0, 3, 5] [.ref o0, .long y3, .int x5]) [] h := by
  refine loop_E (b := Sh_digestFrom_15   ) (P := fun s => match s with | (o0, y3, x5, h) => Ends toGI 4 231 1 3 z 15 (spr (mtM 231) [0, 3, 5] [.ref o0, .long y3, .int x5]) [] h) (fun s κ15 hκ hz => ?_) FU (o0, y3, x5, h) hz
  obtain ⟨o0, y3, x5, h⟩ := s
  have hκ15 : ∀ (o0 : Nat) (y3 : Int64) (x5 : Int32) (h : Hp), κ15 (o0, y3, x5, h) = some z → Ends toGI 4 231 1 3 z 15 (spr (mtM 231) [0, 3, 5] [.ref o0, .long y3, .int x5]) [] h := fun o0 y3 x5 h q => hκ (o0, y3, x5, h) q
  exact exec_E OI_ok kc_Sh_digestFrom so_Sh_digestFrom (runF_E OI_ok kc_Sh_digestFrom so_Sh_digestFrom (List.forall_mem_cons.mpr ⟨(by
    intro L st h vs hp hf
    dsimp only at hf
    split at hf
    · exact Ends.at hp (hκ15 _ _ _ _ hf)
    · cases hf), fun _ h => absurd h List.not_mem_nil⟩) 400) ((e_Sh_digestFrom_15  κ15 o0 y3 x5 h).symm.trans hz)
set_option maxRecDepth 100000 in
theorem ok_Sh_digestFrom : ∀ as h z, sF_Sh_digestFrom as h = some z → Okm toGI 231 1 as h z := by
  intro as h z hz
  unfold sF_Sh_digestFrom at hz
  split at hz
  · next o0 y1 =>
    exact okm_of (own := 4) (rk := 3) (by decide +kernel) (by decide +kernel) (by omega) rfl (Nat.le_of_ble_eq_true rfl) (exec_E OI_ok kc_Sh_digestFrom so_Sh_digestFrom (runF_E OI_ok kc_Sh_digestFrom so_Sh_digestFrom (List.forall_mem_cons.mpr ⟨(by
          intro L st h vs hp hf
          dsimp only at hf
          split at hf
          · exact Ends.at hp (E_Sh_digestFrom_15 hf)
          · cases hf), fun _ h => absurd h List.not_mem_nil⟩) 400) ((e_Sh_digestFrom_0 o0 y1 h).symm.trans hz))
  · cases hz
set_option maxRecDepth 100000 in
theorem kc_Bp_digest : k_Bp_digest.all (chkE 6 (mtC 49)) = true := by decide +kernel
theorem so_Bp_digest : SemOK toGI S_Bp_digest 6 := List.forall_mem_cons.mpr ⟨⟨mt_194, 5, by omega, ok_La_digestFrom⟩, List.forall_mem_cons.mpr ⟨⟨mt_231, 1, by omega, ok_Sh_digestFrom⟩, List.forall_mem_cons.mpr ⟨⟨mt_46, 4, by omega, ok_Bp_count⟩, fun _ h => absurd h List.not_mem_nil⟩⟩⟩
set_option maxRecDepth 100000 in
theorem E_Bp_digest_110 {z : Option Value × Hp} {y1 : Int64} {x3 : Int32} {h : Hp} (hz : loopC (Bp_digest_110   ) FU (y1, x3, h) = some z) : Ends toGI 6 49 6 3 z 110 (spr (mtM 49) [0, 1, 3] [.ref 0, .long y1, .int x3]) [] h := by
  refine loop_E (b := Bp_digest_110   ) (P := fun s => match s with | (y1, x3, h) => Ends toGI 6 49 6 3 z 110 (spr (mtM 49) [0, 1, 3] [.ref 0, .long y1, .int x3]) [] h) (fun s κ110 hκ hz => ?_) FU (y1, x3, h) hz
  obtain ⟨y1, x3, h⟩ := s
  have hκ110 : ∀ (y1 : Int64) (x3 : Int32) (h : Hp), κ110 (y1, x3, h) = some z → Ends toGI 6 49 6 3 z 110 (spr (mtM 49) [0, 1, 3] [.ref 0, .long y1, .int x3]) [] h := fun y1 x3 h q => hκ (y1, x3, h) q
  exact exec_E OI_ok kc_Bp_digest so_Bp_digest (runF_E OI_ok kc_Bp_digest so_Bp_digest (List.forall_mem_cons.mpr ⟨(by
    intro L st h vs hp hf
    dsimp only at hf
    split at hf
    · split at hf
      · next hq9 =>
        have hq9 := Nat.eq_of_beq_eq_true hq9
        subst hq9
        exact Ends.at hp (hκ110 _ _ _ hf)
      · cases hf
    · cases hf), fun _ h => absurd h List.not_mem_nil⟩) 400) ((e_Bp_digest_110  κ110 y1 x3 h).symm.trans hz)
set_option maxRecDepth 100000 in
theorem E_Bp_digest_85 {z : Option Value × Hp} {y1 : Int64} {x3 : Int32} {h : Hp} (hz : loopC (Bp_digest_85   ) FU (y1, x3, h) = some z) : Ends toGI 6 49 6 3 z 85 (spr (mtM 49) [0, 1, 3] [.ref 0, .long y1, .int x3]) [] h := by
  refine loop_E (b := Bp_digest_85   ) (P := fun s => match s with | (y1, x3, h) => Ends toGI 6 49 6 3 z 85 (spr (mtM 49) [0, 1, 3] [.ref 0, .long y1, .int x3]) [] h) (fun s κ85 hκ hz => ?_) FU (y1, x3, h) hz
  obtain ⟨y1, x3, h⟩ := s
  have hκ85 : ∀ (y1 : Int64) (x3 : Int32) (h : Hp), κ85 (y1, x3, h) = some z → Ends toGI 6 49 6 3 z 85 (spr (mtM 49) [0, 1, 3] [.ref 0, .long y1, .int x3]) [] h := fun y1 x3 h q => hκ (y1, x3, h) q
  exact exec_E OI_ok kc_Bp_digest so_Bp_digest (runF_E OI_ok kc_Bp_digest so_Bp_digest (List.forall_mem_cons.mpr ⟨(by
    intro L st h vs hp hf
    dsimp only at hf
    split at hf
    · split at hf
      · next hq9 =>
        have hq9 := Nat.eq_of_beq_eq_true hq9
        subst hq9
        exact Ends.at hp (E_Bp_digest_110 hf)
      · cases hf
    · cases hf), List.forall_mem_cons.mpr ⟨(by
    intro L st h vs hp hf
    dsimp only at hf
    split at hf
    · split at hf
      · next hq9 =>
        have hq9 := Nat.eq_of_beq_eq_true hq9
        subst hq9
        exact Ends.at hp (hκ85 _ _ _ hf)
      · cases hf
    · cases hf), fun _ h => absurd h List.not_mem_nil⟩⟩) 400) ((e_Bp_digest_85  κ85 y1 x3 h).symm.trans hz)
set_option maxRecDepth 100000 in
theorem E_Bp_digest_42 {z : Option Value × Hp} {y1 : Int64} {x3 : Int32} {h : Hp} (hz : loopC (Bp_digest_42   ) FU (y1, x3, h) = some z) : Ends toGI 6 49 6 3 z 42 (spr (mtM 49) [0, 1, 3] [.ref 0, .long y1, .int x3]) [] h := by
  refine loop_E (b := Bp_digest_42   ) (P := fun s => match s with | (y1, x3, h) => Ends toGI 6 49 6 3 z 42 (spr (mtM 49) [0, 1, 3] [.ref 0, .long y1, .int x3]) [] h) (fun s κ42 hκ hz => ?_) FU (y1, x3, h) hz
  obtain ⟨y1, x3, h⟩ := s
  have hκ42 : ∀ (y1 : Int64) (x3 : Int32) (h : Hp), κ42 (y1, x3, h) = some z → Ends toGI 6 49 6 3 z 42 (spr (mtM 49) [0, 1, 3] [.ref 0, .long y1, .int x3]) [] h := fun y1 x3 h q => hκ (y1, x3, h) q
  exact exec_E OI_ok kc_Bp_digest so_Bp_digest (runF_E OI_ok kc_Bp_digest so_Bp_digest (List.forall_mem_cons.mpr ⟨(by
    intro L st h vs hp hf
    dsimp only at hf
    split at hf
    · split at hf
      · next hq9 =>
        have hq9 := Nat.eq_of_beq_eq_true hq9
        subst hq9
        exact Ends.at hp (E_Bp_digest_85 hf)
      · cases hf
    · cases hf), List.forall_mem_cons.mpr ⟨(by
    intro L st h vs hp hf
    dsimp only at hf
    split at hf
    · split at hf
      · next hq9 =>
        have hq9 := Nat.eq_of_beq_eq_true hq9
        subst hq9
        exact Ends.at hp (hκ42 _ _ _ hf)
      · cases hf
    · cases hf), fun _ h => absurd h List.not_mem_nil⟩⟩) 400) ((e_Bp_digest_42  κ42 y1 x3 h).symm.trans hz)
set_option maxRecDepth 100000 in
theorem E_Bp_digest_6 {z : Option Value × Hp} {y1 : Int64} {x3 : Int32} {h : Hp} (hz : loopC (Bp_digest_6   ) FU (y1, x3, h) = some z) : Ends toGI 6 49 6 3 z 6 (spr (mtM 49) [0, 1, 3] [.ref 0, .long y1, .int x3]) [] h := by
  refine loop_E (b := Bp_digest_6   ) (P := fun s => match s with | (y1, x3, h) => Ends toGI 6 49 6 3 z 6 (spr (mtM 49) [0, 1, 3] [.ref 0, .long y1, .int x3]) [] h) (fun s κ6 hκ hz => ?_) FU (y1, x3, h) hz
  obtain ⟨y1, x3, h⟩ := s
  have hκ6 : ∀ (y1 : Int64) (x3 : Int32) (h : Hp), κ6 (y1, x3, h) = some z → Ends toGI 6 49 6 3 z 6 (spr (mtM 49) [0, 1, 3] [.ref 0, .long y1, .int x3]) [] h := fun y1 x3 h q => hκ (y1, x3, h) q
  exact exec_E OI_ok kc_Bp_digest so_Bp_digest (runF_E OI_ok kc_Bp_digest so_Bp_digest (List.forall_mem_cons.mpr ⟨(by
    intro L st h vs hp hf
    dsimp only at hf
    split at hf
    · split at hf
      · next hq9 =>
        have hq9 := Nat.eq_of_beq_eq_true hq9
        subst hq9
        exact Ends.at hp (E_Bp_digest_42 hf)
      · cases hf
    · cases hf), List.forall_mem_cons.mpr ⟨(by
    intro L st h vs hp hf
    dsimp only at hf
    split at hf
    · split at hf
      · next hq9 =>
        have hq9 := Nat.eq_of_beq_eq_true hq9
        subst hq9
        exact Ends.at hp (hκ6 _ _ _ hf)
      · cases hf
    · cases hf), fun _ h => absurd h List.not_mem_nil⟩⟩) 400) ((e_Bp_digest_6  κ6 y1 x3 h).symm.trans hz)
set_option maxRecDepth 100000 in
theorem ok_Bp_digest : ∀ as h z, sF_Bp_digest as h = some z → Okm toGI 49 6 as h z := by
  intro as h z hz
  unfold sF_Bp_digest at hz
  split at hz
  · next f0 =>
    split at hz
    · next hq9 =>
      have hq9 := Nat.eq_of_beq_eq_true hq9
      subst hq9
      exact okm_of (own := 6) (rk := 3) (by decide +kernel) (by decide +kernel) (by omega) rfl (Nat.le_of_ble_eq_true rfl) (exec_E OI_ok kc_Bp_digest so_Bp_digest (runF_E OI_ok kc_Bp_digest so_Bp_digest (List.forall_mem_cons.mpr ⟨(by
          intro L st h vs hp hf
          dsimp only at hf
          split at hf
          · split at hf
            · next hq9 =>
              have hq9 := Nat.eq_of_beq_eq_true hq9
              subst hq9
              exact Ends.at hp (E_Bp_digest_6 hf)
            · cases hf
          · cases hf), fun _ h => absurd h List.not_mem_nil⟩) 400) ((e_Bp_digest_0  h).symm.trans hz))
    · cases hz
  · cases hz
set_option maxRecDepth 100000 in
theorem kc_Mo_in : k_Mo_in.all (chkE 7 (mtC 71)) = true := by decide +kernel
theorem so_Mo_in : SemOK toGI S_Mo_in 1 := fun _ h => absurd h List.not_mem_nil
set_option maxRecDepth 100000 in
theorem ok_Mo_in : ∀ as h z, sF_Mo_in as h = some z → Okm toGI 71 1 as h z := by
  intro as h z hz
  unfold sF_Mo_in at hz
  split at hz
  · next x0 x1 x2 =>
    exact okm_of (own := 7) (rk := 2) (by decide +kernel) (by decide +kernel) (by omega) rfl (Nat.le_of_ble_eq_true rfl) (exec_E OI_ok kc_Mo_in so_Mo_in (runF_E OI_ok kc_Mo_in so_Mo_in (fun _ h => absurd h List.not_mem_nil) 400) ((e_Mo_in_0 x0 x1 x2 h).symm.trans hz))
  · cases hz
set_option maxRecDepth 100000 in
theorem kc_Mo_meetWith : k_Mo_meetWith.all (chkE 7 (mtC 72)) = true := by decide +kernel
theorem so_Mo_meetWith : SemOK toGI S_Mo_meetWith 1 := fun _ h => absurd h List.not_mem_nil
set_option maxRecDepth 100000 in
theorem ok_Mo_meetWith : ∀ as h z, sF_Mo_meetWith as h = some z → Okm toGI 72 1 as h z := by
  intro as h z hz
  unfold sF_Mo_meetWith at hz
  split at hz
  · next f0 x1 =>
    split at hz
    · next hq9 =>
      have hq9 := Nat.eq_of_beq_eq_true hq9
      subst hq9
      exact okm_of (own := 7) (rk := 1) (by decide +kernel) (by decide +kernel) (by omega) rfl (Nat.le_of_ble_eq_true rfl) (exec_E OI_ok kc_Mo_meetWith so_Mo_meetWith (runF_E OI_ok kc_Mo_meetWith so_Mo_meetWith (fun _ h => absurd h List.not_mem_nil) 400) ((e_Mo_meetWith_0 x1 h).symm.trans hz))
    · cases hz
  · cases hz
set_option maxRecDepth 100000 in
theorem kc_Mo_ask : k_Mo_ask.all (chkE 7 (mtC 73)) = true := by decide +kernel
theorem so_Mo_ask : SemOK toGI S_Mo_ask 1 := fun _ h => absurd h List.not_mem_nil
set_option maxRecDepth 100000 in
theorem ok_Mo_ask : ∀ as h z, sF_Mo_ask as h = some z → Okm toGI 73 1 as h z := by
  intro as h z hz
  unfold sF_Mo_ask at hz
  split at hz
  · next f0 x1 x2 =>
    split at hz
    · next hq9 =>
      have hq9 := Nat.eq_of_beq_eq_true hq9
      subst hq9
      exact okm_of (own := 7) (rk := 1) (by decide +kernel) (by decide +kernel) (by omega) rfl (Nat.le_of_ble_eq_true rfl) (exec_E OI_ok kc_Mo_ask so_Mo_ask (runF_E OI_ok kc_Mo_ask so_Mo_ask (fun _ h => absurd h List.not_mem_nil) 400) ((e_Mo_ask_0 x1 x2 h).symm.trans hz))
    · cases hz
  · cases hz
set_option maxRecDepth 100000 in
theorem kc_Mo_has : k_Mo_has.all (chkE 7 (mtC 74)) = true := by decide +kernel
theorem so_Mo_has : SemOK toGI S_Mo_has 1 := fun _ h => absurd h List.not_mem_nil
set_option maxRecDepth 100000 in
theorem ok_Mo_has : ∀ as h z, sF_Mo_has as h = some z → Okm toGI 74 1 as h z := by
  intro as h z hz
  unfold sF_Mo_has at hz
  split at hz
  · next x0 x1 =>
    exact okm_of (own := 7) (rk := 2) (by decide +kernel) (by decide +kernel) (by omega) rfl (Nat.le_of_ble_eq_true rfl) (exec_E OI_ok kc_Mo_has so_Mo_has (runF_E OI_ok kc_Mo_has so_Mo_has (fun _ h => absurd h List.not_mem_nil) 400) ((e_Mo_has_0 x0 x1 h).symm.trans hz))
  · cases hz
set_option maxRecDepth 100000 in
theorem kc_Mo_sizeOf : k_Mo_sizeOf.all (chkE 7 (mtC 75)) = true := by decide +kernel
theorem so_Mo_sizeOf : SemOK toGI S_Mo_sizeOf 1 := fun _ h => absurd h List.not_mem_nil
set_option maxRecDepth 100000 in
theorem E_Mo_sizeOf_4 {z : Option Value × Hp} {x0 : Int32} {x1 : Int32} {x2 : Int32} {h : Hp} (hz : loopC (Mo_sizeOf_4   ) FU (x0, x1, x2, h) = some z) : Ends toGI 7 75 1 1 z 4 (spr (mtM 75) [0, 1, 2] [.int x0, .int x1, .int x2]) [] h := by
  refine loop_E (b := Mo_sizeOf_4   ) (P := fun s => match s with | (x0, x1, x2, h) => Ends toGI 7 75 1 1 z 4 (spr (mtM 75) [0, 1, 2] [.int x0, .int x1, .int x2]) [] h) (fun s κ4 hκ hz => ?_) FU (x0, x1, x2, h) hz
  obtain ⟨x0, x1, x2, h⟩ := s
  have hκ4 : ∀ (x0 : Int32) (x1 : Int32) (x2 : Int32) (h : Hp), κ4 (x0, x1, x2, h) = some z → Ends toGI 7 75 1 1 z 4 (spr (mtM 75) [0, 1, 2] [.int x0, .int x1, .int x2]) [] h := fun x0 x1 x2 h q => hκ (x0, x1, x2, h) q
  exact exec_E OI_ok kc_Mo_sizeOf so_Mo_sizeOf (runF_E OI_ok kc_Mo_sizeOf so_Mo_sizeOf (List.forall_mem_cons.mpr ⟨(by
    intro L st h vs hp hf
    dsimp only at hf
    split at hf
    · exact Ends.at hp (hκ4 _ _ _ _ hf)
    · cases hf), fun _ h => absurd h List.not_mem_nil⟩) 400) ((e_Mo_sizeOf_4  κ4 x0 x1 x2 h).symm.trans hz)
set_option maxRecDepth 100000 in
theorem ok_Mo_sizeOf : ∀ as h z, sF_Mo_sizeOf as h = some z → Okm toGI 75 1 as h z := by
  intro as h z hz
  unfold sF_Mo_sizeOf at hz
  split at hz
  · next x0 =>
    exact okm_of (own := 7) (rk := 1) (by decide +kernel) (by decide +kernel) (by omega) rfl (Nat.le_of_ble_eq_true rfl) (exec_E OI_ok kc_Mo_sizeOf so_Mo_sizeOf (runF_E OI_ok kc_Mo_sizeOf so_Mo_sizeOf (List.forall_mem_cons.mpr ⟨(by
          intro L st h vs hp hf
          dsimp only at hf
          split at hf
          · exact Ends.at hp (E_Mo_sizeOf_4 hf)
          · cases hf), fun _ h => absurd h List.not_mem_nil⟩) 400) ((e_Mo_sizeOf_0 x0 h).symm.trans hz))
  · cases hz
set_option maxRecDepth 100000 in
theorem kc_Mo_isRow : k_Mo_isRow.all (chkE 7 (mtC 76)) = true := by decide +kernel
theorem so_Mo_isRow : SemOK toGI S_Mo_isRow 2 := List.forall_mem_cons.mpr ⟨⟨mt_71, 1, by omega, ok_Mo_in⟩, fun _ h => absurd h List.not_mem_nil⟩
set_option maxRecDepth 100000 in
theorem ok_Mo_isRow : ∀ as h z, sF_Mo_isRow as h = some z → Okm toGI 76 2 as h z := by
  intro as h z hz
  unfold sF_Mo_isRow at hz
  split at hz
  · next x0 =>
    exact okm_of (own := 7) (rk := 2) (by decide +kernel) (by decide +kernel) (by omega) rfl (Nat.le_of_ble_eq_true rfl) (exec_E OI_ok kc_Mo_isRow so_Mo_isRow (runF_E OI_ok kc_Mo_isRow so_Mo_isRow (fun _ h => absurd h List.not_mem_nil) 400) ((e_Mo_isRow_0 x0 h).symm.trans hz))
  · cases hz
set_option maxRecDepth 100000 in
theorem kc_Mo_isText : k_Mo_isText.all (chkE 7 (mtC 77)) = true := by decide +kernel
theorem so_Mo_isText : SemOK toGI S_Mo_isText 2 := List.forall_mem_cons.mpr ⟨⟨mt_71, 1, by omega, ok_Mo_in⟩, fun _ h => absurd h List.not_mem_nil⟩
set_option maxRecDepth 100000 in
theorem ok_Mo_isText : ∀ as h z, sF_Mo_isText as h = some z → Okm toGI 77 2 as h z := by
  intro as h z hz
  unfold sF_Mo_isText at hz
  split at hz
  · next x0 =>
    exact okm_of (own := 7) (rk := 2) (by decide +kernel) (by decide +kernel) (by omega) rfl (Nat.le_of_ble_eq_true rfl) (exec_E OI_ok kc_Mo_isText so_Mo_isText (runF_E OI_ok kc_Mo_isText so_Mo_isText (fun _ h => absurd h List.not_mem_nil) 400) ((e_Mo_isText_0 x0 h).symm.trans hz))
  · cases hz
set_option maxRecDepth 100000 in
theorem kc_Mo_askedRow : k_Mo_askedRow.all (chkE 7 (mtC 78)) = true := by decide +kernel
theorem so_Mo_askedRow : SemOK toGI S_Mo_askedRow 3 := List.forall_mem_cons.mpr ⟨⟨mt_76, 2, by omega, ok_Mo_isRow⟩, List.forall_mem_cons.mpr ⟨⟨mt_72, 1, by omega, ok_Mo_meetWith⟩, fun _ h => absurd h List.not_mem_nil⟩⟩
set_option maxRecDepth 100000 in
theorem ok_Mo_askedRow : ∀ as h z, sF_Mo_askedRow as h = some z → Okm toGI 78 3 as h z := by
  intro as h z hz
  unfold sF_Mo_askedRow at hz
  split at hz
  · next f0 x1 =>
    split at hz
    · next hq9 =>
      have hq9 := Nat.eq_of_beq_eq_true hq9
      subst hq9
      exact okm_of (own := 7) (rk := 1) (by decide +kernel) (by decide +kernel) (by omega) rfl (Nat.le_of_ble_eq_true rfl) (exec_E OI_ok kc_Mo_askedRow so_Mo_askedRow (runF_E OI_ok kc_Mo_askedRow so_Mo_askedRow (fun _ h => absurd h List.not_mem_nil) 400) ((e_Mo_askedRow_0 x1 h).symm.trans hz))
    · cases hz
  · cases hz
set_option maxRecDepth 100000 in
theorem kc_Mo_askedText : k_Mo_askedText.all (chkE 7 (mtC 79)) = true := by decide +kernel
theorem so_Mo_askedText : SemOK toGI S_Mo_askedText 3 := List.forall_mem_cons.mpr ⟨⟨mt_77, 2, by omega, ok_Mo_isText⟩, List.forall_mem_cons.mpr ⟨⟨mt_72, 1, by omega, ok_Mo_meetWith⟩, fun _ h => absurd h List.not_mem_nil⟩⟩
set_option maxRecDepth 100000 in
theorem ok_Mo_askedText : ∀ as h z, sF_Mo_askedText as h = some z → Okm toGI 79 3 as h z := by
  intro as h z hz
  unfold sF_Mo_askedText at hz
  split at hz
  · next f0 x1 =>
    split at hz
    · next hq9 =>
      have hq9 := Nat.eq_of_beq_eq_true hq9
      subst hq9
      exact okm_of (own := 7) (rk := 1) (by decide +kernel) (by decide +kernel) (by omega) rfl (Nat.le_of_ble_eq_true rfl) (exec_E OI_ok kc_Mo_askedText so_Mo_askedText (runF_E OI_ok kc_Mo_askedText so_Mo_askedText (fun _ h => absurd h List.not_mem_nil) 400) ((e_Mo_askedText_0 x1 h).symm.trans hz))
    · cases hz
  · cases hz
set_option maxRecDepth 100000 in
theorem kc_Mo_rowAt : k_Mo_rowAt.all (chkE 7 (mtC 80)) = true := by decide +kernel
theorem so_Mo_rowAt : SemOK toGI S_Mo_rowAt 1 := fun _ h => absurd h List.not_mem_nil
set_option maxRecDepth 100000 in
theorem ok_Mo_rowAt : ∀ as h z, sF_Mo_rowAt as h = some z → Okm toGI 80 1 as h z := by
  intro as h z hz
  unfold sF_Mo_rowAt at hz
  split at hz
  · next f0 x1 x2 =>
    split at hz
    · next hq9 =>
      have hq9 := Nat.eq_of_beq_eq_true hq9
      subst hq9
      exact okm_of (own := 7) (rk := 1) (by decide +kernel) (by decide +kernel) (by omega) rfl (Nat.le_of_ble_eq_true rfl) (exec_E OI_ok kc_Mo_rowAt so_Mo_rowAt (runF_E OI_ok kc_Mo_rowAt so_Mo_rowAt (fun _ h => absurd h List.not_mem_nil) 400) ((e_Mo_rowAt_0 x1 x2 h).symm.trans hz))
    · cases hz
  · cases hz
set_option maxRecDepth 100000 in
theorem kc_Mo_setRow : k_Mo_setRow.all (chkE 7 (mtC 81)) = true := by decide +kernel
theorem so_Mo_setRow : SemOK toGI S_Mo_setRow 1 := fun _ h => absurd h List.not_mem_nil
set_option maxRecDepth 100000 in
theorem ok_Mo_setRow : ∀ as h z, sF_Mo_setRow as h = some z → Okm toGI 81 1 as h z := by
  intro as h z hz
  unfold sF_Mo_setRow at hz
  split at hz
  · next f0 x1 x2 x3 =>
    split at hz
    · next hq9 =>
      have hq9 := Nat.eq_of_beq_eq_true hq9
      subst hq9
      exact okm_of (own := 7) (rk := 0) (by decide +kernel) (by decide +kernel) (by omega) rfl (Nat.le_of_ble_eq_true rfl) (exec_E OI_ok kc_Mo_setRow so_Mo_setRow (runF_E OI_ok kc_Mo_setRow so_Mo_setRow (fun _ h => absurd h List.not_mem_nil) 400) ((e_Mo_setRow_0 x1 x2 x3 h).symm.trans hz))
    · cases hz
  · cases hz
set_option maxRecDepth 100000 in
theorem kc_Mo_row : k_Mo_row.all (chkE 7 (mtC 82)) = true := by decide +kernel
theorem so_Mo_row : SemOK toGI S_Mo_row 3 := List.forall_mem_cons.mpr ⟨⟨mt_76, 2, by omega, ok_Mo_isRow⟩, List.forall_mem_cons.mpr ⟨⟨mt_81, 1, by omega, ok_Mo_setRow⟩, List.forall_mem_cons.mpr ⟨⟨mt_72, 1, by omega, ok_Mo_meetWith⟩, fun _ h => absurd h List.not_mem_nil⟩⟩⟩
set_option maxRecDepth 100000 in
theorem E_Mo_row_34 {z : Option Value × Hp} {x1 : Int32} {x2 : Int32} {x3 : Int32} {h : Hp} (hz : loopC (Mo_row_34   ) FU (x1, x2, x3, h) = some z) : Ends toGI 7 82 3 1 z 34 (spr (mtM 82) [0, 1, 2, 3] [.ref 178, .int x1, .int x2, .int x3]) [] h := by
  refine loop_E (b := Mo_row_34   ) (P := fun s => match s with | (x1, x2, x3, h) => Ends toGI 7 82 3 1 z 34 (spr (mtM 82) [0, 1, 2, 3] [.ref 178, .int x1, .int x2, .int x3]) [] h) (fun s κ34 hκ hz => ?_) FU (x1, x2, x3, h) hz
  obtain ⟨x1, x2, x3, h⟩ := s
  have hκ34 : ∀ (x1 : Int32) (x2 : Int32) (x3 : Int32) (h : Hp), κ34 (x1, x2, x3, h) = some z → Ends toGI 7 82 3 1 z 34 (spr (mtM 82) [0, 1, 2, 3] [.ref 178, .int x1, .int x2, .int x3]) [] h := fun x1 x2 x3 h q => hκ (x1, x2, x3, h) q
  exact exec_E OI_ok kc_Mo_row so_Mo_row (runF_E OI_ok kc_Mo_row so_Mo_row (List.forall_mem_cons.mpr ⟨(by
    intro L st h vs hp hf
    dsimp only at hf
    split at hf
    · split at hf
      · next hq9 =>
        have hq9 := Nat.eq_of_beq_eq_true hq9
        subst hq9
        exact Ends.at hp (hκ34 _ _ _ _ hf)
      · cases hf
    · cases hf), fun _ h => absurd h List.not_mem_nil⟩) 400) ((e_Mo_row_34  κ34 x1 x2 x3 h).symm.trans hz)
set_option maxRecDepth 100000 in
theorem ok_Mo_row : ∀ as h z, sF_Mo_row as h = some z → Okm toGI 82 3 as h z := by
  intro as h z hz
  unfold sF_Mo_row at hz
  split at hz
  · next f0 x1 x2 =>
    split at hz
    · next hq9 =>
      have hq9 := Nat.eq_of_beq_eq_true hq9
      subst hq9
      exact okm_of (own := 7) (rk := 1) (by decide +kernel) (by decide +kernel) (by omega) rfl (Nat.le_of_ble_eq_true rfl) (exec_E OI_ok kc_Mo_row so_Mo_row (runF_E OI_ok kc_Mo_row so_Mo_row (List.forall_mem_cons.mpr ⟨(by
          intro L st h vs hp hf
          dsimp only at hf
          split at hf
          · split at hf
            · next hq9 =>
              have hq9 := Nat.eq_of_beq_eq_true hq9
              subst hq9
              exact Ends.at hp (E_Mo_row_34 hf)
            · cases hf
          · cases hf), fun _ h => absurd h List.not_mem_nil⟩) 400) ((e_Mo_row_0 x1 x2 h).symm.trans hz))
    · cases hz
  · cases hz
set_option maxRecDepth 100000 in
theorem kc_Mo_at : k_Mo_at.all (chkE 7 (mtC 83)) = true := by decide +kernel
theorem so_Mo_at : SemOK toGI S_Mo_at 4 := List.forall_mem_cons.mpr ⟨⟨mt_78, 3, by omega, ok_Mo_askedRow⟩, List.forall_mem_cons.mpr ⟨⟨mt_71, 1, by omega, ok_Mo_in⟩, List.forall_mem_cons.mpr ⟨⟨mt_72, 1, by omega, ok_Mo_meetWith⟩, List.forall_mem_cons.mpr ⟨⟨mt_80, 1, by omega, ok_Mo_rowAt⟩, List.forall_mem_cons.mpr ⟨⟨mt_73, 1, by omega, ok_Mo_ask⟩, fun _ h => absurd h List.not_mem_nil⟩⟩⟩⟩⟩
set_option maxRecDepth 100000 in
theorem ok_Mo_at : ∀ as h z, sF_Mo_at as h = some z → Okm toGI 83 4 as h z := by
  intro as h z hz
  unfold sF_Mo_at at hz
  split at hz
  · next f0 x1 x2 =>
    split at hz
    · next hq9 =>
      have hq9 := Nat.eq_of_beq_eq_true hq9
      subst hq9
      exact okm_of (own := 7) (rk := 1) (by decide +kernel) (by decide +kernel) (by omega) rfl (Nat.le_of_ble_eq_true rfl) (exec_E OI_ok kc_Mo_at so_Mo_at (runF_E OI_ok kc_Mo_at so_Mo_at (fun _ h => absurd h List.not_mem_nil) 400) ((e_Mo_at_0 x1 x2 h).symm.trans hz))
    · cases hz
  · cases hz
set_option maxRecDepth 100000 in
theorem kc_Mo_lay : k_Mo_lay.all (chkE 7 (mtC 84)) = true := by decide +kernel
theorem so_Mo_lay : SemOK toGI S_Mo_lay 5 := List.forall_mem_cons.mpr ⟨⟨mt_83, 4, by omega, ok_Mo_at⟩, List.forall_mem_cons.mpr ⟨⟨mt_81, 1, by omega, ok_Mo_setRow⟩, fun _ h => absurd h List.not_mem_nil⟩⟩
set_option maxRecDepth 100000 in
theorem ok_Mo_lay : ∀ as h z, sF_Mo_lay as h = some z → Okm toGI 84 5 as h z := by
  intro as h z hz
  unfold sF_Mo_lay at hz
  split at hz
  · next f0 x1 x2 x3 =>
    split at hz
    · next hq9 =>
      have hq9 := Nat.eq_of_beq_eq_true hq9
      subst hq9
      exact okm_of (own := 7) (rk := 1) (by decide +kernel) (by decide +kernel) (by omega) rfl (Nat.le_of_ble_eq_true rfl) (exec_E OI_ok kc_Mo_lay so_Mo_lay (runF_E OI_ok kc_Mo_lay so_Mo_lay (fun _ h => absurd h List.not_mem_nil) 400) ((e_Mo_lay_0 x1 x2 x3 h).symm.trans hz))
    · cases hz
  · cases hz
set_option maxRecDepth 100000 in
theorem kc_Mo_tear : k_Mo_tear.all (chkE 7 (mtC 85)) = true := by decide +kernel
theorem so_Mo_tear : SemOK toGI S_Mo_tear 4 := List.forall_mem_cons.mpr ⟨⟨mt_78, 3, by omega, ok_Mo_askedRow⟩, fun _ h => absurd h List.not_mem_nil⟩
set_option maxRecDepth 100000 in
theorem ok_Mo_tear : ∀ as h z, sF_Mo_tear as h = some z → Okm toGI 85 4 as h z := by
  intro as h z hz
  unfold sF_Mo_tear at hz
  split at hz
  · next f0 x1 =>
    split at hz
    · next hq9 =>
      have hq9 := Nat.eq_of_beq_eq_true hq9
      subst hq9
      exact okm_of (own := 7) (rk := 1) (by decide +kernel) (by decide +kernel) (by omega) rfl (Nat.le_of_ble_eq_true rfl) (exec_E OI_ok kc_Mo_tear so_Mo_tear (runF_E OI_ok kc_Mo_tear so_Mo_tear (fun _ h => absurd h List.not_mem_nil) 400) ((e_Mo_tear_0 x1 h).symm.trans hz))
    · cases hz
  · cases hz
