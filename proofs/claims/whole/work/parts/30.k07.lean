set_option maxRecDepth 100000 in
theorem kc_Mo_on : k_Mo_on.all (chkE 7 (mtC 130)) = true := by decide +kernel
theorem so_Mo_on : SemOK toGI S_Mo_on 2 := List.forall_mem_cons.mpr ⟨⟨mt_71, 1, by omega, ok_Mo_in⟩, List.forall_mem_cons.mpr ⟨⟨mt_72, 1, by omega, ok_Mo_meetWith⟩, fun _ h => absurd h List.not_mem_nil⟩⟩
set_option maxRecDepth 100000 in
theorem E_Mo_on_131 {z : Option Value × Hp} {x2 : Int32} {x3 : Int32} {h : Hp} (hz : loopC (Mo_on_131   ) FU (x2, x3, h) = some z) : Ends toGI 7 130 2 1 z 131 (spr (mtM 130) [0, 2, 3] [.ref 178, .int x2, .int x3]) [] h := by
  refine loop_E (b := Mo_on_131   ) (P := fun s => match s with | (x2, x3, h) => Ends toGI 7 130 2 1 z 131 (spr (mtM 130) [0, 2, 3] [.ref 178, .int x2, .int x3]) [] h) (fun s κ131 hκ hz => ?_) FU (x2, x3, h) hz
  obtain ⟨x2, x3, h⟩ := s
  have hκ131 : ∀ (x2 : Int32) (x3 : Int32) (h : Hp), κ131 (x2, x3, h) = some z → Ends toGI 7 130 2 1 z 131 (spr (mtM 130) [0, 2, 3] [.ref 178, .int x2, .int x3]) [] h := fun x2 x3 h q => hκ (x2, x3, h) q
  exact exec_E OI_ok kc_Mo_on so_Mo_on (runF_E OI_ok kc_Mo_on so_Mo_on (List.forall_mem_cons.mpr ⟨(by
    intro L st h vs hp hf
    dsimp only at hf
    split at hf
    · split at hf
      · next hq9 =>
        have hq9 := Nat.eq_of_beq_eq_true hq9
        subst hq9
        exact Ends.at hp (hκ131 _ _ _ hf)
      · cases hf
    · cases hf), fun _ h => absurd h List.not_mem_nil⟩) 400) ((e_Mo_on_131  κ131 x2 x3 h).symm.trans hz)
set_option maxRecDepth 100000 in
theorem E_Mo_on_100 {z : Option Value × Hp} {x2 : Int32} {x3 : Int32} {h : Hp} (hz : loopC (Mo_on_100   ) FU (x2, x3, h) = some z) : Ends toGI 7 130 2 1 z 100 (spr (mtM 130) [0, 2, 3] [.ref 178, .int x2, .int x3]) [] h := by
  refine loop_E (b := Mo_on_100   ) (P := fun s => match s with | (x2, x3, h) => Ends toGI 7 130 2 1 z 100 (spr (mtM 130) [0, 2, 3] [.ref 178, .int x2, .int x3]) [] h) (fun s κ100 hκ hz => ?_) FU (x2, x3, h) hz
  obtain ⟨x2, x3, h⟩ := s
  have hκ100 : ∀ (x2 : Int32) (x3 : Int32) (h : Hp), κ100 (x2, x3, h) = some z → Ends toGI 7 130 2 1 z 100 (spr (mtM 130) [0, 2, 3] [.ref 178, .int x2, .int x3]) [] h := fun x2 x3 h q => hκ (x2, x3, h) q
  exact exec_E OI_ok kc_Mo_on so_Mo_on (runF_E OI_ok kc_Mo_on so_Mo_on (List.forall_mem_cons.mpr ⟨(by
    intro L st h vs hp hf
    dsimp only at hf
    split at hf
    · split at hf
      · next hq9 =>
        have hq9 := Nat.eq_of_beq_eq_true hq9
        subst hq9
        exact Ends.at hp (E_Mo_on_131 hf)
      · cases hf
    · cases hf), List.forall_mem_cons.mpr ⟨(by
    intro L st h vs hp hf
    dsimp only at hf
    split at hf
    · split at hf
      · next hq9 =>
        have hq9 := Nat.eq_of_beq_eq_true hq9
        subst hq9
        exact Ends.at hp (hκ100 _ _ _ hf)
      · cases hf
    · cases hf), fun _ h => absurd h List.not_mem_nil⟩⟩) 400) ((e_Mo_on_100  κ100 x2 x3 h).symm.trans hz)
set_option maxRecDepth 100000 in
theorem E_Mo_on_70 {z : Option Value × Hp} {x2 : Int32} {x3 : Int32} {h : Hp} (hz : loopC (Mo_on_70   ) FU (x2, x3, h) = some z) : Ends toGI 7 130 2 1 z 70 (spr (mtM 130) [0, 2, 3] [.ref 178, .int x2, .int x3]) [] h := by
  refine loop_E (b := Mo_on_70   ) (P := fun s => match s with | (x2, x3, h) => Ends toGI 7 130 2 1 z 70 (spr (mtM 130) [0, 2, 3] [.ref 178, .int x2, .int x3]) [] h) (fun s κ70 hκ hz => ?_) FU (x2, x3, h) hz
  obtain ⟨x2, x3, h⟩ := s
  have hκ70 : ∀ (x2 : Int32) (x3 : Int32) (h : Hp), κ70 (x2, x3, h) = some z → Ends toGI 7 130 2 1 z 70 (spr (mtM 130) [0, 2, 3] [.ref 178, .int x2, .int x3]) [] h := fun x2 x3 h q => hκ (x2, x3, h) q
  exact exec_E OI_ok kc_Mo_on so_Mo_on (runF_E OI_ok kc_Mo_on so_Mo_on (List.forall_mem_cons.mpr ⟨(by
    intro L st h vs hp hf
    dsimp only at hf
    split at hf
    · split at hf
      · next hq9 =>
        have hq9 := Nat.eq_of_beq_eq_true hq9
        subst hq9
        exact Ends.at hp (E_Mo_on_100 hf)
      · cases hf
    · cases hf), List.forall_mem_cons.mpr ⟨(by
    intro L st h vs hp hf
    dsimp only at hf
    split at hf
    · split at hf
      · next hq9 =>
        have hq9 := Nat.eq_of_beq_eq_true hq9
        subst hq9
        exact Ends.at hp (hκ70 _ _ _ hf)
      · cases hf
    · cases hf), fun _ h => absurd h List.not_mem_nil⟩⟩) 400) ((e_Mo_on_70  κ70 x2 x3 h).symm.trans hz)
set_option maxRecDepth 100000 in
theorem ok_Mo_on : ∀ as h z, sF_Mo_on as h = some z → Okm toGI 130 2 as h z := by
  intro as h z hz
  unfold sF_Mo_on at hz
  split at hz
  · next f0 x1 =>
    split at hz
    · next hq9 =>
      have hq9 := Nat.eq_of_beq_eq_true hq9
      subst hq9
      exact okm_of (own := 7) (rk := 1) (by decide +kernel) (by decide +kernel) (by omega) rfl (Nat.le_of_ble_eq_true rfl) (exec_E OI_ok kc_Mo_on so_Mo_on (runF_E OI_ok kc_Mo_on so_Mo_on (List.forall_mem_cons.mpr ⟨(by
          intro L st h vs hp hf
          dsimp only at hf
          split at hf
          · split at hf
            · next hq9 =>
              have hq9 := Nat.eq_of_beq_eq_true hq9
              subst hq9
              exact Ends.at hp (E_Mo_on_70 hf)
            · cases hf
          · cases hf), fun _ h => absurd h List.not_mem_nil⟩) 400) ((e_Mo_on_0 x1 h).symm.trans hz))
    · cases hz
  · cases hz
set_option maxRecDepth 100000 in
theorem kc_Mo_soonOf : k_Mo_soonOf.all (chkE 7 (mtC 131)) = true := by decide +kernel
theorem so_Mo_soonOf : SemOK toGI S_Mo_soonOf 4 := List.forall_mem_cons.mpr ⟨⟨mt_74, 1, by omega, ok_Mo_has⟩, List.forall_mem_cons.mpr ⟨⟨mt_103, 3, by omega, ok_Mo_mayCarry⟩, List.forall_mem_cons.mpr ⟨⟨mt_120, 1, by omega, ok_Mo_takes⟩, List.forall_mem_cons.mpr ⟨⟨mt_104, 1, by omega, ok_Mo_metBy⟩, fun _ h => absurd h List.not_mem_nil⟩⟩⟩⟩
set_option maxRecDepth 100000 in
theorem E_Mo_soonOf_71 {z : Option Value × Hp} {κ8 : (Int32 × Int32 × Int32 × Int32 × Int32 × Int32 × Hp) → Res Hp} {κ32 : (Int32 × Int32 × Int32 × Int32 × Int32 × Int32 × Int32 × Int32 × Hp) → Res Hp} (hκ8 : ∀ (x1 : Int32) (x2 : Int32) (x3 : Int32) (x4 : Int32) (x5 : Int32) (x6 : Int32) (h : Hp), κ8 (x1, x2, x3, x4, x5, x6, h) = some z → Ends toGI 7 131 4 1 z 8 (spr (mtM 131) [0, 1, 2, 3, 4, 5, 6] [.ref 178, .int x1, .int x2, .int x3, .int x4, .int x5, .int x6]) [] h) (hκ32 : ∀ (x1 : Int32) (x2 : Int32) (x3 : Int32) (x4 : Int32) (x5 : Int32) (x6 : Int32) (x7 : Int32) (x8 : Int32) (h : Hp), κ32 (x1, x2, x3, x4, x5, x6, x7, x8, h) = some z → Ends toGI 7 131 4 1 z 32 (spr (mtM 131) [0, 1, 2, 3, 4, 5, 6, 7, 8] [.ref 178, .int x1, .int x2, .int x3, .int x4, .int x5, .int x6, .int x7, .int x8]) [] h) {x1 : Int32} {x2 : Int32} {x3 : Int32} {x4 : Int32} {x5 : Int32} {x6 : Int32} {x7 : Int32} {x8 : Int32} {x9 : Int32} {x10 : Int32} {h : Hp} (hz : loopC (Mo_soonOf_71 κ8 κ32  ) FU (x1, x2, x3, x4, x5, x6, x7, x8, x9, x10, h) = some z) : Ends toGI 7 131 4 1 z 71 (spr (mtM 131) [0, 1, 2, 3, 4, 5, 6, 7, 8, 9, 10] [.ref 178, .int x1, .int x2, .int x3, .int x4, .int x5, .int x6, .int x7, .int x8, .int x9, .int x10]) [] h := by
  refine loop_E (b := Mo_soonOf_71 κ8 κ32  ) (P := fun s => match s with | (x1, x2, x3, x4, x5, x6, x7, x8, x9, x10, h) => Ends toGI 7 131 4 1 z 71 (spr (mtM 131) [0, 1, 2, 3, 4, 5, 6, 7, 8, 9, 10] [.ref 178, .int x1, .int x2, .int x3, .int x4, .int x5, .int x6, .int x7, .int x8, .int x9, .int x10]) [] h) (fun s κ71 hκ hz => ?_) FU (x1, x2, x3, x4, x5, x6, x7, x8, x9, x10, h) hz
  obtain ⟨x1, x2, x3, x4, x5, x6, x7, x8, x9, x10, h⟩ := s
  have hκ71 : ∀ (x1 : Int32) (x2 : Int32) (x3 : Int32) (x4 : Int32) (x5 : Int32) (x6 : Int32) (x7 : Int32) (x8 : Int32) (x9 : Int32) (x10 : Int32) (h : Hp), κ71 (x1, x2, x3, x4, x5, x6, x7, x8, x9, x10, h) = some z → Ends toGI 7 131 4 1 z 71 (spr (mtM 131) [0, 1, 2, 3, 4, 5, 6, 7, 8, 9, 10] [.ref 178, .int x1, .int x2, .int x3, .int x4, .int x5, .int x6, .int x7, .int x8, .int x9, .int x10]) [] h := fun x1 x2 x3 x4 x5 x6 x7 x8 x9 x10 h q => hκ (x1, x2, x3, x4, x5, x6, x7, x8, x9, x10, h) q
  exact exec_E OI_ok kc_Mo_soonOf so_Mo_soonOf (runF_E OI_ok kc_Mo_soonOf so_Mo_soonOf (List.forall_mem_cons.mpr ⟨(by
    intro L st h vs hp hf
    dsimp only at hf
    split at hf
    · split at hf
      · next hq9 =>
        have hq9 := Nat.eq_of_beq_eq_true hq9
        subst hq9
        exact Ends.at hp (hκ32 _ _ _ _ _ _ _ _ _ hf)
      · cases hf
    · cases hf), List.forall_mem_cons.mpr ⟨(by
    intro L st h vs hp hf
    dsimp only at hf
    split at hf
    · split at hf
      · next hq9 =>
        have hq9 := Nat.eq_of_beq_eq_true hq9
        subst hq9
        exact Ends.at hp (hκ71 _ _ _ _ _ _ _ _ _ _ _ hf)
      · cases hf
    · cases hf), fun _ h => absurd h List.not_mem_nil⟩⟩) 400) ((e_Mo_soonOf_71 κ8 κ32 κ71 x1 x2 x3 x4 x5 x6 x7 x8 x9 x10 h).symm.trans hz)
set_option maxRecDepth 100000 in
theorem E_Mo_soonOf_32 {z : Option Value × Hp} {κ8 : (Int32 × Int32 × Int32 × Int32 × Int32 × Int32 × Hp) → Res Hp} (hκ8 : ∀ (x1 : Int32) (x2 : Int32) (x3 : Int32) (x4 : Int32) (x5 : Int32) (x6 : Int32) (h : Hp), κ8 (x1, x2, x3, x4, x5, x6, h) = some z → Ends toGI 7 131 4 1 z 8 (spr (mtM 131) [0, 1, 2, 3, 4, 5, 6] [.ref 178, .int x1, .int x2, .int x3, .int x4, .int x5, .int x6]) [] h) {x1 : Int32} {x2 : Int32} {x3 : Int32} {x4 : Int32} {x5 : Int32} {x6 : Int32} {x7 : Int32} {x8 : Int32} {h : Hp} (hz : loopC (Mo_soonOf_32 κ8  ) FU (x1, x2, x3, x4, x5, x6, x7, x8, h) = some z) : Ends toGI 7 131 4 1 z 32 (spr (mtM 131) [0, 1, 2, 3, 4, 5, 6, 7, 8] [.ref 178, .int x1, .int x2, .int x3, .int x4, .int x5, .int x6, .int x7, .int x8]) [] h := by
  refine loop_E (b := Mo_soonOf_32 κ8  ) (P := fun s => match s with | (x1, x2, x3, x4, x5, x6, x7, x8, h) => Ends toGI 7 131 4 1 z 32 (spr (mtM 131) [0, 1, 2, 3, 4, 5, 6, 7, 8] [.ref 178, .int x1, .int x2, .int x3, .int x4, .int x5, .int x6, .int x7, .int x8]) [] h) (fun s κ32 hκ hz => ?_) FU (x1, x2, x3, x4, x5, x6, x7, x8, h) hz
  obtain ⟨x1, x2, x3, x4, x5, x6, x7, x8, h⟩ := s
  have hκ32 : ∀ (x1 : Int32) (x2 : Int32) (x3 : Int32) (x4 : Int32) (x5 : Int32) (x6 : Int32) (x7 : Int32) (x8 : Int32) (h : Hp), κ32 (x1, x2, x3, x4, x5, x6, x7, x8, h) = some z → Ends toGI 7 131 4 1 z 32 (spr (mtM 131) [0, 1, 2, 3, 4, 5, 6, 7, 8] [.ref 178, .int x1, .int x2, .int x3, .int x4, .int x5, .int x6, .int x7, .int x8]) [] h := fun x1 x2 x3 x4 x5 x6 x7 x8 h q => hκ (x1, x2, x3, x4, x5, x6, x7, x8, h) q
  exact exec_E OI_ok kc_Mo_soonOf so_Mo_soonOf (runF_E OI_ok kc_Mo_soonOf so_Mo_soonOf (List.forall_mem_cons.mpr ⟨(by
    intro L st h vs hp hf
    dsimp only at hf
    split at hf
    · split at hf
      · next hq9 =>
        have hq9 := Nat.eq_of_beq_eq_true hq9
        subst hq9
        exact Ends.at hp (hκ8 _ _ _ _ _ _ _ hf)
      · cases hf
    · cases hf), List.forall_mem_cons.mpr ⟨(by
    intro L st h vs hp hf
    dsimp only at hf
    split at hf
    · split at hf
      · next hq9 =>
        have hq9 := Nat.eq_of_beq_eq_true hq9
        subst hq9
        exact Ends.at hp (E_Mo_soonOf_71 hκ8 hκ32 hf)
      · cases hf
    · cases hf), fun _ h => absurd h List.not_mem_nil⟩⟩) 400) ((e_Mo_soonOf_32 κ8 κ32 x1 x2 x3 x4 x5 x6 x7 x8 h).symm.trans hz)
set_option maxRecDepth 100000 in
theorem E_Mo_soonOf_8 {z : Option Value × Hp} {x1 : Int32} {x2 : Int32} {x3 : Int32} {x4 : Int32} {x5 : Int32} {x6 : Int32} {h : Hp} (hz : loopC (Mo_soonOf_8   ) FU (x1, x2, x3, x4, x5, x6, h) = some z) : Ends toGI 7 131 4 1 z 8 (spr (mtM 131) [0, 1, 2, 3, 4, 5, 6] [.ref 178, .int x1, .int x2, .int x3, .int x4, .int x5, .int x6]) [] h := by
  refine loop_E (b := Mo_soonOf_8   ) (P := fun s => match s with | (x1, x2, x3, x4, x5, x6, h) => Ends toGI 7 131 4 1 z 8 (spr (mtM 131) [0, 1, 2, 3, 4, 5, 6] [.ref 178, .int x1, .int x2, .int x3, .int x4, .int x5, .int x6]) [] h) (fun s κ8 hκ hz => ?_) FU (x1, x2, x3, x4, x5, x6, h) hz
  obtain ⟨x1, x2, x3, x4, x5, x6, h⟩ := s
  have hκ8 : ∀ (x1 : Int32) (x2 : Int32) (x3 : Int32) (x4 : Int32) (x5 : Int32) (x6 : Int32) (h : Hp), κ8 (x1, x2, x3, x4, x5, x6, h) = some z → Ends toGI 7 131 4 1 z 8 (spr (mtM 131) [0, 1, 2, 3, 4, 5, 6] [.ref 178, .int x1, .int x2, .int x3, .int x4, .int x5, .int x6]) [] h := fun x1 x2 x3 x4 x5 x6 h q => hκ (x1, x2, x3, x4, x5, x6, h) q
  exact exec_E OI_ok kc_Mo_soonOf so_Mo_soonOf (runF_E OI_ok kc_Mo_soonOf so_Mo_soonOf (List.forall_mem_cons.mpr ⟨(by
    intro L st h vs hp hf
    dsimp only at hf
    split at hf
    · split at hf
      · next hq9 =>
        have hq9 := Nat.eq_of_beq_eq_true hq9
        subst hq9
        exact Ends.at hp (E_Mo_soonOf_32 hκ8 hf)
      · cases hf
    · cases hf), fun _ h => absurd h List.not_mem_nil⟩) 400) ((e_Mo_soonOf_8  κ8 x1 x2 x3 x4 x5 x6 h).symm.trans hz)
set_option maxRecDepth 100000 in
theorem ok_Mo_soonOf : ∀ as h z, sF_Mo_soonOf as h = some z → Okm toGI 131 4 as h z := by
  intro as h z hz
  unfold sF_Mo_soonOf at hz
  split at hz
  · next f0 x1 x2 x3 x4 =>
    split at hz
    · next hq9 =>
      have hq9 := Nat.eq_of_beq_eq_true hq9
      subst hq9
      exact okm_of (own := 7) (rk := 1) (by decide +kernel) (by decide +kernel) (by omega) rfl (Nat.le_of_ble_eq_true rfl) (exec_E OI_ok kc_Mo_soonOf so_Mo_soonOf (runF_E OI_ok kc_Mo_soonOf so_Mo_soonOf (List.forall_mem_cons.mpr ⟨(by
          intro L st h vs hp hf
          dsimp only at hf
          split at hf
          · split at hf
            · next hq9 =>
              have hq9 := Nat.eq_of_beq_eq_true hq9
              subst hq9
              exact Ends.at hp (E_Mo_soonOf_8 hf)
            · cases hf
          · cases hf), fun _ h => absurd h List.not_mem_nil⟩) 400) ((e_Mo_soonOf_0 x1 x2 x3 x4 h).symm.trans hz))
    · cases hz
  · cases hz
set_option maxRecDepth 100000 in
theorem kc_Mo_isAsk : k_Mo_isAsk.all (chkE 7 (mtC 132)) = true := by decide +kernel
theorem so_Mo_isAsk : SemOK toGI S_Mo_isAsk 4 := List.forall_mem_cons.mpr ⟨⟨mt_98, 3, by omega, ok_Mo_areTwo⟩, List.forall_mem_cons.mpr ⟨⟨mt_100, 2, by omega, ok_Mo_isSet⟩, fun _ h => absurd h List.not_mem_nil⟩⟩
set_option maxRecDepth 100000 in
theorem ok_Mo_isAsk : ∀ as h z, sF_Mo_isAsk as h = some z → Okm toGI 132 4 as h z := by
  intro as h z hz
  unfold sF_Mo_isAsk at hz
  split at hz
  · next f0 x1 x2 x3 =>
    split at hz
    · next hq9 =>
      have hq9 := Nat.eq_of_beq_eq_true hq9
      subst hq9
      exact okm_of (own := 7) (rk := 2) (by decide +kernel) (by decide +kernel) (by omega) rfl (Nat.le_of_ble_eq_true rfl) (exec_E OI_ok kc_Mo_isAsk so_Mo_isAsk (runF_E OI_ok kc_Mo_isAsk so_Mo_isAsk (fun _ h => absurd h List.not_mem_nil) 400) ((e_Mo_isAsk_0 x1 x2 x3 h).symm.trans hz))
    · cases hz
  · cases hz
set_option maxRecDepth 100000 in
theorem kc_Mo_soon : k_Mo_soon.all (chkE 7 (mtC 133)) = true := by decide +kernel
theorem so_Mo_soon : SemOK toGI S_Mo_soon 5 := List.forall_mem_cons.mpr ⟨⟨mt_132, 4, by omega, ok_Mo_isAsk⟩, List.forall_mem_cons.mpr ⟨⟨mt_71, 1, by omega, ok_Mo_in⟩, List.forall_mem_cons.mpr ⟨⟨mt_131, 4, by omega, ok_Mo_soonOf⟩, fun _ h => absurd h List.not_mem_nil⟩⟩⟩
set_option maxRecDepth 100000 in
theorem ok_Mo_soon : ∀ as h z, sF_Mo_soon as h = some z → Okm toGI 133 5 as h z := by
  intro as h z hz
  unfold sF_Mo_soon at hz
  split at hz
  · next f0 x1 x2 x3 x4 =>
    split at hz
    · next hq9 =>
      have hq9 := Nat.eq_of_beq_eq_true hq9
      subst hq9
      exact okm_of (own := 7) (rk := 1) (by decide +kernel) (by decide +kernel) (by omega) rfl (Nat.le_of_ble_eq_true rfl) (exec_E OI_ok kc_Mo_soon so_Mo_soon (runF_E OI_ok kc_Mo_soon so_Mo_soon (fun _ h => absurd h List.not_mem_nil) 400) ((e_Mo_soon_0 x1 x2 x3 x4 h).symm.trans hz))
    · cases hz
  · cases hz
set_option maxRecDepth 100000 in
theorem kc_Mo_costOf : k_Mo_costOf.all (chkE 7 (mtC 134)) = true := by decide +kernel
theorem so_Mo_costOf : SemOK toGI S_Mo_costOf 2 := List.forall_mem_cons.mpr ⟨⟨mt_101, 1, by omega, ok_Mo_isA⟩, List.forall_mem_cons.mpr ⟨⟨mt_75, 1, by omega, ok_Mo_sizeOf⟩, fun _ h => absurd h List.not_mem_nil⟩⟩
set_option maxRecDepth 100000 in
theorem ok_Mo_costOf : ∀ as h z, sF_Mo_costOf as h = some z → Okm toGI 134 2 as h z := by
  intro as h z hz
  unfold sF_Mo_costOf at hz
  split at hz
  · next f0 x1 x2 =>
    split at hz
    · next hq9 =>
      have hq9 := Nat.eq_of_beq_eq_true hq9
      subst hq9
      exact okm_of (own := 7) (rk := 1) (by decide +kernel) (by decide +kernel) (by omega) rfl (Nat.le_of_ble_eq_true rfl) (exec_E OI_ok kc_Mo_costOf so_Mo_costOf (runF_E OI_ok kc_Mo_costOf so_Mo_costOf (fun _ h => absurd h List.not_mem_nil) 400) ((e_Mo_costOf_0 x1 x2 h).symm.trans hz))
    · cases hz
  · cases hz
set_option maxRecDepth 100000 in
theorem kc_Mo_meetWay : k_Mo_meetWay.all (chkE 7 (mtC 135)) = true := by decide +kernel
theorem so_Mo_meetWay : SemOK toGI S_Mo_meetWay 1 := fun _ h => absurd h List.not_mem_nil
set_option maxRecDepth 100000 in
theorem E_Mo_meetWay_73 {z : Option Value × Hp} {x1 : Int32} {x4 : Int32} {h : Hp} (hz : loopC (Mo_meetWay_73   ) FU (x1, x4, h) = some z) : Ends toGI 7 135 1 0 z 73 (spr (mtM 135) [0, 1, 4] [.ref 178, .int x1, .int x4]) [] h := by
  refine loop_E (b := Mo_meetWay_73   ) (P := fun s => match s with | (x1, x4, h) => Ends toGI 7 135 1 0 z 73 (spr (mtM 135) [0, 1, 4] [.ref 178, .int x1, .int x4]) [] h) (fun s κ73 hκ hz => ?_) FU (x1, x4, h) hz
  obtain ⟨x1, x4, h⟩ := s
  have hκ73 : ∀ (x1 : Int32) (x4 : Int32) (h : Hp), κ73 (x1, x4, h) = some z → Ends toGI 7 135 1 0 z 73 (spr (mtM 135) [0, 1, 4] [.ref 178, .int x1, .int x4]) [] h := fun x1 x4 h q => hκ (x1, x4, h) q
  exact exec_E OI_ok kc_Mo_meetWay so_Mo_meetWay (runF_E OI_ok kc_Mo_meetWay so_Mo_meetWay (List.forall_mem_cons.mpr ⟨(by
    intro L st h vs hp hf
    dsimp only at hf
    split at hf
    · split at hf
      · next hq9 =>
        have hq9 := Nat.eq_of_beq_eq_true hq9
        subst hq9
        exact Ends.at hp (hκ73 _ _ _ hf)
      · cases hf
    · cases hf), fun _ h => absurd h List.not_mem_nil⟩) 400) ((e_Mo_meetWay_73  κ73 x1 x4 h).symm.trans hz)
set_option maxRecDepth 100000 in
theorem ok_Mo_meetWay : ∀ as h z, sF_Mo_meetWay as h = some z → Okm toGI 135 1 as h z := by
  intro as h z hz
  unfold sF_Mo_meetWay at hz
  split at hz
  · next f0 x1 x2 x3 =>
    split at hz
    · next hq9 =>
      have hq9 := Nat.eq_of_beq_eq_true hq9
      subst hq9
      exact okm_of (own := 7) (rk := 0) (by decide +kernel) (by decide +kernel) (by omega) rfl (Nat.le_of_ble_eq_true rfl) (exec_E OI_ok kc_Mo_meetWay so_Mo_meetWay (runF_E OI_ok kc_Mo_meetWay so_Mo_meetWay (List.forall_mem_cons.mpr ⟨(by
          intro L st h vs hp hf
          dsimp only at hf
          split at hf
          · split at hf
            · next hq9 =>
              have hq9 := Nat.eq_of_beq_eq_true hq9
              subst hq9
              exact Ends.at hp (E_Mo_meetWay_73 hf)
            · cases hf
          · cases hf), fun _ h => absurd h List.not_mem_nil⟩) 400) ((e_Mo_meetWay_0 x1 x2 x3 h).symm.trans hz))
    · cases hz
  · cases hz
set_option maxRecDepth 100000 in
theorem kc_Mo_wayOn : k_Mo_wayOn.all (chkE 7 (mtC 136)) = true := by decide +kernel
theorem so_Mo_wayOn {self : Int32 → Int32 → Int32 → Int32 → Int32 → Int32 → Hp → Res Hp} {d : Nat} (hself : ∀ as h z, (fun as h => match as with | [.ref f0, .int x1, .int x2, .int x3, .int x4, .int x5, .int x6] => (match Nat.beq f0 178 with | true => self x1 x2 x3 x4 x5 x6 h | false => none) | _ => none : List Value → Hp → Res Hp) as h = some z → Okm toGI 136 (4 + d) as h z) : SemOK toGI (S_Mo_wayOn self) (4 + d + 1) := List.forall_mem_cons.mpr ⟨⟨mt_104, 1, by omega, ok_Mo_metBy⟩, List.forall_mem_cons.mpr ⟨⟨mt_74, 1, by omega, ok_Mo_has⟩, List.forall_mem_cons.mpr ⟨⟨mt_120, 1, by omega, ok_Mo_takes⟩, List.forall_mem_cons.mpr ⟨⟨mt_134, 2, by omega, ok_Mo_costOf⟩, List.forall_mem_cons.mpr ⟨⟨mt_136, 4 + d, by omega, hself⟩, List.forall_mem_cons.mpr ⟨⟨mt_103, 3, by omega, ok_Mo_mayCarry⟩, List.forall_mem_cons.mpr ⟨⟨mt_135, 1, by omega, ok_Mo_meetWay⟩, fun _ h => absurd h List.not_mem_nil⟩⟩⟩⟩⟩⟩⟩
set_option maxRecDepth 100000 in
theorem E_Mo_wayOn_28 {self : Int32 → Int32 → Int32 → Int32 → Int32 → Int32 → Hp → Res Hp} {d : Nat} (hself : ∀ as h z, (fun as h => match as with | [.ref f0, .int x1, .int x2, .int x3, .int x4, .int x5, .int x6] => (match Nat.beq f0 178 with | true => self x1 x2 x3 x4 x5 x6 h | false => none) | _ => none : List Value → Hp → Res Hp) as h = some z → Okm toGI 136 (4 + d) as h z) {z : Option Value × Hp} {x1 : Int32} {x2 : Int32} {x3 : Int32} {x4 : Int32} {x5 : Int32} {x6 : Int32} {x7 : Int32} {x8 : Int32} {x9 : Int32} {h : Hp} (hz : loopC (Mo_wayOn_28 self   ) FU (x1, x2, x3, x4, x5, x6, x7, x8, x9, h) = some z) : Ends toGI 7 136 (4 + d + 1) 0 z 28 (spr (mtM 136) [0, 1, 2, 3, 4, 5, 6, 7, 8, 9] [.ref 178, .int x1, .int x2, .int x3, .int x4, .int x5, .int x6, .int x7, .int x8, .int x9]) [] h := by
  refine loop_E (b := Mo_wayOn_28 self   ) (P := fun s => match s with | (x1, x2, x3, x4, x5, x6, x7, x8, x9, h) => Ends toGI 7 136 (4 + d + 1) 0 z 28 (spr (mtM 136) [0, 1, 2, 3, 4, 5, 6, 7, 8, 9] [.ref 178, .int x1, .int x2, .int x3, .int x4, .int x5, .int x6, .int x7, .int x8, .int x9]) [] h) (fun s κ28 hκ hz => ?_) FU (x1, x2, x3, x4, x5, x6, x7, x8, x9, h) hz
  obtain ⟨x1, x2, x3, x4, x5, x6, x7, x8, x9, h⟩ := s
  have hκ28 : ∀ (x1 : Int32) (x2 : Int32) (x3 : Int32) (x4 : Int32) (x5 : Int32) (x6 : Int32) (x7 : Int32) (x8 : Int32) (x9 : Int32) (h : Hp), κ28 (x1, x2, x3, x4, x5, x6, x7, x8, x9, h) = some z → Ends toGI 7 136 (4 + d + 1) 0 z 28 (spr (mtM 136) [0, 1, 2, 3, 4, 5, 6, 7, 8, 9] [.ref 178, .int x1, .int x2, .int x3, .int x4, .int x5, .int x6, .int x7, .int x8, .int x9]) [] h := fun x1 x2 x3 x4 x5 x6 x7 x8 x9 h q => hκ (x1, x2, x3, x4, x5, x6, x7, x8, x9, h) q
  exact exec_E OI_ok kc_Mo_wayOn (so_Mo_wayOn hself) (runF_E OI_ok kc_Mo_wayOn (so_Mo_wayOn hself) (List.forall_mem_cons.mpr ⟨(by
    intro L st h vs hp hf
    dsimp only at hf
    split at hf
    · split at hf
      · next hq9 =>
        have hq9 := Nat.eq_of_beq_eq_true hq9
        subst hq9
        exact Ends.at hp (hκ28 _ _ _ _ _ _ _ _ _ _ hf)
      · cases hf
    · cases hf), fun _ h => absurd h List.not_mem_nil⟩) 400) ((e_Mo_wayOn_28 self  κ28 x1 x2 x3 x4 x5 x6 x7 x8 x9 h).symm.trans hz)
set_option maxRecDepth 100000 in
theorem ok_Mo_wayOn : ∀ d as h z, sF_Mo_wayOn d as h = some z → Okm toGI 136 (4 + d) as h z
  | 0, as, h, z, hz => by
    unfold sF_Mo_wayOn at hz
    split at hz
    · split at hz
      · cases hz
      · cases hz
    · cases hz
  | d + 1, as, h, z, hz => by
    unfold sF_Mo_wayOn at hz
    split at hz
    · next f0 x1 x2 x3 x4 x5 x6 =>
      split at hz
      · next hq9 =>
        have hq9 := Nat.eq_of_beq_eq_true hq9
        subst hq9
        exact okm_of (own := 7) (rk := 0) (by decide +kernel) (by decide +kernel) (by omega) rfl (Nat.le_of_ble_eq_true rfl) (exec_E OI_ok kc_Mo_wayOn (so_Mo_wayOn (ok_Mo_wayOn d)) (runF_E OI_ok kc_Mo_wayOn (so_Mo_wayOn (ok_Mo_wayOn d)) (List.forall_mem_cons.mpr ⟨(by
          intro L st h vs hp hf
          dsimp only at hf
          split at hf
          · split at hf
            · next hq9 =>
              have hq9 := Nat.eq_of_beq_eq_true hq9
              subst hq9
              exact Ends.at hp (E_Mo_wayOn_28 (ok_Mo_wayOn d) hf)
            · cases hf
          · cases hf), fun _ h => absurd h List.not_mem_nil⟩) 400) ((e_Mo_wayOn_0 (F_Mo_wayOn d) x1 x2 x3 x4 x5 x6 h).symm.trans hz))
      · cases hz
    · cases hz
set_option maxRecDepth 100000 in
theorem kc_Mo_setWays : k_Mo_setWays.all (chkE 7 (mtC 137)) = true := by decide +kernel
theorem so_Mo_setWays : SemOK toGI S_Mo_setWays 14 := List.forall_mem_cons.mpr ⟨⟨mt_136, 13, by omega, ok_Mo_wayOn 9⟩, fun _ h => absurd h List.not_mem_nil⟩
set_option maxRecDepth 100000 in
theorem E_Mo_setWays_25 {z : Option Value × Hp} {x1 : Int32} {x2 : Int32} {x3 : Int32} {x4 : Int32} {x5 : Int32} {h : Hp} (hz : loopC (Mo_setWays_25   ) FU (x1, x2, x3, x4, x5, h) = some z) : Ends toGI 7 137 14 0 z 25 (spr (mtM 137) [0, 1, 2, 3, 4, 5] [.ref 178, .int x1, .int x2, .int x3, .int x4, .int x5]) [] h := by
  refine loop_E (b := Mo_setWays_25   ) (P := fun s => match s with | (x1, x2, x3, x4, x5, h) => Ends toGI 7 137 14 0 z 25 (spr (mtM 137) [0, 1, 2, 3, 4, 5] [.ref 178, .int x1, .int x2, .int x3, .int x4, .int x5]) [] h) (fun s κ25 hκ hz => ?_) FU (x1, x2, x3, x4, x5, h) hz
  obtain ⟨x1, x2, x3, x4, x5, h⟩ := s
  have hκ25 : ∀ (x1 : Int32) (x2 : Int32) (x3 : Int32) (x4 : Int32) (x5 : Int32) (h : Hp), κ25 (x1, x2, x3, x4, x5, h) = some z → Ends toGI 7 137 14 0 z 25 (spr (mtM 137) [0, 1, 2, 3, 4, 5] [.ref 178, .int x1, .int x2, .int x3, .int x4, .int x5]) [] h := fun x1 x2 x3 x4 x5 h q => hκ (x1, x2, x3, x4, x5, h) q
  exact exec_E OI_ok kc_Mo_setWays so_Mo_setWays (runF_E OI_ok kc_Mo_setWays so_Mo_setWays (List.forall_mem_cons.mpr ⟨(by
    intro L st h vs hp hf
    dsimp only at hf
    split at hf
    · split at hf
      · next hq9 =>
        have hq9 := Nat.eq_of_beq_eq_true hq9
        subst hq9
        exact Ends.at hp (hκ25 _ _ _ _ _ _ hf)
      · cases hf
    · cases hf), fun _ h => absurd h List.not_mem_nil⟩) 400) ((e_Mo_setWays_25  κ25 x1 x2 x3 x4 x5 h).symm.trans hz)
set_option maxRecDepth 100000 in
theorem ok_Mo_setWays : ∀ as h z, sF_Mo_setWays as h = some z → Okm toGI 137 14 as h z := by
  intro as h z hz
  unfold sF_Mo_setWays at hz
  split at hz
  · next f0 x1 x2 x3 x4 =>
    split at hz
    · next hq9 =>
      have hq9 := Nat.eq_of_beq_eq_true hq9
      subst hq9
      exact okm_of (own := 7) (rk := 0) (by decide +kernel) (by decide +kernel) (by omega) rfl (Nat.le_of_ble_eq_true rfl) (exec_E OI_ok kc_Mo_setWays so_Mo_setWays (runF_E OI_ok kc_Mo_setWays so_Mo_setWays (List.forall_mem_cons.mpr ⟨(by
          intro L st h vs hp hf
          dsimp only at hf
          split at hf
          · split at hf
            · next hq9 =>
              have hq9 := Nat.eq_of_beq_eq_true hq9
              subst hq9
              exact Ends.at hp (E_Mo_setWays_25 hf)
            · cases hf
          · cases hf), fun _ h => absurd h List.not_mem_nil⟩) 400) ((e_Mo_setWays_0 x1 x2 x3 x4 h).symm.trans hz))
    · cases hz
  · cases hz
set_option maxRecDepth 100000 in
theorem kc_Mo_way : k_Mo_way.all (chkE 7 (mtC 138)) = true := by decide +kernel
theorem so_Mo_way : SemOK toGI S_Mo_way 15 := List.forall_mem_cons.mpr ⟨⟨mt_132, 4, by omega, ok_Mo_isAsk⟩, List.forall_mem_cons.mpr ⟨⟨mt_76, 2, by omega, ok_Mo_isRow⟩, List.forall_mem_cons.mpr ⟨⟨mt_137, 14, by omega, ok_Mo_setWays⟩, List.forall_mem_cons.mpr ⟨⟨mt_82, 3, by omega, ok_Mo_row⟩, List.forall_mem_cons.mpr ⟨⟨mt_81, 1, by omega, ok_Mo_setRow⟩, fun _ h => absurd h List.not_mem_nil⟩⟩⟩⟩⟩
set_option maxRecDepth 100000 in
theorem E_Mo_way_52 {z : Option Value × Hp} {x4 : Int32} {x5 : Int32} {h : Hp} (hz : loopC (Mo_way_52   ) FU (x4, x5, h) = some z) : Ends toGI 7 138 15 1 z 52 (spr (mtM 138) [0, 4, 5] [.ref 178, .int x4, .int x5]) [] h := by
  refine loop_E (b := Mo_way_52   ) (P := fun s => match s with | (x4, x5, h) => Ends toGI 7 138 15 1 z 52 (spr (mtM 138) [0, 4, 5] [.ref 178, .int x4, .int x5]) [] h) (fun s κ52 hκ hz => ?_) FU (x4, x5, h) hz
  obtain ⟨x4, x5, h⟩ := s
  have hκ52 : ∀ (x4 : Int32) (x5 : Int32) (h : Hp), κ52 (x4, x5, h) = some z → Ends toGI 7 138 15 1 z 52 (spr (mtM 138) [0, 4, 5] [.ref 178, .int x4, .int x5]) [] h := fun x4 x5 h q => hκ (x4, x5, h) q
  exact exec_E OI_ok kc_Mo_way so_Mo_way (runF_E OI_ok kc_Mo_way so_Mo_way (List.forall_mem_cons.mpr ⟨(by
    intro L st h vs hp hf
    dsimp only at hf
    split at hf
    · split at hf
      · next hq9 =>
        have hq9 := Nat.eq_of_beq_eq_true hq9
        subst hq9
        exact Ends.at hp (hκ52 _ _ _ hf)
      · cases hf
    · cases hf), fun _ h => absurd h List.not_mem_nil⟩) 400) ((e_Mo_way_52  κ52 x4 x5 h).symm.trans hz)
set_option maxRecDepth 100000 in
theorem ok_Mo_way : ∀ as h z, sF_Mo_way as h = some z → Okm toGI 138 15 as h z := by
  intro as h z hz
  unfold sF_Mo_way at hz
  split at hz
  · next f0 x1 x2 x3 x4 =>
    split at hz
    · next hq9 =>
      have hq9 := Nat.eq_of_beq_eq_true hq9
      subst hq9
      exact okm_of (own := 7) (rk := 1) (by decide +kernel) (by decide +kernel) (by omega) rfl (Nat.le_of_ble_eq_true rfl) (exec_E OI_ok kc_Mo_way so_Mo_way (runF_E OI_ok kc_Mo_way so_Mo_way (List.forall_mem_cons.mpr ⟨(by
          intro L st h vs hp hf
          dsimp only at hf
          split at hf
          · split at hf
            · next hq9 =>
              have hq9 := Nat.eq_of_beq_eq_true hq9
              subst hq9
              exact Ends.at hp (E_Mo_way_52 hf)
            · cases hf
          · cases hf), fun _ h => absurd h List.not_mem_nil⟩) 400) ((e_Mo_way_0 x1 x2 x3 x4 h).symm.trans hz))
    · cases hz
  · cases hz
set_option maxRecDepth 100000 in
theorem kc_Mo_tongue : k_Mo_tongue.all (chkE 7 (mtC 139)) = true := by decide +kernel
theorem so_Mo_tongue : SemOK toGI S_Mo_tongue 5 := List.forall_mem_cons.mpr ⟨⟨mt_98, 3, by omega, ok_Mo_areTwo⟩, List.forall_mem_cons.mpr ⟨⟨mt_71, 1, by omega, ok_Mo_in⟩, List.forall_mem_cons.mpr ⟨⟨mt_73, 1, by omega, ok_Mo_ask⟩, List.forall_mem_cons.mpr ⟨⟨mt_117, 1, by omega, ok_Mo_writes⟩, List.forall_mem_cons.mpr ⟨⟨mt_131, 4, by omega, ok_Mo_soonOf⟩, fun _ h => absurd h List.not_mem_nil⟩⟩⟩⟩⟩
set_option maxRecDepth 100000 in
theorem E_Mo_tongue_32 {z : Option Value × Hp} {x1 : Int32} {x2 : Int32} {x3 : Int32} {x4 : Int32} {x5 : Int32} {x6 : Int32} {h : Hp} (hz : loopC (Mo_tongue_32   ) FU (x1, x2, x3, x4, x5, x6, h) = some z) : Ends toGI 7 139 5 1 z 32 (spr (mtM 139) [0, 1, 2, 3, 4, 5, 6] [.ref 178, .int x1, .int x2, .int x3, .int x4, .int x5, .int x6]) [] h := by
  refine loop_E (b := Mo_tongue_32   ) (P := fun s => match s with | (x1, x2, x3, x4, x5, x6, h) => Ends toGI 7 139 5 1 z 32 (spr (mtM 139) [0, 1, 2, 3, 4, 5, 6] [.ref 178, .int x1, .int x2, .int x3, .int x4, .int x5, .int x6]) [] h) (fun s κ32 hκ hz => ?_) FU (x1, x2, x3, x4, x5, x6, h) hz
  obtain ⟨x1, x2, x3, x4, x5, x6, h⟩ := s
  have hκ32 : ∀ (x1 : Int32) (x2 : Int32) (x3 : Int32) (x4 : Int32) (x5 : Int32) (x6 : Int32) (h : Hp), κ32 (x1, x2, x3, x4, x5, x6, h) = some z → Ends toGI 7 139 5 1 z 32 (spr (mtM 139) [0, 1, 2, 3, 4, 5, 6] [.ref 178, .int x1, .int x2, .int x3, .int x4, .int x5, .int x6]) [] h := fun x1 x2 x3 x4 x5 x6 h q => hκ (x1, x2, x3, x4, x5, x6, h) q
  exact exec_E OI_ok kc_Mo_tongue so_Mo_tongue (runF_E OI_ok kc_Mo_tongue so_Mo_tongue (List.forall_mem_cons.mpr ⟨(by
    intro L st h vs hp hf
    dsimp only at hf
    split at hf
    · split at hf
      · next hq9 =>
        have hq9 := Nat.eq_of_beq_eq_true hq9
        subst hq9
        exact Ends.at hp (hκ32 _ _ _ _ _ _ _ hf)
      · cases hf
    · cases hf), fun _ h => absurd h List.not_mem_nil⟩) 400) ((e_Mo_tongue_32  κ32 x1 x2 x3 x4 x5 x6 h).symm.trans hz)
set_option maxRecDepth 100000 in
theorem ok_Mo_tongue : ∀ as h z, sF_Mo_tongue as h = some z → Okm toGI 139 5 as h z := by
  intro as h z hz
  unfold sF_Mo_tongue at hz
  split at hz
  · next f0 x1 x2 x3 =>
    split at hz
    · next hq9 =>
      have hq9 := Nat.eq_of_beq_eq_true hq9
      subst hq9
      exact okm_of (own := 7) (rk := 1) (by decide +kernel) (by decide +kernel) (by omega) rfl (Nat.le_of_ble_eq_true rfl) (exec_E OI_ok kc_Mo_tongue so_Mo_tongue (runF_E OI_ok kc_Mo_tongue so_Mo_tongue (List.forall_mem_cons.mpr ⟨(by
          intro L st h vs hp hf
          dsimp only at hf
          split at hf
          · split at hf
            · next hq9 =>
              have hq9 := Nat.eq_of_beq_eq_true hq9
              subst hq9
              exact Ends.at hp (E_Mo_tongue_32 hf)
            · cases hf
          · cases hf), fun _ h => absurd h List.not_mem_nil⟩) 400) ((e_Mo_tongue_0 x1 x2 x3 h).symm.trans hz))
    · cases hz
  · cases hz
set_option maxRecDepth 100000 in
theorem kc_Mo_parts : k_Mo_parts.all (chkE 7 (mtC 140)) = true := by decide +kernel
theorem so_Mo_parts : SemOK toGI S_Mo_parts 5 := List.forall_mem_cons.mpr ⟨⟨mt_132, 4, by omega, ok_Mo_isAsk⟩, List.forall_mem_cons.mpr ⟨⟨mt_71, 1, by omega, ok_Mo_in⟩, List.forall_mem_cons.mpr ⟨⟨mt_74, 1, by omega, ok_Mo_has⟩, List.forall_mem_cons.mpr ⟨⟨mt_131, 4, by omega, ok_Mo_soonOf⟩, fun _ h => absurd h List.not_mem_nil⟩⟩⟩⟩
set_option maxRecDepth 100000 in
theorem E_Mo_parts_29 {z : Option Value × Hp} {x1 : Int32} {x2 : Int32} {x3 : Int32} {x4 : Int32} {x5 : Int32} {x6 : Int32} {h : Hp} (hz : loopC (Mo_parts_29   ) FU (x1, x2, x3, x4, x5, x6, h) = some z) : Ends toGI 7 140 5 1 z 29 (spr (mtM 140) [0, 1, 2, 3, 4, 5, 6] [.ref 178, .int x1, .int x2, .int x3, .int x4, .int x5, .int x6]) [] h := by
  refine loop_E (b := Mo_parts_29   ) (P := fun s => match s with | (x1, x2, x3, x4, x5, x6, h) => Ends toGI 7 140 5 1 z 29 (spr (mtM 140) [0, 1, 2, 3, 4, 5, 6] [.ref 178, .int x1, .int x2, .int x3, .int x4, .int x5, .int x6]) [] h) (fun s κ29 hκ hz => ?_) FU (x1, x2, x3, x4, x5, x6, h) hz
  obtain ⟨x1, x2, x3, x4, x5, x6, h⟩ := s
  have hκ29 : ∀ (x1 : Int32) (x2 : Int32) (x3 : Int32) (x4 : Int32) (x5 : Int32) (x6 : Int32) (h : Hp), κ29 (x1, x2, x3, x4, x5, x6, h) = some z → Ends toGI 7 140 5 1 z 29 (spr (mtM 140) [0, 1, 2, 3, 4, 5, 6] [.ref 178, .int x1, .int x2, .int x3, .int x4, .int x5, .int x6]) [] h := fun x1 x2 x3 x4 x5 x6 h q => hκ (x1, x2, x3, x4, x5, x6, h) q
  exact exec_E OI_ok kc_Mo_parts so_Mo_parts (runF_E OI_ok kc_Mo_parts so_Mo_parts (List.forall_mem_cons.mpr ⟨(by
    intro L st h vs hp hf
    dsimp only at hf
    split at hf
    · split at hf
      · next hq9 =>
        have hq9 := Nat.eq_of_beq_eq_true hq9
        subst hq9
        exact Ends.at hp (hκ29 _ _ _ _ _ _ _ hf)
      · cases hf
    · cases hf), fun _ h => absurd h List.not_mem_nil⟩) 400) ((e_Mo_parts_29  κ29 x1 x2 x3 x4 x5 x6 h).symm.trans hz)
set_option maxRecDepth 100000 in
theorem ok_Mo_parts : ∀ as h z, sF_Mo_parts as h = some z → Okm toGI 140 5 as h z := by
  intro as h z hz
  unfold sF_Mo_parts at hz
  split at hz
  · next f0 x1 x2 x3 x4 =>
    split at hz
    · next hq9 =>
      have hq9 := Nat.eq_of_beq_eq_true hq9
      subst hq9
      exact okm_of (own := 7) (rk := 1) (by decide +kernel) (by decide +kernel) (by omega) rfl (Nat.le_of_ble_eq_true rfl) (exec_E OI_ok kc_Mo_parts so_Mo_parts (runF_E OI_ok kc_Mo_parts so_Mo_parts (List.forall_mem_cons.mpr ⟨(by
          intro L st h vs hp hf
          dsimp only at hf
          split at hf
          · split at hf
            · next hq9 =>
              have hq9 := Nat.eq_of_beq_eq_true hq9
              subst hq9
              exact Ends.at hp (E_Mo_parts_29 hf)
            · cases hf
          · cases hf), fun _ h => absurd h List.not_mem_nil⟩) 400) ((e_Mo_parts_0 x1 x2 x3 x4 h).symm.trans hz))
    · cases hz
  · cases hz
set_option maxRecDepth 100000 in
theorem kc_Mo_packOn : k_Mo_packOn.all (chkE 7 (mtC 141)) = true := by decide +kernel
theorem so_Mo_packOn {self : Int32 → Int32 → Hp → Res Hp} {d : Nat} (hself : ∀ as h z, (fun as h => match as with | [.ref f0, .int x1, .int x2] => (match Nat.beq f0 178 with | true => self x1 x2 h | false => none) | _ => none : List Value → Hp → Res Hp) as h = some z → Okm toGI 141 (1 + d) as h z) : SemOK toGI (S_Mo_packOn self) (1 + d + 1) := List.forall_mem_cons.mpr ⟨⟨mt_141, 1 + d, by omega, hself⟩, fun _ h => absurd h List.not_mem_nil⟩
set_option maxRecDepth 100000 in
theorem E_Mo_packOn_5 {self : Int32 → Int32 → Hp → Res Hp} {d : Nat} (hself : ∀ as h z, (fun as h => match as with | [.ref f0, .int x1, .int x2] => (match Nat.beq f0 178 with | true => self x1 x2 h | false => none) | _ => none : List Value → Hp → Res Hp) as h = some z → Okm toGI 141 (1 + d) as h z) {z : Option Value × Hp} {x2 : Int32} {x3 : Int32} {x4 : Int32} {h : Hp} (hz : loopC (Mo_packOn_5 self   ) FU (x2, x3, x4, h) = some z) : Ends toGI 7 141 (1 + d + 1) 1 z 5 (spr (mtM 141) [0, 2, 3, 4] [.ref 178, .int x2, .int x3, .int x4]) [] h := by
  refine loop_E (b := Mo_packOn_5 self   ) (P := fun s => match s with | (x2, x3, x4, h) => Ends toGI 7 141 (1 + d + 1) 1 z 5 (spr (mtM 141) [0, 2, 3, 4] [.ref 178, .int x2, .int x3, .int x4]) [] h) (fun s κ5 hκ hz => ?_) FU (x2, x3, x4, h) hz
  obtain ⟨x2, x3, x4, h⟩ := s
  have hκ5 : ∀ (x2 : Int32) (x3 : Int32) (x4 : Int32) (h : Hp), κ5 (x2, x3, x4, h) = some z → Ends toGI 7 141 (1 + d + 1) 1 z 5 (spr (mtM 141) [0, 2, 3, 4] [.ref 178, .int x2, .int x3, .int x4]) [] h := fun x2 x3 x4 h q => hκ (x2, x3, x4, h) q
  exact exec_E OI_ok kc_Mo_packOn (so_Mo_packOn hself) (runF_E OI_ok kc_Mo_packOn (so_Mo_packOn hself) (List.forall_mem_cons.mpr ⟨(by
    intro L st h vs hp hf
    dsimp only at hf
    split at hf
    · split at hf
      · next hq9 =>
        have hq9 := Nat.eq_of_beq_eq_true hq9
        subst hq9
        exact Ends.at hp (hκ5 _ _ _ _ hf)
      · cases hf
    · cases hf), fun _ h => absurd h List.not_mem_nil⟩) 400) ((e_Mo_packOn_5 self  κ5 x2 x3 x4 h).symm.trans hz)
set_option maxRecDepth 100000 in
theorem ok_Mo_packOn : ∀ d as h z, sF_Mo_packOn d as h = some z → Okm toGI 141 (1 + d) as h z
  | 0, as, h, z, hz => by
    unfold sF_Mo_packOn at hz
    split at hz
    · split at hz
      · cases hz
      · cases hz
    · cases hz
  | d + 1, as, h, z, hz => by
    unfold sF_Mo_packOn at hz
    split at hz
    · next f0 x1 x2 =>
      split at hz
      · next hq9 =>
        have hq9 := Nat.eq_of_beq_eq_true hq9
        subst hq9
        exact okm_of (own := 7) (rk := 1) (by decide +kernel) (by decide +kernel) (by omega) rfl (Nat.le_of_ble_eq_true rfl) (exec_E OI_ok kc_Mo_packOn (so_Mo_packOn (ok_Mo_packOn d)) (runF_E OI_ok kc_Mo_packOn (so_Mo_packOn (ok_Mo_packOn d)) (List.forall_mem_cons.mpr ⟨(by
          intro L st h vs hp hf
          dsimp only at hf
          split at hf
          · split at hf
            · next hq9 =>
              have hq9 := Nat.eq_of_beq_eq_true hq9
              subst hq9
              exact Ends.at hp (E_Mo_packOn_5 (ok_Mo_packOn d) hf)
            · cases hf
          · cases hf), fun _ h => absurd h List.not_mem_nil⟩) 400) ((e_Mo_packOn_0 (F_Mo_packOn d) x1 x2 h).symm.trans hz))
      · cases hz
    · cases hz
set_option maxRecDepth 100000 in
theorem kc_Mo_apart : k_Mo_apart.all (chkE 7 (mtC 142)) = true := by decide +kernel
theorem so_Mo_apart : SemOK toGI S_Mo_apart 15 := List.forall_mem_cons.mpr ⟨⟨mt_132, 4, by omega, ok_Mo_isAsk⟩, List.forall_mem_cons.mpr ⟨⟨mt_137, 14, by omega, ok_Mo_setWays⟩, List.forall_mem_cons.mpr ⟨⟨mt_141, 10, by omega, ok_Mo_packOn 9⟩, fun _ h => absurd h List.not_mem_nil⟩⟩⟩
set_option maxRecDepth 100000 in
theorem ok_Mo_apart : ∀ as h z, sF_Mo_apart as h = some z → Okm toGI 142 15 as h z := by
  intro as h z hz
  unfold sF_Mo_apart at hz
  split at hz
  · next f0 x1 x2 x3 =>
    split at hz
    · next hq9 =>
      have hq9 := Nat.eq_of_beq_eq_true hq9
      subst hq9
      exact okm_of (own := 7) (rk := 1) (by decide +kernel) (by decide +kernel) (by omega) rfl (Nat.le_of_ble_eq_true rfl) (exec_E OI_ok kc_Mo_apart so_Mo_apart (runF_E OI_ok kc_Mo_apart so_Mo_apart (fun _ h => absurd h List.not_mem_nil) 400) ((e_Mo_apart_0 x1 x2 x3 h).symm.trans hz))
    · cases hz
  · cases hz
set_option maxRecDepth 100000 in
theorem kc_Mo_needs : k_Mo_needs.all (chkE 7 (mtC 143)) = true := by decide +kernel
theorem so_Mo_needs : SemOK toGI S_Mo_needs 15 := List.forall_mem_cons.mpr ⟨⟨mt_132, 4, by omega, ok_Mo_isAsk⟩, List.forall_mem_cons.mpr ⟨⟨mt_137, 14, by omega, ok_Mo_setWays⟩, fun _ h => absurd h List.not_mem_nil⟩⟩
set_option maxRecDepth 100000 in
theorem ok_Mo_needs : ∀ as h z, sF_Mo_needs as h = some z → Okm toGI 143 15 as h z := by
  intro as h z hz
  unfold sF_Mo_needs at hz
  split at hz
  · next f0 x1 x2 x3 =>
    split at hz
    · next hq9 =>
      have hq9 := Nat.eq_of_beq_eq_true hq9
      subst hq9
      exact okm_of (own := 7) (rk := 1) (by decide +kernel) (by decide +kernel) (by omega) rfl (Nat.le_of_ble_eq_true rfl) (exec_E OI_ok kc_Mo_needs so_Mo_needs (runF_E OI_ok kc_Mo_needs so_Mo_needs (fun _ h => absurd h List.not_mem_nil) 400) ((e_Mo_needs_0 x1 x2 x3 h).symm.trans hz))
    · cases hz
  · cases hz
set_option maxRecDepth 100000 in
theorem kc_Mo_forget : k_Mo_forget.all (chkE 7 (mtC 144)) = true := by decide +kernel
theorem so_Mo_forget : SemOK toGI S_Mo_forget 15 := List.forall_mem_cons.mpr ⟨⟨mt_132, 4, by omega, ok_Mo_isAsk⟩, List.forall_mem_cons.mpr ⟨⟨mt_137, 14, by omega, ok_Mo_setWays⟩, List.forall_mem_cons.mpr ⟨⟨mt_73, 1, by omega, ok_Mo_ask⟩, List.forall_mem_cons.mpr ⟨⟨mt_134, 2, by omega, ok_Mo_costOf⟩, fun _ h => absurd h List.not_mem_nil⟩⟩⟩⟩
set_option maxRecDepth 100000 in
theorem E_Mo_forget_36 {z : Option Value × Hp} {x3 : Int32} {x4 : Int32} {x5 : Int32} {h : Hp} (hz : loopC (Mo_forget_36   ) FU (x3, x4, x5, h) = some z) : Ends toGI 7 144 15 1 z 36 (spr (mtM 144) [0, 3, 4, 5] [.ref 178, .int x3, .int x4, .int x5]) [] h := by
  refine loop_E (b := Mo_forget_36   ) (P := fun s => match s with | (x3, x4, x5, h) => Ends toGI 7 144 15 1 z 36 (spr (mtM 144) [0, 3, 4, 5] [.ref 178, .int x3, .int x4, .int x5]) [] h) (fun s κ36 hκ hz => ?_) FU (x3, x4, x5, h) hz
  obtain ⟨x3, x4, x5, h⟩ := s
  have hκ36 : ∀ (x3 : Int32) (x4 : Int32) (x5 : Int32) (h : Hp), κ36 (x3, x4, x5, h) = some z → Ends toGI 7 144 15 1 z 36 (spr (mtM 144) [0, 3, 4, 5] [.ref 178, .int x3, .int x4, .int x5]) [] h := fun x3 x4 x5 h q => hκ (x3, x4, x5, h) q
  exact exec_E OI_ok kc_Mo_forget so_Mo_forget (runF_E OI_ok kc_Mo_forget so_Mo_forget (List.forall_mem_cons.mpr ⟨(by
    intro L st h vs hp hf
    dsimp only at hf
    split at hf
    · split at hf
      · next hq9 =>
        have hq9 := Nat.eq_of_beq_eq_true hq9
        subst hq9
        exact Ends.at hp (hκ36 _ _ _ _ hf)
      · cases hf
    · cases hf), fun _ h => absurd h List.not_mem_nil⟩) 400) ((e_Mo_forget_36  κ36 x3 x4 x5 h).symm.trans hz)
set_option maxRecDepth 100000 in
theorem ok_Mo_forget : ∀ as h z, sF_Mo_forget as h = some z → Okm toGI 144 15 as h z := by
  intro as h z hz
  unfold sF_Mo_forget at hz
  split at hz
  · next f0 x1 x2 x3 =>
    split at hz
    · next hq9 =>
      have hq9 := Nat.eq_of_beq_eq_true hq9
      subst hq9
      exact okm_of (own := 7) (rk := 1) (by decide +kernel) (by decide +kernel) (by omega) rfl (Nat.le_of_ble_eq_true rfl) (exec_E OI_ok kc_Mo_forget so_Mo_forget (runF_E OI_ok kc_Mo_forget so_Mo_forget (List.forall_mem_cons.mpr ⟨(by
          intro L st h vs hp hf
          dsimp only at hf
          split at hf
          · split at hf
            · next hq9 =>
              have hq9 := Nat.eq_of_beq_eq_true hq9
              subst hq9
              exact Ends.at hp (E_Mo_forget_36 hf)
            · cases hf
          · cases hf), fun _ h => absurd h List.not_mem_nil⟩) 400) ((e_Mo_forget_0 x1 x2 x3 h).symm.trans hz))
    · cases hz
  · cases hz
set_option maxRecDepth 100000 in
theorem kc_Mo_isWayIn : k_Mo_isWayIn.all (chkE 7 (mtC 145)) = true := by decide +kernel
theorem so_Mo_isWayIn : SemOK toGI S_Mo_isWayIn 15 := List.forall_mem_cons.mpr ⟨⟨mt_117, 1, by omega, ok_Mo_writes⟩, List.forall_mem_cons.mpr ⟨⟨mt_137, 14, by omega, ok_Mo_setWays⟩, fun _ h => absurd h List.not_mem_nil⟩⟩
set_option maxRecDepth 100000 in
theorem ok_Mo_isWayIn : ∀ as h z, sF_Mo_isWayIn as h = some z → Okm toGI 145 15 as h z := by
  intro as h z hz
  unfold sF_Mo_isWayIn at hz
  split at hz
  · next f0 x1 x2 x3 =>
    split at hz
    · next hq9 =>
      have hq9 := Nat.eq_of_beq_eq_true hq9
      subst hq9
      exact okm_of (own := 7) (rk := 2) (by decide +kernel) (by decide +kernel) (by omega) rfl (Nat.le_of_ble_eq_true rfl) (exec_E OI_ok kc_Mo_isWayIn so_Mo_isWayIn (runF_E OI_ok kc_Mo_isWayIn so_Mo_isWayIn (fun _ h => absurd h List.not_mem_nil) 400) ((e_Mo_isWayIn_0 x1 x2 x3 h).symm.trans hz))
    · cases hz
  · cases hz
set_option maxRecDepth 100000 in
theorem kc_Mo_reach : k_Mo_reach.all (chkE 7 (mtC 146)) = true := by decide +kernel
theorem so_Mo_reach : SemOK toGI S_Mo_reach 16 := List.forall_mem_cons.mpr ⟨⟨mt_97, 2, by omega, ok_Mo_isOne⟩, List.forall_mem_cons.mpr ⟨⟨mt_99, 2, by omega, ok_Mo_isTongue⟩, List.forall_mem_cons.mpr ⟨⟨mt_145, 15, by omega, ok_Mo_isWayIn⟩, fun _ h => absurd h List.not_mem_nil⟩⟩⟩
set_option maxRecDepth 100000 in
theorem E_Mo_reach_22 {z : Option Value × Hp} {x1 : Int32} {x2 : Int32} {x3 : Int32} {x4 : Int32} {h : Hp} (hz : loopC (Mo_reach_22   ) FU (x1, x2, x3, x4, h) = some z) : Ends toGI 7 146 16 1 z 22 (spr (mtM 146) [0, 1, 2, 3, 4] [.ref 178, .int x1, .int x2, .int x3, .int x4]) [] h := by
  refine loop_E (b := Mo_reach_22   ) (P := fun s => match s with | (x1, x2, x3, x4, h) => Ends toGI 7 146 16 1 z 22 (spr (mtM 146) [0, 1, 2, 3, 4] [.ref 178, .int x1, .int x2, .int x3, .int x4]) [] h) (fun s κ22 hκ hz => ?_) FU (x1, x2, x3, x4, h) hz
  obtain ⟨x1, x2, x3, x4, h⟩ := s
  have hκ22 : ∀ (x1 : Int32) (x2 : Int32) (x3 : Int32) (x4 : Int32) (h : Hp), κ22 (x1, x2, x3, x4, h) = some z → Ends toGI 7 146 16 1 z 22 (spr (mtM 146) [0, 1, 2, 3, 4] [.ref 178, .int x1, .int x2, .int x3, .int x4]) [] h := fun x1 x2 x3 x4 h q => hκ (x1, x2, x3, x4, h) q
  exact exec_E OI_ok kc_Mo_reach so_Mo_reach (runF_E OI_ok kc_Mo_reach so_Mo_reach (List.forall_mem_cons.mpr ⟨(by
    intro L st h vs hp hf
    dsimp only at hf
    split at hf
    · split at hf
      · next hq9 =>
        have hq9 := Nat.eq_of_beq_eq_true hq9
        subst hq9
        exact Ends.at hp (hκ22 _ _ _ _ _ hf)
      · cases hf
    · cases hf), fun _ h => absurd h List.not_mem_nil⟩) 400) ((e_Mo_reach_22  κ22 x1 x2 x3 x4 h).symm.trans hz)
set_option maxRecDepth 100000 in
theorem ok_Mo_reach : ∀ as h z, sF_Mo_reach as h = some z → Okm toGI 146 16 as h z := by
  intro as h z hz
  unfold sF_Mo_reach at hz
  split at hz
  · next f0 x1 x2 =>
    split at hz
    · next hq9 =>
      have hq9 := Nat.eq_of_beq_eq_true hq9
      subst hq9
      exact okm_of (own := 7) (rk := 1) (by decide +kernel) (by decide +kernel) (by omega) rfl (Nat.le_of_ble_eq_true rfl) (exec_E OI_ok kc_Mo_reach so_Mo_reach (runF_E OI_ok kc_Mo_reach so_Mo_reach (List.forall_mem_cons.mpr ⟨(by
          intro L st h vs hp hf
          dsimp only at hf
          split at hf
          · split at hf
            · next hq9 =>
              have hq9 := Nat.eq_of_beq_eq_true hq9
              subst hq9
              exact Ends.at hp (E_Mo_reach_22 hf)
            · cases hf
          · cases hf), fun _ h => absurd h List.not_mem_nil⟩) 400) ((e_Mo_reach_0 x1 x2 h).symm.trans hz))
    · cases hz
  · cases hz
set_option maxRecDepth 100000 in
theorem kc_Mo_tonguesOf : k_Mo_tonguesOf.all (chkE 7 (mtC 147)) = true := by decide +kernel
theorem so_Mo_tonguesOf : SemOK toGI S_Mo_tonguesOf 16 := List.forall_mem_cons.mpr ⟨⟨mt_145, 15, by omega, ok_Mo_isWayIn⟩, fun _ h => absurd h List.not_mem_nil⟩
set_option maxRecDepth 100000 in
theorem E_Mo_tonguesOf_5 {z : Option Value × Hp} {x1 : Int32} {x2 : Int32} {x3 : Int32} {x4 : Int32} {h : Hp} (hz : loopC (Mo_tonguesOf_5   ) FU (x1, x2, x3, x4, h) = some z) : Ends toGI 7 147 16 1 z 5 (spr (mtM 147) [0, 1, 2, 3, 4] [.ref 178, .int x1, .int x2, .int x3, .int x4]) [] h := by
  refine loop_E (b := Mo_tonguesOf_5   ) (P := fun s => match s with | (x1, x2, x3, x4, h) => Ends toGI 7 147 16 1 z 5 (spr (mtM 147) [0, 1, 2, 3, 4] [.ref 178, .int x1, .int x2, .int x3, .int x4]) [] h) (fun s κ5 hκ hz => ?_) FU (x1, x2, x3, x4, h) hz
  obtain ⟨x1, x2, x3, x4, h⟩ := s
  have hκ5 : ∀ (x1 : Int32) (x2 : Int32) (x3 : Int32) (x4 : Int32) (h : Hp), κ5 (x1, x2, x3, x4, h) = some z → Ends toGI 7 147 16 1 z 5 (spr (mtM 147) [0, 1, 2, 3, 4] [.ref 178, .int x1, .int x2, .int x3, .int x4]) [] h := fun x1 x2 x3 x4 h q => hκ (x1, x2, x3, x4, h) q
  exact exec_E OI_ok kc_Mo_tonguesOf so_Mo_tonguesOf (runF_E OI_ok kc_Mo_tonguesOf so_Mo_tonguesOf (List.forall_mem_cons.mpr ⟨(by
    intro L st h vs hp hf
    dsimp only at hf
    split at hf
    · split at hf
      · next hq9 =>
        have hq9 := Nat.eq_of_beq_eq_true hq9
        subst hq9
        exact Ends.at hp (hκ5 _ _ _ _ _ hf)
      · cases hf
    · cases hf), fun _ h => absurd h List.not_mem_nil⟩) 400) ((e_Mo_tonguesOf_5  κ5 x1 x2 x3 x4 h).symm.trans hz)
set_option maxRecDepth 100000 in
theorem ok_Mo_tonguesOf : ∀ as h z, sF_Mo_tonguesOf as h = some z → Okm toGI 147 16 as h z := by
  intro as h z hz
  unfold sF_Mo_tonguesOf at hz
  split at hz
  · next f0 x1 x2 =>
    split at hz
    · next hq9 =>
      have hq9 := Nat.eq_of_beq_eq_true hq9
      subst hq9
      exact okm_of (own := 7) (rk := 1) (by decide +kernel) (by decide +kernel) (by omega) rfl (Nat.le_of_ble_eq_true rfl) (exec_E OI_ok kc_Mo_tonguesOf so_Mo_tonguesOf (runF_E OI_ok kc_Mo_tonguesOf so_Mo_tonguesOf (List.forall_mem_cons.mpr ⟨(by
          intro L st h vs hp hf
          dsimp only at hf
          split at hf
          · split at hf
            · next hq9 =>
              have hq9 := Nat.eq_of_beq_eq_true hq9
              subst hq9
              exact Ends.at hp (E_Mo_tonguesOf_5 hf)
            · cases hf
          · cases hf), fun _ h => absurd h List.not_mem_nil⟩) 400) ((e_Mo_tonguesOf_0 x1 x2 h).symm.trans hz))
    · cases hz
  · cases hz
