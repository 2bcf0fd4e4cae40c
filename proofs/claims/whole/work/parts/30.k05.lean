set_option maxRecDepth 100000 in
theorem kc_Mo_copy : k_Mo_copy.all (chkE 7 (mtC 86)) = true := by decide +kernel
theorem so_Mo_copy : SemOK toGI S_Mo_copy 3 := List.forall_mem_cons.mpr ⟨⟨mt_76, 2, by omega, ok_Mo_isRow⟩, List.forall_mem_cons.mpr ⟨⟨mt_72, 1, by omega, ok_Mo_meetWith⟩, List.forall_mem_cons.mpr ⟨⟨mt_81, 1, by omega, ok_Mo_setRow⟩, List.forall_mem_cons.mpr ⟨⟨mt_80, 1, by omega, ok_Mo_rowAt⟩, fun _ h => absurd h List.not_mem_nil⟩⟩⟩⟩
set_option maxRecDepth 100000 in
theorem E_Mo_copy_136 {z : Option Value × Hp} {x3 : Int32} {x4 : Int32} {x5 : Int32} {x6 : Int32} {h : Hp} (hz : loopC (Mo_copy_136   ) FU (x3, x4, x5, x6, h) = some z) : Ends toGI 7 86 3 1 z 136 (spr (mtM 86) [0, 3, 4, 5, 6] [.ref 178, .int x3, .int x4, .int x5, .int x6]) [] h := by
  refine loop_E (b := Mo_copy_136   ) (P := fun s => match s with | (x3, x4, x5, x6, h) => Ends toGI 7 86 3 1 z 136 (spr (mtM 86) [0, 3, 4, 5, 6] [.ref 178, .int x3, .int x4, .int x5, .int x6]) [] h) (fun s κ136 hκ hz => ?_) FU (x3, x4, x5, x6, h) hz
  obtain ⟨x3, x4, x5, x6, h⟩ := s
  have hκ136 : ∀ (x3 : Int32) (x4 : Int32) (x5 : Int32) (x6 : Int32) (h : Hp), κ136 (x3, x4, x5, x6, h) = some z → Ends toGI 7 86 3 1 z 136 (spr (mtM 86) [0, 3, 4, 5, 6] [.ref 178, .int x3, .int x4, .int x5, .int x6]) [] h := fun x3 x4 x5 x6 h q => hκ (x3, x4, x5, x6, h) q
  exact exec_E OI_ok kc_Mo_copy so_Mo_copy (runF_E OI_ok kc_Mo_copy so_Mo_copy (List.forall_mem_cons.mpr ⟨(by
    intro L st h vs hp hf
    dsimp only at hf
    split at hf
    · split at hf
      · next hq9 =>
        have hq9 := Nat.eq_of_beq_eq_true hq9
        subst hq9
        exact Ends.at hp (hκ136 _ _ _ _ _ hf)
      · cases hf
    · cases hf), fun _ h => absurd h List.not_mem_nil⟩) 400) ((e_Mo_copy_136  κ136 x3 x4 x5 x6 h).symm.trans hz)
set_option maxRecDepth 100000 in
theorem E_Mo_copy_104 {z : Option Value × Hp} {x1 : Int32} {x2 : Int32} {x3 : Int32} {x4 : Int32} {x5 : Int32} {x6 : Int32} {h : Hp} (hz : loopC (Mo_copy_104   ) FU (x1, x2, x3, x4, x5, x6, h) = some z) : Ends toGI 7 86 3 1 z 104 (spr (mtM 86) [0, 1, 2, 3, 4, 5, 6] [.ref 178, .int x1, .int x2, .int x3, .int x4, .int x5, .int x6]) [] h := by
  refine loop_E (b := Mo_copy_104   ) (P := fun s => match s with | (x1, x2, x3, x4, x5, x6, h) => Ends toGI 7 86 3 1 z 104 (spr (mtM 86) [0, 1, 2, 3, 4, 5, 6] [.ref 178, .int x1, .int x2, .int x3, .int x4, .int x5, .int x6]) [] h) (fun s κ104 hκ hz => ?_) FU (x1, x2, x3, x4, x5, x6, h) hz
  obtain ⟨x1, x2, x3, x4, x5, x6, h⟩ := s
  have hκ104 : ∀ (x1 : Int32) (x2 : Int32) (x3 : Int32) (x4 : Int32) (x5 : Int32) (x6 : Int32) (h : Hp), κ104 (x1, x2, x3, x4, x5, x6, h) = some z → Ends toGI 7 86 3 1 z 104 (spr (mtM 86) [0, 1, 2, 3, 4, 5, 6] [.ref 178, .int x1, .int x2, .int x3, .int x4, .int x5, .int x6]) [] h := fun x1 x2 x3 x4 x5 x6 h q => hκ (x1, x2, x3, x4, x5, x6, h) q
  exact exec_E OI_ok kc_Mo_copy so_Mo_copy (runF_E OI_ok kc_Mo_copy so_Mo_copy (List.forall_mem_cons.mpr ⟨(by
    intro L st h vs hp hf
    dsimp only at hf
    split at hf
    · split at hf
      · next hq9 =>
        have hq9 := Nat.eq_of_beq_eq_true hq9
        subst hq9
        exact Ends.at hp (E_Mo_copy_136 hf)
      · cases hf
    · cases hf), List.forall_mem_cons.mpr ⟨(by
    intro L st h vs hp hf
    dsimp only at hf
    split at hf
    · split at hf
      · next hq9 =>
        have hq9 := Nat.eq_of_beq_eq_true hq9
        subst hq9
        exact Ends.at hp (hκ104 _ _ _ _ _ _ _ hf)
      · cases hf
    · cases hf), fun _ h => absurd h List.not_mem_nil⟩⟩) 400) ((e_Mo_copy_104  κ104 x1 x2 x3 x4 x5 x6 h).symm.trans hz)
set_option maxRecDepth 100000 in
theorem ok_Mo_copy : ∀ as h z, sF_Mo_copy as h = some z → Okm toGI 86 3 as h z := by
  intro as h z hz
  unfold sF_Mo_copy at hz
  split at hz
  · next f0 x1 x2 x3 x4 x5 =>
    split at hz
    · next hq9 =>
      have hq9 := Nat.eq_of_beq_eq_true hq9
      subst hq9
      exact okm_of (own := 7) (rk := 1) (by decide +kernel) (by decide +kernel) (by omega) rfl (Nat.le_of_ble_eq_true rfl) (exec_E OI_ok kc_Mo_copy so_Mo_copy (runF_E OI_ok kc_Mo_copy so_Mo_copy (List.forall_mem_cons.mpr ⟨(by
          intro L st h vs hp hf
          dsimp only at hf
          split at hf
          · split at hf
            · next hq9 =>
              have hq9 := Nat.eq_of_beq_eq_true hq9
              subst hq9
              exact Ends.at hp (E_Mo_copy_104 hf)
            · cases hf
          · cases hf), fun _ h => absurd h List.not_mem_nil⟩) 400) ((e_Mo_copy_0 x1 x2 x3 x4 x5 h).symm.trans hz))
    · cases hz
  · cases hz
set_option maxRecDepth 100000 in
theorem kc_Mo_mean : k_Mo_mean.all (chkE 7 (mtC 87)) = true := by decide +kernel
theorem so_Mo_mean : SemOK toGI S_Mo_mean 4 := List.forall_mem_cons.mpr ⟨⟨mt_78, 3, by omega, ok_Mo_askedRow⟩, List.forall_mem_cons.mpr ⟨⟨mt_73, 1, by omega, ok_Mo_ask⟩, List.forall_mem_cons.mpr ⟨⟨mt_72, 1, by omega, ok_Mo_meetWith⟩, List.forall_mem_cons.mpr ⟨⟨mt_80, 1, by omega, ok_Mo_rowAt⟩, fun _ h => absurd h List.not_mem_nil⟩⟩⟩⟩
set_option maxRecDepth 100000 in
theorem E_Mo_mean_17 {z : Option Value × Hp} {x1 : Int32} {y3 : Int64} {x5 : Int32} {h : Hp} (hz : loopC (Mo_mean_17   ) FU (x1, y3, x5, h) = some z) : Ends toGI 7 87 4 1 z 17 (spr (mtM 87) [0, 1, 3, 5] [.ref 178, .int x1, .long y3, .int x5]) [] h := by
  refine loop_E (b := Mo_mean_17   ) (P := fun s => match s with | (x1, y3, x5, h) => Ends toGI 7 87 4 1 z 17 (spr (mtM 87) [0, 1, 3, 5] [.ref 178, .int x1, .long y3, .int x5]) [] h) (fun s κ17 hκ hz => ?_) FU (x1, y3, x5, h) hz
  obtain ⟨x1, y3, x5, h⟩ := s
  have hκ17 : ∀ (x1 : Int32) (y3 : Int64) (x5 : Int32) (h : Hp), κ17 (x1, y3, x5, h) = some z → Ends toGI 7 87 4 1 z 17 (spr (mtM 87) [0, 1, 3, 5] [.ref 178, .int x1, .long y3, .int x5]) [] h := fun x1 y3 x5 h q => hκ (x1, y3, x5, h) q
  exact exec_E OI_ok kc_Mo_mean so_Mo_mean (runF_E OI_ok kc_Mo_mean so_Mo_mean (List.forall_mem_cons.mpr ⟨(by
    intro L st h vs hp hf
    dsimp only at hf
    split at hf
    · split at hf
      · next hq9 =>
        have hq9 := Nat.eq_of_beq_eq_true hq9
        subst hq9
        exact Ends.at hp (hκ17 _ _ _ _ hf)
      · cases hf
    · cases hf), fun _ h => absurd h List.not_mem_nil⟩) 400) ((e_Mo_mean_17  κ17 x1 y3 x5 h).symm.trans hz)
set_option maxRecDepth 100000 in
theorem ok_Mo_mean : ∀ as h z, sF_Mo_mean as h = some z → Okm toGI 87 4 as h z := by
  intro as h z hz
  unfold sF_Mo_mean at hz
  split at hz
  · next f0 x1 =>
    split at hz
    · next hq9 =>
      have hq9 := Nat.eq_of_beq_eq_true hq9
      subst hq9
      exact okm_of (own := 7) (rk := 1) (by decide +kernel) (by decide +kernel) (by omega) rfl (Nat.le_of_ble_eq_true rfl) (exec_E OI_ok kc_Mo_mean so_Mo_mean (runF_E OI_ok kc_Mo_mean so_Mo_mean (List.forall_mem_cons.mpr ⟨(by
          intro L st h vs hp hf
          dsimp only at hf
          split at hf
          · split at hf
            · next hq9 =>
              have hq9 := Nat.eq_of_beq_eq_true hq9
              subst hq9
              exact Ends.at hp (E_Mo_mean_17 hf)
            · cases hf
          · cases hf), fun _ h => absurd h List.not_mem_nil⟩) 400) ((e_Mo_mean_0 x1 h).symm.trans hz))
    · cases hz
  · cases hz
set_option maxRecDepth 100000 in
theorem kc_Mo_text : k_Mo_text.all (chkE 7 (mtC 88)) = true := by decide +kernel
theorem so_Mo_text : SemOK toGI S_Mo_text 3 := List.forall_mem_cons.mpr ⟨⟨mt_77, 2, by omega, ok_Mo_isText⟩, List.forall_mem_cons.mpr ⟨⟨mt_72, 1, by omega, ok_Mo_meetWith⟩, fun _ h => absurd h List.not_mem_nil⟩⟩
set_option maxRecDepth 100000 in
theorem E_Mo_text_34 {z : Option Value × Hp} {x1 : Int32} {x2 : Int32} {x3 : Int32} {h : Hp} (hz : loopC (Mo_text_34   ) FU (x1, x2, x3, h) = some z) : Ends toGI 7 88 3 1 z 34 (spr (mtM 88) [0, 1, 2, 3] [.ref 178, .int x1, .int x2, .int x3]) [] h := by
  refine loop_E (b := Mo_text_34   ) (P := fun s => match s with | (x1, x2, x3, h) => Ends toGI 7 88 3 1 z 34 (spr (mtM 88) [0, 1, 2, 3] [.ref 178, .int x1, .int x2, .int x3]) [] h) (fun s κ34 hκ hz => ?_) FU (x1, x2, x3, h) hz
  obtain ⟨x1, x2, x3, h⟩ := s
  have hκ34 : ∀ (x1 : Int32) (x2 : Int32) (x3 : Int32) (h : Hp), κ34 (x1, x2, x3, h) = some z → Ends toGI 7 88 3 1 z 34 (spr (mtM 88) [0, 1, 2, 3] [.ref 178, .int x1, .int x2, .int x3]) [] h := fun x1 x2 x3 h q => hκ (x1, x2, x3, h) q
  exact exec_E OI_ok kc_Mo_text so_Mo_text (runF_E OI_ok kc_Mo_text so_Mo_text (List.forall_mem_cons.mpr ⟨(by
    intro L st h vs hp hf
    dsimp only at hf
    split at hf
    · split at hf
      · next hq9 =>
        have hq9 := Nat.eq_of_beq_eq_true hq9
        subst hq9
        exact Ends.at hp (hκ34 _ _ _ _ hf)
      · cases hf
    · cases hf), fun _ h => absurd h List.not_mem_nil⟩) 400) ((e_Mo_text_34  κ34 x1 x2 x3 h).symm.trans hz)
set_option maxRecDepth 100000 in
theorem ok_Mo_text : ∀ as h z, sF_Mo_text as h = some z → Okm toGI 88 3 as h z := by
  intro as h z hz
  unfold sF_Mo_text at hz
  split at hz
  · next f0 x1 x2 =>
    split at hz
    · next hq9 =>
      have hq9 := Nat.eq_of_beq_eq_true hq9
      subst hq9
      exact okm_of (own := 7) (rk := 1) (by decide +kernel) (by decide +kernel) (by omega) rfl (Nat.le_of_ble_eq_true rfl) (exec_E OI_ok kc_Mo_text so_Mo_text (runF_E OI_ok kc_Mo_text so_Mo_text (List.forall_mem_cons.mpr ⟨(by
          intro L st h vs hp hf
          dsimp only at hf
          split at hf
          · split at hf
            · next hq9 =>
              have hq9 := Nat.eq_of_beq_eq_true hq9
              subst hq9
              exact Ends.at hp (E_Mo_text_34 hf)
            · cases hf
          · cases hf), fun _ h => absurd h List.not_mem_nil⟩) 400) ((e_Mo_text_0 x1 x2 h).symm.trans hz))
    · cases hz
  · cases hz
set_option maxRecDepth 100000 in
theorem kc_Mo_put : k_Mo_put.all (chkE 7 (mtC 89)) = true := by decide +kernel
theorem so_Mo_put : SemOK toGI S_Mo_put 4 := List.forall_mem_cons.mpr ⟨⟨mt_79, 3, by omega, ok_Mo_askedText⟩, List.forall_mem_cons.mpr ⟨⟨mt_71, 1, by omega, ok_Mo_in⟩, List.forall_mem_cons.mpr ⟨⟨mt_72, 1, by omega, ok_Mo_meetWith⟩, fun _ h => absurd h List.not_mem_nil⟩⟩⟩
set_option maxRecDepth 100000 in
theorem ok_Mo_put : ∀ as h z, sF_Mo_put as h = some z → Okm toGI 89 4 as h z := by
  intro as h z hz
  unfold sF_Mo_put at hz
  split at hz
  · next f0 x1 x2 x3 =>
    split at hz
    · next hq9 =>
      have hq9 := Nat.eq_of_beq_eq_true hq9
      subst hq9
      exact okm_of (own := 7) (rk := 1) (by decide +kernel) (by decide +kernel) (by omega) rfl (Nat.le_of_ble_eq_true rfl) (exec_E OI_ok kc_Mo_put so_Mo_put (runF_E OI_ok kc_Mo_put so_Mo_put (fun _ h => absurd h List.not_mem_nil) 400) ((e_Mo_put_0 x1 x2 x3 h).symm.trans hz))
    · cases hz
  · cases hz
set_option maxRecDepth 100000 in
theorem kc_Mo_here : k_Mo_here.all (chkE 7 (mtC 90)) = true := by decide +kernel
theorem so_Mo_here : SemOK toGI S_Mo_here 1 := fun _ h => absurd h List.not_mem_nil
set_option maxRecDepth 100000 in
theorem ok_Mo_here : ∀ as h z, sF_Mo_here as h = some z → Okm toGI 90 1 as h z := by
  intro as h z hz
  unfold sF_Mo_here at hz
  split at hz
  · next f0 x1 =>
    split at hz
    · next hq9 =>
      have hq9 := Nat.eq_of_beq_eq_true hq9
      subst hq9
      exact okm_of (own := 7) (rk := 1) (by decide +kernel) (by decide +kernel) (by omega) rfl (Nat.le_of_ble_eq_true rfl) (exec_E OI_ok kc_Mo_here so_Mo_here (runF_E OI_ok kc_Mo_here so_Mo_here (fun _ h => absurd h List.not_mem_nil) 400) ((e_Mo_here_0 x1 h).symm.trans hz))
    · cases hz
  · cases hz
set_option maxRecDepth 100000 in
theorem kc_Mo_kindOf : k_Mo_kindOf.all (chkE 7 (mtC 91)) = true := by decide +kernel
theorem so_Mo_kindOf : SemOK toGI S_Mo_kindOf 1 := fun _ h => absurd h List.not_mem_nil
set_option maxRecDepth 100000 in
theorem ok_Mo_kindOf : ∀ as h z, sF_Mo_kindOf as h = some z → Okm toGI 91 1 as h z := by
  intro as h z hz
  unfold sF_Mo_kindOf at hz
  split at hz
  · next x0 =>
    exact okm_of (own := 7) (rk := 1) (by decide +kernel) (by decide +kernel) (by omega) rfl (Nat.le_of_ble_eq_true rfl) (exec_E OI_ok kc_Mo_kindOf so_Mo_kindOf (runF_E OI_ok kc_Mo_kindOf so_Mo_kindOf (fun _ h => absurd h List.not_mem_nil) 400) ((e_Mo_kindOf_0 x0 h).symm.trans hz))
  · cases hz
set_option maxRecDepth 100000 in
theorem kc_Mo_readsHand : k_Mo_readsHand.all (chkE 7 (mtC 92)) = true := by decide +kernel
theorem so_Mo_readsHand : SemOK toGI S_Mo_readsHand 2 := List.forall_mem_cons.mpr ⟨⟨mt_90, 1, by omega, ok_Mo_here⟩, List.forall_mem_cons.mpr ⟨⟨mt_91, 1, by omega, ok_Mo_kindOf⟩, List.forall_mem_cons.mpr ⟨⟨mt_71, 1, by omega, ok_Mo_in⟩, fun _ h => absurd h List.not_mem_nil⟩⟩⟩
set_option maxRecDepth 100000 in
theorem E_Mo_readsHand_45 {z : Option Value × Hp} {x1 : Int32} {x2 : Int32} {x3 : Int32} {h : Hp} (hz : loopC (Mo_readsHand_45   ) FU (x1, x2, x3, h) = some z) : Ends toGI 7 92 2 2 z 45 (spr (mtM 92) [0, 1, 2, 3] [.ref 178, .int x1, .int x2, .int x3]) [] h := by
  refine loop_E (b := Mo_readsHand_45   ) (P := fun s => match s with | (x1, x2, x3, h) => Ends toGI 7 92 2 2 z 45 (spr (mtM 92) [0, 1, 2, 3] [.ref 178, .int x1, .int x2, .int x3]) [] h) (fun s κ45 hκ hz => ?_) FU (x1, x2, x3, h) hz
  obtain ⟨x1, x2, x3, h⟩ := s
  have hκ45 : ∀ (x1 : Int32) (x2 : Int32) (x3 : Int32) (h : Hp), κ45 (x1, x2, x3, h) = some z → Ends toGI 7 92 2 2 z 45 (spr (mtM 92) [0, 1, 2, 3] [.ref 178, .int x1, .int x2, .int x3]) [] h := fun x1 x2 x3 h q => hκ (x1, x2, x3, h) q
  exact exec_E OI_ok kc_Mo_readsHand so_Mo_readsHand (runF_E OI_ok kc_Mo_readsHand so_Mo_readsHand (List.forall_mem_cons.mpr ⟨(by
    intro L st h vs hp hf
    dsimp only at hf
    split at hf
    · split at hf
      · next hq9 =>
        have hq9 := Nat.eq_of_beq_eq_true hq9
        subst hq9
        exact Ends.at hp (hκ45 _ _ _ _ hf)
      · cases hf
    · cases hf), fun _ h => absurd h List.not_mem_nil⟩) 400) ((e_Mo_readsHand_45  κ45 x1 x2 x3 h).symm.trans hz)
set_option maxRecDepth 100000 in
theorem ok_Mo_readsHand : ∀ as h z, sF_Mo_readsHand as h = some z → Okm toGI 92 2 as h z := by
  intro as h z hz
  unfold sF_Mo_readsHand at hz
  split at hz
  · next f0 x1 =>
    split at hz
    · next hq9 =>
      have hq9 := Nat.eq_of_beq_eq_true hq9
      subst hq9
      exact okm_of (own := 7) (rk := 2) (by decide +kernel) (by decide +kernel) (by omega) rfl (Nat.le_of_ble_eq_true rfl) (exec_E OI_ok kc_Mo_readsHand so_Mo_readsHand (runF_E OI_ok kc_Mo_readsHand so_Mo_readsHand (List.forall_mem_cons.mpr ⟨(by
          intro L st h vs hp hf
          dsimp only at hf
          split at hf
          · split at hf
            · next hq9 =>
              have hq9 := Nat.eq_of_beq_eq_true hq9
              subst hq9
              exact Ends.at hp (E_Mo_readsHand_45 hf)
            · cases hf
          · cases hf), fun _ h => absurd h List.not_mem_nil⟩) 400) ((e_Mo_readsHand_0 x1 h).symm.trans hz))
    · cases hz
  · cases hz
set_option maxRecDepth 100000 in
theorem kc_Mo_readsMeeting : k_Mo_readsMeeting.all (chkE 7 (mtC 93)) = true := by decide +kernel
theorem so_Mo_readsMeeting : SemOK toGI S_Mo_readsMeeting 2 := List.forall_mem_cons.mpr ⟨⟨mt_90, 1, by omega, ok_Mo_here⟩, List.forall_mem_cons.mpr ⟨⟨mt_71, 1, by omega, ok_Mo_in⟩, fun _ h => absurd h List.not_mem_nil⟩⟩
set_option maxRecDepth 100000 in
theorem E_Mo_readsMeeting_30 {z : Option Value × Hp} {x1 : Int32} {x2 : Int32} {x3 : Int32} {h : Hp} (hz : loopC (Mo_readsMeeting_30   ) FU (x1, x2, x3, h) = some z) : Ends toGI 7 93 2 2 z 30 (spr (mtM 93) [0, 1, 2, 3] [.ref 178, .int x1, .int x2, .int x3]) [] h := by
  refine loop_E (b := Mo_readsMeeting_30   ) (P := fun s => match s with | (x1, x2, x3, h) => Ends toGI 7 93 2 2 z 30 (spr (mtM 93) [0, 1, 2, 3] [.ref 178, .int x1, .int x2, .int x3]) [] h) (fun s κ30 hκ hz => ?_) FU (x1, x2, x3, h) hz
  obtain ⟨x1, x2, x3, h⟩ := s
  have hκ30 : ∀ (x1 : Int32) (x2 : Int32) (x3 : Int32) (h : Hp), κ30 (x1, x2, x3, h) = some z → Ends toGI 7 93 2 2 z 30 (spr (mtM 93) [0, 1, 2, 3] [.ref 178, .int x1, .int x2, .int x3]) [] h := fun x1 x2 x3 h q => hκ (x1, x2, x3, h) q
  exact exec_E OI_ok kc_Mo_readsMeeting so_Mo_readsMeeting (runF_E OI_ok kc_Mo_readsMeeting so_Mo_readsMeeting (List.forall_mem_cons.mpr ⟨(by
    intro L st h vs hp hf
    dsimp only at hf
    split at hf
    · split at hf
      · next hq9 =>
        have hq9 := Nat.eq_of_beq_eq_true hq9
        subst hq9
        exact Ends.at hp (hκ30 _ _ _ _ hf)
      · cases hf
    · cases hf), fun _ h => absurd h List.not_mem_nil⟩) 400) ((e_Mo_readsMeeting_30  κ30 x1 x2 x3 h).symm.trans hz)
set_option maxRecDepth 100000 in
theorem ok_Mo_readsMeeting : ∀ as h z, sF_Mo_readsMeeting as h = some z → Okm toGI 93 2 as h z := by
  intro as h z hz
  unfold sF_Mo_readsMeeting at hz
  split at hz
  · next f0 x1 =>
    split at hz
    · next hq9 =>
      have hq9 := Nat.eq_of_beq_eq_true hq9
      subst hq9
      exact okm_of (own := 7) (rk := 2) (by decide +kernel) (by decide +kernel) (by omega) rfl (Nat.le_of_ble_eq_true rfl) (exec_E OI_ok kc_Mo_readsMeeting so_Mo_readsMeeting (runF_E OI_ok kc_Mo_readsMeeting so_Mo_readsMeeting (List.forall_mem_cons.mpr ⟨(by
          intro L st h vs hp hf
          dsimp only at hf
          split at hf
          · split at hf
            · next hq9 =>
              have hq9 := Nat.eq_of_beq_eq_true hq9
              subst hq9
              exact Ends.at hp (E_Mo_readsMeeting_30 hf)
            · cases hf
          · cases hf), fun _ h => absurd h List.not_mem_nil⟩) 400) ((e_Mo_readsMeeting_0 x1 h).symm.trans hz))
    · cases hz
  · cases hz
set_option maxRecDepth 100000 in
theorem kc_Mo_goesOn : k_Mo_goesOn.all (chkE 7 (mtC 94)) = true := by decide +kernel
theorem so_Mo_goesOn : SemOK toGI S_Mo_goesOn 3 := List.forall_mem_cons.mpr ⟨⟨mt_90, 1, by omega, ok_Mo_here⟩, List.forall_mem_cons.mpr ⟨⟨mt_92, 2, by omega, ok_Mo_readsHand⟩, List.forall_mem_cons.mpr ⟨⟨mt_93, 2, by omega, ok_Mo_readsMeeting⟩, fun _ h => absurd h List.not_mem_nil⟩⟩⟩
set_option maxRecDepth 100000 in
theorem E_Mo_goesOn_15 {z : Option Value × Hp} {x1 : Int32} {h : Hp} (hz : loopC (Mo_goesOn_15   ) FU (x1, h) = some z) : Ends toGI 7 94 3 1 z 15 (spr (mtM 94) [0, 1] [.ref 178, .int x1]) [] h := by
  refine loop_E (b := Mo_goesOn_15   ) (P := fun s => match s with | (x1, h) => Ends toGI 7 94 3 1 z 15 (spr (mtM 94) [0, 1] [.ref 178, .int x1]) [] h) (fun s κ15 hκ hz => ?_) FU (x1, h) hz
  obtain ⟨x1, h⟩ := s
  have hκ15 : ∀ (x1 : Int32) (h : Hp), κ15 (x1, h) = some z → Ends toGI 7 94 3 1 z 15 (spr (mtM 94) [0, 1] [.ref 178, .int x1]) [] h := fun x1 h q => hκ (x1, h) q
  exact exec_E OI_ok kc_Mo_goesOn so_Mo_goesOn (runF_E OI_ok kc_Mo_goesOn so_Mo_goesOn (List.forall_mem_cons.mpr ⟨(by
    intro L st h vs hp hf
    dsimp only at hf
    split at hf
    · split at hf
      · next hq9 =>
        have hq9 := Nat.eq_of_beq_eq_true hq9
        subst hq9
        exact Ends.at hp (hκ15 _ _ hf)
      · cases hf
    · cases hf), fun _ h => absurd h List.not_mem_nil⟩) 400) ((e_Mo_goesOn_15  κ15 x1 h).symm.trans hz)
set_option maxRecDepth 100000 in
theorem ok_Mo_goesOn : ∀ as h z, sF_Mo_goesOn as h = some z → Okm toGI 94 3 as h z := by
  intro as h z hz
  unfold sF_Mo_goesOn at hz
  split at hz
  · next f0 x1 =>
    split at hz
    · next hq9 =>
      have hq9 := Nat.eq_of_beq_eq_true hq9
      subst hq9
      exact okm_of (own := 7) (rk := 1) (by decide +kernel) (by decide +kernel) (by omega) rfl (Nat.le_of_ble_eq_true rfl) (exec_E OI_ok kc_Mo_goesOn so_Mo_goesOn (runF_E OI_ok kc_Mo_goesOn so_Mo_goesOn (List.forall_mem_cons.mpr ⟨(by
          intro L st h vs hp hf
          dsimp only at hf
          split at hf
          · split at hf
            · next hq9 =>
              have hq9 := Nat.eq_of_beq_eq_true hq9
              subst hq9
              exact Ends.at hp (E_Mo_goesOn_15 hf)
            · cases hf
          · cases hf), fun _ h => absurd h List.not_mem_nil⟩) 400) ((e_Mo_goesOn_0 x1 h).symm.trans hz))
    · cases hz
  · cases hz
set_option maxRecDepth 100000 in
theorem kc_Mo_fault : k_Mo_fault.all (chkE 7 (mtC 95)) = true := by decide +kernel
theorem so_Mo_fault : SemOK toGI S_Mo_fault 4 := List.forall_mem_cons.mpr ⟨⟨mt_79, 3, by omega, ok_Mo_askedText⟩, List.forall_mem_cons.mpr ⟨⟨mt_94, 3, by omega, ok_Mo_goesOn⟩, fun _ h => absurd h List.not_mem_nil⟩⟩
set_option maxRecDepth 100000 in
theorem ok_Mo_fault : ∀ as h z, sF_Mo_fault as h = some z → Okm toGI 95 4 as h z := by
  intro as h z hz
  unfold sF_Mo_fault at hz
  split at hz
  · next f0 x1 =>
    split at hz
    · next hq9 =>
      have hq9 := Nat.eq_of_beq_eq_true hq9
      subst hq9
      exact okm_of (own := 7) (rk := 1) (by decide +kernel) (by decide +kernel) (by omega) rfl (Nat.le_of_ble_eq_true rfl) (exec_E OI_ok kc_Mo_fault so_Mo_fault (runF_E OI_ok kc_Mo_fault so_Mo_fault (fun _ h => absurd h List.not_mem_nil) 400) ((e_Mo_fault_0 x1 h).symm.trans hz))
    · cases hz
  · cases hz
set_option maxRecDepth 100000 in
theorem kc_Mo_land : k_Mo_land.all (chkE 7 (mtC 96)) = true := by decide +kernel
theorem so_Mo_land : SemOK toGI S_Mo_land 4 := List.forall_mem_cons.mpr ⟨⟨mt_79, 3, by omega, ok_Mo_askedText⟩, List.forall_mem_cons.mpr ⟨⟨mt_94, 3, by omega, ok_Mo_goesOn⟩, fun _ h => absurd h List.not_mem_nil⟩⟩
set_option maxRecDepth 100000 in
theorem E_Mo_land_117 {z : Option Value × Hp} {x3 : Int32} {h : Hp} (hz : loopC (Mo_land_117   ) FU (x3, h) = some z) : Ends toGI 7 96 4 1 z 117 (spr (mtM 96) [0, 3] [.ref 178, .int x3]) [] h := by
  refine loop_E (b := Mo_land_117   ) (P := fun s => match s with | (x3, h) => Ends toGI 7 96 4 1 z 117 (spr (mtM 96) [0, 3] [.ref 178, .int x3]) [] h) (fun s κ117 hκ hz => ?_) FU (x3, h) hz
  obtain ⟨x3, h⟩ := s
  have hκ117 : ∀ (x3 : Int32) (h : Hp), κ117 (x3, h) = some z → Ends toGI 7 96 4 1 z 117 (spr (mtM 96) [0, 3] [.ref 178, .int x3]) [] h := fun x3 h q => hκ (x3, h) q
  exact exec_E OI_ok kc_Mo_land so_Mo_land (runF_E OI_ok kc_Mo_land so_Mo_land (List.forall_mem_cons.mpr ⟨(by
    intro L st h vs hp hf
    dsimp only at hf
    split at hf
    · split at hf
      · next hq9 =>
        have hq9 := Nat.eq_of_beq_eq_true hq9
        subst hq9
        exact Ends.at hp (hκ117 _ _ hf)
      · cases hf
    · cases hf), fun _ h => absurd h List.not_mem_nil⟩) 400) ((e_Mo_land_117  κ117 x3 h).symm.trans hz)
set_option maxRecDepth 100000 in
theorem E_Mo_land_81 {z : Option Value × Hp} {x3 : Int32} {h : Hp} (hz : loopC (Mo_land_81   ) FU (x3, h) = some z) : Ends toGI 7 96 4 1 z 81 (spr (mtM 96) [0, 3] [.ref 178, .int x3]) [] h := by
  refine loop_E (b := Mo_land_81   ) (P := fun s => match s with | (x3, h) => Ends toGI 7 96 4 1 z 81 (spr (mtM 96) [0, 3] [.ref 178, .int x3]) [] h) (fun s κ81 hκ hz => ?_) FU (x3, h) hz
  obtain ⟨x3, h⟩ := s
  have hκ81 : ∀ (x3 : Int32) (h : Hp), κ81 (x3, h) = some z → Ends toGI 7 96 4 1 z 81 (spr (mtM 96) [0, 3] [.ref 178, .int x3]) [] h := fun x3 h q => hκ (x3, h) q
  exact exec_E OI_ok kc_Mo_land so_Mo_land (runF_E OI_ok kc_Mo_land so_Mo_land (List.forall_mem_cons.mpr ⟨(by
    intro L st h vs hp hf
    dsimp only at hf
    split at hf
    · split at hf
      · next hq9 =>
        have hq9 := Nat.eq_of_beq_eq_true hq9
        subst hq9
        exact Ends.at hp (E_Mo_land_117 hf)
      · cases hf
    · cases hf), List.forall_mem_cons.mpr ⟨(by
    intro L st h vs hp hf
    dsimp only at hf
    split at hf
    · split at hf
      · next hq9 =>
        have hq9 := Nat.eq_of_beq_eq_true hq9
        subst hq9
        exact Ends.at hp (hκ81 _ _ hf)
      · cases hf
    · cases hf), fun _ h => absurd h List.not_mem_nil⟩⟩) 400) ((e_Mo_land_81  κ81 x3 h).symm.trans hz)
set_option maxRecDepth 100000 in
theorem E_Mo_land_43 {z : Option Value × Hp} {x3 : Int32} {h : Hp} (hz : loopC (Mo_land_43   ) FU (x3, h) = some z) : Ends toGI 7 96 4 1 z 43 (spr (mtM 96) [0, 3] [.ref 178, .int x3]) [] h := by
  refine loop_E (b := Mo_land_43   ) (P := fun s => match s with | (x3, h) => Ends toGI 7 96 4 1 z 43 (spr (mtM 96) [0, 3] [.ref 178, .int x3]) [] h) (fun s κ43 hκ hz => ?_) FU (x3, h) hz
  obtain ⟨x3, h⟩ := s
  have hκ43 : ∀ (x3 : Int32) (h : Hp), κ43 (x3, h) = some z → Ends toGI 7 96 4 1 z 43 (spr (mtM 96) [0, 3] [.ref 178, .int x3]) [] h := fun x3 h q => hκ (x3, h) q
  exact exec_E OI_ok kc_Mo_land so_Mo_land (runF_E OI_ok kc_Mo_land so_Mo_land (List.forall_mem_cons.mpr ⟨(by
    intro L st h vs hp hf
    dsimp only at hf
    split at hf
    · split at hf
      · next hq9 =>
        have hq9 := Nat.eq_of_beq_eq_true hq9
        subst hq9
        exact Ends.at hp (E_Mo_land_81 hf)
      · cases hf
    · cases hf), List.forall_mem_cons.mpr ⟨(by
    intro L st h vs hp hf
    dsimp only at hf
    split at hf
    · split at hf
      · next hq9 =>
        have hq9 := Nat.eq_of_beq_eq_true hq9
        subst hq9
        exact Ends.at hp (hκ43 _ _ hf)
      · cases hf
    · cases hf), fun _ h => absurd h List.not_mem_nil⟩⟩) 400) ((e_Mo_land_43  κ43 x3 h).symm.trans hz)
set_option maxRecDepth 100000 in
theorem ok_Mo_land : ∀ as h z, sF_Mo_land as h = some z → Okm toGI 96 4 as h z := by
  intro as h z hz
  unfold sF_Mo_land at hz
  split at hz
  · next f0 x1 =>
    split at hz
    · next hq9 =>
      have hq9 := Nat.eq_of_beq_eq_true hq9
      subst hq9
      exact okm_of (own := 7) (rk := 1) (by decide +kernel) (by decide +kernel) (by omega) rfl (Nat.le_of_ble_eq_true rfl) (exec_E OI_ok kc_Mo_land so_Mo_land (runF_E OI_ok kc_Mo_land so_Mo_land (List.forall_mem_cons.mpr ⟨(by
          intro L st h vs hp hf
          dsimp only at hf
          split at hf
          · split at hf
            · next hq9 =>
              have hq9 := Nat.eq_of_beq_eq_true hq9
              subst hq9
              exact Ends.at hp (E_Mo_land_43 hf)
            · cases hf
          · cases hf), fun _ h => absurd h List.not_mem_nil⟩) 400) ((e_Mo_land_0 x1 h).symm.trans hz))
    · cases hz
  · cases hz
set_option maxRecDepth 100000 in
theorem kc_Mo_isOne : k_Mo_isOne.all (chkE 7 (mtC 97)) = true := by decide +kernel
theorem so_Mo_isOne : SemOK toGI S_Mo_isOne 2 := List.forall_mem_cons.mpr ⟨⟨mt_71, 1, by omega, ok_Mo_in⟩, fun _ h => absurd h List.not_mem_nil⟩
set_option maxRecDepth 100000 in
theorem ok_Mo_isOne : ∀ as h z, sF_Mo_isOne as h = some z → Okm toGI 97 2 as h z := by
  intro as h z hz
  unfold sF_Mo_isOne at hz
  split at hz
  · next f0 x1 =>
    split at hz
    · next hq9 =>
      have hq9 := Nat.eq_of_beq_eq_true hq9
      subst hq9
      exact okm_of (own := 7) (rk := 2) (by decide +kernel) (by decide +kernel) (by omega) rfl (Nat.le_of_ble_eq_true rfl) (exec_E OI_ok kc_Mo_isOne so_Mo_isOne (runF_E OI_ok kc_Mo_isOne so_Mo_isOne (fun _ h => absurd h List.not_mem_nil) 400) ((e_Mo_isOne_0 x1 h).symm.trans hz))
    · cases hz
  · cases hz
set_option maxRecDepth 100000 in
theorem kc_Mo_areTwo : k_Mo_areTwo.all (chkE 7 (mtC 98)) = true := by decide +kernel
theorem so_Mo_areTwo : SemOK toGI S_Mo_areTwo 3 := List.forall_mem_cons.mpr ⟨⟨mt_97, 2, by omega, ok_Mo_isOne⟩, fun _ h => absurd h List.not_mem_nil⟩
set_option maxRecDepth 100000 in
theorem ok_Mo_areTwo : ∀ as h z, sF_Mo_areTwo as h = some z → Okm toGI 98 3 as h z := by
  intro as h z hz
  unfold sF_Mo_areTwo at hz
  split at hz
  · next f0 x1 x2 =>
    split at hz
    · next hq9 =>
      have hq9 := Nat.eq_of_beq_eq_true hq9
      subst hq9
      exact okm_of (own := 7) (rk := 2) (by decide +kernel) (by decide +kernel) (by omega) rfl (Nat.le_of_ble_eq_true rfl) (exec_E OI_ok kc_Mo_areTwo so_Mo_areTwo (runF_E OI_ok kc_Mo_areTwo so_Mo_areTwo (fun _ h => absurd h List.not_mem_nil) 400) ((e_Mo_areTwo_0 x1 x2 h).symm.trans hz))
    · cases hz
  · cases hz
set_option maxRecDepth 100000 in
theorem kc_Mo_isTongue : k_Mo_isTongue.all (chkE 7 (mtC 99)) = true := by decide +kernel
theorem so_Mo_isTongue : SemOK toGI S_Mo_isTongue 2 := List.forall_mem_cons.mpr ⟨⟨mt_71, 1, by omega, ok_Mo_in⟩, fun _ h => absurd h List.not_mem_nil⟩
set_option maxRecDepth 100000 in
theorem ok_Mo_isTongue : ∀ as h z, sF_Mo_isTongue as h = some z → Okm toGI 99 2 as h z := by
  intro as h z hz
  unfold sF_Mo_isTongue at hz
  split at hz
  · next x0 =>
    exact okm_of (own := 7) (rk := 2) (by decide +kernel) (by decide +kernel) (by omega) rfl (Nat.le_of_ble_eq_true rfl) (exec_E OI_ok kc_Mo_isTongue so_Mo_isTongue (runF_E OI_ok kc_Mo_isTongue so_Mo_isTongue (fun _ h => absurd h List.not_mem_nil) 400) ((e_Mo_isTongue_0 x0 h).symm.trans hz))
  · cases hz
set_option maxRecDepth 100000 in
theorem kc_Mo_isSet : k_Mo_isSet.all (chkE 7 (mtC 100)) = true := by decide +kernel
theorem so_Mo_isSet : SemOK toGI S_Mo_isSet 2 := List.forall_mem_cons.mpr ⟨⟨mt_71, 1, by omega, ok_Mo_in⟩, fun _ h => absurd h List.not_mem_nil⟩
set_option maxRecDepth 100000 in
theorem ok_Mo_isSet : ∀ as h z, sF_Mo_isSet as h = some z → Okm toGI 100 2 as h z := by
  intro as h z hz
  unfold sF_Mo_isSet at hz
  split at hz
  · next x0 =>
    exact okm_of (own := 7) (rk := 2) (by decide +kernel) (by decide +kernel) (by omega) rfl (Nat.le_of_ble_eq_true rfl) (exec_E OI_ok kc_Mo_isSet so_Mo_isSet (runF_E OI_ok kc_Mo_isSet so_Mo_isSet (fun _ h => absurd h List.not_mem_nil) 400) ((e_Mo_isSet_0 x0 h).symm.trans hz))
  · cases hz
set_option maxRecDepth 100000 in
theorem kc_Mo_isA : k_Mo_isA.all (chkE 7 (mtC 101)) = true := by decide +kernel
theorem so_Mo_isA : SemOK toGI S_Mo_isA 1 := fun _ h => absurd h List.not_mem_nil
set_option maxRecDepth 100000 in
theorem ok_Mo_isA : ∀ as h z, sF_Mo_isA as h = some z → Okm toGI 101 1 as h z := by
  intro as h z hz
  unfold sF_Mo_isA at hz
  split at hz
  · next f0 x1 x2 =>
    split at hz
    · next hq9 =>
      have hq9 := Nat.eq_of_beq_eq_true hq9
      subst hq9
      exact okm_of (own := 7) (rk := 2) (by decide +kernel) (by decide +kernel) (by omega) rfl (Nat.le_of_ble_eq_true rfl) (exec_E OI_ok kc_Mo_isA so_Mo_isA (runF_E OI_ok kc_Mo_isA so_Mo_isA (fun _ h => absurd h List.not_mem_nil) 400) ((e_Mo_isA_0 x1 x2 h).symm.trans hz))
    · cases hz
  · cases hz
set_option maxRecDepth 100000 in
theorem kc_Mo_barsOf : k_Mo_barsOf.all (chkE 7 (mtC 102)) = true := by decide +kernel
theorem so_Mo_barsOf : SemOK toGI S_Mo_barsOf 2 := List.forall_mem_cons.mpr ⟨⟨mt_101, 1, by omega, ok_Mo_isA⟩, fun _ h => absurd h List.not_mem_nil⟩
set_option maxRecDepth 100000 in
theorem ok_Mo_barsOf : ∀ as h z, sF_Mo_barsOf as h = some z → Okm toGI 102 2 as h z := by
  intro as h z hz
  unfold sF_Mo_barsOf at hz
  split at hz
  · next f0 x1 =>
    split at hz
    · next hq9 =>
      have hq9 := Nat.eq_of_beq_eq_true hq9
      subst hq9
      exact okm_of (own := 7) (rk := 1) (by decide +kernel) (by decide +kernel) (by omega) rfl (Nat.le_of_ble_eq_true rfl) (exec_E OI_ok kc_Mo_barsOf so_Mo_barsOf (runF_E OI_ok kc_Mo_barsOf so_Mo_barsOf (fun _ h => absurd h List.not_mem_nil) 400) ((e_Mo_barsOf_0 x1 h).symm.trans hz))
    · cases hz
  · cases hz
set_option maxRecDepth 100000 in
theorem kc_Mo_mayCarry : k_Mo_mayCarry.all (chkE 7 (mtC 103)) = true := by decide +kernel
theorem so_Mo_mayCarry : SemOK toGI S_Mo_mayCarry 3 := List.forall_mem_cons.mpr ⟨⟨mt_102, 2, by omega, ok_Mo_barsOf⟩, fun _ h => absurd h List.not_mem_nil⟩
set_option maxRecDepth 100000 in
theorem ok_Mo_mayCarry : ∀ as h z, sF_Mo_mayCarry as h = some z → Okm toGI 103 3 as h z := by
  intro as h z hz
  unfold sF_Mo_mayCarry at hz
  split at hz
  · next f0 x1 x2 =>
    split at hz
    · next hq9 =>
      have hq9 := Nat.eq_of_beq_eq_true hq9
      subst hq9
      exact okm_of (own := 7) (rk := 2) (by decide +kernel) (by decide +kernel) (by omega) rfl (Nat.le_of_ble_eq_true rfl) (exec_E OI_ok kc_Mo_mayCarry so_Mo_mayCarry (runF_E OI_ok kc_Mo_mayCarry so_Mo_mayCarry (fun _ h => absurd h List.not_mem_nil) 400) ((e_Mo_mayCarry_0 x1 x2 h).symm.trans hz))
    · cases hz
  · cases hz
set_option maxRecDepth 100000 in
theorem kc_Mo_metBy : k_Mo_metBy.all (chkE 7 (mtC 104)) = true := by decide +kernel
theorem so_Mo_metBy : SemOK toGI S_Mo_metBy 1 := fun _ h => absurd h List.not_mem_nil
set_option maxRecDepth 100000 in
theorem E_Mo_metBy_5 {z : Option Value × Hp} {x1 : Int32} {x2 : Int32} {x3 : Int32} {x4 : Int32} {h : Hp} (hz : loopC (Mo_metBy_5   ) FU (x1, x2, x3, x4, h) = some z) : Ends toGI 7 104 1 1 z 5 (spr (mtM 104) [0, 1, 2, 3, 4] [.ref 178, .int x1, .int x2, .int x3, .int x4]) [] h := by
  refine loop_E (b := Mo_metBy_5   ) (P := fun s => match s with | (x1, x2, x3, x4, h) => Ends toGI 7 104 1 1 z 5 (spr (mtM 104) [0, 1, 2, 3, 4] [.ref 178, .int x1, .int x2, .int x3, .int x4]) [] h) (fun s κ5 hκ hz => ?_) FU (x1, x2, x3, x4, h) hz
  obtain ⟨x1, x2, x3, x4, h⟩ := s
  have hκ5 : ∀ (x1 : Int32) (x2 : Int32) (x3 : Int32) (x4 : Int32) (h : Hp), κ5 (x1, x2, x3, x4, h) = some z → Ends toGI 7 104 1 1 z 5 (spr (mtM 104) [0, 1, 2, 3, 4] [.ref 178, .int x1, .int x2, .int x3, .int x4]) [] h := fun x1 x2 x3 x4 h q => hκ (x1, x2, x3, x4, h) q
  exact exec_E OI_ok kc_Mo_metBy so_Mo_metBy (runF_E OI_ok kc_Mo_metBy so_Mo_metBy (List.forall_mem_cons.mpr ⟨(by
    intro L st h vs hp hf
    dsimp only at hf
    split at hf
    · split at hf
      · next hq9 =>
        have hq9 := Nat.eq_of_beq_eq_true hq9
        subst hq9
        exact Ends.at hp (hκ5 _ _ _ _ _ hf)
      · cases hf
    · cases hf), fun _ h => absurd h List.not_mem_nil⟩) 400) ((e_Mo_metBy_5  κ5 x1 x2 x3 x4 h).symm.trans hz)
set_option maxRecDepth 100000 in
theorem ok_Mo_metBy : ∀ as h z, sF_Mo_metBy as h = some z → Okm toGI 104 1 as h z := by
  intro as h z hz
  unfold sF_Mo_metBy at hz
  split at hz
  · next f0 x1 x2 =>
    split at hz
    · next hq9 =>
      have hq9 := Nat.eq_of_beq_eq_true hq9
      subst hq9
      exact okm_of (own := 7) (rk := 1) (by decide +kernel) (by decide +kernel) (by omega) rfl (Nat.le_of_ble_eq_true rfl) (exec_E OI_ok kc_Mo_metBy so_Mo_metBy (runF_E OI_ok kc_Mo_metBy so_Mo_metBy (List.forall_mem_cons.mpr ⟨(by
          intro L st h vs hp hf
          dsimp only at hf
          split at hf
          · split at hf
            · next hq9 =>
              have hq9 := Nat.eq_of_beq_eq_true hq9
              subst hq9
              exact Ends.at hp (E_Mo_metBy_5 hf)
            · cases hf
          · cases hf), fun _ h => absurd h List.not_mem_nil⟩) 400) ((e_Mo_metBy_0 x1 x2 h).symm.trans hz))
    · cases hz
  · cases hz
set_option maxRecDepth 100000 in
theorem kc_Mo_letterOf : k_Mo_letterOf.all (chkE 7 (mtC 105)) = true := by decide +kernel
theorem so_Mo_letterOf : SemOK toGI S_Mo_letterOf 1 := fun _ h => absurd h List.not_mem_nil
set_option maxRecDepth 100000 in
theorem ok_Mo_letterOf : ∀ as h z, sF_Mo_letterOf as h = some z → Okm toGI 105 1 as h z := by
  intro as h z hz
  unfold sF_Mo_letterOf at hz
  split at hz
  · next f0 x1 x2 =>
    split at hz
    · next hq9 =>
      have hq9 := Nat.eq_of_beq_eq_true hq9
      subst hq9
      exact okm_of (own := 7) (rk := 1) (by decide +kernel) (by decide +kernel) (by omega) rfl (Nat.le_of_ble_eq_true rfl) (exec_E OI_ok kc_Mo_letterOf so_Mo_letterOf (runF_E OI_ok kc_Mo_letterOf so_Mo_letterOf (fun _ h => absurd h List.not_mem_nil) 400) ((e_Mo_letterOf_0 x1 x2 h).symm.trans hz))
    · cases hz
  · cases hz
set_option maxRecDepth 100000 in
theorem kc_Mo_holderOf : k_Mo_holderOf.all (chkE 7 (mtC 106)) = true := by decide +kernel
theorem so_Mo_holderOf : SemOK toGI S_Mo_holderOf 2 := List.forall_mem_cons.mpr ⟨⟨mt_105, 1, by omega, ok_Mo_letterOf⟩, fun _ h => absurd h List.not_mem_nil⟩
set_option maxRecDepth 100000 in
theorem ok_Mo_holderOf : ∀ as h z, sF_Mo_holderOf as h = some z → Okm toGI 106 2 as h z := by
  intro as h z hz
  unfold sF_Mo_holderOf at hz
  split at hz
  · next f0 x1 =>
    split at hz
    · next hq9 =>
      have hq9 := Nat.eq_of_beq_eq_true hq9
      subst hq9
      exact okm_of (own := 7) (rk := 1) (by decide +kernel) (by decide +kernel) (by omega) rfl (Nat.le_of_ble_eq_true rfl) (exec_E OI_ok kc_Mo_holderOf so_Mo_holderOf (runF_E OI_ok kc_Mo_holderOf so_Mo_holderOf (fun _ h => absurd h List.not_mem_nil) 400) ((e_Mo_holderOf_0 x1 h).symm.trans hz))
    · cases hz
  · cases hz
set_option maxRecDepth 100000 in
theorem kc_Mo_isThere : k_Mo_isThere.all (chkE 7 (mtC 107)) = true := by decide +kernel
theorem so_Mo_isThere : SemOK toGI S_Mo_isThere 3 := List.forall_mem_cons.mpr ⟨⟨mt_106, 2, by omega, ok_Mo_holderOf⟩, List.forall_mem_cons.mpr ⟨⟨mt_105, 1, by omega, ok_Mo_letterOf⟩, fun _ h => absurd h List.not_mem_nil⟩⟩
set_option maxRecDepth 100000 in
theorem ok_Mo_isThere : ∀ as h z, sF_Mo_isThere as h = some z → Okm toGI 107 3 as h z := by
  intro as h z hz
  unfold sF_Mo_isThere at hz
  split at hz
  · next f0 x1 =>
    split at hz
    · next hq9 =>
      have hq9 := Nat.eq_of_beq_eq_true hq9
      subst hq9
      exact okm_of (own := 7) (rk := 2) (by decide +kernel) (by decide +kernel) (by omega) rfl (Nat.le_of_ble_eq_true rfl) (exec_E OI_ok kc_Mo_isThere so_Mo_isThere (runF_E OI_ok kc_Mo_isThere so_Mo_isThere (fun _ h => absurd h List.not_mem_nil) 400) ((e_Mo_isThere_0 x1 h).symm.trans hz))
    · cases hz
  · cases hz
set_option maxRecDepth 100000 in
theorem kc_Mo_handOf : k_Mo_handOf.all (chkE 7 (mtC 108)) = true := by decide +kernel
theorem so_Mo_handOf : SemOK toGI S_Mo_handOf 4 := List.forall_mem_cons.mpr ⟨⟨mt_106, 2, by omega, ok_Mo_holderOf⟩, List.forall_mem_cons.mpr ⟨⟨mt_107, 3, by omega, ok_Mo_isThere⟩, fun _ h => absurd h List.not_mem_nil⟩⟩
set_option maxRecDepth 100000 in
theorem E_Mo_handOf_64 {z : Option Value × Hp} {x1 : Int32} {x2 : Int32} {x3 : Int32} {x4 : Int32} {h : Hp} (hz : loopC (Mo_handOf_64   ) FU (x1, x2, x3, x4, h) = some z) : Ends toGI 7 108 4 1 z 64 (spr (mtM 108) [0, 1, 2, 3, 4] [.ref 178, .int x1, .int x2, .int x3, .int x4]) [] h := by
  refine loop_E (b := Mo_handOf_64   ) (P := fun s => match s with | (x1, x2, x3, x4, h) => Ends toGI 7 108 4 1 z 64 (spr (mtM 108) [0, 1, 2, 3, 4] [.ref 178, .int x1, .int x2, .int x3, .int x4]) [] h) (fun s κ64 hκ hz => ?_) FU (x1, x2, x3, x4, h) hz
  obtain ⟨x1, x2, x3, x4, h⟩ := s
  have hκ64 : ∀ (x1 : Int32) (x2 : Int32) (x3 : Int32) (x4 : Int32) (h : Hp), κ64 (x1, x2, x3, x4, h) = some z → Ends toGI 7 108 4 1 z 64 (spr (mtM 108) [0, 1, 2, 3, 4] [.ref 178, .int x1, .int x2, .int x3, .int x4]) [] h := fun x1 x2 x3 x4 h q => hκ (x1, x2, x3, x4, h) q
  exact exec_E OI_ok kc_Mo_handOf so_Mo_handOf (runF_E OI_ok kc_Mo_handOf so_Mo_handOf (List.forall_mem_cons.mpr ⟨(by
    intro L st h vs hp hf
    dsimp only at hf
    split at hf
    · split at hf
      · next hq9 =>
        have hq9 := Nat.eq_of_beq_eq_true hq9
        subst hq9
        exact Ends.at hp (hκ64 _ _ _ _ _ hf)
      · cases hf
    · cases hf), fun _ h => absurd h List.not_mem_nil⟩) 400) ((e_Mo_handOf_64  κ64 x1 x2 x3 x4 h).symm.trans hz)
set_option maxRecDepth 100000 in
theorem E_Mo_handOf_5 {z : Option Value × Hp} {x1 : Int32} {x2 : Int32} {x3 : Int32} {x4 : Int32} {h : Hp} (hz : loopC (Mo_handOf_5   ) FU (x1, x2, x3, x4, h) = some z) : Ends toGI 7 108 4 1 z 5 (spr (mtM 108) [0, 1, 2, 3, 4] [.ref 178, .int x1, .int x2, .int x3, .int x4]) [] h := by
  refine loop_E (b := Mo_handOf_5   ) (P := fun s => match s with | (x1, x2, x3, x4, h) => Ends toGI 7 108 4 1 z 5 (spr (mtM 108) [0, 1, 2, 3, 4] [.ref 178, .int x1, .int x2, .int x3, .int x4]) [] h) (fun s κ5 hκ hz => ?_) FU (x1, x2, x3, x4, h) hz
  obtain ⟨x1, x2, x3, x4, h⟩ := s
  have hκ5 : ∀ (x1 : Int32) (x2 : Int32) (x3 : Int32) (x4 : Int32) (h : Hp), κ5 (x1, x2, x3, x4, h) = some z → Ends toGI 7 108 4 1 z 5 (spr (mtM 108) [0, 1, 2, 3, 4] [.ref 178, .int x1, .int x2, .int x3, .int x4]) [] h := fun x1 x2 x3 x4 h q => hκ (x1, x2, x3, x4, h) q
  exact exec_E OI_ok kc_Mo_handOf so_Mo_handOf (runF_E OI_ok kc_Mo_handOf so_Mo_handOf (List.forall_mem_cons.mpr ⟨(by
    intro L st h vs hp hf
    dsimp only at hf
    split at hf
    · split at hf
      · next hq9 =>
        have hq9 := Nat.eq_of_beq_eq_true hq9
        subst hq9
        exact Ends.at hp (E_Mo_handOf_64 hf)
      · cases hf
    · cases hf), List.forall_mem_cons.mpr ⟨(by
    intro L st h vs hp hf
    dsimp only at hf
    split at hf
    · split at hf
      · next hq9 =>
        have hq9 := Nat.eq_of_beq_eq_true hq9
        subst hq9
        exact Ends.at hp (hκ5 _ _ _ _ _ hf)
      · cases hf
    · cases hf), fun _ h => absurd h List.not_mem_nil⟩⟩) 400) ((e_Mo_handOf_5  κ5 x1 x2 x3 x4 h).symm.trans hz)
set_option maxRecDepth 100000 in
theorem ok_Mo_handOf : ∀ as h z, sF_Mo_handOf as h = some z → Okm toGI 108 4 as h z := by
  intro as h z hz
  unfold sF_Mo_handOf at hz
  split at hz
  · next f0 x1 x2 =>
    split at hz
    · next hq9 =>
      have hq9 := Nat.eq_of_beq_eq_true hq9
      subst hq9
      exact okm_of (own := 7) (rk := 1) (by decide +kernel) (by decide +kernel) (by omega) rfl (Nat.le_of_ble_eq_true rfl) (exec_E OI_ok kc_Mo_handOf so_Mo_handOf (runF_E OI_ok kc_Mo_handOf so_Mo_handOf (List.forall_mem_cons.mpr ⟨(by
          intro L st h vs hp hf
          dsimp only at hf
          split at hf
          · split at hf
            · next hq9 =>
              have hq9 := Nat.eq_of_beq_eq_true hq9
              subst hq9
              exact Ends.at hp (E_Mo_handOf_5 hf)
            · cases hf
          · cases hf), fun _ h => absurd h List.not_mem_nil⟩) 400) ((e_Mo_handOf_0 x1 x2 h).symm.trans hz))
    · cases hz
  · cases hz
set_option maxRecDepth 100000 in
theorem kc_Mo_hand : k_Mo_hand.all (chkE 7 (mtC 109)) = true := by decide +kernel
theorem so_Mo_hand : SemOK toGI S_Mo_hand 5 := List.forall_mem_cons.mpr ⟨⟨mt_97, 2, by omega, ok_Mo_isOne⟩, List.forall_mem_cons.mpr ⟨⟨mt_71, 1, by omega, ok_Mo_in⟩, List.forall_mem_cons.mpr ⟨⟨mt_108, 4, by omega, ok_Mo_handOf⟩, List.forall_mem_cons.mpr ⟨⟨mt_73, 1, by omega, ok_Mo_ask⟩, fun _ h => absurd h List.not_mem_nil⟩⟩⟩⟩
set_option maxRecDepth 100000 in
theorem ok_Mo_hand : ∀ as h z, sF_Mo_hand as h = some z → Okm toGI 109 5 as h z := by
  intro as h z hz
  unfold sF_Mo_hand at hz
  split at hz
  · next f0 x1 x2 =>
    split at hz
    · next hq9 =>
      have hq9 := Nat.eq_of_beq_eq_true hq9
      subst hq9
      exact okm_of (own := 7) (rk := 1) (by decide +kernel) (by decide +kernel) (by omega) rfl (Nat.le_of_ble_eq_true rfl) (exec_E OI_ok kc_Mo_hand so_Mo_hand (runF_E OI_ok kc_Mo_hand so_Mo_hand (fun _ h => absurd h List.not_mem_nil) 400) ((e_Mo_hand_0 x1 x2 h).symm.trans hz))
    · cases hz
  · cases hz
