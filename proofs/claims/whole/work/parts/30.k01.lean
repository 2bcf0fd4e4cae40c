set_option maxRecDepth 100000 in
theorem kc_La_takeFrom : k_La_takeFrom.all (chkE 0 (mtC 174)) = true := by decide +kernel
theorem so_La_takeFrom : SemOK toGI S_La_takeFrom 4 := List.forall_mem_cons.mpr ⟨⟨mt_179, 3, by omega, ok_La_tieAll⟩, List.forall_mem_cons.mpr ⟨⟨mt_197, 1, by omega, ok_Le_takeFrom⟩, fun _ h => absurd h List.not_mem_nil⟩⟩
set_option maxRecDepth 100000 in
theorem E_La_takeFrom_77 {z : Option Value × Hp} {o0 : Nat} {o1 : Nat} {x2 : Int32} {h : Hp} (hz : loopC (La_takeFrom_77   ) FU (o0, o1, x2, h) = some z) : Ends toGI 0 174 4 0 z 77 (spr (mtM 174) [0, 1, 2] [.ref o0, .ref o1, .int x2]) [] h := by
  refine loop_E (b := La_takeFrom_77   ) (P := fun s => match s with | (o0, o1, x2, h) => Ends toGI 0 174 4 0 z 77 (spr (mtM 174) [0, 1, 2] [.ref o0, .ref o1, .int x2]) [] h) (fun s κ77 hκ hz => ?_) FU (o0, o1, x2, h) hz
  obtain ⟨o0, o1, x2, h⟩ := s
  have hκ77 : ∀ (o0 : Nat) (o1 : Nat) (x2 : Int32) (h : Hp), κ77 (o0, o1, x2, h) = some z → Ends toGI 0 174 4 0 z 77 (spr (mtM 174) [0, 1, 2] [.ref o0, .ref o1, .int x2]) [] h := fun o0 o1 x2 h q => hκ (o0, o1, x2, h) q
  exact exec_E OI_ok kc_La_takeFrom so_La_takeFrom (runF_E OI_ok kc_La_takeFrom so_La_takeFrom (List.forall_mem_cons.mpr ⟨(by
    intro L st h vs hp hf
    dsimp only at hf
    split at hf
    · exact Ends.at hp (hκ77 _ _ _ _ hf)
    · cases hf), fun _ h => absurd h List.not_mem_nil⟩) 400) ((e_La_takeFrom_77  κ77 o0 o1 x2 h).symm.trans hz)
set_option maxRecDepth 100000 in
theorem ok_La_takeFrom : ∀ as h z, sF_La_takeFrom as h = some z → Okm toGI 174 4 as h z := by
  intro as h z hz
  unfold sF_La_takeFrom at hz
  split at hz
  · next o0 o1 =>
    exact okm_of (own := 0) (rk := 0) (by decide +kernel) (by decide +kernel) (by omega) rfl (Nat.le_of_ble_eq_true rfl) (exec_E OI_ok kc_La_takeFrom so_La_takeFrom (runF_E OI_ok kc_La_takeFrom so_La_takeFrom (List.forall_mem_cons.mpr ⟨(by
          intro L st h vs hp hf
          dsimp only at hf
          split at hf
          · exact Ends.at hp (E_La_takeFrom_77 hf)
          · cases hf), fun _ h => absurd h List.not_mem_nil⟩) 400) ((e_La_takeFrom_0 o0 o1 h).symm.trans hz))
  · cases hz
set_option maxRecDepth 100000 in
theorem kc_Bp_land : k_Bp_land.all (chkE 6 (mtC 10)) = true := by decide +kernel
theorem so_Bp_land : SemOK toGI S_Bp_land 7 := List.forall_mem_cons.mpr ⟨⟨mt_53, 1, by omega, ok_Bp_noText⟩, List.forall_mem_cons.mpr ⟨⟨mt_225, 1, by omega, ok_Sh_isThere⟩, List.forall_mem_cons.mpr ⟨⟨mt_217, 6, by omega, ok_Re_faultOf⟩, List.forall_mem_cons.mpr ⟨⟨mt_174, 4, by omega, ok_La_takeFrom⟩, List.forall_mem_cons.mpr ⟨⟨mt_50, 1, by omega, ok_Bp_found⟩, fun _ h => absurd h List.not_mem_nil⟩⟩⟩⟩⟩
set_option maxRecDepth 100000 in
theorem E_Bp_land_61 {z : Option Value × Hp} {x2 : Int32} {h : Hp} (hz : loopC (Bp_land_61   ) FU (x2, h) = some z) : Ends toGI 6 10 7 1 z 61 (spr (mtM 10) [0, 2] [.ref 0, .int x2]) [] h := by
  refine loop_E (b := Bp_land_61   ) (P := fun s => match s with | (x2, h) => Ends toGI 6 10 7 1 z 61 (spr (mtM 10) [0, 2] [.ref 0, .int x2]) [] h) (fun s κ61 hκ hz => ?_) FU (x2, h) hz
  obtain ⟨x2, h⟩ := s
  have hκ61 : ∀ (x2 : Int32) (h : Hp), κ61 (x2, h) = some z → Ends toGI 6 10 7 1 z 61 (spr (mtM 10) [0, 2] [.ref 0, .int x2]) [] h := fun x2 h q => hκ (x2, h) q
  exact exec_E OI_ok kc_Bp_land so_Bp_land (runF_E OI_ok kc_Bp_land so_Bp_land (List.forall_mem_cons.mpr ⟨(by
    intro L st h vs hp hf
    dsimp only at hf
    split at hf
    · split at hf
      · next hq9 =>
        have hq9 := Nat.eq_of_beq_eq_true hq9
        subst hq9
        exact Ends.at hp (hκ61 _ _ hf)
      · cases hf
    · cases hf), fun _ h => absurd h List.not_mem_nil⟩) 400) ((e_Bp_land_61  κ61 x2 h).symm.trans hz)
set_option maxRecDepth 100000 in
theorem ok_Bp_land : ∀ as h z, sF_Bp_land as h = some z → Okm toGI 10 7 as h z := by
  intro as h z hz
  unfold sF_Bp_land at hz
  split at hz
  · next f0 x1 =>
    split at hz
    · next hq9 =>
      have hq9 := Nat.eq_of_beq_eq_true hq9
      subst hq9
      exact okm_of (own := 6) (rk := 1) (by decide +kernel) (by decide +kernel) (by omega) rfl (Nat.le_of_ble_eq_true rfl) (exec_E OI_ok kc_Bp_land so_Bp_land (runF_E OI_ok kc_Bp_land so_Bp_land (List.forall_mem_cons.mpr ⟨(by
          intro L st h vs hp hf
          dsimp only at hf
          split at hf
          · split at hf
            · next hq9 =>
              have hq9 := Nat.eq_of_beq_eq_true hq9
              subst hq9
              exact Ends.at hp (E_Bp_land_61 hf)
            · cases hf
          · cases hf), fun _ h => absurd h List.not_mem_nil⟩) 400) ((e_Bp_land_0 x1 h).symm.trans hz))
    · cases hz
  · cases hz
set_option maxRecDepth 100000 in
theorem kc_La_meetingsOf : k_La_meetingsOf.all (chkE 0 (mtC 189)) = true := by decide +kernel
theorem so_La_meetingsOf : SemOK toGI S_La_meetingsOf 1 := fun _ h => absurd h List.not_mem_nil
set_option maxRecDepth 100000 in
theorem E_La_meetingsOf_4 {z : Option Value × Hp} {o0 : Nat} {x1 : Int32} {x2 : Int32} {x3 : Int32} {h : Hp} (hz : loopC (La_meetingsOf_4   ) FU (o0, x1, x2, x3, h) = some z) : Ends toGI 0 189 1 1 z 4 (spr (mtM 189) [0, 1, 2, 3] [.ref o0, .int x1, .int x2, .int x3]) [] h := by
  refine loop_E (b := La_meetingsOf_4   ) (P := fun s => match s with | (o0, x1, x2, x3, h) => Ends toGI 0 189 1 1 z 4 (spr (mtM 189) [0, 1, 2, 3] [.ref o0, .int x1, .int x2, .int x3]) [] h) (fun s κ4 hκ hz => ?_) FU (o0, x1, x2, x3, h) hz
  obtain ⟨o0, x1, x2, x3, h⟩ := s
  have hκ4 : ∀ (o0 : Nat) (x1 : Int32) (x2 : Int32) (x3 : Int32) (h : Hp), κ4 (o0, x1, x2, x3, h) = some z → Ends toGI 0 189 1 1 z 4 (spr (mtM 189) [0, 1, 2, 3] [.ref o0, .int x1, .int x2, .int x3]) [] h := fun o0 x1 x2 x3 h q => hκ (o0, x1, x2, x3, h) q
  exact exec_E OI_ok kc_La_meetingsOf so_La_meetingsOf (runF_E OI_ok kc_La_meetingsOf so_La_meetingsOf (List.forall_mem_cons.mpr ⟨(by
    intro L st h vs hp hf
    dsimp only at hf
    split at hf
    · exact Ends.at hp (hκ4 _ _ _ _ _ hf)
    · cases hf), fun _ h => absurd h List.not_mem_nil⟩) 400) ((e_La_meetingsOf_4  κ4 o0 x1 x2 x3 h).symm.trans hz)
set_option maxRecDepth 100000 in
theorem ok_La_meetingsOf : ∀ as h z, sF_La_meetingsOf as h = some z → Okm toGI 189 1 as h z := by
  intro as h z hz
  unfold sF_La_meetingsOf at hz
  split at hz
  · next o0 x1 =>
    exact okm_of (own := 0) (rk := 1) (by decide +kernel) (by decide +kernel) (by omega) rfl (Nat.le_of_ble_eq_true rfl) (exec_E OI_ok kc_La_meetingsOf so_La_meetingsOf (runF_E OI_ok kc_La_meetingsOf so_La_meetingsOf (List.forall_mem_cons.mpr ⟨(by
          intro L st h vs hp hf
          dsimp only at hf
          split at hf
          · exact Ends.at hp (E_La_meetingsOf_4 hf)
          · cases hf), fun _ h => absurd h List.not_mem_nil⟩) 400) ((e_La_meetingsOf_0 o0 x1 h).symm.trans hz))
  · cases hz
set_option maxRecDepth 100000 in
theorem kc_Le_holder : k_Le_holder.all (chkE 1 (mtC 198)) = true := by decide +kernel
theorem so_Le_holder : SemOK toGI S_Le_holder 1 := fun _ h => absurd h List.not_mem_nil
set_option maxRecDepth 100000 in
theorem ok_Le_holder : ∀ as h z, sF_Le_holder as h = some z → Okm toGI 198 1 as h z := by
  intro as h z hz
  unfold sF_Le_holder at hz
  split at hz
  · next o0 =>
    exact okm_of (own := 1) (rk := 1) (by decide +kernel) (by decide +kernel) (by omega) rfl (Nat.le_of_ble_eq_true rfl) (exec_E OI_ok kc_Le_holder so_Le_holder (runF_E OI_ok kc_Le_holder so_Le_holder (fun _ h => absurd h List.not_mem_nil) 400) ((e_Le_holder_0 o0 h).symm.trans hz))
  · cases hz
set_option maxRecDepth 100000 in
theorem kc_Le_isThere : k_Le_isThere.all (chkE 1 (mtC 200)) = true := by decide +kernel
theorem so_Le_isThere : SemOK toGI S_Le_isThere 2 := List.forall_mem_cons.mpr ⟨⟨mt_198, 1, by omega, ok_Le_holder⟩, fun _ h => absurd h List.not_mem_nil⟩
set_option maxRecDepth 100000 in
theorem ok_Le_isThere : ∀ as h z, sF_Le_isThere as h = some z → Okm toGI 200 2 as h z := by
  intro as h z hz
  unfold sF_Le_isThere at hz
  split at hz
  · next o0 =>
    exact okm_of (own := 1) (rk := 2) (by decide +kernel) (by decide +kernel) (by omega) rfl (Nat.le_of_ble_eq_true rfl) (exec_E OI_ok kc_Le_isThere so_Le_isThere (runF_E OI_ok kc_Le_isThere so_Le_isThere (fun _ h => absurd h List.not_mem_nil) 400) ((e_Le_isThere_0 o0 h).symm.trans hz))
  · cases hz
set_option maxRecDepth 100000 in
theorem kc_La_lettersWith : k_La_lettersWith.all (chkE 0 (mtC 190)) = true := by decide +kernel
theorem so_La_lettersWith : SemOK toGI S_La_lettersWith 3 := List.forall_mem_cons.mpr ⟨⟨mt_198, 1, by omega, ok_Le_holder⟩, List.forall_mem_cons.mpr ⟨⟨mt_200, 2, by omega, ok_Le_isThere⟩, fun _ h => absurd h List.not_mem_nil⟩⟩
set_option maxRecDepth 100000 in
theorem E_La_lettersWith_4 {z : Option Value × Hp} {o0 : Nat} {x1 : Int32} {x2 : Int32} {x3 : Int32} {h : Hp} (hz : loopC (La_lettersWith_4   ) FU (o0, x1, x2, x3, h) = some z) : Ends toGI 0 190 3 1 z 4 (spr (mtM 190) [0, 1, 2, 3] [.ref o0, .int x1, .int x2, .int x3]) [] h := by
  refine loop_E (b := La_lettersWith_4   ) (P := fun s => match s with | (o0, x1, x2, x3, h) => Ends toGI 0 190 3 1 z 4 (spr (mtM 190) [0, 1, 2, 3] [.ref o0, .int x1, .int x2, .int x3]) [] h) (fun s κ4 hκ hz => ?_) FU (o0, x1, x2, x3, h) hz
  obtain ⟨o0, x1, x2, x3, h⟩ := s
  have hκ4 : ∀ (o0 : Nat) (x1 : Int32) (x2 : Int32) (x3 : Int32) (h : Hp), κ4 (o0, x1, x2, x3, h) = some z → Ends toGI 0 190 3 1 z 4 (spr (mtM 190) [0, 1, 2, 3] [.ref o0, .int x1, .int x2, .int x3]) [] h := fun o0 x1 x2 x3 h q => hκ (o0, x1, x2, x3, h) q
  exact exec_E OI_ok kc_La_lettersWith so_La_lettersWith (runF_E OI_ok kc_La_lettersWith so_La_lettersWith (List.forall_mem_cons.mpr ⟨(by
    intro L st h vs hp hf
    dsimp only at hf
    split at hf
    · exact Ends.at hp (hκ4 _ _ _ _ _ hf)
    · cases hf), fun _ h => absurd h List.not_mem_nil⟩) 400) ((e_La_lettersWith_4  κ4 o0 x1 x2 x3 h).symm.trans hz)
set_option maxRecDepth 100000 in
theorem ok_La_lettersWith : ∀ as h z, sF_La_lettersWith as h = some z → Okm toGI 190 3 as h z := by
  intro as h z hz
  unfold sF_La_lettersWith at hz
  split at hz
  · next o0 x1 =>
    exact okm_of (own := 0) (rk := 1) (by decide +kernel) (by decide +kernel) (by omega) rfl (Nat.le_of_ble_eq_true rfl) (exec_E OI_ok kc_La_lettersWith so_La_lettersWith (runF_E OI_ok kc_La_lettersWith so_La_lettersWith (List.forall_mem_cons.mpr ⟨(by
          intro L st h vs hp hf
          dsimp only at hf
          split at hf
          · exact Ends.at hp (E_La_lettersWith_4 hf)
          · cases hf), fun _ h => absurd h List.not_mem_nil⟩) 400) ((e_La_lettersWith_0 o0 x1 h).symm.trans hz))
  · cases hz
set_option maxRecDepth 100000 in
theorem kc_La_factOf : k_La_factOf.all (chkE 0 (mtC 188)) = true := by decide +kernel
theorem so_La_factOf : SemOK toGI S_La_factOf 4 := List.forall_mem_cons.mpr ⟨⟨mt_189, 1, by omega, ok_La_meetingsOf⟩, List.forall_mem_cons.mpr ⟨⟨mt_190, 3, by omega, ok_La_lettersWith⟩, fun _ h => absurd h List.not_mem_nil⟩⟩
set_option maxRecDepth 100000 in
theorem ok_La_factOf : ∀ as h z, sF_La_factOf as h = some z → Okm toGI 188 4 as h z := by
  intro as h z hz
  unfold sF_La_factOf at hz
  split at hz
  · next o0 x1 x2 =>
    exact okm_of (own := 0) (rk := 1) (by decide +kernel) (by decide +kernel) (by omega) rfl (Nat.le_of_ble_eq_true rfl) (exec_E OI_ok kc_La_factOf so_La_factOf (runF_E OI_ok kc_La_factOf so_La_factOf (fun _ h => absurd h List.not_mem_nil) 400) ((e_La_factOf_0 o0 x1 x2 h).symm.trans hz))
  · cases hz
set_option maxRecDepth 100000 in
theorem kc_Bp_hand : k_Bp_hand.all (chkE 6 (mtC 11)) = true := by decide +kernel
theorem so_Bp_hand : SemOK toGI S_Bp_hand 5 := List.forall_mem_cons.mpr ⟨⟨mt_175, 1, by omega, ok_La_lacks⟩, List.forall_mem_cons.mpr ⟨⟨mt_188, 4, by omega, ok_La_factOf⟩, List.forall_mem_cons.mpr ⟨⟨mt_51, 1, by omega, ok_Bp_tell⟩, fun _ h => absurd h List.not_mem_nil⟩⟩⟩
set_option maxRecDepth 100000 in
theorem ok_Bp_hand : ∀ as h z, sF_Bp_hand as h = some z → Okm toGI 11 5 as h z := by
  intro as h z hz
  unfold sF_Bp_hand at hz
  split at hz
  · next f0 x1 x2 =>
    split at hz
    · next hq9 =>
      have hq9 := Nat.eq_of_beq_eq_true hq9
      subst hq9
      exact okm_of (own := 6) (rk := 1) (by decide +kernel) (by decide +kernel) (by omega) rfl (Nat.le_of_ble_eq_true rfl) (exec_E OI_ok kc_Bp_hand so_Bp_hand (runF_E OI_ok kc_Bp_hand so_Bp_hand (fun _ h => absurd h List.not_mem_nil) 400) ((e_Bp_hand_0 x1 x2 h).symm.trans hz))
    · cases hz
  · cases hz
set_option maxRecDepth 100000 in
theorem kc_Bp_isOf : k_Bp_isOf.all (chkE 6 (mtC 67)) = true := by decide +kernel
theorem so_Bp_isOf : SemOK toGI S_Bp_isOf 1 := fun _ h => absurd h List.not_mem_nil
set_option maxRecDepth 100000 in
theorem ok_Bp_isOf : ∀ as h z, sF_Bp_isOf as h = some z → Okm toGI 67 1 as h z := by
  intro as h z hz
  unfold sF_Bp_isOf at hz
  split at hz
  · next x0 x1 =>
    exact okm_of (own := 6) (rk := 2) (by decide +kernel) (by decide +kernel) (by omega) rfl (Nat.le_of_ble_eq_true rfl) (exec_E OI_ok kc_Bp_isOf so_Bp_isOf (runF_E OI_ok kc_Bp_isOf so_Bp_isOf (fun _ h => absurd h List.not_mem_nil) 400) ((e_Bp_isOf_0 x0 x1 h).symm.trans hz))
  · cases hz
set_option maxRecDepth 100000 in
theorem kc_Jint_bitCount : k_Jint_bitCount.all (chkE 9 (mtC 250)) = true := by decide +kernel
theorem so_Jint_bitCount : SemOK toGI S_Jint_bitCount 1 := fun _ h => absurd h List.not_mem_nil
set_option maxRecDepth 100000 in
theorem ok_Jint_bitCount : ∀ as h z, sF_Jint_bitCount as h = some z → Okm toGI 250 1 as h z := by
  intro as h z hz
  unfold sF_Jint_bitCount at hz
  split at hz
  · next x0 =>
    exact okm_of (own := 9) (rk := 1) (by decide +kernel) (by decide +kernel) (by omega) rfl (Nat.le_of_ble_eq_true rfl) (exec_E OI_ok kc_Jint_bitCount so_Jint_bitCount (runF_E OI_ok kc_Jint_bitCount so_Jint_bitCount (fun _ h => absurd h List.not_mem_nil) 400) ((e_Jint_bitCount_0 x0 h).symm.trans hz))
  · cases hz
set_option maxRecDepth 100000 in
theorem kc_Bp_withNeighbours : k_Bp_withNeighbours.all (chkE 6 (mtC 69)) = true := by decide +kernel
theorem so_Bp_withNeighbours : SemOK toGI S_Bp_withNeighbours 1 := fun _ h => absurd h List.not_mem_nil
set_option maxRecDepth 100000 in
theorem ok_Bp_withNeighbours : ∀ as h z, sF_Bp_withNeighbours as h = some z → Okm toGI 69 1 as h z := by
  intro as h z hz
  unfold sF_Bp_withNeighbours at hz
  split at hz
  · next x0 =>
    exact okm_of (own := 6) (rk := 1) (by decide +kernel) (by decide +kernel) (by omega) rfl (Nat.le_of_ble_eq_true rfl) (exec_E OI_ok kc_Bp_withNeighbours so_Bp_withNeighbours (runF_E OI_ok kc_Bp_withNeighbours so_Bp_withNeighbours (fun _ h => absurd h List.not_mem_nil) 400) ((e_Bp_withNeighbours_0 x0 h).symm.trans hz))
  · cases hz
set_option maxRecDepth 100000 in
theorem kc_Le_wasGivenOnBy : k_Le_wasGivenOnBy.all (chkE 1 (mtC 204)) = true := by decide +kernel
theorem so_Le_wasGivenOnBy : SemOK toGI S_Le_wasGivenOnBy 1 := fun _ h => absurd h List.not_mem_nil
set_option maxRecDepth 100000 in
theorem E_Le_wasGivenOnBy_2 {z : Option Value × Hp} {o0 : Nat} {x1 : Int32} {x2 : Int32} {h : Hp} (hz : loopC (Le_wasGivenOnBy_2   ) FU (o0, x1, x2, h) = some z) : Ends toGI 1 204 1 2 z 2 (spr (mtM 204) [0, 1, 2] [.ref o0, .int x1, .int x2]) [] h := by
  refine loop_E (b := Le_wasGivenOnBy_2   ) (P := fun s => match s with | (o0, x1, x2, h) => Ends toGI 1 204 1 2 z 2 (spr (mtM 204) [0, 1, 2] [.ref o0, .int x1, .int x2]) [] h) (fun s κ2 hκ hz => ?_) FU (o0, x1, x2, h) hz
  obtain ⟨o0, x1, x2, h⟩ := s
  have hκ2 : ∀ (o0 : Nat) (x1 : Int32) (x2 : Int32) (h : Hp), κ2 (o0, x1, x2, h) = some z → Ends toGI 1 204 1 2 z 2 (spr (mtM 204) [0, 1, 2] [.ref o0, .int x1, .int x2]) [] h := fun o0 x1 x2 h q => hκ (o0, x1, x2, h) q
  exact exec_E OI_ok kc_Le_wasGivenOnBy so_Le_wasGivenOnBy (runF_E OI_ok kc_Le_wasGivenOnBy so_Le_wasGivenOnBy (List.forall_mem_cons.mpr ⟨(by
    intro L st h vs hp hf
    dsimp only at hf
    split at hf
    · exact Ends.at hp (hκ2 _ _ _ _ hf)
    · cases hf), fun _ h => absurd h List.not_mem_nil⟩) 400) ((e_Le_wasGivenOnBy_2  κ2 o0 x1 x2 h).symm.trans hz)
set_option maxRecDepth 100000 in
theorem ok_Le_wasGivenOnBy : ∀ as h z, sF_Le_wasGivenOnBy as h = some z → Okm toGI 204 1 as h z := by
  intro as h z hz
  unfold sF_Le_wasGivenOnBy at hz
  split at hz
  · next o0 x1 =>
    exact okm_of (own := 1) (rk := 2) (by decide +kernel) (by decide +kernel) (by omega) rfl (Nat.le_of_ble_eq_true rfl) (exec_E OI_ok kc_Le_wasGivenOnBy so_Le_wasGivenOnBy (runF_E OI_ok kc_Le_wasGivenOnBy so_Le_wasGivenOnBy (List.forall_mem_cons.mpr ⟨(by
          intro L st h vs hp hf
          dsimp only at hf
          split at hf
          · exact Ends.at hp (E_Le_wasGivenOnBy_2 hf)
          · cases hf), fun _ h => absurd h List.not_mem_nil⟩) 400) ((e_Le_wasGivenOnBy_0 o0 x1 h).symm.trans hz))
  · cases hz
set_option maxRecDepth 100000 in
theorem kc_La_lettersGivenOnBy : k_La_lettersGivenOnBy.all (chkE 0 (mtC 193)) = true := by decide +kernel
theorem so_La_lettersGivenOnBy : SemOK toGI S_La_lettersGivenOnBy 2 := List.forall_mem_cons.mpr ⟨⟨mt_204, 1, by omega, ok_Le_wasGivenOnBy⟩, fun _ h => absurd h List.not_mem_nil⟩
set_option maxRecDepth 100000 in
theorem E_La_lettersGivenOnBy_4 {z : Option Value × Hp} {o0 : Nat} {x1 : Int32} {x2 : Int32} {x3 : Int32} {h : Hp} (hz : loopC (La_lettersGivenOnBy_4   ) FU (o0, x1, x2, x3, h) = some z) : Ends toGI 0 193 2 1 z 4 (spr (mtM 193) [0, 1, 2, 3] [.ref o0, .int x1, .int x2, .int x3]) [] h := by
  refine loop_E (b := La_lettersGivenOnBy_4   ) (P := fun s => match s with | (o0, x1, x2, x3, h) => Ends toGI 0 193 2 1 z 4 (spr (mtM 193) [0, 1, 2, 3] [.ref o0, .int x1, .int x2, .int x3]) [] h) (fun s κ4 hκ hz => ?_) FU (o0, x1, x2, x3, h) hz
  obtain ⟨o0, x1, x2, x3, h⟩ := s
  have hκ4 : ∀ (o0 : Nat) (x1 : Int32) (x2 : Int32) (x3 : Int32) (h : Hp), κ4 (o0, x1, x2, x3, h) = some z → Ends toGI 0 193 2 1 z 4 (spr (mtM 193) [0, 1, 2, 3] [.ref o0, .int x1, .int x2, .int x3]) [] h := fun o0 x1 x2 x3 h q => hκ (o0, x1, x2, x3, h) q
  exact exec_E OI_ok kc_La_lettersGivenOnBy so_La_lettersGivenOnBy (runF_E OI_ok kc_La_lettersGivenOnBy so_La_lettersGivenOnBy (List.forall_mem_cons.mpr ⟨(by
    intro L st h vs hp hf
    dsimp only at hf
    split at hf
    · exact Ends.at hp (hκ4 _ _ _ _ _ hf)
    · cases hf), fun _ h => absurd h List.not_mem_nil⟩) 400) ((e_La_lettersGivenOnBy_4  κ4 o0 x1 x2 x3 h).symm.trans hz)
set_option maxRecDepth 100000 in
theorem ok_La_lettersGivenOnBy : ∀ as h z, sF_La_lettersGivenOnBy as h = some z → Okm toGI 193 2 as h z := by
  intro as h z hz
  unfold sF_La_lettersGivenOnBy at hz
  split at hz
  · next o0 x1 =>
    exact okm_of (own := 0) (rk := 1) (by decide +kernel) (by decide +kernel) (by omega) rfl (Nat.le_of_ble_eq_true rfl) (exec_E OI_ok kc_La_lettersGivenOnBy so_La_lettersGivenOnBy (runF_E OI_ok kc_La_lettersGivenOnBy so_La_lettersGivenOnBy (List.forall_mem_cons.mpr ⟨(by
          intro L st h vs hp hf
          dsimp only at hf
          split at hf
          · exact Ends.at hp (E_La_lettersGivenOnBy_4 hf)
          · cases hf), fun _ h => absurd h List.not_mem_nil⟩) 400) ((e_La_lettersGivenOnBy_0 o0 x1 h).symm.trans hz))
  · cases hz
set_option maxRecDepth 100000 in
theorem kc_La_markOf : k_La_markOf.all (chkE 0 (mtC 192)) = true := by decide +kernel
theorem so_La_markOf : SemOK toGI S_La_markOf 3 := List.forall_mem_cons.mpr ⟨⟨mt_250, 1, by omega, ok_Jint_bitCount⟩, List.forall_mem_cons.mpr ⟨⟨mt_69, 1, by omega, ok_Bp_withNeighbours⟩, List.forall_mem_cons.mpr ⟨⟨mt_193, 2, by omega, ok_La_lettersGivenOnBy⟩, fun _ h => absurd h List.not_mem_nil⟩⟩⟩
set_option maxRecDepth 100000 in
theorem ok_La_markOf : ∀ as h z, sF_La_markOf as h = some z → Okm toGI 192 3 as h z := by
  intro as h z hz
  unfold sF_La_markOf at hz
  split at hz
  · next o0 x1 x2 =>
    exact okm_of (own := 0) (rk := 1) (by decide +kernel) (by decide +kernel) (by omega) rfl (Nat.le_of_ble_eq_true rfl) (exec_E OI_ok kc_La_markOf so_La_markOf (runF_E OI_ok kc_La_markOf so_La_markOf (fun _ h => absurd h List.not_mem_nil) 400) ((e_La_markOf_0 o0 x1 x2 h).symm.trans hz))
  · cases hz
set_option maxRecDepth 100000 in
theorem kc_Bp_mark : k_Bp_mark.all (chkE 6 (mtC 12)) = true := by decide +kernel
theorem so_Bp_mark : SemOK toGI S_Bp_mark 4 := List.forall_mem_cons.mpr ⟨⟨mt_175, 1, by omega, ok_La_lacks⟩, List.forall_mem_cons.mpr ⟨⟨mt_67, 1, by omega, ok_Bp_isOf⟩, List.forall_mem_cons.mpr ⟨⟨mt_192, 3, by omega, ok_La_markOf⟩, List.forall_mem_cons.mpr ⟨⟨mt_50, 1, by omega, ok_Bp_found⟩, fun _ h => absurd h List.not_mem_nil⟩⟩⟩⟩
set_option maxRecDepth 100000 in
theorem ok_Bp_mark : ∀ as h z, sF_Bp_mark as h = some z → Okm toGI 12 4 as h z := by
  intro as h z hz
  unfold sF_Bp_mark at hz
  split at hz
  · next f0 x1 x2 =>
    split at hz
    · next hq9 =>
      have hq9 := Nat.eq_of_beq_eq_true hq9
      subst hq9
      exact okm_of (own := 6) (rk := 1) (by decide +kernel) (by decide +kernel) (by omega) rfl (Nat.le_of_ble_eq_true rfl) (exec_E OI_ok kc_Bp_mark so_Bp_mark (runF_E OI_ok kc_Bp_mark so_Bp_mark (fun _ h => absurd h List.not_mem_nil) 400) ((e_Bp_mark_0 x1 x2 h).symm.trans hz))
    · cases hz
  · cases hz
set_option maxRecDepth 100000 in
theorem kc_Bp_teach : k_Bp_teach.all (chkE 6 (mtC 13)) = true := by decide +kernel
theorem so_Bp_teach : SemOK toGI S_Bp_teach 2 := List.forall_mem_cons.mpr ⟨⟨mt_175, 1, by omega, ok_La_lacks⟩, List.forall_mem_cons.mpr ⟨⟨mt_55, 1, by omega, ok_Bp_noTongue⟩, List.forall_mem_cons.mpr ⟨⟨mt_64, 1, by omega, ok_Bp_bit⟩, fun _ h => absurd h List.not_mem_nil⟩⟩⟩
set_option maxRecDepth 100000 in
theorem ok_Bp_teach : ∀ as h z, sF_Bp_teach as h = some z → Okm toGI 13 2 as h z := by
  intro as h z hz
  unfold sF_Bp_teach at hz
  split at hz
  · next f0 x1 x2 x3 =>
    split at hz
    · next hq9 =>
      have hq9 := Nat.eq_of_beq_eq_true hq9
      subst hq9
      exact okm_of (own := 6) (rk := 1) (by decide +kernel) (by decide +kernel) (by omega) rfl (Nat.le_of_ble_eq_true rfl) (exec_E OI_ok kc_Bp_teach so_Bp_teach (runF_E OI_ok kc_Bp_teach so_Bp_teach (fun _ h => absurd h List.not_mem_nil) 400) ((e_Bp_teach_0 x1 x2 x3 h).symm.trans hz))
    · cases hz
  · cases hz
set_option maxRecDepth 100000 in
theorem kc_Bp_noPair : k_Bp_noPair.all (chkE 6 (mtC 58)) = true := by decide +kernel
theorem so_Bp_noPair : SemOK toGI S_Bp_noPair 2 := List.forall_mem_cons.mpr ⟨⟨mt_175, 1, by omega, ok_La_lacks⟩, fun _ h => absurd h List.not_mem_nil⟩
set_option maxRecDepth 100000 in
theorem ok_Bp_noPair : ∀ as h z, sF_Bp_noPair as h = some z → Okm toGI 58 2 as h z := by
  intro as h z hz
  unfold sF_Bp_noPair at hz
  split at hz
  · next f0 x1 x2 =>
    split at hz
    · next hq9 =>
      have hq9 := Nat.eq_of_beq_eq_true hq9
      subst hq9
      exact okm_of (own := 6) (rk := 2) (by decide +kernel) (by decide +kernel) (by omega) rfl (Nat.le_of_ble_eq_true rfl) (exec_E OI_ok kc_Bp_noPair so_Bp_noPair (runF_E OI_ok kc_Bp_noPair so_Bp_noPair (fun _ h => absurd h List.not_mem_nil) 400) ((e_Bp_noPair_0 x1 x2 h).symm.trans hz))
    · cases hz
  · cases hz
set_option maxRecDepth 100000 in
theorem kc_Bp_meet : k_Bp_meet.all (chkE 6 (mtC 14)) = true := by decide +kernel
theorem so_Bp_meet : SemOK toGI S_Bp_meet 4 := List.forall_mem_cons.mpr ⟨⟨mt_58, 2, by omega, ok_Bp_noPair⟩, List.forall_mem_cons.mpr ⟨⟨mt_177, 3, by omega, ok_La_addMeeting⟩, fun _ h => absurd h List.not_mem_nil⟩⟩
set_option maxRecDepth 100000 in
theorem ok_Bp_meet : ∀ as h z, sF_Bp_meet as h = some z → Okm toGI 14 4 as h z := by
  intro as h z hz
  unfold sF_Bp_meet at hz
  split at hz
  · next f0 x1 x2 x3 =>
    split at hz
    · next hq9 =>
      have hq9 := Nat.eq_of_beq_eq_true hq9
      subst hq9
      exact okm_of (own := 6) (rk := 1) (by decide +kernel) (by decide +kernel) (by omega) rfl (Nat.le_of_ble_eq_true rfl) (exec_E OI_ok kc_Bp_meet so_Bp_meet (runF_E OI_ok kc_Bp_meet so_Bp_meet (fun _ h => absurd h List.not_mem_nil) 400) ((e_Bp_meet_0 x1 x2 x3 h).symm.trans hz))
    · cases hz
  · cases hz
set_option maxRecDepth 100000 in
theorem kc_Bp_off : k_Bp_off.all (chkE 6 (mtC 15)) = true := by decide +kernel
theorem so_Bp_off : SemOK toGI S_Bp_off 4 := List.forall_mem_cons.mpr ⟨⟨mt_179, 3, by omega, ok_La_tieAll⟩, fun _ h => absurd h List.not_mem_nil⟩
set_option maxRecDepth 100000 in
theorem ok_Bp_off : ∀ as h z, sF_Bp_off as h = some z → Okm toGI 15 4 as h z := by
  intro as h z hz
  unfold sF_Bp_off at hz
  split at hz
  · next f0 x1 =>
    split at hz
    · next hq9 =>
      have hq9 := Nat.eq_of_beq_eq_true hq9
      subst hq9
      exact okm_of (own := 6) (rk := 1) (by decide +kernel) (by decide +kernel) (by omega) rfl (Nat.le_of_ble_eq_true rfl) (exec_E OI_ok kc_Bp_off so_Bp_off (runF_E OI_ok kc_Bp_off so_Bp_off (fun _ h => absurd h List.not_mem_nil) 400) ((e_Bp_off_0 x1 h).symm.trans hz))
    · cases hz
  · cases hz
set_option maxRecDepth 100000 in
theorem kc_Bp_noTongues : k_Bp_noTongues.all (chkE 6 (mtC 56)) = true := by decide +kernel
theorem so_Bp_noTongues : SemOK toGI S_Bp_noTongues 1 := fun _ h => absurd h List.not_mem_nil
set_option maxRecDepth 100000 in
theorem ok_Bp_noTongues : ∀ as h z, sF_Bp_noTongues as h = some z → Okm toGI 56 1 as h z := by
  intro as h z hz
  unfold sF_Bp_noTongues at hz
  split at hz
  · next x0 =>
    exact okm_of (own := 6) (rk := 2) (by decide +kernel) (by decide +kernel) (by omega) rfl (Nat.le_of_ble_eq_true rfl) (exec_E OI_ok kc_Bp_noTongues so_Bp_noTongues (runF_E OI_ok kc_Bp_noTongues so_Bp_noTongues (fun _ h => absurd h List.not_mem_nil) 400) ((e_Bp_noTongues_0 x0 h).symm.trans hz))
  · cases hz
set_option maxRecDepth 100000 in
theorem kc_La_bars : k_La_bars.all (chkE 0 (mtC 182)) = true := by decide +kernel
theorem so_La_bars : SemOK toGI S_La_bars 2 := List.forall_mem_cons.mpr ⟨⟨mt_69, 1, by omega, ok_Bp_withNeighbours⟩, fun _ h => absurd h List.not_mem_nil⟩
set_option maxRecDepth 100000 in
theorem ok_La_bars : ∀ as h z, sF_La_bars as h = some z → Okm toGI 182 2 as h z := by
  intro as h z hz
  unfold sF_La_bars at hz
  split at hz
  · next o0 x1 x2 =>
    exact okm_of (own := 0) (rk := 1) (by decide +kernel) (by decide +kernel) (by omega) rfl (Nat.le_of_ble_eq_true rfl) (exec_E OI_ok kc_La_bars so_La_bars (runF_E OI_ok kc_La_bars so_La_bars (fun _ h => absurd h List.not_mem_nil) 400) ((e_La_bars_0 o0 x1 x2 h).symm.trans hz))
  · cases hz
set_option maxRecDepth 100000 in
theorem kc_La_carries : k_La_carries.all (chkE 0 (mtC 183)) = true := by decide +kernel
theorem so_La_carries : SemOK toGI S_La_carries 3 := List.forall_mem_cons.mpr ⟨⟨mt_182, 2, by omega, ok_La_bars⟩, fun _ h => absurd h List.not_mem_nil⟩
set_option maxRecDepth 100000 in
theorem ok_La_carries : ∀ as h z, sF_La_carries as h = some z → Okm toGI 183 3 as h z := by
  intro as h z hz
  unfold sF_La_carries at hz
  split at hz
  · next o0 x1 x2 =>
    exact okm_of (own := 0) (rk := 2) (by decide +kernel) (by decide +kernel) (by omega) rfl (Nat.le_of_ble_eq_true rfl) (exec_E OI_ok kc_La_carries so_La_carries (runF_E OI_ok kc_La_carries so_La_carries (fun _ h => absurd h List.not_mem_nil) 400) ((e_La_carries_0 o0 x1 x2 h).symm.trans hz))
  · cases hz
set_option maxRecDepth 100000 in
theorem kc_Bp_may : k_Bp_may.all (chkE 6 (mtC 16)) = true := by decide +kernel
theorem so_Bp_may : SemOK toGI S_Bp_may 4 := List.forall_mem_cons.mpr ⟨⟨mt_175, 1, by omega, ok_La_lacks⟩, List.forall_mem_cons.mpr ⟨⟨mt_56, 1, by omega, ok_Bp_noTongues⟩, List.forall_mem_cons.mpr ⟨⟨mt_183, 3, by omega, ok_La_carries⟩, fun _ h => absurd h List.not_mem_nil⟩⟩⟩
set_option maxRecDepth 100000 in
theorem ok_Bp_may : ∀ as h z, sF_Bp_may as h = some z → Okm toGI 16 4 as h z := by
  intro as h z hz
  unfold sF_Bp_may at hz
  split at hz
  · next f0 x1 x2 =>
    split at hz
    · next hq9 =>
      have hq9 := Nat.eq_of_beq_eq_true hq9
      subst hq9
      exact okm_of (own := 6) (rk := 1) (by decide +kernel) (by decide +kernel) (by omega) rfl (Nat.le_of_ble_eq_true rfl) (exec_E OI_ok kc_Bp_may so_Bp_may (runF_E OI_ok kc_Bp_may so_Bp_may (fun _ h => absurd h List.not_mem_nil) 400) ((e_Bp_may_0 x1 x2 h).symm.trans hz))
    · cases hz
  · cases hz
set_option maxRecDepth 100000 in
theorem kc_Bp_noHour : k_Bp_noHour.all (chkE 6 (mtC 57)) = true := by decide +kernel
theorem so_Bp_noHour : SemOK toGI S_Bp_noHour 1 := fun _ h => absurd h List.not_mem_nil
set_option maxRecDepth 100000 in
theorem ok_Bp_noHour : ∀ as h z, sF_Bp_noHour as h = some z → Okm toGI 57 1 as h z := by
  intro as h z hz
  unfold sF_Bp_noHour at hz
  split at hz
  · next x0 =>
    exact okm_of (own := 6) (rk := 2) (by decide +kernel) (by decide +kernel) (by omega) rfl (Nat.le_of_ble_eq_true rfl) (exec_E OI_ok kc_Bp_noHour so_Bp_noHour (runF_E OI_ok kc_Bp_noHour so_Bp_noHour (fun _ h => absurd h List.not_mem_nil) 400) ((e_Bp_noHour_0 x0 h).symm.trans hz))
  · cases hz
set_option maxRecDepth 100000 in
theorem kc_Bp_meets : k_Bp_meets.all (chkE 6 (mtC 17)) = true := by decide +kernel
theorem so_Bp_meets : SemOK toGI S_Bp_meets 2 := List.forall_mem_cons.mpr ⟨⟨mt_175, 1, by omega, ok_La_lacks⟩, List.forall_mem_cons.mpr ⟨⟨mt_57, 1, by omega, ok_Bp_noHour⟩, fun _ h => absurd h List.not_mem_nil⟩⟩
set_option maxRecDepth 100000 in
theorem ok_Bp_meets : ∀ as h z, sF_Bp_meets as h = some z → Okm toGI 17 2 as h z := by
  intro as h z hz
  unfold sF_Bp_meets at hz
  split at hz
  · next f0 x1 x2 =>
    split at hz
    · next hq9 =>
      have hq9 := Nat.eq_of_beq_eq_true hq9
      subst hq9
      exact okm_of (own := 6) (rk := 1) (by decide +kernel) (by decide +kernel) (by omega) rfl (Nat.le_of_ble_eq_true rfl) (exec_E OI_ok kc_Bp_meets so_Bp_meets (runF_E OI_ok kc_Bp_meets so_Bp_meets (fun _ h => absurd h List.not_mem_nil) 400) ((e_Bp_meets_0 x1 x2 h).symm.trans hz))
    · cases hz
  · cases hz
set_option maxRecDepth 100000 in
theorem kc_Le_start : k_Le_start.all (chkE 1 (mtC 196)) = true := by decide +kernel
theorem so_Le_start : SemOK toGI S_Le_start 1 := fun _ h => absurd h List.not_mem_nil
set_option maxRecDepth 100000 in
theorem ok_Le_start : ∀ as h z, sF_Le_start as h = some z → Okm toGI 196 1 as h z := by
  intro as h z hz
  unfold sF_Le_start at hz
  split at hz
  · next o0 x1 x2 x3 x4 =>
    exact okm_of (own := 1) (rk := 0) (by decide +kernel) (by decide +kernel) (by omega) rfl (Nat.le_of_ble_eq_true rfl) (exec_E OI_ok kc_Le_start so_Le_start (runF_E OI_ok kc_Le_start so_Le_start (fun _ h => absurd h List.not_mem_nil) 400) ((e_Le_start_0 o0 x1 x2 x3 x4 h).symm.trans hz))
  · cases hz
set_option maxRecDepth 100000 in
theorem kc_Bp_send : k_Bp_send.all (chkE 6 (mtC 18)) = true := by decide +kernel
theorem so_Bp_send : SemOK toGI S_Bp_send 3 := List.forall_mem_cons.mpr ⟨⟨mt_58, 2, by omega, ok_Bp_noPair⟩, List.forall_mem_cons.mpr ⟨⟨mt_56, 1, by omega, ok_Bp_noTongues⟩, List.forall_mem_cons.mpr ⟨⟨mt_196, 1, by omega, ok_Le_start⟩, fun _ h => absurd h List.not_mem_nil⟩⟩⟩
set_option maxRecDepth 100000 in
theorem ok_Bp_send : ∀ as h z, sF_Bp_send as h = some z → Okm toGI 18 3 as h z := by
  intro as h z hz
  unfold sF_Bp_send at hz
  split at hz
  · next f0 x1 x2 x3 =>
    split at hz
    · next hq9 =>
      have hq9 := Nat.eq_of_beq_eq_true hq9
      subst hq9
      exact okm_of (own := 6) (rk := 1) (by decide +kernel) (by decide +kernel) (by omega) rfl (Nat.le_of_ble_eq_true rfl) (exec_E OI_ok kc_Bp_send so_Bp_send (runF_E OI_ok kc_Bp_send so_Bp_send (fun _ h => absurd h List.not_mem_nil) 400) ((e_Bp_send_0 x1 x2 x3 h).symm.trans hz))
    · cases hz
  · cases hz
set_option maxRecDepth 100000 in
theorem kc_Le_isWithSender : k_Le_isWithSender.all (chkE 1 (mtC 201)) = true := by decide +kernel
theorem so_Le_isWithSender : SemOK toGI S_Le_isWithSender 1 := fun _ h => absurd h List.not_mem_nil
set_option maxRecDepth 100000 in
theorem ok_Le_isWithSender : ∀ as h z, sF_Le_isWithSender as h = some z → Okm toGI 201 1 as h z := by
  intro as h z hz
  unfold sF_Le_isWithSender at hz
  split at hz
  · next o0 =>
    exact okm_of (own := 1) (rk := 2) (by decide +kernel) (by decide +kernel) (by omega) rfl (Nat.le_of_ble_eq_true rfl) (exec_E OI_ok kc_Le_isWithSender so_Le_isWithSender (runF_E OI_ok kc_Le_isWithSender so_Le_isWithSender (fun _ h => absurd h List.not_mem_nil) 400) ((e_Le_isWithSender_0 o0 h).symm.trans hz))
  · cases hz
set_option maxRecDepth 100000 in
theorem kc_Le_cameWhen : k_Le_cameWhen.all (chkE 1 (mtC 199)) = true := by decide +kernel
theorem so_Le_cameWhen : SemOK toGI S_Le_cameWhen 1 := fun _ h => absurd h List.not_mem_nil
set_option maxRecDepth 100000 in
theorem ok_Le_cameWhen : ∀ as h z, sF_Le_cameWhen as h = some z → Okm toGI 199 1 as h z := by
  intro as h z hz
  unfold sF_Le_cameWhen at hz
  split at hz
  · next o0 =>
    exact okm_of (own := 1) (rk := 1) (by decide +kernel) (by decide +kernel) (by omega) rfl (Nat.le_of_ble_eq_true rfl) (exec_E OI_ok kc_Le_cameWhen so_Le_cameWhen (runF_E OI_ok kc_Le_cameWhen so_Le_cameWhen (fun _ h => absurd h List.not_mem_nil) 400) ((e_Le_cameWhen_0 o0 h).symm.trans hz))
  · cases hz
set_option maxRecDepth 100000 in
theorem kc_Le_wasGivenIn : k_Le_wasGivenIn.all (chkE 1 (mtC 202)) = true := by decide +kernel
theorem so_Le_wasGivenIn : SemOK toGI S_Le_wasGivenIn 2 := List.forall_mem_cons.mpr ⟨⟨mt_201, 1, by omega, ok_Le_isWithSender⟩, List.forall_mem_cons.mpr ⟨⟨mt_199, 1, by omega, ok_Le_cameWhen⟩, fun _ h => absurd h List.not_mem_nil⟩⟩
set_option maxRecDepth 100000 in
theorem ok_Le_wasGivenIn : ∀ as h z, sF_Le_wasGivenIn as h = some z → Okm toGI 202 2 as h z := by
  intro as h z hz
  unfold sF_Le_wasGivenIn at hz
  split at hz
  · next o0 x1 =>
    exact okm_of (own := 1) (rk := 2) (by decide +kernel) (by decide +kernel) (by omega) rfl (Nat.le_of_ble_eq_true rfl) (exec_E OI_ok kc_Le_wasGivenIn so_Le_wasGivenIn (runF_E OI_ok kc_Le_wasGivenIn so_Le_wasGivenIn (fun _ h => absurd h List.not_mem_nil) 400) ((e_Le_wasGivenIn_0 o0 x1 h).symm.trans hz))
  · cases hz
set_option maxRecDepth 100000 in
theorem kc_Le_seen : k_Le_seen.all (chkE 1 (mtC 203)) = true := by decide +kernel
theorem so_Le_seen : SemOK toGI S_Le_seen 2 := List.forall_mem_cons.mpr ⟨⟨mt_64, 1, by omega, ok_Bp_bit⟩, fun _ h => absurd h List.not_mem_nil⟩
set_option maxRecDepth 100000 in
theorem E_Le_seen_4 {z : Option Value × Hp} {o0 : Nat} {x1 : Int32} {x2 : Int32} {h : Hp} (hz : loopC (Le_seen_4   ) FU (o0, x1, x2, h) = some z) : Ends toGI 1 203 2 1 z 4 (spr (mtM 203) [0, 1, 2] [.ref o0, .int x1, .int x2]) [] h := by
  refine loop_E (b := Le_seen_4   ) (P := fun s => match s with | (o0, x1, x2, h) => Ends toGI 1 203 2 1 z 4 (spr (mtM 203) [0, 1, 2] [.ref o0, .int x1, .int x2]) [] h) (fun s κ4 hκ hz => ?_) FU (o0, x1, x2, h) hz
  obtain ⟨o0, x1, x2, h⟩ := s
  have hκ4 : ∀ (o0 : Nat) (x1 : Int32) (x2 : Int32) (h : Hp), κ4 (o0, x1, x2, h) = some z → Ends toGI 1 203 2 1 z 4 (spr (mtM 203) [0, 1, 2] [.ref o0, .int x1, .int x2]) [] h := fun o0 x1 x2 h q => hκ (o0, x1, x2, h) q
  exact exec_E OI_ok kc_Le_seen so_Le_seen (runF_E OI_ok kc_Le_seen so_Le_seen (List.forall_mem_cons.mpr ⟨(by
    intro L st h vs hp hf
    dsimp only at hf
    split at hf
    · exact Ends.at hp (hκ4 _ _ _ _ hf)
    · cases hf), fun _ h => absurd h List.not_mem_nil⟩) 400) ((e_Le_seen_4  κ4 o0 x1 x2 h).symm.trans hz)
set_option maxRecDepth 100000 in
theorem ok_Le_seen : ∀ as h z, sF_Le_seen as h = some z → Okm toGI 203 2 as h z := by
  intro as h z hz
  unfold sF_Le_seen at hz
  split at hz
  · next o0 =>
    exact okm_of (own := 1) (rk := 1) (by decide +kernel) (by decide +kernel) (by omega) rfl (Nat.le_of_ble_eq_true rfl) (exec_E OI_ok kc_Le_seen so_Le_seen (runF_E OI_ok kc_Le_seen so_Le_seen (List.forall_mem_cons.mpr ⟨(by
          intro L st h vs hp hf
          dsimp only at hf
          split at hf
          · exact Ends.at hp (E_Le_seen_4 hf)
          · cases hf), fun _ h => absurd h List.not_mem_nil⟩) 400) ((e_Le_seen_0 o0 h).symm.trans hz))
  · cases hz
set_option maxRecDepth 100000 in
theorem kc_Bp_has : k_Bp_has.all (chkE 6 (mtC 65)) = true := by decide +kernel
theorem so_Bp_has : SemOK toGI S_Bp_has 1 := fun _ h => absurd h List.not_mem_nil
set_option maxRecDepth 100000 in
theorem ok_Bp_has : ∀ as h z, sF_Bp_has as h = some z → Okm toGI 65 1 as h z := by
  intro as h z hz
  unfold sF_Bp_has at hz
  split at hz
  · next x0 x1 =>
    exact okm_of (own := 6) (rk := 2) (by decide +kernel) (by decide +kernel) (by omega) rfl (Nat.le_of_ble_eq_true rfl) (exec_E OI_ok kc_Bp_has so_Bp_has (runF_E OI_ok kc_Bp_has so_Bp_has (fun _ h => absurd h List.not_mem_nil) 400) ((e_Bp_has_0 x0 x1 h).symm.trans hz))
  · cases hz
set_option maxRecDepth 100000 in
theorem kc_La_takesBetween : k_La_takesBetween.all (chkE 0 (mtC 185)) = true := by decide +kernel
theorem so_La_takesBetween : SemOK toGI S_La_takesBetween 4 := List.forall_mem_cons.mpr ⟨⟨mt_183, 3, by omega, ok_La_carries⟩, List.forall_mem_cons.mpr ⟨⟨mt_201, 1, by omega, ok_Le_isWithSender⟩, fun _ h => absurd h List.not_mem_nil⟩⟩
set_option maxRecDepth 100000 in
theorem ok_La_takesBetween : ∀ as h z, sF_La_takesBetween as h = some z → Okm toGI 185 4 as h z := by
  intro as h z hz
  unfold sF_La_takesBetween at hz
  split at hz
  · next o0 x1 o2 =>
    exact okm_of (own := 0) (rk := 2) (by decide +kernel) (by decide +kernel) (by omega) rfl (Nat.le_of_ble_eq_true rfl) (exec_E OI_ok kc_La_takesBetween so_La_takesBetween (runF_E OI_ok kc_La_takesBetween so_La_takesBetween (fun _ h => absurd h List.not_mem_nil) 400) ((e_La_takesBetween_0 o0 x1 o2 h).symm.trans hz))
  · cases hz
set_option maxRecDepth 100000 in
theorem kc_La_takers : k_La_takers.all (chkE 0 (mtC 184)) = true := by decide +kernel
theorem so_La_takers : SemOK toGI S_La_takers 5 := List.forall_mem_cons.mpr ⟨⟨mt_200, 2, by omega, ok_Le_isThere⟩, List.forall_mem_cons.mpr ⟨⟨mt_202, 2, by omega, ok_Le_wasGivenIn⟩, List.forall_mem_cons.mpr ⟨⟨mt_198, 1, by omega, ok_Le_holder⟩, List.forall_mem_cons.mpr ⟨⟨mt_203, 2, by omega, ok_Le_seen⟩, List.forall_mem_cons.mpr ⟨⟨mt_65, 1, by omega, ok_Bp_has⟩, List.forall_mem_cons.mpr ⟨⟨mt_64, 1, by omega, ok_Bp_bit⟩, List.forall_mem_cons.mpr ⟨⟨mt_185, 4, by omega, ok_La_takesBetween⟩, fun _ h => absurd h List.not_mem_nil⟩⟩⟩⟩⟩⟩⟩
set_option maxRecDepth 100000 in
theorem E_La_takers_50 {z : Option Value × Hp} {o0 : Nat} {o1 : Nat} {x2 : Int32} {x3 : Int32} {x4 : Int32} {h : Hp} (hz : loopC (La_takers_50   ) FU (o0, o1, x2, x3, x4, h) = some z) : Ends toGI 0 184 5 1 z 50 (spr (mtM 184) [0, 1, 2, 3, 4] [.ref o0, .ref o1, .int x2, .int x3, .int x4]) [] h := by
  refine loop_E (b := La_takers_50   ) (P := fun s => match s with | (o0, o1, x2, x3, x4, h) => Ends toGI 0 184 5 1 z 50 (spr (mtM 184) [0, 1, 2, 3, 4] [.ref o0, .ref o1, .int x2, .int x3, .int x4]) [] h) (fun s κ50 hκ hz => ?_) FU (o0, o1, x2, x3, x4, h) hz
  obtain ⟨o0, o1, x2, x3, x4, h⟩ := s
  have hκ50 : ∀ (o0 : Nat) (o1 : Nat) (x2 : Int32) (x3 : Int32) (x4 : Int32) (h : Hp), κ50 (o0, o1, x2, x3, x4, h) = some z → Ends toGI 0 184 5 1 z 50 (spr (mtM 184) [0, 1, 2, 3, 4] [.ref o0, .ref o1, .int x2, .int x3, .int x4]) [] h := fun o0 o1 x2 x3 x4 h q => hκ (o0, o1, x2, x3, x4, h) q
  exact exec_E OI_ok kc_La_takers so_La_takers (runF_E OI_ok kc_La_takers so_La_takers (List.forall_mem_cons.mpr ⟨(by
    intro L st h vs hp hf
    dsimp only at hf
    split at hf
    · exact Ends.at hp (hκ50 _ _ _ _ _ _ hf)
    · cases hf), fun _ h => absurd h List.not_mem_nil⟩) 400) ((e_La_takers_50  κ50 o0 o1 x2 x3 x4 h).symm.trans hz)
set_option maxRecDepth 100000 in
theorem ok_La_takers : ∀ as h z, sF_La_takers as h = some z → Okm toGI 184 5 as h z := by
  intro as h z hz
  unfold sF_La_takers at hz
  split at hz
  · next o0 o1 =>
    exact okm_of (own := 0) (rk := 1) (by decide +kernel) (by decide +kernel) (by omega) rfl (Nat.le_of_ble_eq_true rfl) (exec_E OI_ok kc_La_takers so_La_takers (runF_E OI_ok kc_La_takers so_La_takers (List.forall_mem_cons.mpr ⟨(by
          intro L st h vs hp hf
          dsimp only at hf
          split at hf
          · exact Ends.at hp (E_La_takers_50 hf)
          · cases hf), fun _ h => absurd h List.not_mem_nil⟩) 400) ((e_La_takers_0 o0 o1 h).symm.trans hz))
  · cases hz
set_option maxRecDepth 100000 in
theorem kc_Le_add : k_Le_add.all (chkE 1 (mtC 205)) = true := by decide +kernel
theorem so_Le_add : SemOK toGI S_Le_add 1 := fun _ h => absurd h List.not_mem_nil
set_option maxRecDepth 100000 in
theorem ok_Le_add : ∀ as h z, sF_Le_add as h = some z → Okm toGI 205 1 as h z := by
  intro as h z hz
  unfold sF_Le_add at hz
  split at hz
  · next o0 x1 x2 =>
    exact okm_of (own := 1) (rk := 0) (by decide +kernel) (by decide +kernel) (by omega) rfl (Nat.le_of_ble_eq_true rfl) (exec_E OI_ok kc_Le_add so_Le_add (runF_E OI_ok kc_Le_add so_Le_add (fun _ h => absurd h List.not_mem_nil) 400) ((e_Le_add_0 o0 x1 x2 h).symm.trans hz))
  · cases hz
set_option maxRecDepth 100000 in
theorem kc_La_pass : k_La_pass.all (chkE 0 (mtC 186)) = true := by decide +kernel
theorem so_La_pass : SemOK toGI S_La_pass 3 := List.forall_mem_cons.mpr ⟨⟨mt_198, 1, by omega, ok_Le_holder⟩, List.forall_mem_cons.mpr ⟨⟨mt_67, 1, by omega, ok_Bp_isOf⟩, List.forall_mem_cons.mpr ⟨⟨mt_205, 1, by omega, ok_Le_add⟩, List.forall_mem_cons.mpr ⟨⟨mt_200, 2, by omega, ok_Le_isThere⟩, fun _ h => absurd h List.not_mem_nil⟩⟩⟩⟩
set_option maxRecDepth 100000 in
theorem ok_La_pass : ∀ as h z, sF_La_pass as h = some z → Okm toGI 186 3 as h z := by
  intro as h z hz
  unfold sF_La_pass at hz
  split at hz
  · next o0 o1 x2 =>
    exact okm_of (own := 0) (rk := 2) (by decide +kernel) (by decide +kernel) (by omega) rfl (Nat.le_of_ble_eq_true rfl) (exec_E OI_ok kc_La_pass so_La_pass (runF_E OI_ok kc_La_pass so_La_pass (fun _ h => absurd h List.not_mem_nil) 400) ((e_La_pass_0 o0 o1 x2 h).symm.trans hz))
  · cases hz
