set_option maxRecDepth 100000 in
theorem kc_La_takeFrom : k_La_takeFrom.all (chkE 0 (mtC 174)) = true := by decide +kernel
theorem so_La_takeFrom : SemOK toGI S_La_takeFrom 4 := List.forall_mem_cons.mpr ⟨⟨mt_179, 3, by omega, ok_La_tieAll⟩, List.forall_mem_cons.mpr ⟨⟨mt_197, 1, by omega, ok_Le_takeFrom⟩, fun _ h => absurd h List.not_mem_nil⟩⟩
set_option maxRecDepth 100000 in
theorem E_La_takeFrom_77 {z : Option Value × Hp} {o0 : Nat} {o1 : Nat} {x2 : Int32} {h : Hp} (hz : loopC (La_takeFrom_77  o0 o1 ) FU (x2, h) = some z) : Ends toGI 0 174 4 0 z 77 (spr (mtM 174) [0, 1, 2] [.ref o0, .ref o1, .int x2]) [] h := by
  refine loop_E (b := La_takeFrom_77  o0 o1 ) (P := fun s => match s with | (x2, h) => Ends toGI 0 174 4 0 z 77 (spr (mtM 174) [0, 1, 2] [.ref o0, .ref o1, .int x2]) [] h) (fun s κ77 hκ hz => ?_) FU (x2, h) hz
  obtain ⟨x2, h⟩ := s
  have hκ77 : ∀ (x2 : Int32) (h : Hp), κ77 (x2, h) = some z → Ends toGI 0 174 4 0 z 77 (spr (mtM 174) [0, 1, 2] [.ref o0, .ref o1, .int x2]) [] h := fun x2 h q => hκ (x2, h) q
  exact exec_E OI_ok kc_La_takeFrom so_La_takeFrom (runF_E OI_ok kc_La_takeFrom so_La_takeFrom (List.forall_mem_cons.mpr ⟨(by
    intro L st h vs hp hf
    dsimp only at hf
    split at hf
    · exact Ends.at hp (hκ77 _ _ hf)
    · cases hf), fun _ h => absurd h List.not_mem_nil⟩) 400) ((e_La_takeFrom_77  κ77 o0 o1 x2 h).symm.trans hz)
set_option maxRecDepth 100000 in
theorem ok_La_takeFrom : ∀ as h z, sF_La_takeFrom as h = some z → Okm toGI 174 4 as h z := by
  intro as h z hz
  unfold sF_La_takeFrom at hz
  split at hz
  · next o0 o1 =>
    exact okm_of (own := 0) (rk := 0) (by decide +kernel) (by decide +kernel) (by omega) rfl (Nat.le_of_ble_eq_true rfl) (exec_E OI_ok kc_La_takeFrom so_La_takeFrom (runF_E OI_ok kc_La_takeFrom so_La_takeFrom (List.forall_mem_cons.mpr ⟨(by
          intro L st h vs hp hf
          dsimp only at hf
          split at hf
          · exact Ends.at hp (E_La_takeFrom_77 hf)
          · cases hf), fun _ h => absurd h List.not_mem_nil⟩) 400) ((e_La_takeFrom_0 o0 o1 h).symm.trans hz))
  · cases hz
set_option maxRecDepth 100000 in
theorem kc_Bp_land : k_Bp_land.all (chkE 6 (mtC 10)) = true := by decide +kernel
theorem so_Bp_land : SemOK toGI S_Bp_land 7 := List.forall_mem_cons.mpr ⟨⟨mt_53, 1, by omega, ok_Bp_noText⟩, List.forall_mem_cons.mpr ⟨⟨mt_225, 1, by omega, ok_Sh_isThere⟩, List.forall_mem_cons.mpr ⟨⟨mt_217, 6, by omega, ok_Re_faultOf⟩, List.forall_mem_cons.mpr ⟨⟨mt_174, 4, by omega, ok_La_takeFrom⟩, List.forall_mem_cons.mpr ⟨⟨mt_50, 1, by omega, ok_Bp_found⟩, fun _ h => absurd h List.not_mem_nil⟩⟩⟩⟩⟩
set_option maxRecDepth 100000 in
theorem E_Bp_land_61 {z : Option Value × Hp} {x2 : Int32} {h : Hp} (hz : loopC (Bp_land_61   ) FU (x2, h) = some z) : Ends toGI 6 10 7 1 z 61 (spr (mtM 10) [0, 2] [.ref 0, .int x2]) [] h := by
  refine loop_E (b := Bp_land_61   ) (P := fun s => match s with | (x2, h) => Ends toGI 6 10 7 1 z 61 (spr (mtM 10) [0, 2] [.ref 0, .int x2]) [] h) (fun s κ61 hκ hz => ?_) FU (x2, h) hz
  obtain ⟨x2, h⟩ := s
  have hκ61 : ∀ (x2 : Int32) (h : Hp), κ61 (x2, h) = some z → Ends toGI 6 10 7 1 z 61 (spr (mtM 10) [0, 2] [.ref 0, .int x2]) [] h := fun x2 h q => hκ (x2, h) q
  exact exec_E OI_ok kc_Bp_land so_Bp_land (runF_E OI_ok kc_Bp_land so_Bp_land (List.forall_mem_cons.mpr ⟨(by
    intro L st h vs hp hf
    dsimp only at hf
    split at hf
    · split at hf
      · next hq9 =>
        have hq9 := Nat.eq_of_beq_eq_true hq9
        subst hq9
        exact Ends.at hp (hκ61 _ _ hf)
      · cases hf
    · cases hf), fun _ h => absurd h List.not_mem_nil⟩) 400) ((e_Bp_land_61  κ61 x2 h).symm.trans hz)
set_option maxRecDepth 100000 in
theorem ok_Bp_land : ∀ as h z, sF_Bp_land as h = some z → Okm toGI 10 7 as h z := by
  intro as h z hz
  unfold sF_Bp_land at hz
  split at hz
  · next f0 x1 =>
    split at hz
    · next hq9 =>
      have hq9 := Nat.eq_of_beq_eq_true hq9
      subst hq9
      exact okm_of (own := 6) (rk := 1) (by decide +kernel) (by decide +kernel) (by omega) rfl (Nat.le_of_ble_eq_true rfl) (exec_E OI_ok kc_Bp_land so_Bp_land (runF_E OI_ok kc_Bp_land so_Bp_land (List.forall_mem_cons.mpr ⟨(by
          intro L st h vs hp hf
          dsimp only at hf
          split at hf
          · split at hf
            · next hq9 =>
              have hq9 := Nat.eq_of_beq_eq_true hq9
              subst hq9
              exact Ends.at hp (E_Bp_land_61 hf)
            · cases hf
          · cases hf), fun _ h => absurd h List.not_mem_nil⟩) 400) ((e_Bp_land_0 x1 h).symm.trans hz))
    · cases hz
  · cases hz
set_option maxRecDepth 100000 in
theorem kc_La_meetingsOf : k_La_meetingsOf.all (chkE 0 (mtC 189)) = true := by decide +kernel
theorem so_La_meetingsOf : SemOK toGI S_La_meetingsOf 1 := fun _ h => absurd h List.not_mem_nil
set_option maxRecDepth 100000 in
theorem E_La_meetingsOf_4 {z : Option Value × Hp} {o0 : Nat} {x1 : Int32} {x2 : Int32} {x3 : Int32} {h : Hp} (hz : loopC (La_meetingsOf_4  o0 x1 ) FU (x2, x3, h) = some z) : Ends toGI 0 189 1 1 z 4 (spr (mtM 189) [0, 1, 2, 3] [.ref o0, .int x1, .int x2, .int x3]) [] h := by
  refine loop_E (b := La_meetingsOf_4  o0 x1 ) (P := fun s => match s with | (x2, x3, h) => Ends toGI 0 189 1 1 z 4 (spr (mtM 189) [0, 1, 2, 3] [.ref o0, .int x1, .int x2, .int x3]) [] h) (fun s κ4 hκ hz => ?_) FU (x2, x3, h) hz
  obtain ⟨x2, x3, h⟩ := s
  have hκ4 : ∀ (x2 : Int32) (x3 : Int32) (h : Hp), κ4 (x2, x3, h) = some z → Ends toGI 0 189 1 1 z 4 (spr (mtM 189) [0, 1, 2, 3] [.ref o0, .int x1, .int x2, .int x3]) [] h := fun x2 x3 h q => hκ (x2, x3, h) q
  exact exec_E OI_ok kc_La_meetingsOf so_La_meetingsOf (runF_E OI_ok kc_La_meetingsOf so_La_meetingsOf (List.forall_mem_cons.mpr ⟨(by
    intro L st h vs hp hf
    dsimp only at hf
    split at hf
    · exact Ends.at hp (hκ4 _ _ _ hf)
    · cases hf), fun _ h => absurd h List.not_mem_nil⟩) 400) ((e_La_meetingsOf_4  κ4 o0 x1 x2 x3 h).symm.trans hz)
set_option maxRecDepth 100000 in
theorem ok_La_meetingsOf : ∀ as h z, sF_La_meetingsOf as h = some z → Okm toGI 189 1 as h z := by
  intro as h z hz
  unfold sF_La_meetingsOf at hz
  split at hz
  · next o0 x1 =>
    exact okm_of (own := 0) (rk := 1) (by decide +kernel) (by decide +kernel) (by omega) rfl (Nat.le_of_ble_eq_true rfl) (exec_E OI_ok kc_La_meetingsOf so_La_meetingsOf (runF_E OI_ok kc_La_meetingsOf so_La_meetingsOf (List.forall_mem_cons.mpr ⟨(by
          intro L st h vs hp hf
          dsimp only at hf
          split at hf
          · exact Ends.at hp (E_La_meetingsOf_4 hf)
          · cases hf), fun _ h => absurd h List.not_mem_nil⟩) 400) ((e_La_meetingsOf_0 o0 x1 h).symm.trans hz))
  · cases hz
set_option maxRecDepth 100000 in
theorem kc_Le_holder : k_Le_holder.all (chkE 1 (mtC 198)) = true := by decide +kernel
theorem so_Le_holder : SemOK toGI S_Le_holder 1 := fun _ h => absurd h List.not_mem_nil
set_option maxRecDepth 100000 in
theorem ok_Le_holder : ∀ as h z, sF_Le_holder as h = some z → Okm toGI 198 1 as h z := by
  intro as h z hz
  unfold sF_Le_holder at hz
  split at hz
  · next o0 =>
    exact okm_of (own := 1) (rk := 1) (by decide +kernel) (by decide +kernel) (by omega) rfl (Nat.le_of_ble_eq_true rfl) (exec_E OI_ok kc_Le_holder so_Le_holder (runF_E OI_ok kc_Le_holder so_Le_holder (fun _ h => absurd h List.not_mem_nil) 400) ((e_Le_holder_0 o0 h).symm.trans hz))
  · cases hz
