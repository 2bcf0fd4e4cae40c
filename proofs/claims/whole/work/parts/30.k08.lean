set_option maxRecDepth 100000 in
theorem kc_Mo_cutNow : k_Mo_cutNow.all (chkE 7 (mtC 148)) = true := by decide +kernel
theorem so_Mo_cutNow : SemOK toGI S_Mo_cutNow 17 := List.forall_mem_cons.mpr ⟨⟨mt_147, 16, by omega, ok_Mo_tonguesOf⟩, fun _ h => absurd h List.not_mem_nil⟩
set_option maxRecDepth 100000 in
theorem E_Mo_cutNow_19 {z : Option Value × Hp} {κ9 : (Int32 × Int32 × Hp) → Res Hp} (hκ9 : ∀ (x1 : Int32) (x2 : Int32) (h : Hp), κ9 (x1, x2, h) = some z → Ends toGI 7 148 17 1 z 9 (spr (mtM 148) [0, 1, 2] [.ref 178, .int x1, .int x2]) [] h) {x1 : Int32} {x2 : Int32} {x3 : Int32} {h : Hp} (hz : loopC (Mo_cutNow_19 κ9  ) FU (x1, x2, x3, h) = some z) : Ends toGI 7 148 17 1 z 19 (spr (mtM 148) [0, 1, 2, 3] [.ref 178, .int x1, .int x2, .int x3]) [] h := by
  refine loop_E (b := Mo_cutNow_19 κ9  ) (P := fun s => match s with | (x1, x2, x3, h) => Ends toGI 7 148 17 1 z 19 (spr (mtM 148) [0, 1, 2, 3] [.ref 178, .int x1, .int x2, .int x3]) [] h) (fun s κ19 hκ hz => ?_) FU (x1, x2, x3, h) hz
  obtain ⟨x1, x2, x3, h⟩ := s
  have hκ19 : ∀ (x1 : Int32) (x2 : Int32) (x3 : Int32) (h : Hp), κ19 (x1, x2, x3, h) = some z → Ends toGI 7 148 17 1 z 19 (spr (mtM 148) [0, 1, 2, 3] [.ref 178, .int x1, .int x2, .int x3]) [] h := fun x1 x2 x3 h q => hκ (x1, x2, x3, h) q
  exact exec_E OI_ok kc_Mo_cutNow so_Mo_cutNow (runF_E OI_ok kc_Mo_cutNow so_Mo_cutNow (List.forall_mem_cons.mpr ⟨(by
    intro L st h vs hp hf
    dsimp only at hf
    split at hf
    · split at hf
      · next hq9 =>
        have hq9 := Nat.eq_of_beq_eq_true hq9
        subst hq9
        exact Ends.at hp (hκ9 _ _ _ hf)
      · cases hf
    · cases hf), List.forall_mem_cons.mpr ⟨(by
    intro L st h vs hp hf
    dsimp only at hf
    split at hf
    · split at hf
      · next hq9 =>
        have hq9 := Nat.eq_of_beq_eq_true hq9
        subst hq9
        exact Ends.at hp (hκ19 _ _ _ _ hf)
      · cases hf
    · cases hf), fun _ h => absurd h List.not_mem_nil⟩⟩) 400) ((e_Mo_cutNow_19 κ9 κ19 x1 x2 x3 h).symm.trans hz)
set_option maxRecDepth 100000 in
theorem E_Mo_cutNow_9 {z : Option Value × Hp} {x1 : Int32} {x2 : Int32} {h : Hp} (hz : loopC (Mo_cutNow_9   ) FU (x1, x2, h) = some z) : Ends toGI 7 148 17 1 z 9 (spr (mtM 148) [0, 1, 2] [.ref 178, .int x1, .int x2]) [] h := by
  refine loop_E (b := Mo_cutNow_9   ) (P := fun s => match s with | (x1, x2, h) => Ends toGI 7 148 17 1 z 9 (spr (mtM 148) [0, 1, 2] [.ref 178, .int x1, .int x2]) [] h) (fun s κ9 hκ hz => ?_) FU (x1, x2, h) hz
  obtain ⟨x1, x2, h⟩ := s
  have hκ9 : ∀ (x1 : Int32) (x2 : Int32) (h : Hp), κ9 (x1, x2, h) = some z → Ends toGI 7 148 17 1 z 9 (spr (mtM 148) [0, 1, 2] [.ref 178, .int x1, .int x2]) [] h := fun x1 x2 h q => hκ (x1, x2, h) q
  exact exec_E OI_ok kc_Mo_cutNow so_Mo_cutNow (runF_E OI_ok kc_Mo_cutNow so_Mo_cutNow (List.forall_mem_cons.mpr ⟨(by
    intro L st h vs hp hf
    dsimp only at hf
    split at hf
    · split at hf
      · next hq9 =>
        have hq9 := Nat.eq_of_beq_eq_true hq9
        subst hq9
        exact Ends.at hp (E_Mo_cutNow_19 hκ9 hf)
      · cases hf
    · cases hf), fun _ h => absurd h List.not_mem_nil⟩) 400) ((e_Mo_cutNow_9  κ9 x1 x2 h).symm.trans hz)
set_option maxRecDepth 100000 in
theorem ok_Mo_cutNow : ∀ as h z, sF_Mo_cutNow as h = some z → Okm toGI 148 17 as h z := by
  intro as h z hz
  unfold sF_Mo_cutNow at hz
  split at hz
  · next f0 =>
    split at hz
    · next hq9 =>
      have hq9 := Nat.eq_of_beq_eq_true hq9
      subst hq9
      exact okm_of (own := 7) (rk := 1) (by decide +kernel) (by decide +kernel) (by omega) rfl (Nat.le_of_ble_eq_true rfl) (exec_E OI_ok kc_Mo_cutNow so_Mo_cutNow (runF_E OI_ok kc_Mo_cutNow so_Mo_cutNow (List.forall_mem_cons.mpr ⟨(by
          intro L st h vs hp hf
          dsimp only at hf
          split at hf
          · split at hf
            · next hq9 =>
              have hq9 := Nat.eq_of_beq_eq_true hq9
              subst hq9
              exact Ends.at hp (E_Mo_cutNow_9 hf)
            · cases hf
          · cases hf), fun _ h => absurd h List.not_mem_nil⟩) 400) ((e_Mo_cutNow_0  h).symm.trans hz))
    · cases hz
  · cases hz
set_option maxRecDepth 100000 in
theorem kc_Mo_cutOff : k_Mo_cutOff.all (chkE 7 (mtC 149)) = true := by decide +kernel
theorem so_Mo_cutOff : SemOK toGI S_Mo_cutOff 18 := List.forall_mem_cons.mpr ⟨⟨mt_148, 17, by omega, ok_Mo_cutNow⟩, List.forall_mem_cons.mpr ⟨⟨mt_73, 1, by omega, ok_Mo_ask⟩, fun _ h => absurd h List.not_mem_nil⟩⟩
set_option maxRecDepth 100000 in
theorem ok_Mo_cutOff : ∀ as h z, sF_Mo_cutOff as h = some z → Okm toGI 149 18 as h z := by
  intro as h z hz
  unfold sF_Mo_cutOff at hz
  split at hz
  · next f0 =>
    split at hz
    · next hq9 =>
      have hq9 := Nat.eq_of_beq_eq_true hq9
      subst hq9
      exact okm_of (own := 7) (rk := 1) (by decide +kernel) (by decide +kernel) (by omega) rfl (Nat.le_of_ble_eq_true rfl) (exec_E OI_ok kc_Mo_cutOff so_Mo_cutOff (runF_E OI_ok kc_Mo_cutOff so_Mo_cutOff (fun _ h => absurd h List.not_mem_nil) 400) ((e_Mo_cutOff_0  h).symm.trans hz))
    · cases hz
  · cases hz
set_option maxRecDepth 100000 in
theorem kc_Mo_cutIf : k_Mo_cutIf.all (chkE 7 (mtC 150)) = true := by decide +kernel
theorem so_Mo_cutIf : SemOK toGI S_Mo_cutIf 18 := List.forall_mem_cons.mpr ⟨⟨mt_148, 17, by omega, ok_Mo_cutNow⟩, fun _ h => absurd h List.not_mem_nil⟩
set_option maxRecDepth 100000 in
theorem ok_Mo_cutIf : ∀ as h z, sF_Mo_cutIf as h = some z → Okm toGI 150 18 as h z := by
  intro as h z hz
  unfold sF_Mo_cutIf at hz
  split at hz
  · next f0 x1 x2 =>
    split at hz
    · next hq9 =>
      have hq9 := Nat.eq_of_beq_eq_true hq9
      subst hq9
      exact okm_of (own := 7) (rk := 1) (by decide +kernel) (by decide +kernel) (by omega) rfl (Nat.le_of_ble_eq_true rfl) (exec_E OI_ok kc_Mo_cutIf so_Mo_cutIf (runF_E OI_ok kc_Mo_cutIf so_Mo_cutIf (fun _ h => absurd h List.not_mem_nil) 400) ((e_Mo_cutIf_0 x1 x2 h).symm.trans hz))
    · cases hz
  · cases hz
set_option maxRecDepth 100000 in
theorem kc_Mo_taught : k_Mo_taught.all (chkE 7 (mtC 151)) = true := by decide +kernel
theorem so_Mo_taught : SemOK toGI S_Mo_taught 19 := List.forall_mem_cons.mpr ⟨⟨mt_97, 2, by omega, ok_Mo_isOne⟩, List.forall_mem_cons.mpr ⟨⟨mt_99, 2, by omega, ok_Mo_isTongue⟩, List.forall_mem_cons.mpr ⟨⟨mt_148, 17, by omega, ok_Mo_cutNow⟩, List.forall_mem_cons.mpr ⟨⟨mt_150, 18, by omega, ok_Mo_cutIf⟩, List.forall_mem_cons.mpr ⟨⟨mt_73, 1, by omega, ok_Mo_ask⟩, fun _ h => absurd h List.not_mem_nil⟩⟩⟩⟩⟩
set_option maxRecDepth 100000 in
theorem ok_Mo_taught : ∀ as h z, sF_Mo_taught as h = some z → Okm toGI 151 19 as h z := by
  intro as h z hz
  unfold sF_Mo_taught at hz
  split at hz
  · next f0 x1 x2 =>
    split at hz
    · next hq9 =>
      have hq9 := Nat.eq_of_beq_eq_true hq9
      subst hq9
      exact okm_of (own := 7) (rk := 1) (by decide +kernel) (by decide +kernel) (by omega) rfl (Nat.le_of_ble_eq_true rfl) (exec_E OI_ok kc_Mo_taught so_Mo_taught (runF_E OI_ok kc_Mo_taught so_Mo_taught (fun _ h => absurd h List.not_mem_nil) 400) ((e_Mo_taught_0 x1 x2 h).symm.trans hz))
    · cases hz
  · cases hz
set_option maxRecDepth 100000 in
theorem kc_Mo_best : k_Mo_best.all (chkE 7 (mtC 152)) = true := by decide +kernel
theorem so_Mo_best : SemOK toGI S_Mo_best 19 := List.forall_mem_cons.mpr ⟨⟨mt_73, 1, by omega, ok_Mo_ask⟩, List.forall_mem_cons.mpr ⟨⟨mt_74, 1, by omega, ok_Mo_has⟩, List.forall_mem_cons.mpr ⟨⟨mt_150, 18, by omega, ok_Mo_cutIf⟩, fun _ h => absurd h List.not_mem_nil⟩⟩⟩
set_option maxRecDepth 100000 in
theorem E_Mo_best_19 {z : Option Value × Hp} {κ8 : (Int32 × Int32 × Int32 × Hp) → Res Hp} (hκ8 : ∀ (x1 : Int32) (x2 : Int32) (x3 : Int32) (h : Hp), κ8 (x1, x2, x3, h) = some z → Ends toGI 7 152 19 1 z 8 (spr (mtM 152) [0, 1, 2, 3] [.ref 178, .int x1, .int x2, .int x3]) [] h) {x1 : Int32} {x2 : Int32} {x3 : Int32} {x4 : Int32} {h : Hp} (hz : loopC (Mo_best_19 κ8  ) FU (x1, x2, x3, x4, h) = some z) : Ends toGI 7 152 19 1 z 19 (spr (mtM 152) [0, 1, 2, 3, 4] [.ref 178, .int x1, .int x2, .int x3, .int x4]) [] h := by
  refine loop_E (b := Mo_best_19 κ8  ) (P := fun s => match s with | (x1, x2, x3, x4, h) => Ends toGI 7 152 19 1 z 19 (spr (mtM 152) [0, 1, 2, 3, 4] [.ref 178, .int x1, .int x2, .int x3, .int x4]) [] h) (fun s κ19 hκ hz => ?_) FU (x1, x2, x3, x4, h) hz
  obtain ⟨x1, x2, x3, x4, h⟩ := s
  have hκ19 : ∀ (x1 : Int32) (x2 : Int32) (x3 : Int32) (x4 : Int32) (h : Hp), κ19 (x1, x2, x3, x4, h) = some z → Ends toGI 7 152 19 1 z 19 (spr (mtM 152) [0, 1, 2, 3, 4] [.ref 178, .int x1, .int x2, .int x3, .int x4]) [] h := fun x1 x2 x3 x4 h q => hκ (x1, x2, x3, x4, h) q
  exact exec_E OI_ok kc_Mo_best so_Mo_best (runF_E OI_ok kc_Mo_best so_Mo_best (List.forall_mem_cons.mpr ⟨(by
    intro L st h vs hp hf
    dsimp only at hf
    split at hf
    · split at hf
      · next hq9 =>
        have hq9 := Nat.eq_of_beq_eq_true hq9
        subst hq9
        exact Ends.at hp (hκ8 _ _ _ _ hf)
      · cases hf
    · cases hf), List.forall_mem_cons.mpr ⟨(by
    intro L st h vs hp hf
    dsimp only at hf
    split at hf
    · split at hf
      · next hq9 =>
        have hq9 := Nat.eq_of_beq_eq_true hq9
        subst hq9
        exact Ends.at hp (hκ19 _ _ _ _ _ hf)
      · cases hf
    · cases hf), fun _ h => absurd h List.not_mem_nil⟩⟩) 400) ((e_Mo_best_19 κ8 κ19 x1 x2 x3 x4 h).symm.trans hz)
set_option maxRecDepth 100000 in
theorem E_Mo_best_8 {z : Option Value × Hp} {x1 : Int32} {x2 : Int32} {x3 : Int32} {h : Hp} (hz : loopC (Mo_best_8   ) FU (x1, x2, x3, h) = some z) : Ends toGI 7 152 19 1 z 8 (spr (mtM 152) [0, 1, 2, 3] [.ref 178, .int x1, .int x2, .int x3]) [] h := by
  refine loop_E (b := Mo_best_8   ) (P := fun s => match s with | (x1, x2, x3, h) => Ends toGI 7 152 19 1 z 8 (spr (mtM 152) [0, 1, 2, 3] [.ref 178, .int x1, .int x2, .int x3]) [] h) (fun s κ8 hκ hz => ?_) FU (x1, x2, x3, h) hz
  obtain ⟨x1, x2, x3, h⟩ := s
  have hκ8 : ∀ (x1 : Int32) (x2 : Int32) (x3 : Int32) (h : Hp), κ8 (x1, x2, x3, h) = some z → Ends toGI 7 152 19 1 z 8 (spr (mtM 152) [0, 1, 2, 3] [.ref 178, .int x1, .int x2, .int x3]) [] h := fun x1 x2 x3 h q => hκ (x1, x2, x3, h) q
  exact exec_E OI_ok kc_Mo_best so_Mo_best (runF_E OI_ok kc_Mo_best so_Mo_best (List.forall_mem_cons.mpr ⟨(by
    intro L st h vs hp hf
    dsimp only at hf
    split at hf
    · split at hf
      · next hq9 =>
        have hq9 := Nat.eq_of_beq_eq_true hq9
        subst hq9
        exact Ends.at hp (E_Mo_best_19 hκ8 hf)
      · cases hf
    · cases hf), fun _ h => absurd h List.not_mem_nil⟩) 400) ((e_Mo_best_8  κ8 x1 x2 x3 h).symm.trans hz)
set_option maxRecDepth 100000 in
theorem ok_Mo_best : ∀ as h z, sF_Mo_best as h = some z → Okm toGI 152 19 as h z := by
  intro as h z hz
  unfold sF_Mo_best at hz
  split at hz
  · next f0 =>
    split at hz
    · next hq9 =>
      have hq9 := Nat.eq_of_beq_eq_true hq9
      subst hq9
      exact okm_of (own := 7) (rk := 1) (by decide +kernel) (by decide +kernel) (by omega) rfl (Nat.le_of_ble_eq_true rfl) (exec_E OI_ok kc_Mo_best so_Mo_best (runF_E OI_ok kc_Mo_best so_Mo_best (List.forall_mem_cons.mpr ⟨(by
          intro L st h vs hp hf
          dsimp only at hf
          split at hf
          · split at hf
            · next hq9 =>
              have hq9 := Nat.eq_of_beq_eq_true hq9
              subst hq9
              exact Ends.at hp (E_Mo_best_8 hf)
            · cases hf
          · cases hf), fun _ h => absurd h List.not_mem_nil⟩) 400) ((e_Mo_best_0  h).symm.trans hz))
    · cases hz
  · cases hz
set_option maxRecDepth 100000 in
theorem kc_Mo_worth : k_Mo_worth.all (chkE 7 (mtC 153)) = true := by decide +kernel
theorem so_Mo_worth : SemOK toGI S_Mo_worth 16 := List.forall_mem_cons.mpr ⟨⟨mt_97, 2, by omega, ok_Mo_isOne⟩, List.forall_mem_cons.mpr ⟨⟨mt_145, 15, by omega, ok_Mo_isWayIn⟩, List.forall_mem_cons.mpr ⟨⟨mt_74, 1, by omega, ok_Mo_has⟩, fun _ h => absurd h List.not_mem_nil⟩⟩⟩
set_option maxRecDepth 100000 in
theorem E_Mo_worth_37 {z : Option Value × Hp} {κ14 : (Int32 × Int32 × Int32 × Hp) → Res Hp} {κ25 : (Int32 × Int32 × Int32 × Int32 × Hp) → Res Hp} (hκ14 : ∀ (x1 : Int32) (x2 : Int32) (x3 : Int32) (h : Hp), κ14 (x1, x2, x3, h) = some z → Ends toGI 7 153 16 1 z 14 (spr (mtM 153) [0, 1, 2, 3] [.ref 178, .int x1, .int x2, .int x3]) [] h) (hκ25 : ∀ (x1 : Int32) (x2 : Int32) (x3 : Int32) (x4 : Int32) (h : Hp), κ25 (x1, x2, x3, x4, h) = some z → Ends toGI 7 153 16 1 z 25 (spr (mtM 153) [0, 1, 2, 3, 4] [.ref 178, .int x1, .int x2, .int x3, .int x4]) [] h) {x1 : Int32} {x2 : Int32} {x3 : Int32} {x4 : Int32} {x5 : Int32} {h : Hp} (hz : loopC (Mo_worth_37 κ14 κ25  ) FU (x1, x2, x3, x4, x5, h) = some z) : Ends toGI 7 153 16 1 z 37 (spr (mtM 153) [0, 1, 2, 3, 4, 5] [.ref 178, .int x1, .int x2, .int x3, .int x4, .int x5]) [] h := by
  refine loop_E (b := Mo_worth_37 κ14 κ25  ) (P := fun s => match s with | (x1, x2, x3, x4, x5, h) => Ends toGI 7 153 16 1 z 37 (spr (mtM 153) [0, 1, 2, 3, 4, 5] [.ref 178, .int x1, .int x2, .int x3, .int x4, .int x5]) [] h) (fun s κ37 hκ hz => ?_) FU (x1, x2, x3, x4, x5, h) hz
  obtain ⟨x1, x2, x3, x4, x5, h⟩ := s
  have hκ37 : ∀ (x1 : Int32) (x2 : Int32) (x3 : Int32) (x4 : Int32) (x5 : Int32) (h : Hp), κ37 (x1, x2, x3, x4, x5, h) = some z → Ends toGI 7 153 16 1 z 37 (spr (mtM 153) [0, 1, 2, 3, 4, 5] [.ref 178, .int x1, .int x2, .int x3, .int x4, .int x5]) [] h := fun x1 x2 x3 x4 x5 h q => hκ (x1, x2, x3, x4, x5, h) q
  exact exec_E OI_ok kc_Mo_worth so_Mo_worth (runF_E OI_ok kc_Mo_worth so_Mo_worth (List.forall_mem_cons.mpr ⟨(by
    intro L st h vs hp hf
    dsimp only at hf
    split at hf
    · split at hf
      · next hq9 =>
        have hq9 := Nat.eq_of_beq_eq_true hq9
        subst hq9
        exact Ends.at hp (hκ25 _ _ _ _ _ hf)
      · cases hf
    · cases hf), List.forall_mem_cons.mpr ⟨(by
    intro L st h vs hp hf
    dsimp only at hf
    split at hf
    · split at hf
      · next hq9 =>
        have hq9 := Nat.eq_of_beq_eq_true hq9
        subst hq9
        exact Ends.at hp (hκ37 _ _ _ _ _ _ hf)
      · cases hf
    · cases hf), fun _ h => absurd h List.not_mem_nil⟩⟩) 400) ((e_Mo_worth_37 κ14 κ25 κ37 x1 x2 x3 x4 x5 h).symm.trans hz)
set_option maxRecDepth 100000 in
theorem E_Mo_worth_25 {z : Option Value × Hp} {κ14 : (Int32 × Int32 × Int32 × Hp) → Res Hp} (hκ14 : ∀ (x1 : Int32) (x2 : Int32) (x3 : Int32) (h : Hp), κ14 (x1, x2, x3, h) = some z → Ends toGI 7 153 16 1 z 14 (spr (mtM 153) [0, 1, 2, 3] [.ref 178, .int x1, .int x2, .int x3]) [] h) {x1 : Int32} {x2 : Int32} {x3 : Int32} {x4 : Int32} {h : Hp} (hz : loopC (Mo_worth_25 κ14  ) FU (x1, x2, x3, x4, h) = some z) : Ends toGI 7 153 16 1 z 25 (spr (mtM 153) [0, 1, 2, 3, 4] [.ref 178, .int x1, .int x2, .int x3, .int x4]) [] h := by
  refine loop_E (b := Mo_worth_25 κ14  ) (P := fun s => match s with | (x1, x2, x3, x4, h) => Ends toGI 7 153 16 1 z 25 (spr (mtM 153) [0, 1, 2, 3, 4] [.ref 178, .int x1, .int x2, .int x3, .int x4]) [] h) (fun s κ25 hκ hz => ?_) FU (x1, x2, x3, x4, h) hz
  obtain ⟨x1, x2, x3, x4, h⟩ := s
  have hκ25 : ∀ (x1 : Int32) (x2 : Int32) (x3 : Int32) (x4 : Int32) (h : Hp), κ25 (x1, x2, x3, x4, h) = some z → Ends toGI 7 153 16 1 z 25 (spr (mtM 153) [0, 1, 2, 3, 4] [.ref 178, .int x1, .int x2, .int x3, .int x4]) [] h := fun x1 x2 x3 x4 h q => hκ (x1, x2, x3, x4, h) q
  exact exec_E OI_ok kc_Mo_worth so_Mo_worth (runF_E OI_ok kc_Mo_worth so_Mo_worth (List.forall_mem_cons.mpr ⟨(by
    intro L st h vs hp hf
    dsimp only at hf
    split at hf
    · split at hf
      · next hq9 =>
        have hq9 := Nat.eq_of_beq_eq_true hq9
        subst hq9
        exact Ends.at hp (hκ14 _ _ _ _ hf)
      · cases hf
    · cases hf), List.forall_mem_cons.mpr ⟨(by
    intro L st h vs hp hf
    dsimp only at hf
    split at hf
    · split at hf
      · next hq9 =>
        have hq9 := Nat.eq_of_beq_eq_true hq9
        subst hq9
        exact Ends.at hp (E_Mo_worth_37 hκ14 hκ25 hf)
      · cases hf
    · cases hf), fun _ h => absurd h List.not_mem_nil⟩⟩) 400) ((e_Mo_worth_25 κ14 κ25 x1 x2 x3 x4 h).symm.trans hz)
set_option maxRecDepth 100000 in
theorem E_Mo_worth_14 {z : Option Value × Hp} {x1 : Int32} {x2 : Int32} {x3 : Int32} {h : Hp} (hz : loopC (Mo_worth_14   ) FU (x1, x2, x3, h) = some z) : Ends toGI 7 153 16 1 z 14 (spr (mtM 153) [0, 1, 2, 3] [.ref 178, .int x1, .int x2, .int x3]) [] h := by
  refine loop_E (b := Mo_worth_14   ) (P := fun s => match s with | (x1, x2, x3, h) => Ends toGI 7 153 16 1 z 14 (spr (mtM 153) [0, 1, 2, 3] [.ref 178, .int x1, .int x2, .int x3]) [] h) (fun s κ14 hκ hz => ?_) FU (x1, x2, x3, h) hz
  obtain ⟨x1, x2, x3, h⟩ := s
  have hκ14 : ∀ (x1 : Int32) (x2 : Int32) (x3 : Int32) (h : Hp), κ14 (x1, x2, x3, h) = some z → Ends toGI 7 153 16 1 z 14 (spr (mtM 153) [0, 1, 2, 3] [.ref 178, .int x1, .int x2, .int x3]) [] h := fun x1 x2 x3 h q => hκ (x1, x2, x3, h) q
  exact exec_E OI_ok kc_Mo_worth so_Mo_worth (runF_E OI_ok kc_Mo_worth so_Mo_worth (List.forall_mem_cons.mpr ⟨(by
    intro L st h vs hp hf
    dsimp only at hf
    split at hf
    · split at hf
      · next hq9 =>
        have hq9 := Nat.eq_of_beq_eq_true hq9
        subst hq9
        exact Ends.at hp (E_Mo_worth_25 hκ14 hf)
      · cases hf
    · cases hf), fun _ h => absurd h List.not_mem_nil⟩) 400) ((e_Mo_worth_14  κ14 x1 x2 x3 h).symm.trans hz)
set_option maxRecDepth 100000 in
theorem ok_Mo_worth : ∀ as h z, sF_Mo_worth as h = some z → Okm toGI 153 16 as h z := by
  intro as h z hz
  unfold sF_Mo_worth at hz
  split at hz
  · next f0 x1 =>
    split at hz
    · next hq9 =>
      have hq9 := Nat.eq_of_beq_eq_true hq9
      subst hq9
      exact okm_of (own := 7) (rk := 1) (by decide +kernel) (by decide +kernel) (by omega) rfl (Nat.le_of_ble_eq_true rfl) (exec_E OI_ok kc_Mo_worth so_Mo_worth (runF_E OI_ok kc_Mo_worth so_Mo_worth (List.forall_mem_cons.mpr ⟨(by
          intro L st h vs hp hf
          dsimp only at hf
          split at hf
          · split at hf
            · next hq9 =>
              have hq9 := Nat.eq_of_beq_eq_true hq9
              subst hq9
              exact Ends.at hp (E_Mo_worth_14 hf)
            · cases hf
          · cases hf), fun _ h => absurd h List.not_mem_nil⟩) 400) ((e_Mo_worth_0 x1 h).symm.trans hz))
    · cases hz
  · cases hz
set_option maxRecDepth 100000 in
theorem kc_Mo_fewest : k_Mo_fewest.all (chkE 7 (mtC 154)) = true := by decide +kernel
theorem so_Mo_fewest : SemOK toGI S_Mo_fewest 17 := List.forall_mem_cons.mpr ⟨⟨mt_75, 1, by omega, ok_Mo_sizeOf⟩, List.forall_mem_cons.mpr ⟨⟨mt_73, 1, by omega, ok_Mo_ask⟩, List.forall_mem_cons.mpr ⟨⟨mt_147, 16, by omega, ok_Mo_tonguesOf⟩, fun _ h => absurd h List.not_mem_nil⟩⟩⟩
set_option maxRecDepth 100000 in
theorem E_Mo_fewest_100 {z : Option Value × Hp} {κ64 : (Int32 × Int32 × Hp) → Res Hp} {κ88 : (Int32 × Int32 × Int32 × Int32 × Hp) → Res Hp} (hκ64 : ∀ (x1 : Int32) (x2 : Int32) (h : Hp), κ64 (x1, x2, h) = some z → Ends toGI 7 154 17 1 z 64 (spr (mtM 154) [0, 1, 2] [.ref 178, .int x1, .int x2]) [] h) (hκ88 : ∀ (x1 : Int32) (x2 : Int32) (x3 : Int32) (x4 : Int32) (h : Hp), κ88 (x1, x2, x3, x4, h) = some z → Ends toGI 7 154 17 1 z 88 (spr (mtM 154) [0, 1, 2, 3, 4] [.ref 178, .int x1, .int x2, .int x3, .int x4]) [] h) {x1 : Int32} {x2 : Int32} {x3 : Int32} {x4 : Int32} {x5 : Int32} {h : Hp} (hz : loopC (Mo_fewest_100 κ64 κ88  ) FU (x1, x2, x3, x4, x5, h) = some z) : Ends toGI 7 154 17 1 z 100 (spr (mtM 154) [0, 1, 2, 3, 4, 5] [.ref 178, .int x1, .int x2, .int x3, .int x4, .int x5]) [] h := by
  refine loop_E (b := Mo_fewest_100 κ64 κ88  ) (P := fun s => match s with | (x1, x2, x3, x4, x5, h) => Ends toGI 7 154 17 1 z 100 (spr (mtM 154) [0, 1, 2, 3, 4, 5] [.ref 178, .int x1, .int x2, .int x3, .int x4, .int x5]) [] h) (fun s κ100 hκ hz => ?_) FU (x1, x2, x3, x4, x5, h) hz
  obtain ⟨x1, x2, x3, x4, x5, h⟩ := s
  have hκ100 : ∀ (x1 : Int32) (x2 : Int32) (x3 : Int32) (x4 : Int32) (x5 : Int32) (h : Hp), κ100 (x1, x2, x3, x4, x5, h) = some z → Ends toGI 7 154 17 1 z 100 (spr (mtM 154) [0, 1, 2, 3, 4, 5] [.ref 178, .int x1, .int x2, .int x3, .int x4, .int x5]) [] h := fun x1 x2 x3 x4 x5 h q => hκ (x1, x2, x3, x4, x5, h) q
  exact exec_E OI_ok kc_Mo_fewest so_Mo_fewest (runF_E OI_ok kc_Mo_fewest so_Mo_fewest (List.forall_mem_cons.mpr ⟨(by
    intro L st h vs hp hf
    dsimp only at hf
    split at hf
    · split at hf
      · next hq9 =>
        have hq9 := Nat.eq_of_beq_eq_true hq9
        subst hq9
        exact Ends.at hp (hκ88 _ _ _ _ _ hf)
      · cases hf
    · cases hf), List.forall_mem_cons.mpr ⟨(by
    intro L st h vs hp hf
    dsimp only at hf
    split at hf
    · split at hf
      · next hq9 =>
        have hq9 := Nat.eq_of_beq_eq_true hq9
        subst hq9
        exact Ends.at hp (hκ100 _ _ _ _ _ _ hf)
      · cases hf
    · cases hf), fun _ h => absurd h List.not_mem_nil⟩⟩) 400) ((e_Mo_fewest_100 κ64 κ88 κ100 x1 x2 x3 x4 x5 h).symm.trans hz)
set_option maxRecDepth 100000 in
theorem E_Mo_fewest_88 {z : Option Value × Hp} {κ64 : (Int32 × Int32 × Hp) → Res Hp} (hκ64 : ∀ (x1 : Int32) (x2 : Int32) (h : Hp), κ64 (x1, x2, h) = some z → Ends toGI 7 154 17 1 z 64 (spr (mtM 154) [0, 1, 2] [.ref 178, .int x1, .int x2]) [] h) {x1 : Int32} {x2 : Int32} {x3 : Int32} {x4 : Int32} {h : Hp} (hz : loopC (Mo_fewest_88 κ64  ) FU (x1, x2, x3, x4, h) = some z) : Ends toGI 7 154 17 1 z 88 (spr (mtM 154) [0, 1, 2, 3, 4] [.ref 178, .int x1, .int x2, .int x3, .int x4]) [] h := by
  refine loop_E (b := Mo_fewest_88 κ64  ) (P := fun s => match s with | (x1, x2, x3, x4, h) => Ends toGI 7 154 17 1 z 88 (spr (mtM 154) [0, 1, 2, 3, 4] [.ref 178, .int x1, .int x2, .int x3, .int x4]) [] h) (fun s κ88 hκ hz => ?_) FU (x1, x2, x3, x4, h) hz
  obtain ⟨x1, x2, x3, x4, h⟩ := s
  have hκ88 : ∀ (x1 : Int32) (x2 : Int32) (x3 : Int32) (x4 : Int32) (h : Hp), κ88 (x1, x2, x3, x4, h) = some z → Ends toGI 7 154 17 1 z 88 (spr (mtM 154) [0, 1, 2, 3, 4] [.ref 178, .int x1, .int x2, .int x3, .int x4]) [] h := fun x1 x2 x3 x4 h q => hκ (x1, x2, x3, x4, h) q
  exact exec_E OI_ok kc_Mo_fewest so_Mo_fewest (runF_E OI_ok kc_Mo_fewest so_Mo_fewest (List.forall_mem_cons.mpr ⟨(by
    intro L st h vs hp hf
    dsimp only at hf
    split at hf
    · split at hf
      · next hq9 =>
        have hq9 := Nat.eq_of_beq_eq_true hq9
        subst hq9
        exact Ends.at hp (hκ64 _ _ _ hf)
      · cases hf
    · cases hf), List.forall_mem_cons.mpr ⟨(by
    intro L st h vs hp hf
    dsimp only at hf
    split at hf
    · split at hf
      · next hq9 =>
        have hq9 := Nat.eq_of_beq_eq_true hq9
        subst hq9
        exact Ends.at hp (E_Mo_fewest_100 hκ64 hκ88 hf)
      · cases hf
    · cases hf), fun _ h => absurd h List.not_mem_nil⟩⟩) 400) ((e_Mo_fewest_88 κ64 κ88 x1 x2 x3 x4 h).symm.trans hz)
set_option maxRecDepth 100000 in
theorem E_Mo_fewest_64 {z : Option Value × Hp} {x1 : Int32} {x2 : Int32} {h : Hp} (hz : loopC (Mo_fewest_64   ) FU (x1, x2, h) = some z) : Ends toGI 7 154 17 1 z 64 (spr (mtM 154) [0, 1, 2] [.ref 178, .int x1, .int x2]) [] h := by
  refine loop_E (b := Mo_fewest_64   ) (P := fun s => match s with | (x1, x2, h) => Ends toGI 7 154 17 1 z 64 (spr (mtM 154) [0, 1, 2] [.ref 178, .int x1, .int x2]) [] h) (fun s κ64 hκ hz => ?_) FU (x1, x2, h) hz
  obtain ⟨x1, x2, h⟩ := s
  have hκ64 : ∀ (x1 : Int32) (x2 : Int32) (h : Hp), κ64 (x1, x2, h) = some z → Ends toGI 7 154 17 1 z 64 (spr (mtM 154) [0, 1, 2] [.ref 178, .int x1, .int x2]) [] h := fun x1 x2 h q => hκ (x1, x2, h) q
  exact exec_E OI_ok kc_Mo_fewest so_Mo_fewest (runF_E OI_ok kc_Mo_fewest so_Mo_fewest (List.forall_mem_cons.mpr ⟨(by
    intro L st h vs hp hf
    dsimp only at hf
    split at hf
    · split at hf
      · next hq9 =>
        have hq9 := Nat.eq_of_beq_eq_true hq9
        subst hq9
        exact Ends.at hp (E_Mo_fewest_88 hκ64 hf)
      · cases hf
    · cases hf), fun _ h => absurd h List.not_mem_nil⟩) 400) ((e_Mo_fewest_64  κ64 x1 x2 h).symm.trans hz)
set_option maxRecDepth 100000 in
theorem E_Mo_fewest_12 {z : Option Value × Hp} {κ2 : (Int32 × Hp) → Res Hp} (hκ2 : ∀ (x1 : Int32) (h : Hp), κ2 (x1, h) = some z → Ends toGI 7 154 17 1 z 2 (spr (mtM 154) [0, 1] [.ref 178, .int x1]) [] h) {x1 : Int32} {x2 : Int32} {h : Hp} (hz : loopC (Mo_fewest_12 κ2  ) FU (x1, x2, h) = some z) : Ends toGI 7 154 17 1 z 12 (spr (mtM 154) [0, 1, 2] [.ref 178, .int x1, .int x2]) [] h := by
  refine loop_E (b := Mo_fewest_12 κ2  ) (P := fun s => match s with | (x1, x2, h) => Ends toGI 7 154 17 1 z 12 (spr (mtM 154) [0, 1, 2] [.ref 178, .int x1, .int x2]) [] h) (fun s κ12 hκ hz => ?_) FU (x1, x2, h) hz
  obtain ⟨x1, x2, h⟩ := s
  have hκ12 : ∀ (x1 : Int32) (x2 : Int32) (h : Hp), κ12 (x1, x2, h) = some z → Ends toGI 7 154 17 1 z 12 (spr (mtM 154) [0, 1, 2] [.ref 178, .int x1, .int x2]) [] h := fun x1 x2 h q => hκ (x1, x2, h) q
  exact exec_E OI_ok kc_Mo_fewest so_Mo_fewest (runF_E OI_ok kc_Mo_fewest so_Mo_fewest (List.forall_mem_cons.mpr ⟨(by
    intro L st h vs hp hf
    dsimp only at hf
    split at hf
    · split at hf
      · next hq9 =>
        have hq9 := Nat.eq_of_beq_eq_true hq9
        subst hq9
        exact Ends.at hp (hκ2 _ _ hf)
      · cases hf
    · cases hf), List.forall_mem_cons.mpr ⟨(by
    intro L st h vs hp hf
    dsimp only at hf
    split at hf
    · split at hf
      · next hq9 =>
        have hq9 := Nat.eq_of_beq_eq_true hq9
        subst hq9
        exact Ends.at hp (hκ12 _ _ _ hf)
      · cases hf
    · cases hf), fun _ h => absurd h List.not_mem_nil⟩⟩) 400) ((e_Mo_fewest_12 κ2 κ12 x1 x2 h).symm.trans hz)
set_option maxRecDepth 100000 in
theorem E_Mo_fewest_2 {z : Option Value × Hp} {x1 : Int32} {h : Hp} (hz : loopC (Mo_fewest_2   ) FU (x1, h) = some z) : Ends toGI 7 154 17 1 z 2 (spr (mtM 154) [0, 1] [.ref 178, .int x1]) [] h := by
  refine loop_E (b := Mo_fewest_2   ) (P := fun s => match s with | (x1, h) => Ends toGI 7 154 17 1 z 2 (spr (mtM 154) [0, 1] [.ref 178, .int x1]) [] h) (fun s κ2 hκ hz => ?_) FU (x1, h) hz
  obtain ⟨x1, h⟩ := s
  have hκ2 : ∀ (x1 : Int32) (h : Hp), κ2 (x1, h) = some z → Ends toGI 7 154 17 1 z 2 (spr (mtM 154) [0, 1] [.ref 178, .int x1]) [] h := fun x1 h q => hκ (x1, h) q
  exact exec_E OI_ok kc_Mo_fewest so_Mo_fewest (runF_E OI_ok kc_Mo_fewest so_Mo_fewest (List.forall_mem_cons.mpr ⟨(by
    intro L st h vs hp hf
    dsimp only at hf
    split at hf
    · split at hf
      · next hq9 =>
        have hq9 := Nat.eq_of_beq_eq_true hq9
        subst hq9
        exact Ends.at hp (E_Mo_fewest_64 hf)
      · cases hf
    · cases hf), List.forall_mem_cons.mpr ⟨(by
    intro L st h vs hp hf
    dsimp only at hf
    split at hf
    · split at hf
      · next hq9 =>
        have hq9 := Nat.eq_of_beq_eq_true hq9
        subst hq9
        exact Ends.at hp (E_Mo_fewest_12 hκ2 hf)
      · cases hf
    · cases hf), fun _ h => absurd h List.not_mem_nil⟩⟩) 400) ((e_Mo_fewest_2  κ2 x1 h).symm.trans hz)
set_option maxRecDepth 100000 in
theorem ok_Mo_fewest : ∀ as h z, sF_Mo_fewest as h = some z → Okm toGI 154 17 as h z := by
  intro as h z hz
  unfold sF_Mo_fewest at hz
  split at hz
  · next f0 =>
    split at hz
    · next hq9 =>
      have hq9 := Nat.eq_of_beq_eq_true hq9
      subst hq9
      exact okm_of (own := 7) (rk := 1) (by decide +kernel) (by decide +kernel) (by omega) rfl (Nat.le_of_ble_eq_true rfl) (exec_E OI_ok kc_Mo_fewest so_Mo_fewest (runF_E OI_ok kc_Mo_fewest so_Mo_fewest (List.forall_mem_cons.mpr ⟨(by
          intro L st h vs hp hf
          dsimp only at hf
          split at hf
          · split at hf
            · next hq9 =>
              have hq9 := Nat.eq_of_beq_eq_true hq9
              subst hq9
              exact Ends.at hp (E_Mo_fewest_2 hf)
            · cases hf
          · cases hf), fun _ h => absurd h List.not_mem_nil⟩) 400) ((e_Mo_fewest_0  h).symm.trans hz))
    · cases hz
  · cases hz
set_option maxRecDepth 100000 in
theorem kc_Mo_askedPairs : k_Mo_askedPairs.all (chkE 7 (mtC 155)) = true := by decide +kernel
theorem so_Mo_askedPairs : SemOK toGI S_Mo_askedPairs 4 := List.forall_mem_cons.mpr ⟨⟨mt_78, 3, by omega, ok_Mo_askedRow⟩, List.forall_mem_cons.mpr ⟨⟨mt_80, 1, by omega, ok_Mo_rowAt⟩, List.forall_mem_cons.mpr ⟨⟨mt_71, 1, by omega, ok_Mo_in⟩, List.forall_mem_cons.mpr ⟨⟨mt_72, 1, by omega, ok_Mo_meetWith⟩, fun _ h => absurd h List.not_mem_nil⟩⟩⟩⟩
set_option maxRecDepth 100000 in
theorem E_Mo_askedPairs_32 {z : Option Value × Hp} {x1 : Int32} {x3 : Int32} {h : Hp} (hz : loopC (Mo_askedPairs_32   ) FU (x1, x3, h) = some z) : Ends toGI 7 155 4 1 z 32 (spr (mtM 155) [0, 1, 3] [.ref 178, .int x1, .int x3]) [] h := by
  refine loop_E (b := Mo_askedPairs_32   ) (P := fun s => match s with | (x1, x3, h) => Ends toGI 7 155 4 1 z 32 (spr (mtM 155) [0, 1, 3] [.ref 178, .int x1, .int x3]) [] h) (fun s κ32 hκ hz => ?_) FU (x1, x3, h) hz
  obtain ⟨x1, x3, h⟩ := s
  have hκ32 : ∀ (x1 : Int32) (x3 : Int32) (h : Hp), κ32 (x1, x3, h) = some z → Ends toGI 7 155 4 1 z 32 (spr (mtM 155) [0, 1, 3] [.ref 178, .int x1, .int x3]) [] h := fun x1 x3 h q => hκ (x1, x3, h) q
  exact exec_E OI_ok kc_Mo_askedPairs so_Mo_askedPairs (runF_E OI_ok kc_Mo_askedPairs so_Mo_askedPairs (List.forall_mem_cons.mpr ⟨(by
    intro L st h vs hp hf
    dsimp only at hf
    split at hf
    · split at hf
      · next hq9 =>
        have hq9 := Nat.eq_of_beq_eq_true hq9
        subst hq9
        exact Ends.at hp (hκ32 _ _ _ hf)
      · cases hf
    · cases hf), fun _ h => absurd h List.not_mem_nil⟩) 400) ((e_Mo_askedPairs_32  κ32 x1 x3 h).symm.trans hz)
set_option maxRecDepth 100000 in
theorem ok_Mo_askedPairs : ∀ as h z, sF_Mo_askedPairs as h = some z → Okm toGI 155 4 as h z := by
  intro as h z hz
  unfold sF_Mo_askedPairs at hz
  split at hz
  · next f0 x1 =>
    split at hz
    · next hq9 =>
      have hq9 := Nat.eq_of_beq_eq_true hq9
      subst hq9
      exact okm_of (own := 7) (rk := 1) (by decide +kernel) (by decide +kernel) (by omega) rfl (Nat.le_of_ble_eq_true rfl) (exec_E OI_ok kc_Mo_askedPairs so_Mo_askedPairs (runF_E OI_ok kc_Mo_askedPairs so_Mo_askedPairs (List.forall_mem_cons.mpr ⟨(by
          intro L st h vs hp hf
          dsimp only at hf
          split at hf
          · split at hf
            · next hq9 =>
              have hq9 := Nat.eq_of_beq_eq_true hq9
              subst hq9
              exact Ends.at hp (E_Mo_askedPairs_32 hf)
            · cases hf
          · cases hf), fun _ h => absurd h List.not_mem_nil⟩) 400) ((e_Mo_askedPairs_0 x1 h).symm.trans hz))
    · cases hz
  · cases hz
set_option maxRecDepth 100000 in
theorem kc_Mo_isRead : k_Mo_isRead.all (chkE 7 (mtC 156)) = true := by decide +kernel
theorem so_Mo_isRead : SemOK toGI S_Mo_isRead 2 := List.forall_mem_cons.mpr ⟨⟨mt_80, 1, by omega, ok_Mo_rowAt⟩, fun _ h => absurd h List.not_mem_nil⟩
set_option maxRecDepth 100000 in
theorem E_Mo_isRead_5 {z : Option Value × Hp} {x1 : Int32} {x2 : Int32} {x3 : Int32} {x4 : Int32} {h : Hp} (hz : loopC (Mo_isRead_5   ) FU (x1, x2, x3, x4, h) = some z) : Ends toGI 7 156 2 2 z 5 (spr (mtM 156) [0, 1, 2, 3, 4] [.ref 178, .int x1, .int x2, .int x3, .int x4]) [] h := by
  refine loop_E (b := Mo_isRead_5   ) (P := fun s => match s with | (x1, x2, x3, x4, h) => Ends toGI 7 156 2 2 z 5 (spr (mtM 156) [0, 1, 2, 3, 4] [.ref 178, .int x1, .int x2, .int x3, .int x4]) [] h) (fun s κ5 hκ hz => ?_) FU (x1, x2, x3, x4, h) hz
  obtain ⟨x1, x2, x3, x4, h⟩ := s
  have hκ5 : ∀ (x1 : Int32) (x2 : Int32) (x3 : Int32) (x4 : Int32) (h : Hp), κ5 (x1, x2, x3, x4, h) = some z → Ends toGI 7 156 2 2 z 5 (spr (mtM 156) [0, 1, 2, 3, 4] [.ref 178, .int x1, .int x2, .int x3, .int x4]) [] h := fun x1 x2 x3 x4 h q => hκ (x1, x2, x3, x4, h) q
  exact exec_E OI_ok kc_Mo_isRead so_Mo_isRead (runF_E OI_ok kc_Mo_isRead so_Mo_isRead (List.forall_mem_cons.mpr ⟨(by
    intro L st h vs hp hf
    dsimp only at hf
    split at hf
    · split at hf
      · next hq9 =>
        have hq9 := Nat.eq_of_beq_eq_true hq9
        subst hq9
        exact Ends.at hp (hκ5 _ _ _ _ _ hf)
      · cases hf
    · cases hf), fun _ h => absurd h List.not_mem_nil⟩) 400) ((e_Mo_isRead_5  κ5 x1 x2 x3 x4 h).symm.trans hz)
set_option maxRecDepth 100000 in
theorem ok_Mo_isRead : ∀ as h z, sF_Mo_isRead as h = some z → Okm toGI 156 2 as h z := by
  intro as h z hz
  unfold sF_Mo_isRead at hz
  split at hz
  · next f0 x1 x2 =>
    split at hz
    · next hq9 =>
      have hq9 := Nat.eq_of_beq_eq_true hq9
      subst hq9
      exact okm_of (own := 7) (rk := 2) (by decide +kernel) (by decide +kernel) (by omega) rfl (Nat.le_of_ble_eq_true rfl) (exec_E OI_ok kc_Mo_isRead so_Mo_isRead (runF_E OI_ok kc_Mo_isRead so_Mo_isRead (List.forall_mem_cons.mpr ⟨(by
          intro L st h vs hp hf
          dsimp only at hf
          split at hf
          · split at hf
            · next hq9 =>
              have hq9 := Nat.eq_of_beq_eq_true hq9
              subst hq9
              exact Ends.at hp (E_Mo_isRead_5 hf)
            · cases hf
          · cases hf), fun _ h => absurd h List.not_mem_nil⟩) 400) ((e_Mo_isRead_0 x1 x2 h).symm.trans hz))
    · cases hz
  · cases hz
set_option maxRecDepth 100000 in
theorem kc_Mo_reader : k_Mo_reader.all (chkE 7 (mtC 157)) = true := by decide +kernel
theorem so_Mo_reader : SemOK toGI S_Mo_reader 5 := List.forall_mem_cons.mpr ⟨⟨mt_155, 4, by omega, ok_Mo_askedPairs⟩, List.forall_mem_cons.mpr ⟨⟨mt_156, 2, by omega, ok_Mo_isRead⟩, fun _ h => absurd h List.not_mem_nil⟩⟩
set_option maxRecDepth 100000 in
theorem E_Mo_reader_17 {z : Option Value × Hp} {x1 : Int32} {x3 : Int32} {x4 : Int32} {h : Hp} (hz : loopC (Mo_reader_17   ) FU (x1, x3, x4, h) = some z) : Ends toGI 7 157 5 1 z 17 (spr (mtM 157) [0, 1, 3, 4] [.ref 178, .int x1, .int x3, .int x4]) [] h := by
  refine loop_E (b := Mo_reader_17   ) (P := fun s => match s with | (x1, x3, x4, h) => Ends toGI 7 157 5 1 z 17 (spr (mtM 157) [0, 1, 3, 4] [.ref 178, .int x1, .int x3, .int x4]) [] h) (fun s κ17 hκ hz => ?_) FU (x1, x3, x4, h) hz
  obtain ⟨x1, x3, x4, h⟩ := s
  have hκ17 : ∀ (x1 : Int32) (x3 : Int32) (x4 : Int32) (h : Hp), κ17 (x1, x3, x4, h) = some z → Ends toGI 7 157 5 1 z 17 (spr (mtM 157) [0, 1, 3, 4] [.ref 178, .int x1, .int x3, .int x4]) [] h := fun x1 x3 x4 h q => hκ (x1, x3, x4, h) q
  exact exec_E OI_ok kc_Mo_reader so_Mo_reader (runF_E OI_ok kc_Mo_reader so_Mo_reader (List.forall_mem_cons.mpr ⟨(by
    intro L st h vs hp hf
    dsimp only at hf
    split at hf
    · split at hf
      · next hq9 =>
        have hq9 := Nat.eq_of_beq_eq_true hq9
        subst hq9
        exact Ends.at hp (hκ17 _ _ _ _ hf)
      · cases hf
    · cases hf), fun _ h => absurd h List.not_mem_nil⟩) 400) ((e_Mo_reader_17  κ17 x1 x3 x4 h).symm.trans hz)
set_option maxRecDepth 100000 in
theorem ok_Mo_reader : ∀ as h z, sF_Mo_reader as h = some z → Okm toGI 157 5 as h z := by
  intro as h z hz
  unfold sF_Mo_reader at hz
  split at hz
  · next f0 x1 =>
    split at hz
    · next hq9 =>
      have hq9 := Nat.eq_of_beq_eq_true hq9
      subst hq9
      exact okm_of (own := 7) (rk := 1) (by decide +kernel) (by decide +kernel) (by omega) rfl (Nat.le_of_ble_eq_true rfl) (exec_E OI_ok kc_Mo_reader so_Mo_reader (runF_E OI_ok kc_Mo_reader so_Mo_reader (List.forall_mem_cons.mpr ⟨(by
          intro L st h vs hp hf
          dsimp only at hf
          split at hf
          · split at hf
            · next hq9 =>
              have hq9 := Nat.eq_of_beq_eq_true hq9
              subst hq9
              exact Ends.at hp (E_Mo_reader_17 hf)
            · cases hf
          · cases hf), fun _ h => absurd h List.not_mem_nil⟩) 400) ((e_Mo_reader_0 x1 h).symm.trans hz))
    · cases hz
  · cases hz
set_option maxRecDepth 100000 in
theorem kc_Mo_readers : k_Mo_readers.all (chkE 7 (mtC 158)) = true := by decide +kernel
theorem so_Mo_readers : SemOK toGI S_Mo_readers 5 := List.forall_mem_cons.mpr ⟨⟨mt_155, 4, by omega, ok_Mo_askedPairs⟩, List.forall_mem_cons.mpr ⟨⟨mt_156, 2, by omega, ok_Mo_isRead⟩, fun _ h => absurd h List.not_mem_nil⟩⟩
set_option maxRecDepth 100000 in
theorem E_Mo_readers_32 {z : Option Value × Hp} {κ17 : (Int32 × Int32 × Int32 × Hp) → Res Hp} (hκ17 : ∀ (x1 : Int32) (x3 : Int32) (x4 : Int32) (h : Hp), κ17 (x1, x3, x4, h) = some z → Ends toGI 7 158 5 1 z 17 (spr (mtM 158) [0, 1, 3, 4] [.ref 178, .int x1, .int x3, .int x4]) [] h) {x1 : Int32} {x3 : Int32} {x4 : Int32} {x5 : Int32} {h : Hp} (hz : loopC (Mo_readers_32 κ17  ) FU (x1, x3, x4, x5, h) = some z) : Ends toGI 7 158 5 1 z 32 (spr (mtM 158) [0, 1, 3, 4, 5] [.ref 178, .int x1, .int x3, .int x4, .int x5]) [] h := by
  refine loop_E (b := Mo_readers_32 κ17  ) (P := fun s => match s with | (x1, x3, x4, x5, h) => Ends toGI 7 158 5 1 z 32 (spr (mtM 158) [0, 1, 3, 4, 5] [.ref 178, .int x1, .int x3, .int x4, .int x5]) [] h) (fun s κ32 hκ hz => ?_) FU (x1, x3, x4, x5, h) hz
  obtain ⟨x1, x3, x4, x5, h⟩ := s
  have hκ32 : ∀ (x1 : Int32) (x3 : Int32) (x4 : Int32) (x5 : Int32) (h : Hp), κ32 (x1, x3, x4, x5, h) = some z → Ends toGI 7 158 5 1 z 32 (spr (mtM 158) [0, 1, 3, 4, 5] [.ref 178, .int x1, .int x3, .int x4, .int x5]) [] h := fun x1 x3 x4 x5 h q => hκ (x1, x3, x4, x5, h) q
  exact exec_E OI_ok kc_Mo_readers so_Mo_readers (runF_E OI_ok kc_Mo_readers so_Mo_readers (List.forall_mem_cons.mpr ⟨(by
    intro L st h vs hp hf
    dsimp only at hf
    split at hf
    · split at hf
      · next hq9 =>
        have hq9 := Nat.eq_of_beq_eq_true hq9
        subst hq9
        exact Ends.at hp (hκ17 _ _ _ _ hf)
      · cases hf
    · cases hf), List.forall_mem_cons.mpr ⟨(by
    intro L st h vs hp hf
    dsimp only at hf
    split at hf
    · split at hf
      · next hq9 =>
        have hq9 := Nat.eq_of_beq_eq_true hq9
        subst hq9
        exact Ends.at hp (hκ32 _ _ _ _ _ hf)
      · cases hf
    · cases hf), fun _ h => absurd h List.not_mem_nil⟩⟩) 400) ((e_Mo_readers_32 κ17 κ32 x1 x3 x4 x5 h).symm.trans hz)
set_option maxRecDepth 100000 in
theorem E_Mo_readers_17 {z : Option Value × Hp} {x1 : Int32} {x3 : Int32} {x4 : Int32} {h : Hp} (hz : loopC (Mo_readers_17   ) FU (x1, x3, x4, h) = some z) : Ends toGI 7 158 5 1 z 17 (spr (mtM 158) [0, 1, 3, 4] [.ref 178, .int x1, .int x3, .int x4]) [] h := by
  refine loop_E (b := Mo_readers_17   ) (P := fun s => match s with | (x1, x3, x4, h) => Ends toGI 7 158 5 1 z 17 (spr (mtM 158) [0, 1, 3, 4] [.ref 178, .int x1, .int x3, .int x4]) [] h) (fun s κ17 hκ hz => ?_) FU (x1, x3, x4, h) hz
  obtain ⟨x1, x3, x4, h⟩ := s
  have hκ17 : ∀ (x1 : Int32) (x3 : Int32) (x4 : Int32) (h : Hp), κ17 (x1, x3, x4, h) = some z → Ends toGI 7 158 5 1 z 17 (spr (mtM 158) [0, 1, 3, 4] [.ref 178, .int x1, .int x3, .int x4]) [] h := fun x1 x3 x4 h q => hκ (x1, x3, x4, h) q
  exact exec_E OI_ok kc_Mo_readers so_Mo_readers (runF_E OI_ok kc_Mo_readers so_Mo_readers (List.forall_mem_cons.mpr ⟨(by
    intro L st h vs hp hf
    dsimp only at hf
    split at hf
    · split at hf
      · next hq9 =>
        have hq9 := Nat.eq_of_beq_eq_true hq9
        subst hq9
        exact Ends.at hp (E_Mo_readers_32 hκ17 hf)
      · cases hf
    · cases hf), fun _ h => absurd h List.not_mem_nil⟩) 400) ((e_Mo_readers_17  κ17 x1 x3 x4 h).symm.trans hz)
set_option maxRecDepth 100000 in
theorem ok_Mo_readers : ∀ as h z, sF_Mo_readers as h = some z → Okm toGI 158 5 as h z := by
  intro as h z hz
  unfold sF_Mo_readers at hz
  split at hz
  · next f0 x1 =>
    split at hz
    · next hq9 =>
      have hq9 := Nat.eq_of_beq_eq_true hq9
      subst hq9
      exact okm_of (own := 7) (rk := 1) (by decide +kernel) (by decide +kernel) (by omega) rfl (Nat.le_of_ble_eq_true rfl) (exec_E OI_ok kc_Mo_readers so_Mo_readers (runF_E OI_ok kc_Mo_readers so_Mo_readers (List.forall_mem_cons.mpr ⟨(by
          intro L st h vs hp hf
          dsimp only at hf
          split at hf
          · split at hf
            · next hq9 =>
              have hq9 := Nat.eq_of_beq_eq_true hq9
              subst hq9
              exact Ends.at hp (E_Mo_readers_17 hf)
            · cases hf
          · cases hf), fun _ h => absurd h List.not_mem_nil⟩) 400) ((e_Mo_readers_0 x1 h).symm.trans hz))
    · cases hz
  · cases hz
set_option maxRecDepth 100000 in
theorem kc_Mo_knows : k_Mo_knows.all (chkE 7 (mtC 159)) = true := by decide +kernel
theorem so_Mo_knows : SemOK toGI S_Mo_knows 4 := List.forall_mem_cons.mpr ⟨⟨mt_78, 3, by omega, ok_Mo_askedRow⟩, List.forall_mem_cons.mpr ⟨⟨mt_75, 1, by omega, ok_Mo_sizeOf⟩, List.forall_mem_cons.mpr ⟨⟨mt_73, 1, by omega, ok_Mo_ask⟩, List.forall_mem_cons.mpr ⟨⟨mt_80, 1, by omega, ok_Mo_rowAt⟩, List.forall_mem_cons.mpr ⟨⟨mt_100, 2, by omega, ok_Mo_isSet⟩, List.forall_mem_cons.mpr ⟨⟨mt_72, 1, by omega, ok_Mo_meetWith⟩, fun _ h => absurd h List.not_mem_nil⟩⟩⟩⟩⟩⟩
set_option maxRecDepth 100000 in
theorem E_Mo_knows_17 {z : Option Value × Hp} {x1 : Int32} {x3 : Int32} {x4 : Int32} {h : Hp} (hz : loopC (Mo_knows_17   ) FU (x1, x3, x4, h) = some z) : Ends toGI 7 159 4 1 z 17 (spr (mtM 159) [0, 1, 3, 4] [.ref 178, .int x1, .int x3, .int x4]) [] h := by
  refine loop_E (b := Mo_knows_17   ) (P := fun s => match s with | (x1, x3, x4, h) => Ends toGI 7 159 4 1 z 17 (spr (mtM 159) [0, 1, 3, 4] [.ref 178, .int x1, .int x3, .int x4]) [] h) (fun s κ17 hκ hz => ?_) FU (x1, x3, x4, h) hz
  obtain ⟨x1, x3, x4, h⟩ := s
  have hκ17 : ∀ (x1 : Int32) (x3 : Int32) (x4 : Int32) (h : Hp), κ17 (x1, x3, x4, h) = some z → Ends toGI 7 159 4 1 z 17 (spr (mtM 159) [0, 1, 3, 4] [.ref 178, .int x1, .int x3, .int x4]) [] h := fun x1 x3 x4 h q => hκ (x1, x3, x4, h) q
  exact exec_E OI_ok kc_Mo_knows so_Mo_knows (runF_E OI_ok kc_Mo_knows so_Mo_knows (List.forall_mem_cons.mpr ⟨(by
    intro L st h vs hp hf
    dsimp only at hf
    split at hf
    · split at hf
      · next hq9 =>
        have hq9 := Nat.eq_of_beq_eq_true hq9
        subst hq9
        exact Ends.at hp (hκ17 _ _ _ _ hf)
      · cases hf
    · cases hf), fun _ h => absurd h List.not_mem_nil⟩) 400) ((e_Mo_knows_17  κ17 x1 x3 x4 h).symm.trans hz)
set_option maxRecDepth 100000 in
theorem ok_Mo_knows : ∀ as h z, sF_Mo_knows as h = some z → Okm toGI 159 4 as h z := by
  intro as h z hz
  unfold sF_Mo_knows at hz
  split at hz
  · next f0 x1 =>
    split at hz
    · next hq9 =>
      have hq9 := Nat.eq_of_beq_eq_true hq9
      subst hq9
      exact okm_of (own := 7) (rk := 1) (by decide +kernel) (by decide +kernel) (by omega) rfl (Nat.le_of_ble_eq_true rfl) (exec_E OI_ok kc_Mo_knows so_Mo_knows (runF_E OI_ok kc_Mo_knows so_Mo_knows (List.forall_mem_cons.mpr ⟨(by
          intro L st h vs hp hf
          dsimp only at hf
          split at hf
          · split at hf
            · next hq9 =>
              have hq9 := Nat.eq_of_beq_eq_true hq9
              subst hq9
              exact Ends.at hp (E_Mo_knows_17 hf)
            · cases hf
          · cases hf), fun _ h => absurd h List.not_mem_nil⟩) 400) ((e_Mo_knows_0 x1 h).symm.trans hz))
    · cases hz
  · cases hz
set_option maxRecDepth 100000 in
theorem kc_Mo_days : k_Mo_days.all (chkE 7 (mtC 160)) = true := by decide +kernel
theorem so_Mo_days : SemOK toGI S_Mo_days 5 := List.forall_mem_cons.mpr ⟨⟨mt_71, 1, by omega, ok_Mo_in⟩, List.forall_mem_cons.mpr ⟨⟨mt_121, 4, by omega, ok_Mo_givable⟩, List.forall_mem_cons.mpr ⟨⟨mt_75, 1, by omega, ok_Mo_sizeOf⟩, List.forall_mem_cons.mpr ⟨⟨mt_74, 1, by omega, ok_Mo_has⟩, List.forall_mem_cons.mpr ⟨⟨mt_122, 3, by omega, ok_Mo_giveTo⟩, fun _ h => absurd h List.not_mem_nil⟩⟩⟩⟩⟩
set_option maxRecDepth 100000 in
theorem E_Mo_days_111 {z : Option Value × Hp} {κ56 : (Int32 × Int64 × Int32 × Int32 × Hp) → Res Hp} {κ65 : (Int32 × Int64 × Int32 × Int32 × Int32 × Hp) → Res Hp} (hκ56 : ∀ (x1 : Int32) (y3 : Int64) (x5 : Int32) (x6 : Int32) (h : Hp), κ56 (x1, y3, x5, x6, h) = some z → Ends toGI 7 160 5 1 z 56 (spr (mtM 160) [0, 1, 3, 5, 6] [.ref 178, .int x1, .long y3, .int x5, .int x6]) [] h) (hκ65 : ∀ (x1 : Int32) (y3 : Int64) (x5 : Int32) (x6 : Int32) (x7 : Int32) (h : Hp), κ65 (x1, y3, x5, x6, x7, h) = some z → Ends toGI 7 160 5 1 z 65 (spr (mtM 160) [0, 1, 3, 5, 6, 7] [.ref 178, .int x1, .long y3, .int x5, .int x6, .int x7]) [] h) {x1 : Int32} {y3 : Int64} {x5 : Int32} {x6 : Int32} {x7 : Int32} {x8 : Int32} {x9 : Int32} {x10 : Int32} {h : Hp} (hz : loopC (Mo_days_111 κ56 κ65  ) FU (x1, y3, x5, x6, x7, x8, x9, x10, h) = some z) : Ends toGI 7 160 5 1 z 111 (spr (mtM 160) [0, 1, 3, 5, 6, 7, 8, 9, 10] [.ref 178, .int x1, .long y3, .int x5, .int x6, .int x7, .int x8, .int x9, .int x10]) [] h := by
  refine loop_E (b := Mo_days_111 κ56 κ65  ) (P := fun s => match s with | (x1, y3, x5, x6, x7, x8, x9, x10, h) => Ends toGI 7 160 5 1 z 111 (spr (mtM 160) [0, 1, 3, 5, 6, 7, 8, 9, 10] [.ref 178, .int x1, .long y3, .int x5, .int x6, .int x7, .int x8, .int x9, .int x10]) [] h) (fun s κ111 hκ hz => ?_) FU (x1, y3, x5, x6, x7, x8, x9, x10, h) hz
  obtain ⟨x1, y3, x5, x6, x7, x8, x9, x10, h⟩ := s
  have hκ111 : ∀ (x1 : Int32) (y3 : Int64) (x5 : Int32) (x6 : Int32) (x7 : Int32) (x8 : Int32) (x9 : Int32) (x10 : Int32) (h : Hp), κ111 (x1, y3, x5, x6, x7, x8, x9, x10, h) = some z → Ends toGI 7 160 5 1 z 111 (spr (mtM 160) [0, 1, 3, 5, 6, 7, 8, 9, 10] [.ref 178, .int x1, .long y3, .int x5, .int x6, .int x7, .int x8, .int x9, .int x10]) [] h := fun x1 y3 x5 x6 x7 x8 x9 x10 h q => hκ (x1, y3, x5, x6, x7, x8, x9, x10, h) q
  exact exec_E OI_ok kc_Mo_days so_Mo_days (runF_E OI_ok kc_Mo_days so_Mo_days (List.forall_mem_cons.mpr ⟨(by
    intro L st h vs hp hf
    dsimp only at hf
    split at hf
    · split at hf
      · next hq9 =>
        have hq9 := Nat.eq_of_beq_eq_true hq9
        subst hq9
        exact Ends.at hp (hκ111 _ _ _ _ _ _ _ _ _ hf)
      · cases hf
    · cases hf), List.forall_mem_cons.mpr ⟨(by
    intro L st h vs hp hf
    dsimp only at hf
    split at hf
    · split at hf
      · next hq9 =>
        have hq9 := Nat.eq_of_beq_eq_true hq9
        subst hq9
        exact Ends.at hp (hκ65 _ _ _ _ _ _ hf)
      · cases hf
    · cases hf), fun _ h => absurd h List.not_mem_nil⟩⟩) 400) ((e_Mo_days_111 κ56 κ65 κ111 x1 y3 x5 x6 x7 x8 x9 x10 h).symm.trans hz)
set_option maxRecDepth 100000 in
theorem E_Mo_days_65 {z : Option Value × Hp} {κ56 : (Int32 × Int64 × Int32 × Int32 × Hp) → Res Hp} (hκ56 : ∀ (x1 : Int32) (y3 : Int64) (x5 : Int32) (x6 : Int32) (h : Hp), κ56 (x1, y3, x5, x6, h) = some z → Ends toGI 7 160 5 1 z 56 (spr (mtM 160) [0, 1, 3, 5, 6] [.ref 178, .int x1, .long y3, .int x5, .int x6]) [] h) {x1 : Int32} {y3 : Int64} {x5 : Int32} {x6 : Int32} {x7 : Int32} {h : Hp} (hz : loopC (Mo_days_65 κ56  ) FU (x1, y3, x5, x6, x7, h) = some z) : Ends toGI 7 160 5 1 z 65 (spr (mtM 160) [0, 1, 3, 5, 6, 7] [.ref 178, .int x1, .long y3, .int x5, .int x6, .int x7]) [] h := by
  refine loop_E (b := Mo_days_65 κ56  ) (P := fun s => match s with | (x1, y3, x5, x6, x7, h) => Ends toGI 7 160 5 1 z 65 (spr (mtM 160) [0, 1, 3, 5, 6, 7] [.ref 178, .int x1, .long y3, .int x5, .int x6, .int x7]) [] h) (fun s κ65 hκ hz => ?_) FU (x1, y3, x5, x6, x7, h) hz
  obtain ⟨x1, y3, x5, x6, x7, h⟩ := s
  have hκ65 : ∀ (x1 : Int32) (y3 : Int64) (x5 : Int32) (x6 : Int32) (x7 : Int32) (h : Hp), κ65 (x1, y3, x5, x6, x7, h) = some z → Ends toGI 7 160 5 1 z 65 (spr (mtM 160) [0, 1, 3, 5, 6, 7] [.ref 178, .int x1, .long y3, .int x5, .int x6, .int x7]) [] h := fun x1 y3 x5 x6 x7 h q => hκ (x1, y3, x5, x6, x7, h) q
  exact exec_E OI_ok kc_Mo_days so_Mo_days (runF_E OI_ok kc_Mo_days so_Mo_days (List.forall_mem_cons.mpr ⟨(by
    intro L st h vs hp hf
    dsimp only at hf
    split at hf
    · split at hf
      · next hq9 =>
        have hq9 := Nat.eq_of_beq_eq_true hq9
        subst hq9
        exact Ends.at hp (hκ56 _ _ _ _ _ hf)
      · cases hf
    · cases hf), List.forall_mem_cons.mpr ⟨(by
    intro L st h vs hp hf
    dsimp only at hf
    split at hf
    · split at hf
      · next hq9 =>
        have hq9 := Nat.eq_of_beq_eq_true hq9
        subst hq9
        exact Ends.at hp (hκ65 _ _ _ _ _ _ hf)
      · cases hf
    · cases hf), List.forall_mem_cons.mpr ⟨(by
    intro L st h vs hp hf
    dsimp only at hf
    split at hf
    · split at hf
      · next hq9 =>
        have hq9 := Nat.eq_of_beq_eq_true hq9
        subst hq9
        exact Ends.at hp (E_Mo_days_111 hκ56 hκ65 hf)
      · cases hf
    · cases hf), fun _ h => absurd h List.not_mem_nil⟩⟩⟩) 400) ((e_Mo_days_65 κ56 κ65 x1 y3 x5 x6 x7 h).symm.trans hz)
set_option maxRecDepth 100000 in
theorem E_Mo_days_56 {z : Option Value × Hp} {x1 : Int32} {y3 : Int64} {x5 : Int32} {x6 : Int32} {h : Hp} (hz : loopC (Mo_days_56   ) FU (x1, y3, x5, x6, h) = some z) : Ends toGI 7 160 5 1 z 56 (spr (mtM 160) [0, 1, 3, 5, 6] [.ref 178, .int x1, .long y3, .int x5, .int x6]) [] h := by
  refine loop_E (b := Mo_days_56   ) (P := fun s => match s with | (x1, y3, x5, x6, h) => Ends toGI 7 160 5 1 z 56 (spr (mtM 160) [0, 1, 3, 5, 6] [.ref 178, .int x1, .long y3, .int x5, .int x6]) [] h) (fun s κ56 hκ hz => ?_) FU (x1, y3, x5, x6, h) hz
  obtain ⟨x1, y3, x5, x6, h⟩ := s
  have hκ56 : ∀ (x1 : Int32) (y3 : Int64) (x5 : Int32) (x6 : Int32) (h : Hp), κ56 (x1, y3, x5, x6, h) = some z → Ends toGI 7 160 5 1 z 56 (spr (mtM 160) [0, 1, 3, 5, 6] [.ref 178, .int x1, .long y3, .int x5, .int x6]) [] h := fun x1 y3 x5 x6 h q => hκ (x1, y3, x5, x6, h) q
  exact exec_E OI_ok kc_Mo_days so_Mo_days (runF_E OI_ok kc_Mo_days so_Mo_days (List.forall_mem_cons.mpr ⟨(by
    intro L st h vs hp hf
    dsimp only at hf
    split at hf
    · split at hf
      · next hq9 =>
        have hq9 := Nat.eq_of_beq_eq_true hq9
        subst hq9
        exact Ends.at hp (E_Mo_days_65 hκ56 hf)
      · cases hf
    · cases hf), fun _ h => absurd h List.not_mem_nil⟩) 400) ((e_Mo_days_56  κ56 x1 y3 x5 x6 h).symm.trans hz)
set_option maxRecDepth 100000 in
theorem ok_Mo_days : ∀ as h z, sF_Mo_days as h = some z → Okm toGI 160 5 as h z := by
  intro as h z hz
  unfold sF_Mo_days at hz
  split at hz
  · next f0 x1 x2 =>
    split at hz
    · next hq9 =>
      have hq9 := Nat.eq_of_beq_eq_true hq9
      subst hq9
      exact okm_of (own := 7) (rk := 1) (by decide +kernel) (by decide +kernel) (by omega) rfl (Nat.le_of_ble_eq_true rfl) (exec_E OI_ok kc_Mo_days so_Mo_days (runF_E OI_ok kc_Mo_days so_Mo_days (List.forall_mem_cons.mpr ⟨(by
          intro L st h vs hp hf
          dsimp only at hf
          split at hf
          · split at hf
            · next hq9 =>
              have hq9 := Nat.eq_of_beq_eq_true hq9
              subst hq9
              exact Ends.at hp (E_Mo_days_56 hf)
            · cases hf
          · cases hf), fun _ h => absurd h List.not_mem_nil⟩) 400) ((e_Mo_days_0 x1 x2 h).symm.trans hz))
    · cases hz
  · cases hz
set_option maxRecDepth 100000 in
theorem kc_Mo_asked : k_Mo_asked.all (chkE 7 (mtC 161)) = true := by decide +kernel
theorem so_Mo_asked : SemOK toGI S_Mo_asked 1 := fun _ h => absurd h List.not_mem_nil
set_option maxRecDepth 100000 in
theorem ok_Mo_asked : ∀ as h z, sF_Mo_asked as h = some z → Okm toGI 161 1 as h z := by
  intro as h z hz
  unfold sF_Mo_asked at hz
  split at hz
  · next f0 =>
    split at hz
    · next hq9 =>
      have hq9 := Nat.eq_of_beq_eq_true hq9
      subst hq9
      exact okm_of (own := 7) (rk := 1) (by decide +kernel) (by decide +kernel) (by omega) rfl (Nat.le_of_ble_eq_true rfl) (exec_E OI_ok kc_Mo_asked so_Mo_asked (runF_E OI_ok kc_Mo_asked so_Mo_asked (fun _ h => absurd h List.not_mem_nil) 400) ((e_Mo_asked_0  h).symm.trans hz))
    · cases hz
  · cases hz
set_option maxRecDepth 100000 in
theorem kc_Mo_divisor : k_Mo_divisor.all (chkE 7 (mtC 162)) = true := by decide +kernel
theorem so_Mo_divisor : SemOK toGI S_Mo_divisor 1 := fun _ h => absurd h List.not_mem_nil
set_option maxRecDepth 100000 in
theorem E_Mo_divisor_4 {z : Option Value × Hp} {x2 : Int32} {x3 : Int32} {h : Hp} (hz : loopC (Mo_divisor_4   ) FU (x2, x3, h) = some z) : Ends toGI 7 162 1 1 z 4 (spr (mtM 162) [2, 3] [.int x2, .int x3]) [] h := by
  refine loop_E (b := Mo_divisor_4   ) (P := fun s => match s with | (x2, x3, h) => Ends toGI 7 162 1 1 z 4 (spr (mtM 162) [2, 3] [.int x2, .int x3]) [] h) (fun s κ4 hκ hz => ?_) FU (x2, x3, h) hz
  obtain ⟨x2, x3, h⟩ := s
  have hκ4 : ∀ (x2 : Int32) (x3 : Int32) (h : Hp), κ4 (x2, x3, h) = some z → Ends toGI 7 162 1 1 z 4 (spr (mtM 162) [2, 3] [.int x2, .int x3]) [] h := fun x2 x3 h q => hκ (x2, x3, h) q
  exact exec_E OI_ok kc_Mo_divisor so_Mo_divisor (runF_E OI_ok kc_Mo_divisor so_Mo_divisor (List.forall_mem_cons.mpr ⟨(by
    intro L st h vs hp hf
    dsimp only at hf
    split at hf
    · exact Ends.at hp (hκ4 _ _ _ hf)
    · cases hf), fun _ h => absurd h List.not_mem_nil⟩) 400) ((e_Mo_divisor_4  κ4 x2 x3 h).symm.trans hz)
set_option maxRecDepth 100000 in
theorem ok_Mo_divisor : ∀ as h z, sF_Mo_divisor as h = some z → Okm toGI 162 1 as h z := by
  intro as h z hz
  unfold sF_Mo_divisor at hz
  split at hz
  · next x0 x1 =>
    exact okm_of (own := 7) (rk := 1) (by decide +kernel) (by decide +kernel) (by omega) rfl (Nat.le_of_ble_eq_true rfl) (exec_E OI_ok kc_Mo_divisor so_Mo_divisor (runF_E OI_ok kc_Mo_divisor so_Mo_divisor (List.forall_mem_cons.mpr ⟨(by
          intro L st h vs hp hf
          dsimp only at hf
          split at hf
          · exact Ends.at hp (E_Mo_divisor_4 hf)
          · cases hf), fun _ h => absurd h List.not_mem_nil⟩) 400) ((e_Mo_divisor_0 x0 x1 h).symm.trans hz))
  · cases hz
set_option maxRecDepth 100000 in
theorem kc_Mo_upper : k_Mo_upper.all (chkE 7 (mtC 163)) = true := by decide +kernel
theorem so_Mo_upper : SemOK toGI S_Mo_upper 18 := List.forall_mem_cons.mpr ⟨⟨mt_148, 17, by omega, ok_Mo_cutNow⟩, List.forall_mem_cons.mpr ⟨⟨mt_162, 1, by omega, ok_Mo_divisor⟩, fun _ h => absurd h List.not_mem_nil⟩⟩
set_option maxRecDepth 100000 in
theorem ok_Mo_upper : ∀ as h z, sF_Mo_upper as h = some z → Okm toGI 163 18 as h z := by
  intro as h z hz
  unfold sF_Mo_upper at hz
  split at hz
  · next f0 =>
    split at hz
    · next hq9 =>
      have hq9 := Nat.eq_of_beq_eq_true hq9
      subst hq9
      exact okm_of (own := 7) (rk := 3) (by decide +kernel) (by decide +kernel) (by omega) rfl (Nat.le_of_ble_eq_true rfl) (exec_E OI_ok kc_Mo_upper so_Mo_upper (runF_E OI_ok kc_Mo_upper so_Mo_upper (fun _ h => absurd h List.not_mem_nil) 400) ((e_Mo_upper_0  h).symm.trans hz))
    · cases hz
  · cases hz
set_option maxRecDepth 100000 in
theorem kc_Mo_lower : k_Mo_lower.all (chkE 7 (mtC 164)) = true := by decide +kernel
theorem so_Mo_lower : SemOK toGI S_Mo_lower 18 := List.forall_mem_cons.mpr ⟨⟨mt_148, 17, by omega, ok_Mo_cutNow⟩, List.forall_mem_cons.mpr ⟨⟨mt_162, 1, by omega, ok_Mo_divisor⟩, fun _ h => absurd h List.not_mem_nil⟩⟩
set_option maxRecDepth 100000 in
theorem ok_Mo_lower : ∀ as h z, sF_Mo_lower as h = some z → Okm toGI 164 18 as h z := by
  intro as h z hz
  unfold sF_Mo_lower at hz
  split at hz
  · next f0 =>
    split at hz
    · next hq9 =>
      have hq9 := Nat.eq_of_beq_eq_true hq9
      subst hq9
      exact okm_of (own := 7) (rk := 3) (by decide +kernel) (by decide +kernel) (by omega) rfl (Nat.le_of_ble_eq_true rfl) (exec_E OI_ok kc_Mo_lower so_Mo_lower (runF_E OI_ok kc_Mo_lower so_Mo_lower (fun _ h => absurd h List.not_mem_nil) 400) ((e_Mo_lower_0  h).symm.trans hz))
    · cases hz
  · cases hz
set_option maxRecDepth 100000 in
theorem kc_Mo_tells : k_Mo_tells.all (chkE 7 (mtC 165)) = true := by decide +kernel
theorem so_Mo_tells : SemOK toGI S_Mo_tells 4 := List.forall_mem_cons.mpr ⟨⟨mt_101, 1, by omega, ok_Mo_isA⟩, List.forall_mem_cons.mpr ⟨⟨mt_107, 3, by omega, ok_Mo_isThere⟩, fun _ h => absurd h List.not_mem_nil⟩⟩
set_option maxRecDepth 100000 in
theorem E_Mo_tells_54 {z : Option Value × Hp} {x1 : Int32} {x3 : Int32} {s0 : Int32} {h : Hp} {κ4 : (Int32 × Int32 × Int32 × Hp) → Res Hp} (hκ4 : ∀ (x1 : Int32) (x2 : Int32) (x3 : Int32) (h : Hp), κ4 (x1, x2, x3, h) = some z → Ends toGI 7 165 4 1 z 4 (spr (mtM 165) [0, 1, 2, 3] [.ref 178, .int x1, .int x2, .int x3]) [] h) (hz : Mo_tells_54 κ4 x1 x3 s0 h = some z) : Ends toGI 7 165 4 1 z 54 (spr (mtM 165) [0, 1, 3] [.ref 178, .int x1, .int x3]) [.int s0] h :=
  exec_E OI_ok kc_Mo_tells so_Mo_tells (runF_E OI_ok kc_Mo_tells so_Mo_tells (List.forall_mem_cons.mpr ⟨(by
    intro L st h vs hp hf
    dsimp only at hf
    split at hf
    · split at hf
      · next hq9 =>
        have hq9 := Nat.eq_of_beq_eq_true hq9
        subst hq9
        exact Ends.at hp (hκ4 _ _ _ _ hf)
      · cases hf
    · cases hf), fun _ h => absurd h List.not_mem_nil⟩) 400) ((e_Mo_tells_54 κ4 x1 x3 s0 h).symm.trans hz)
set_option maxRecDepth 100000 in
theorem E_Mo_tells_32 {z : Option Value × Hp} {x1 : Int32} {x3 : Int32} {s0 : Int32} {h : Hp} {κ4 : (Int32 × Int32 × Int32 × Hp) → Res Hp} (hκ4 : ∀ (x1 : Int32) (x2 : Int32) (x3 : Int32) (h : Hp), κ4 (x1, x2, x3, h) = some z → Ends toGI 7 165 4 1 z 4 (spr (mtM 165) [0, 1, 2, 3] [.ref 178, .int x1, .int x2, .int x3]) [] h) (hz : Mo_tells_32 κ4 x1 x3 s0 h = some z) : Ends toGI 7 165 4 1 z 32 (spr (mtM 165) [0, 1, 3] [.ref 178, .int x1, .int x3]) [.int s0] h :=
  exec_E OI_ok kc_Mo_tells so_Mo_tells (runF_E OI_ok kc_Mo_tells so_Mo_tells (List.forall_mem_cons.mpr ⟨(by
    intro L st h vs hp hf
    dsimp only at hf
    split at hf
    · split at hf
      · next hq9 =>
        have hq9 := Nat.eq_of_beq_eq_true hq9
        subst hq9
        exact Ends.at hp (E_Mo_tells_54 hκ4 hf)
      · cases hf
    · cases hf), List.forall_mem_cons.mpr ⟨(by
    intro L st h vs hp hf
    dsimp only at hf
    split at hf
    · split at hf
      · next hq9 =>
        have hq9 := Nat.eq_of_beq_eq_true hq9
        subst hq9
        exact Ends.at hp (hκ4 _ _ _ _ hf)
      · cases hf
    · cases hf), fun _ h => absurd h List.not_mem_nil⟩⟩) 400) ((e_Mo_tells_32 κ4 x1 x3 s0 h).symm.trans hz)
set_option maxRecDepth 100000 in
theorem E_Mo_tells_4 {z : Option Value × Hp} {x1 : Int32} {x2 : Int32} {x3 : Int32} {h : Hp} (hz : loopC (Mo_tells_4   ) FU (x1, x2, x3, h) = some z) : Ends toGI 7 165 4 1 z 4 (spr (mtM 165) [0, 1, 2, 3] [.ref 178, .int x1, .int x2, .int x3]) [] h := by
  refine loop_E (b := Mo_tells_4   ) (P := fun s => match s with | (x1, x2, x3, h) => Ends toGI 7 165 4 1 z 4 (spr (mtM 165) [0, 1, 2, 3] [.ref 178, .int x1, .int x2, .int x3]) [] h) (fun s κ4 hκ hz => ?_) FU (x1, x2, x3, h) hz
  obtain ⟨x1, x2, x3, h⟩ := s
  have hκ4 : ∀ (x1 : Int32) (x2 : Int32) (x3 : Int32) (h : Hp), κ4 (x1, x2, x3, h) = some z → Ends toGI 7 165 4 1 z 4 (spr (mtM 165) [0, 1, 2, 3] [.ref 178, .int x1, .int x2, .int x3]) [] h := fun x1 x2 x3 h q => hκ (x1, x2, x3, h) q
  exact exec_E OI_ok kc_Mo_tells so_Mo_tells (runF_E OI_ok kc_Mo_tells so_Mo_tells (List.forall_mem_cons.mpr ⟨(by
    intro L st h vs hp hf
    dsimp only at hf
    split at hf
    · split at hf
      · next hq9 =>
        have hq9 := Nat.eq_of_beq_eq_true hq9
        subst hq9
        exact Ends.at hp (E_Mo_tells_32 hκ4 hf)
      · cases hf
    · cases hf), List.forall_mem_cons.mpr ⟨(by
    intro L st h vs hp hf
    dsimp only at hf
    split at hf
    · split at hf
      · next hq9 =>
        have hq9 := Nat.eq_of_beq_eq_true hq9
        subst hq9
        exact Ends.at hp (hκ4 _ _ _ _ hf)
      · cases hf
    · cases hf), fun _ h => absurd h List.not_mem_nil⟩⟩) 400) ((e_Mo_tells_4  κ4 x1 x2 x3 h).symm.trans hz)
set_option maxRecDepth 100000 in
theorem ok_Mo_tells : ∀ as h z, sF_Mo_tells as h = some z → Okm toGI 165 4 as h z := by
  intro as h z hz
  unfold sF_Mo_tells at hz
  split at hz
  · next f0 x1 =>
    split at hz
    · next hq9 =>
      have hq9 := Nat.eq_of_beq_eq_true hq9
      subst hq9
      exact okm_of (own := 7) (rk := 1) (by decide +kernel) (by decide +kernel) (by omega) rfl (Nat.le_of_ble_eq_true rfl) (exec_E OI_ok kc_Mo_tells so_Mo_tells (runF_E OI_ok kc_Mo_tells so_Mo_tells (List.forall_mem_cons.mpr ⟨(by
          intro L st h vs hp hf
          dsimp only at hf
          split at hf
          · split at hf
            · next hq9 =>
              have hq9 := Nat.eq_of_beq_eq_true hq9
              subst hq9
              exact Ends.at hp (E_Mo_tells_4 hf)
            · cases hf
          · cases hf), fun _ h => absurd h List.not_mem_nil⟩) 400) ((e_Mo_tells_0 x1 h).symm.trans hz))
    · cases hz
  · cases hz
set_option maxRecDepth 100000 in
theorem kc_Mo_count : k_Mo_count.all (chkE 7 (mtC 166)) = true := by decide +kernel
theorem so_Mo_count : SemOK toGI S_Mo_count 5 := List.forall_mem_cons.mpr ⟨⟨mt_71, 1, by omega, ok_Mo_in⟩, List.forall_mem_cons.mpr ⟨⟨mt_165, 4, by omega, ok_Mo_tells⟩, fun _ h => absurd h List.not_mem_nil⟩⟩
set_option maxRecDepth 100000 in
theorem ok_Mo_count : ∀ as h z, sF_Mo_count as h = some z → Okm toGI 166 5 as h z := by
  intro as h z hz
  unfold sF_Mo_count at hz
  split at hz
  · next f0 x1 =>
    split at hz
    · next hq9 =>
      have hq9 := Nat.eq_of_beq_eq_true hq9
      subst hq9
      exact okm_of (own := 7) (rk := 1) (by decide +kernel) (by decide +kernel) (by omega) rfl (Nat.le_of_ble_eq_true rfl) (exec_E OI_ok kc_Mo_count so_Mo_count (runF_E OI_ok kc_Mo_count so_Mo_count (fun _ h => absurd h List.not_mem_nil) 400) ((e_Mo_count_0 x1 h).symm.trans hz))
    · cases hz
  · cases hz
set_option maxRecDepth 100000 in
theorem kc_Mo_finding : k_Mo_finding.all (chkE 7 (mtC 167)) = true := by decide +kernel
theorem so_Mo_finding : SemOK toGI S_Mo_finding 1 := fun _ h => absurd h List.not_mem_nil
set_option maxRecDepth 100000 in
theorem ok_Mo_finding : ∀ as h z, sF_Mo_finding as h = some z → Okm toGI 167 1 as h z := by
  intro as h z hz
  unfold sF_Mo_finding at hz
  split at hz
  · next f0 =>
    split at hz
    · next hq9 =>
      have hq9 := Nat.eq_of_beq_eq_true hq9
      subst hq9
      exact okm_of (own := 7) (rk := 1) (by decide +kernel) (by decide +kernel) (by omega) rfl (Nat.le_of_ble_eq_true rfl) (exec_E OI_ok kc_Mo_finding so_Mo_finding (runF_E OI_ok kc_Mo_finding so_Mo_finding (fun _ h => absurd h List.not_mem_nil) 400) ((e_Mo_finding_0  h).symm.trans hz))
    · cases hz
  · cases hz
set_option maxRecDepth 100000 in
theorem kc_Mo_findings : k_Mo_findings.all (chkE 7 (mtC 168)) = true := by decide +kernel
theorem so_Mo_findings : SemOK toGI S_Mo_findings 2 := List.forall_mem_cons.mpr ⟨⟨mt_71, 1, by omega, ok_Mo_in⟩, fun _ h => absurd h List.not_mem_nil⟩
set_option maxRecDepth 100000 in
theorem ok_Mo_findings : ∀ as h z, sF_Mo_findings as h = some z → Okm toGI 168 2 as h z := by
  intro as h z hz
  unfold sF_Mo_findings at hz
  split at hz
  · next f0 x1 =>
    split at hz
    · next hq9 =>
      have hq9 := Nat.eq_of_beq_eq_true hq9
      subst hq9
      exact okm_of (own := 7) (rk := 1) (by decide +kernel) (by decide +kernel) (by omega) rfl (Nat.le_of_ble_eq_true rfl) (exec_E OI_ok kc_Mo_findings so_Mo_findings (runF_E OI_ok kc_Mo_findings so_Mo_findings (fun _ h => absurd h List.not_mem_nil) 400) ((e_Mo_findings_0 x1 h).symm.trans hz))
    · cases hz
  · cases hz
set_option maxRecDepth 100000 in
theorem kc_Mo_mix : k_Mo_mix.all (chkE 7 (mtC 169)) = true := by decide +kernel
theorem so_Mo_mix : SemOK toGI S_Mo_mix 1 := fun _ h => absurd h List.not_mem_nil
set_option maxRecDepth 100000 in
theorem ok_Mo_mix : ∀ as h z, sF_Mo_mix as h = some z → Okm toGI 169 1 as h z := by
  intro as h z hz
  unfold sF_Mo_mix at hz
  split at hz
  · next f0 x1 =>
    split at hz
    · next hq9 =>
      have hq9 := Nat.eq_of_beq_eq_true hq9
      subst hq9
      exact okm_of (own := 7) (rk := 0) (by decide +kernel) (by decide +kernel) (by omega) rfl (Nat.le_of_ble_eq_true rfl) (exec_E OI_ok kc_Mo_mix so_Mo_mix (runF_E OI_ok kc_Mo_mix so_Mo_mix (fun _ h => absurd h List.not_mem_nil) 400) ((e_Mo_mix_0 x1 h).symm.trans hz))
    · cases hz
  · cases hz
