set_option maxRecDepth 100000 in
theorem kc_Mo_mixLand : k_Mo_mixLand.all (chkE 7 (mtC 170)) = true := by decide +kernel
theorem so_Mo_mixLand : SemOK toGI S_Mo_mixLand 5 := List.forall_mem_cons.mpr ⟨⟨mt_169, 1, by omega, ok_Mo_mix⟩, List.forall_mem_cons.mpr ⟨⟨mt_105, 1, by omega, ok_Mo_letterOf⟩, List.forall_mem_cons.mpr ⟨⟨mt_108, 4, by omega, ok_Mo_handOf⟩, fun _ h => absurd h List.not_mem_nil⟩⟩⟩
set_option maxRecDepth 100000 in
theorem E_Mo_mixLand_135 {z : Option Value × Hp} {x1 : Int32} {h : Hp} (hz : loopC (Mo_mixLand_135   ) FU (x1, h) = some z) : Ends toGI 7 170 5 0 z 135 (spr (mtM 170) [0, 1] [.ref 178, .int x1]) [] h := by
  refine loop_E (b := Mo_mixLand_135   ) (P := fun s => match s with | (x1, h) => Ends toGI 7 170 5 0 z 135 (spr (mtM 170) [0, 1] [.ref 178, .int x1]) [] h) (fun s κ135 hκ hz => ?_) FU (x1, h) hz
  obtain ⟨x1, h⟩ := s
  have hκ135 : ∀ (x1 : Int32) (h : Hp), κ135 (x1, h) = some z → Ends toGI 7 170 5 0 z 135 (spr (mtM 170) [0, 1] [.ref 178, .int x1]) [] h := fun x1 h q => hκ (x1, h) q
  exact exec_E OI_ok kc_Mo_mixLand so_Mo_mixLand (runF_E OI_ok kc_Mo_mixLand so_Mo_mixLand (List.forall_mem_cons.mpr ⟨(by
    intro L st h vs hp hf
    dsimp only at hf
    split at hf
    · split at hf
      · next hq9 =>
        have hq9 := Nat.eq_of_beq_eq_true hq9
        subst hq9
        exact Ends.at hp (hκ135 _ _ hf)
      · cases hf
    · cases hf), fun _ h => absurd h List.not_mem_nil⟩) 400) ((e_Mo_mixLand_135  κ135 x1 h).symm.trans hz)
set_option maxRecDepth 100000 in
theorem E_Mo_mixLand_99 {z : Option Value × Hp} {κ69 : (Int32 × Hp) → Res Hp} (hκ69 : ∀ (x1 : Int32) (h : Hp), κ69 (x1, h) = some z → Ends toGI 7 170 5 0 z 69 (spr (mtM 170) [0, 1] [.ref 178, .int x1]) [] h) {x1 : Int32} {x2 : Int32} {h : Hp} (hz : loopC (Mo_mixLand_99 κ69  ) FU (x1, x2, h) = some z) : Ends toGI 7 170 5 0 z 99 (spr (mtM 170) [0, 1, 2] [.ref 178, .int x1, .int x2]) [] h := by
  refine loop_E (b := Mo_mixLand_99 κ69  ) (P := fun s => match s with | (x1, x2, h) => Ends toGI 7 170 5 0 z 99 (spr (mtM 170) [0, 1, 2] [.ref 178, .int x1, .int x2]) [] h) (fun s κ99 hκ hz => ?_) FU (x1, x2, h) hz
  obtain ⟨x1, x2, h⟩ := s
  have hκ99 : ∀ (x1 : Int32) (x2 : Int32) (h : Hp), κ99 (x1, x2, h) = some z → Ends toGI 7 170 5 0 z 99 (spr (mtM 170) [0, 1, 2] [.ref 178, .int x1, .int x2]) [] h := fun x1 x2 h q => hκ (x1, x2, h) q
  exact exec_E OI_ok kc_Mo_mixLand so_Mo_mixLand (runF_E OI_ok kc_Mo_mixLand so_Mo_mixLand (List.forall_mem_cons.mpr ⟨(by
    intro L st h vs hp hf
    dsimp only at hf
    split at hf
    · split at hf
      · next hq9 =>
        have hq9 := Nat.eq_of_beq_eq_true hq9
        subst hq9
        exact Ends.at hp (hκ69 _ _ hf)
      · cases hf
    · cases hf), List.forall_mem_cons.mpr ⟨(by
    intro L st h vs hp hf
    dsimp only at hf
    split at hf
    · split at hf
      · next hq9 =>
        have hq9 := Nat.eq_of_beq_eq_true hq9
        subst hq9
        exact Ends.at hp (hκ99 _ _ _ hf)
      · cases hf
    · cases hf), fun _ h => absurd h List.not_mem_nil⟩⟩) 400) ((e_Mo_mixLand_99 κ69 κ99 x1 x2 h).symm.trans hz)
set_option maxRecDepth 100000 in
theorem E_Mo_mixLand_69 {z : Option Value × Hp} {x1 : Int32} {h : Hp} (hz : loopC (Mo_mixLand_69   ) FU (x1, h) = some z) : Ends toGI 7 170 5 0 z 69 (spr (mtM 170) [0, 1] [.ref 178, .int x1]) [] h := by
  refine loop_E (b := Mo_mixLand_69   ) (P := fun s => match s with | (x1, h) => Ends toGI 7 170 5 0 z 69 (spr (mtM 170) [0, 1] [.ref 178, .int x1]) [] h) (fun s κ69 hκ hz => ?_) FU (x1, h) hz
  obtain ⟨x1, h⟩ := s
  have hκ69 : ∀ (x1 : Int32) (h : Hp), κ69 (x1, h) = some z → Ends toGI 7 170 5 0 z 69 (spr (mtM 170) [0, 1] [.ref 178, .int x1]) [] h := fun x1 h q => hκ (x1, h) q
  exact exec_E OI_ok kc_Mo_mixLand so_Mo_mixLand (runF_E OI_ok kc_Mo_mixLand so_Mo_mixLand (List.forall_mem_cons.mpr ⟨(by
    intro L st h vs hp hf
    dsimp only at hf
    split at hf
    · split at hf
      · next hq9 =>
        have hq9 := Nat.eq_of_beq_eq_true hq9
        subst hq9
        exact Ends.at hp (E_Mo_mixLand_135 hf)
      · cases hf
    · cases hf), List.forall_mem_cons.mpr ⟨(by
    intro L st h vs hp hf
    dsimp only at hf
    split at hf
    · split at hf
      · next hq9 =>
        have hq9 := Nat.eq_of_beq_eq_true hq9
        subst hq9
        exact Ends.at hp (E_Mo_mixLand_99 hκ69 hf)
      · cases hf
    · cases hf), fun _ h => absurd h List.not_mem_nil⟩⟩) 400) ((e_Mo_mixLand_69  κ69 x1 h).symm.trans hz)
set_option maxRecDepth 100000 in
theorem E_Mo_mixLand_41 {z : Option Value × Hp} {x1 : Int32} {h : Hp} (hz : loopC (Mo_mixLand_41   ) FU (x1, h) = some z) : Ends toGI 7 170 5 0 z 41 (spr (mtM 170) [0, 1] [.ref 178, .int x1]) [] h := by
  refine loop_E (b := Mo_mixLand_41   ) (P := fun s => match s with | (x1, h) => Ends toGI 7 170 5 0 z 41 (spr (mtM 170) [0, 1] [.ref 178, .int x1]) [] h) (fun s κ41 hκ hz => ?_) FU (x1, h) hz
  obtain ⟨x1, h⟩ := s
  have hκ41 : ∀ (x1 : Int32) (h : Hp), κ41 (x1, h) = some z → Ends toGI 7 170 5 0 z 41 (spr (mtM 170) [0, 1] [.ref 178, .int x1]) [] h := fun x1 h q => hκ (x1, h) q
  exact exec_E OI_ok kc_Mo_mixLand so_Mo_mixLand (runF_E OI_ok kc_Mo_mixLand so_Mo_mixLand (List.forall_mem_cons.mpr ⟨(by
    intro L st h vs hp hf
    dsimp only at hf
    split at hf
    · split at hf
      · next hq9 =>
        have hq9 := Nat.eq_of_beq_eq_true hq9
        subst hq9
        exact Ends.at hp (E_Mo_mixLand_69 hf)
      · cases hf
    · cases hf), List.forall_mem_cons.mpr ⟨(by
    intro L st h vs hp hf
    dsimp only at hf
    split at hf
    · split at hf
      · next hq9 =>
        have hq9 := Nat.eq_of_beq_eq_true hq9
        subst hq9
        exact Ends.at hp (hκ41 _ _ hf)
      · cases hf
    · cases hf), fun _ h => absurd h List.not_mem_nil⟩⟩) 400) ((e_Mo_mixLand_41  κ41 x1 h).symm.trans hz)
set_option maxRecDepth 100000 in
theorem E_Mo_mixLand_12 {z : Option Value × Hp} {κ2 : (Int32 × Hp) → Res Hp} (hκ2 : ∀ (x1 : Int32) (h : Hp), κ2 (x1, h) = some z → Ends toGI 7 170 5 0 z 2 (spr (mtM 170) [0, 1] [.ref 178, .int x1]) [] h) {x1 : Int32} {x2 : Int32} {h : Hp} (hz : loopC (Mo_mixLand_12 κ2  ) FU (x1, x2, h) = some z) : Ends toGI 7 170 5 0 z 12 (spr (mtM 170) [0, 1, 2] [.ref 178, .int x1, .int x2]) [] h := by
  refine loop_E (b := Mo_mixLand_12 κ2  ) (P := fun s => match s with | (x1, x2, h) => Ends toGI 7 170 5 0 z 12 (spr (mtM 170) [0, 1, 2] [.ref 178, .int x1, .int x2]) [] h) (fun s κ12 hκ hz => ?_) FU (x1, x2, h) hz
  obtain ⟨x1, x2, h⟩ := s
  have hκ12 : ∀ (x1 : Int32) (x2 : Int32) (h : Hp), κ12 (x1, x2, h) = some z → Ends toGI 7 170 5 0 z 12 (spr (mtM 170) [0, 1, 2] [.ref 178, .int x1, .int x2]) [] h := fun x1 x2 h q => hκ (x1, x2, h) q
  exact exec_E OI_ok kc_Mo_mixLand so_Mo_mixLand (runF_E OI_ok kc_Mo_mixLand so_Mo_mixLand (List.forall_mem_cons.mpr ⟨(by
    intro L st h vs hp hf
    dsimp only at hf
    split at hf
    · split at hf
      · next hq9 =>
        have hq9 := Nat.eq_of_beq_eq_true hq9
        subst hq9
        exact Ends.at hp (hκ2 _ _ hf)
      · cases hf
    · cases hf), List.forall_mem_cons.mpr ⟨(by
    intro L st h vs hp hf
    dsimp only at hf
    split at hf
    · split at hf
      · next hq9 =>
        have hq9 := Nat.eq_of_beq_eq_true hq9
        subst hq9
        exact Ends.at hp (hκ12 _ _ _ hf)
      · cases hf
    · cases hf), fun _ h => absurd h List.not_mem_nil⟩⟩) 400) ((e_Mo_mixLand_12 κ2 κ12 x1 x2 h).symm.trans hz)
set_option maxRecDepth 100000 in
theorem E_Mo_mixLand_2 {z : Option Value × Hp} {x1 : Int32} {h : Hp} (hz : loopC (Mo_mixLand_2   ) FU (x1, h) = some z) : Ends toGI 7 170 5 0 z 2 (spr (mtM 170) [0, 1] [.ref 178, .int x1]) [] h := by
  refine loop_E (b := Mo_mixLand_2   ) (P := fun s => match s with | (x1, h) => Ends toGI 7 170 5 0 z 2 (spr (mtM 170) [0, 1] [.ref 178, .int x1]) [] h) (fun s κ2 hκ hz => ?_) FU (x1, h) hz
  obtain ⟨x1, h⟩ := s
  have hκ2 : ∀ (x1 : Int32) (h : Hp), κ2 (x1, h) = some z → Ends toGI 7 170 5 0 z 2 (spr (mtM 170) [0, 1] [.ref 178, .int x1]) [] h := fun x1 h q => hκ (x1, h) q
  exact exec_E OI_ok kc_Mo_mixLand so_Mo_mixLand (runF_E OI_ok kc_Mo_mixLand so_Mo_mixLand (List.forall_mem_cons.mpr ⟨(by
    intro L st h vs hp hf
    dsimp only at hf
    split at hf
    · split at hf
      · next hq9 =>
        have hq9 := Nat.eq_of_beq_eq_true hq9
        subst hq9
        exact Ends.at hp (E_Mo_mixLand_41 hf)
      · cases hf
    · cases hf), List.forall_mem_cons.mpr ⟨(by
    intro L st h vs hp hf
    dsimp only at hf
    split at hf
    · split at hf
      · next hq9 =>
        have hq9 := Nat.eq_of_beq_eq_true hq9
        subst hq9
        exact Ends.at hp (E_Mo_mixLand_12 hκ2 hf)
      · cases hf
    · cases hf), fun _ h => absurd h List.not_mem_nil⟩⟩) 400) ((e_Mo_mixLand_2  κ2 x1 h).symm.trans hz)
set_option maxRecDepth 100000 in
theorem ok_Mo_mixLand : ∀ as h z, sF_Mo_mixLand as h = some z → Okm toGI 170 5 as h z := by
  intro as h z hz
  unfold sF_Mo_mixLand at hz
  split at hz
  · next f0 =>
    split at hz
    · next hq9 =>
      have hq9 := Nat.eq_of_beq_eq_true hq9
      subst hq9
      exact okm_of (own := 7) (rk := 0) (by decide +kernel) (by decide +kernel) (by omega) rfl (Nat.le_of_ble_eq_true rfl) (exec_E OI_ok kc_Mo_mixLand so_Mo_mixLand (runF_E OI_ok kc_Mo_mixLand so_Mo_mixLand (List.forall_mem_cons.mpr ⟨(by
          intro L st h vs hp hf
          dsimp only at hf
          split at hf
          · split at hf
            · next hq9 =>
              have hq9 := Nat.eq_of_beq_eq_true hq9
              subst hq9
              exact Ends.at hp (E_Mo_mixLand_2 hf)
            · cases hf
          · cases hf), fun _ h => absurd h List.not_mem_nil⟩) 400) ((e_Mo_mixLand_0  h).symm.trans hz))
    · cases hz
  · cases hz
set_option maxRecDepth 100000 in
theorem kc_Mo_digest : k_Mo_digest.all (chkE 7 (mtC 171)) = true := by decide +kernel
theorem so_Mo_digest : SemOK toGI S_Mo_digest 6 := List.forall_mem_cons.mpr ⟨⟨mt_170, 5, by omega, ok_Mo_mixLand⟩, List.forall_mem_cons.mpr ⟨⟨mt_169, 1, by omega, ok_Mo_mix⟩, List.forall_mem_cons.mpr ⟨⟨mt_80, 1, by omega, ok_Mo_rowAt⟩, List.forall_mem_cons.mpr ⟨⟨mt_165, 4, by omega, ok_Mo_tells⟩, fun _ h => absurd h List.not_mem_nil⟩⟩⟩⟩
set_option maxRecDepth 100000 in
theorem E_Mo_digest_131 {z : Option Value × Hp} {κ101 : (Int32 × Hp) → Res Hp} (hκ101 : ∀ (x1 : Int32) (h : Hp), κ101 (x1, h) = some z → Ends toGI 7 171 6 3 z 101 (spr (mtM 171) [0, 1] [.ref 178, .int x1]) [] h) {x1 : Int32} {x2 : Int32} {h : Hp} (hz : loopC (Mo_digest_131 κ101  ) FU (x1, x2, h) = some z) : Ends toGI 7 171 6 3 z 131 (spr (mtM 171) [0, 1, 2] [.ref 178, .int x1, .int x2]) [] h := by
  refine loop_E (b := Mo_digest_131 κ101  ) (P := fun s => match s with | (x1, x2, h) => Ends toGI 7 171 6 3 z 131 (spr (mtM 171) [0, 1, 2] [.ref 178, .int x1, .int x2]) [] h) (fun s κ131 hκ hz => ?_) FU (x1, x2, h) hz
  obtain ⟨x1, x2, h⟩ := s
  have hκ131 : ∀ (x1 : Int32) (x2 : Int32) (h : Hp), κ131 (x1, x2, h) = some z → Ends toGI 7 171 6 3 z 131 (spr (mtM 171) [0, 1, 2] [.ref 178, .int x1, .int x2]) [] h := fun x1 x2 h q => hκ (x1, x2, h) q
  exact exec_E OI_ok kc_Mo_digest so_Mo_digest (runF_E OI_ok kc_Mo_digest so_Mo_digest (List.forall_mem_cons.mpr ⟨(by
    intro L st h vs hp hf
    dsimp only at hf
    split at hf
    · split at hf
      · next hq9 =>
        have hq9 := Nat.eq_of_beq_eq_true hq9
        subst hq9
        exact Ends.at hp (hκ101 _ _ hf)
      · cases hf
    · cases hf), List.forall_mem_cons.mpr ⟨(by
    intro L st h vs hp hf
    dsimp only at hf
    split at hf
    · split at hf
      · next hq9 =>
        have hq9 := Nat.eq_of_beq_eq_true hq9
        subst hq9
        exact Ends.at hp (hκ131 _ _ _ hf)
      · cases hf
    · cases hf), fun _ h => absurd h List.not_mem_nil⟩⟩) 400) ((e_Mo_digest_131 κ101 κ131 x1 x2 h).symm.trans hz)
set_option maxRecDepth 100000 in
theorem E_Mo_digest_101 {z : Option Value × Hp} {x1 : Int32} {h : Hp} (hz : loopC (Mo_digest_101   ) FU (x1, h) = some z) : Ends toGI 7 171 6 3 z 101 (spr (mtM 171) [0, 1] [.ref 178, .int x1]) [] h := by
  refine loop_E (b := Mo_digest_101   ) (P := fun s => match s with | (x1, h) => Ends toGI 7 171 6 3 z 101 (spr (mtM 171) [0, 1] [.ref 178, .int x1]) [] h) (fun s κ101 hκ hz => ?_) FU (x1, h) hz
  obtain ⟨x1, h⟩ := s
  have hκ101 : ∀ (x1 : Int32) (h : Hp), κ101 (x1, h) = some z → Ends toGI 7 171 6 3 z 101 (spr (mtM 171) [0, 1] [.ref 178, .int x1]) [] h := fun x1 h q => hκ (x1, h) q
  exact exec_E OI_ok kc_Mo_digest so_Mo_digest (runF_E OI_ok kc_Mo_digest so_Mo_digest (List.forall_mem_cons.mpr ⟨(by
    intro L st h vs hp hf
    dsimp only at hf
    split at hf
    · split at hf
      · next hq9 =>
        have hq9 := Nat.eq_of_beq_eq_true hq9
        subst hq9
        exact Ends.at hp (E_Mo_digest_131 hκ101 hf)
      · cases hf
    · cases hf), fun _ h => absurd h List.not_mem_nil⟩) 400) ((e_Mo_digest_101  κ101 x1 h).symm.trans hz)
set_option maxRecDepth 100000 in
theorem E_Mo_digest_67 {z : Option Value × Hp} {κ36 : (Int32 × Hp) → Res Hp} (hκ36 : ∀ (x1 : Int32) (h : Hp), κ36 (x1, h) = some z → Ends toGI 7 171 6 3 z 36 (spr (mtM 171) [0, 1] [.ref 178, .int x1]) [] h) {x1 : Int32} {x2 : Int32} {h : Hp} (hz : loopC (Mo_digest_67 κ36  ) FU (x1, x2, h) = some z) : Ends toGI 7 171 6 3 z 67 (spr (mtM 171) [0, 1, 2] [.ref 178, .int x1, .int x2]) [] h := by
  refine loop_E (b := Mo_digest_67 κ36  ) (P := fun s => match s with | (x1, x2, h) => Ends toGI 7 171 6 3 z 67 (spr (mtM 171) [0, 1, 2] [.ref 178, .int x1, .int x2]) [] h) (fun s κ67 hκ hz => ?_) FU (x1, x2, h) hz
  obtain ⟨x1, x2, h⟩ := s
  have hκ67 : ∀ (x1 : Int32) (x2 : Int32) (h : Hp), κ67 (x1, x2, h) = some z → Ends toGI 7 171 6 3 z 67 (spr (mtM 171) [0, 1, 2] [.ref 178, .int x1, .int x2]) [] h := fun x1 x2 h q => hκ (x1, x2, h) q
  exact exec_E OI_ok kc_Mo_digest so_Mo_digest (runF_E OI_ok kc_Mo_digest so_Mo_digest (List.forall_mem_cons.mpr ⟨(by
    intro L st h vs hp hf
    dsimp only at hf
    split at hf
    · split at hf
      · next hq9 =>
        have hq9 := Nat.eq_of_beq_eq_true hq9
        subst hq9
        exact Ends.at hp (hκ36 _ _ hf)
      · cases hf
    · cases hf), List.forall_mem_cons.mpr ⟨(by
    intro L st h vs hp hf
    dsimp only at hf
    split at hf
    · split at hf
      · next hq9 =>
        have hq9 := Nat.eq_of_beq_eq_true hq9
        subst hq9
        exact Ends.at hp (hκ67 _ _ _ hf)
      · cases hf
    · cases hf), fun _ h => absurd h List.not_mem_nil⟩⟩) 400) ((e_Mo_digest_67 κ36 κ67 x1 x2 h).symm.trans hz)
set_option maxRecDepth 100000 in
theorem E_Mo_digest_36 {z : Option Value × Hp} {x1 : Int32} {h : Hp} (hz : loopC (Mo_digest_36   ) FU (x1, h) = some z) : Ends toGI 7 171 6 3 z 36 (spr (mtM 171) [0, 1] [.ref 178, .int x1]) [] h := by
  refine loop_E (b := Mo_digest_36   ) (P := fun s => match s with | (x1, h) => Ends toGI 7 171 6 3 z 36 (spr (mtM 171) [0, 1] [.ref 178, .int x1]) [] h) (fun s κ36 hκ hz => ?_) FU (x1, h) hz
  obtain ⟨x1, h⟩ := s
  have hκ36 : ∀ (x1 : Int32) (h : Hp), κ36 (x1, h) = some z → Ends toGI 7 171 6 3 z 36 (spr (mtM 171) [0, 1] [.ref 178, .int x1]) [] h := fun x1 h q => hκ (x1, h) q
  exact exec_E OI_ok kc_Mo_digest so_Mo_digest (runF_E OI_ok kc_Mo_digest so_Mo_digest (List.forall_mem_cons.mpr ⟨(by
    intro L st h vs hp hf
    dsimp only at hf
    split at hf
    · split at hf
      · next hq9 =>
        have hq9 := Nat.eq_of_beq_eq_true hq9
        subst hq9
        exact Ends.at hp (E_Mo_digest_101 hf)
      · cases hf
    · cases hf), List.forall_mem_cons.mpr ⟨(by
    intro L st h vs hp hf
    dsimp only at hf
    split at hf
    · split at hf
      · next hq9 =>
        have hq9 := Nat.eq_of_beq_eq_true hq9
        subst hq9
        exact Ends.at hp (E_Mo_digest_67 hκ36 hf)
      · cases hf
    · cases hf), fun _ h => absurd h List.not_mem_nil⟩⟩) 400) ((e_Mo_digest_36  κ36 x1 h).symm.trans hz)
set_option maxRecDepth 100000 in
theorem E_Mo_digest_9 {z : Option Value × Hp} {x1 : Int32} {h : Hp} (hz : loopC (Mo_digest_9   ) FU (x1, h) = some z) : Ends toGI 7 171 6 3 z 9 (spr (mtM 171) [0, 1] [.ref 178, .int x1]) [] h := by
  refine loop_E (b := Mo_digest_9   ) (P := fun s => match s with | (x1, h) => Ends toGI 7 171 6 3 z 9 (spr (mtM 171) [0, 1] [.ref 178, .int x1]) [] h) (fun s κ9 hκ hz => ?_) FU (x1, h) hz
  obtain ⟨x1, h⟩ := s
  have hκ9 : ∀ (x1 : Int32) (h : Hp), κ9 (x1, h) = some z → Ends toGI 7 171 6 3 z 9 (spr (mtM 171) [0, 1] [.ref 178, .int x1]) [] h := fun x1 h q => hκ (x1, h) q
  exact exec_E OI_ok kc_Mo_digest so_Mo_digest (runF_E OI_ok kc_Mo_digest so_Mo_digest (List.forall_mem_cons.mpr ⟨(by
    intro L st h vs hp hf
    dsimp only at hf
    split at hf
    · split at hf
      · next hq9 =>
        have hq9 := Nat.eq_of_beq_eq_true hq9
        subst hq9
        exact Ends.at hp (E_Mo_digest_36 hf)
      · cases hf
    · cases hf), List.forall_mem_cons.mpr ⟨(by
    intro L st h vs hp hf
    dsimp only at hf
    split at hf
    · split at hf
      · next hq9 =>
        have hq9 := Nat.eq_of_beq_eq_true hq9
        subst hq9
        exact Ends.at hp (hκ9 _ _ hf)
      · cases hf
    · cases hf), fun _ h => absurd h List.not_mem_nil⟩⟩) 400) ((e_Mo_digest_9  κ9 x1 h).symm.trans hz)
set_option maxRecDepth 100000 in
theorem ok_Mo_digest : ∀ as h z, sF_Mo_digest as h = some z → Okm toGI 171 6 as h z := by
  intro as h z hz
  unfold sF_Mo_digest at hz
  split at hz
  · next f0 =>
    split at hz
    · next hq9 =>
      have hq9 := Nat.eq_of_beq_eq_true hq9
      subst hq9
      exact okm_of (own := 7) (rk := 3) (by decide +kernel) (by decide +kernel) (by omega) rfl (Nat.le_of_ble_eq_true rfl) (exec_E OI_ok kc_Mo_digest so_Mo_digest (runF_E OI_ok kc_Mo_digest so_Mo_digest (List.forall_mem_cons.mpr ⟨(by
          intro L st h vs hp hf
          dsimp only at hf
          split at hf
          · split at hf
            · next hq9 =>
              have hq9 := Nat.eq_of_beq_eq_true hq9
              subst hq9
              exact Ends.at hp (E_Mo_digest_9 hf)
            · cases hf
          · cases hf), fun _ h => absurd h List.not_mem_nil⟩) 400) ((e_Mo_digest_0  h).symm.trans hz))
    · cases hz
  · cases hz
