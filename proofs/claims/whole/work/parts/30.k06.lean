set_option maxRecDepth 100000 in
theorem kc_Mo_givenOn : k_Mo_givenOn.all (chkE 7 (mtC 110)) = true := by decide +kernel
theorem so_Mo_givenOn : SemOK toGI S_Mo_givenOn 2 := List.forall_mem_cons.mpr ⟨⟨mt_105, 1, by omega, ok_Mo_letterOf⟩, fun _ h => absurd h List.not_mem_nil⟩
set_option maxRecDepth 100000 in
theorem E_Mo_givenOn_15 {z : Option Value × Hp} {κ4 : (Int32 × Int32 × Int32 × Hp) → Res Hp} (hκ4 : ∀ (x1 : Int32) (x2 : Int32) (x3 : Int32) (h : Hp), κ4 (x1, x2, x3, h) = some z → Ends toGI 7 110 2 1 z 4 (spr (mtM 110) [0, 1, 2, 3] [.ref 178, .int x1, .int x2, .int x3]) [] h) {x1 : Int32} {x2 : Int32} {x3 : Int32} {x4 : Int32} {h : Hp} (hz : loopC (Mo_givenOn_15 κ4  ) FU (x1, x2, x3, x4, h) = some z) : Ends toGI 7 110 2 1 z 15 (spr (mtM 110) [0, 1, 2, 3, 4] [.ref 178, .int x1, .int x2, .int x3, .int x4]) [] h := by
  refine loop_E (b := Mo_givenOn_15 κ4  ) (P := fun s => match s with | (x1, x2, x3, x4, h) => Ends toGI 7 110 2 1 z 15 (spr (mtM 110) [0, 1, 2, 3, 4] [.ref 178, .int x1, .int x2, .int x3, .int x4]) [] h) (fun s κ15 hκ hz => ?_) FU (x1, x2, x3, x4, h) hz
  obtain ⟨x1, x2, x3, x4, h⟩ := s
  have hκ15 : ∀ (x1 : Int32) (x2 : Int32) (x3 : Int32) (x4 : Int32) (h : Hp), κ15 (x1, x2, x3, x4, h) = some z → Ends toGI 7 110 2 1 z 15 (spr (mtM 110) [0, 1, 2, 3, 4] [.ref 178, .int x1, .int x2, .int x3, .int x4]) [] h := fun x1 x2 x3 x4 h q => hκ (x1, x2, x3, x4, h) q
  exact exec_E OI_ok kc_Mo_givenOn so_Mo_givenOn (runF_E OI_ok kc_Mo_givenOn so_Mo_givenOn (List.forall_mem_cons.mpr ⟨(by
    intro L st h vs hp hf
    dsimp only at hf
    split at hf
    · split at hf
      · next hq9 =>
        have hq9 := Nat.eq_of_beq_eq_true hq9
        subst hq9
        exact Ends.at hp (hκ4 _ _ _ _ hf)
      · cases hf
    · cases hf), List.forall_mem_cons.mpr ⟨(by
    intro L st h vs hp hf
    dsimp only at hf
    split at hf
    · split at hf
      · next hq9 =>
        have hq9 := Nat.eq_of_beq_eq_true hq9
        subst hq9
        exact Ends.at hp (hκ15 _ _ _ _ _ hf)
      · cases hf
    · cases hf), fun _ h => absurd h List.not_mem_nil⟩⟩) 400) ((e_Mo_givenOn_15 κ4 κ15 x1 x2 x3 x4 h).symm.trans hz)
set_option maxRecDepth 100000 in
theorem E_Mo_givenOn_4 {z : Option Value × Hp} {x1 : Int32} {x2 : Int32} {x3 : Int32} {h : Hp} (hz : loopC (Mo_givenOn_4   ) FU (x1, x2, x3, h) = some z) : Ends toGI 7 110 2 1 z 4 (spr (mtM 110) [0, 1, 2, 3] [.ref 178, .int x1, .int x2, .int x3]) [] h := by
  refine loop_E (b := Mo_givenOn_4   ) (P := fun s => match s with | (x1, x2, x3, h) => Ends toGI 7 110 2 1 z 4 (spr (mtM 110) [0, 1, 2, 3] [.ref 178, .int x1, .int x2, .int x3]) [] h) (fun s κ4 hκ hz => ?_) FU (x1, x2, x3, h) hz
  obtain ⟨x1, x2, x3, h⟩ := s
  have hκ4 : ∀ (x1 : Int32) (x2 : Int32) (x3 : Int32) (h : Hp), κ4 (x1, x2, x3, h) = some z → Ends toGI 7 110 2 1 z 4 (spr (mtM 110) [0, 1, 2, 3] [.ref 178, .int x1, .int x2, .int x3]) [] h := fun x1 x2 x3 h q => hκ (x1, x2, x3, h) q
  exact exec_E OI_ok kc_Mo_givenOn so_Mo_givenOn (runF_E OI_ok kc_Mo_givenOn so_Mo_givenOn (List.forall_mem_cons.mpr ⟨(by
    intro L st h vs hp hf
    dsimp only at hf
    split at hf
    · split at hf
      · next hq9 =>
        have hq9 := Nat.eq_of_beq_eq_true hq9
        subst hq9
        exact Ends.at hp (E_Mo_givenOn_15 hκ4 hf)
      · cases hf
    · cases hf), fun _ h => absurd h List.not_mem_nil⟩) 400) ((e_Mo_givenOn_4  κ4 x1 x2 x3 h).symm.trans hz)
set_option maxRecDepth 100000 in
theorem ok_Mo_givenOn : ∀ as h z, sF_Mo_givenOn as h = some z → Okm toGI 110 2 as h z := by
  intro as h z hz
  unfold sF_Mo_givenOn at hz
  split at hz
  · next f0 x1 =>
    split at hz
    · next hq9 =>
      have hq9 := Nat.eq_of_beq_eq_true hq9
      subst hq9
      exact okm_of (own := 7) (rk := 1) (by decide +kernel) (by decide +kernel) (by omega) rfl (Nat.le_of_ble_eq_true rfl) (exec_E OI_ok kc_Mo_givenOn so_Mo_givenOn (runF_E OI_ok kc_Mo_givenOn so_Mo_givenOn (List.forall_mem_cons.mpr ⟨(by
          intro L st h vs hp hf
          dsimp only at hf
          split at hf
          · split at hf
            · next hq9 =>
              have hq9 := Nat.eq_of_beq_eq_true hq9
              subst hq9
              exact Ends.at hp (E_Mo_givenOn_4 hf)
            · cases hf
          · cases hf), fun _ h => absurd h List.not_mem_nil⟩) 400) ((e_Mo_givenOn_0 x1 h).symm.trans hz))
    · cases hz
  · cases hz
set_option maxRecDepth 100000 in
theorem kc_Mo_mark : k_Mo_mark.all (chkE 7 (mtC 111)) = true := by decide +kernel
theorem so_Mo_mark : SemOK toGI S_Mo_mark 3 := List.forall_mem_cons.mpr ⟨⟨mt_97, 2, by omega, ok_Mo_isOne⟩, List.forall_mem_cons.mpr ⟨⟨mt_71, 1, by omega, ok_Mo_in⟩, List.forall_mem_cons.mpr ⟨⟨mt_101, 1, by omega, ok_Mo_isA⟩, List.forall_mem_cons.mpr ⟨⟨mt_75, 1, by omega, ok_Mo_sizeOf⟩, List.forall_mem_cons.mpr ⟨⟨mt_102, 2, by omega, ok_Mo_barsOf⟩, List.forall_mem_cons.mpr ⟨⟨mt_110, 2, by omega, ok_Mo_givenOn⟩, List.forall_mem_cons.mpr ⟨⟨mt_104, 1, by omega, ok_Mo_metBy⟩, List.forall_mem_cons.mpr ⟨⟨mt_72, 1, by omega, ok_Mo_meetWith⟩, fun _ h => absurd h List.not_mem_nil⟩⟩⟩⟩⟩⟩⟩⟩
set_option maxRecDepth 100000 in
theorem ok_Mo_mark : ∀ as h z, sF_Mo_mark as h = some z → Okm toGI 111 3 as h z := by
  intro as h z hz
  unfold sF_Mo_mark at hz
  split at hz
  · next f0 x1 x2 =>
    split at hz
    · next hq9 =>
      have hq9 := Nat.eq_of_beq_eq_true hq9
      subst hq9
      exact okm_of (own := 7) (rk := 1) (by decide +kernel) (by decide +kernel) (by omega) rfl (Nat.le_of_ble_eq_true rfl) (exec_E OI_ok kc_Mo_mark so_Mo_mark (runF_E OI_ok kc_Mo_mark so_Mo_mark (fun _ h => absurd h List.not_mem_nil) 400) ((e_Mo_mark_0 x1 x2 h).symm.trans hz))
    · cases hz
  · cases hz
set_option maxRecDepth 100000 in
theorem kc_Mo_teach : k_Mo_teach.all (chkE 7 (mtC 112)) = true := by decide +kernel
theorem so_Mo_teach : SemOK toGI S_Mo_teach 3 := List.forall_mem_cons.mpr ⟨⟨mt_97, 2, by omega, ok_Mo_isOne⟩, List.forall_mem_cons.mpr ⟨⟨mt_99, 2, by omega, ok_Mo_isTongue⟩, List.forall_mem_cons.mpr ⟨⟨mt_71, 1, by omega, ok_Mo_in⟩, fun _ h => absurd h List.not_mem_nil⟩⟩⟩
set_option maxRecDepth 100000 in
theorem ok_Mo_teach : ∀ as h z, sF_Mo_teach as h = some z → Okm toGI 112 3 as h z := by
  intro as h z hz
  unfold sF_Mo_teach at hz
  split at hz
  · next f0 x1 x2 x3 =>
    split at hz
    · next hq9 =>
      have hq9 := Nat.eq_of_beq_eq_true hq9
      subst hq9
      exact okm_of (own := 7) (rk := 1) (by decide +kernel) (by decide +kernel) (by omega) rfl (Nat.le_of_ble_eq_true rfl) (exec_E OI_ok kc_Mo_teach so_Mo_teach (runF_E OI_ok kc_Mo_teach so_Mo_teach (fun _ h => absurd h List.not_mem_nil) 400) ((e_Mo_teach_0 x1 x2 x3 h).symm.trans hz))
    · cases hz
  · cases hz
set_option maxRecDepth 100000 in
theorem kc_Mo_meet : k_Mo_meet.all (chkE 7 (mtC 113)) = true := by decide +kernel
theorem so_Mo_meet : SemOK toGI S_Mo_meet 4 := List.forall_mem_cons.mpr ⟨⟨mt_98, 3, by omega, ok_Mo_areTwo⟩, List.forall_mem_cons.mpr ⟨⟨mt_71, 1, by omega, ok_Mo_in⟩, fun _ h => absurd h List.not_mem_nil⟩⟩
set_option maxRecDepth 100000 in
theorem ok_Mo_meet : ∀ as h z, sF_Mo_meet as h = some z → Okm toGI 113 4 as h z := by
  intro as h z hz
  unfold sF_Mo_meet at hz
  split at hz
  · next f0 x1 x2 x3 =>
    split at hz
    · next hq9 =>
      have hq9 := Nat.eq_of_beq_eq_true hq9
      subst hq9
      exact okm_of (own := 7) (rk := 1) (by decide +kernel) (by decide +kernel) (by omega) rfl (Nat.le_of_ble_eq_true rfl) (exec_E OI_ok kc_Mo_meet so_Mo_meet (runF_E OI_ok kc_Mo_meet so_Mo_meet (fun _ h => absurd h List.not_mem_nil) 400) ((e_Mo_meet_0 x1 x2 x3 h).symm.trans hz))
    · cases hz
  · cases hz
set_option maxRecDepth 100000 in
theorem kc_Mo_off : k_Mo_off.all (chkE 7 (mtC 114)) = true := by decide +kernel
theorem so_Mo_off : SemOK toGI S_Mo_off 2 := List.forall_mem_cons.mpr ⟨⟨mt_71, 1, by omega, ok_Mo_in⟩, fun _ h => absurd h List.not_mem_nil⟩
set_option maxRecDepth 100000 in
theorem ok_Mo_off : ∀ as h z, sF_Mo_off as h = some z → Okm toGI 114 2 as h z := by
  intro as h z hz
  unfold sF_Mo_off at hz
  split at hz
  · next f0 x1 =>
    split at hz
    · next hq9 =>
      have hq9 := Nat.eq_of_beq_eq_true hq9
      subst hq9
      exact okm_of (own := 7) (rk := 1) (by decide +kernel) (by decide +kernel) (by omega) rfl (Nat.le_of_ble_eq_true rfl) (exec_E OI_ok kc_Mo_off so_Mo_off (runF_E OI_ok kc_Mo_off so_Mo_off (fun _ h => absurd h List.not_mem_nil) 400) ((e_Mo_off_0 x1 h).symm.trans hz))
    · cases hz
  · cases hz
set_option maxRecDepth 100000 in
theorem kc_Mo_may : k_Mo_may.all (chkE 7 (mtC 115)) = true := by decide +kernel
theorem so_Mo_may : SemOK toGI S_Mo_may 4 := List.forall_mem_cons.mpr ⟨⟨mt_97, 2, by omega, ok_Mo_isOne⟩, List.forall_mem_cons.mpr ⟨⟨mt_100, 2, by omega, ok_Mo_isSet⟩, List.forall_mem_cons.mpr ⟨⟨mt_103, 3, by omega, ok_Mo_mayCarry⟩, fun _ h => absurd h List.not_mem_nil⟩⟩⟩
set_option maxRecDepth 100000 in
theorem ok_Mo_may : ∀ as h z, sF_Mo_may as h = some z → Okm toGI 115 4 as h z := by
  intro as h z hz
  unfold sF_Mo_may at hz
  split at hz
  · next f0 x1 x2 =>
    split at hz
    · next hq9 =>
      have hq9 := Nat.eq_of_beq_eq_true hq9
      subst hq9
      exact okm_of (own := 7) (rk := 1) (by decide +kernel) (by decide +kernel) (by omega) rfl (Nat.le_of_ble_eq_true rfl) (exec_E OI_ok kc_Mo_may so_Mo_may (runF_E OI_ok kc_Mo_may so_Mo_may (fun _ h => absurd h List.not_mem_nil) 400) ((e_Mo_may_0 x1 x2 h).symm.trans hz))
    · cases hz
  · cases hz
set_option maxRecDepth 100000 in
theorem kc_Mo_meets : k_Mo_meets.all (chkE 7 (mtC 116)) = true := by decide +kernel
theorem so_Mo_meets : SemOK toGI S_Mo_meets 3 := List.forall_mem_cons.mpr ⟨⟨mt_97, 2, by omega, ok_Mo_isOne⟩, List.forall_mem_cons.mpr ⟨⟨mt_71, 1, by omega, ok_Mo_in⟩, List.forall_mem_cons.mpr ⟨⟨mt_104, 1, by omega, ok_Mo_metBy⟩, fun _ h => absurd h List.not_mem_nil⟩⟩⟩
set_option maxRecDepth 100000 in
theorem ok_Mo_meets : ∀ as h z, sF_Mo_meets as h = some z → Okm toGI 116 3 as h z := by
  intro as h z hz
  unfold sF_Mo_meets at hz
  split at hz
  · next f0 x1 x2 =>
    split at hz
    · next hq9 =>
      have hq9 := Nat.eq_of_beq_eq_true hq9
      subst hq9
      exact okm_of (own := 7) (rk := 1) (by decide +kernel) (by decide +kernel) (by omega) rfl (Nat.le_of_ble_eq_true rfl) (exec_E OI_ok kc_Mo_meets so_Mo_meets (runF_E OI_ok kc_Mo_meets so_Mo_meets (fun _ h => absurd h List.not_mem_nil) 400) ((e_Mo_meets_0 x1 x2 h).symm.trans hz))
    · cases hz
  · cases hz
set_option maxRecDepth 100000 in
theorem kc_Mo_writes : k_Mo_writes.all (chkE 7 (mtC 117)) = true := by decide +kernel
theorem so_Mo_writes : SemOK toGI S_Mo_writes 1 := fun _ h => absurd h List.not_mem_nil
set_option maxRecDepth 100000 in
theorem ok_Mo_writes : ∀ as h z, sF_Mo_writes as h = some z → Okm toGI 117 1 as h z := by
  intro as h z hz
  unfold sF_Mo_writes at hz
  split at hz
  · next f0 x1 x2 x3 =>
    split at hz
    · next hq9 =>
      have hq9 := Nat.eq_of_beq_eq_true hq9
      subst hq9
      exact okm_of (own := 7) (rk := 2) (by decide +kernel) (by decide +kernel) (by omega) rfl (Nat.le_of_ble_eq_true rfl) (exec_E OI_ok kc_Mo_writes so_Mo_writes (runF_E OI_ok kc_Mo_writes so_Mo_writes (fun _ h => absurd h List.not_mem_nil) 400) ((e_Mo_writes_0 x1 x2 x3 h).symm.trans hz))
    · cases hz
  · cases hz
set_option maxRecDepth 100000 in
theorem kc_Mo_send : k_Mo_send.all (chkE 7 (mtC 118)) = true := by decide +kernel
theorem so_Mo_send : SemOK toGI S_Mo_send 4 := List.forall_mem_cons.mpr ⟨⟨mt_98, 3, by omega, ok_Mo_areTwo⟩, List.forall_mem_cons.mpr ⟨⟨mt_100, 2, by omega, ok_Mo_isSet⟩, List.forall_mem_cons.mpr ⟨⟨mt_117, 1, by omega, ok_Mo_writes⟩, fun _ h => absurd h List.not_mem_nil⟩⟩⟩
set_option maxRecDepth 100000 in
theorem ok_Mo_send : ∀ as h z, sF_Mo_send as h = some z → Okm toGI 118 4 as h z := by
  intro as h z hz
  unfold sF_Mo_send at hz
  split at hz
  · next f0 x1 x2 x3 =>
    split at hz
    · next hq9 =>
      have hq9 := Nat.eq_of_beq_eq_true hq9
      subst hq9
      exact okm_of (own := 7) (rk := 1) (by decide +kernel) (by decide +kernel) (by omega) rfl (Nat.le_of_ble_eq_true rfl) (exec_E OI_ok kc_Mo_send so_Mo_send (runF_E OI_ok kc_Mo_send so_Mo_send (fun _ h => absurd h List.not_mem_nil) 400) ((e_Mo_send_0 x1 x2 x3 h).symm.trans hz))
    · cases hz
  · cases hz
set_option maxRecDepth 100000 in
theorem kc_Mo_hadBy : k_Mo_hadBy.all (chkE 7 (mtC 119)) = true := by decide +kernel
theorem so_Mo_hadBy : SemOK toGI S_Mo_hadBy 2 := List.forall_mem_cons.mpr ⟨⟨mt_105, 1, by omega, ok_Mo_letterOf⟩, fun _ h => absurd h List.not_mem_nil⟩
set_option maxRecDepth 100000 in
theorem E_Mo_hadBy_4 {z : Option Value × Hp} {x1 : Int32} {x2 : Int32} {x3 : Int32} {h : Hp} (hz : loopC (Mo_hadBy_4   ) FU (x1, x2, x3, h) = some z) : Ends toGI 7 119 2 1 z 4 (spr (mtM 119) [0, 1, 2, 3] [.ref 178, .int x1, .int x2, .int x3]) [] h := by
  refine loop_E (b := Mo_hadBy_4   ) (P := fun s => match s with | (x1, x2, x3, h) => Ends toGI 7 119 2 1 z 4 (spr (mtM 119) [0, 1, 2, 3] [.ref 178, .int x1, .int x2, .int x3]) [] h) (fun s κ4 hκ hz => ?_) FU (x1, x2, x3, h) hz
  obtain ⟨x1, x2, x3, h⟩ := s
  have hκ4 : ∀ (x1 : Int32) (x2 : Int32) (x3 : Int32) (h : Hp), κ4 (x1, x2, x3, h) = some z → Ends toGI 7 119 2 1 z 4 (spr (mtM 119) [0, 1, 2, 3] [.ref 178, .int x1, .int x2, .int x3]) [] h := fun x1 x2 x3 h q => hκ (x1, x2, x3, h) q
  exact exec_E OI_ok kc_Mo_hadBy so_Mo_hadBy (runF_E OI_ok kc_Mo_hadBy so_Mo_hadBy (List.forall_mem_cons.mpr ⟨(by
    intro L st h vs hp hf
    dsimp only at hf
    split at hf
    · split at hf
      · next hq9 =>
        have hq9 := Nat.eq_of_beq_eq_true hq9
        subst hq9
        exact Ends.at hp (hκ4 _ _ _ _ hf)
      · cases hf
    · cases hf), fun _ h => absurd h List.not_mem_nil⟩) 400) ((e_Mo_hadBy_4  κ4 x1 x2 x3 h).symm.trans hz)
set_option maxRecDepth 100000 in
theorem ok_Mo_hadBy : ∀ as h z, sF_Mo_hadBy as h = some z → Okm toGI 119 2 as h z := by
  intro as h z hz
  unfold sF_Mo_hadBy at hz
  split at hz
  · next f0 x1 =>
    split at hz
    · next hq9 =>
      have hq9 := Nat.eq_of_beq_eq_true hq9
      subst hq9
      exact okm_of (own := 7) (rk := 1) (by decide +kernel) (by decide +kernel) (by omega) rfl (Nat.le_of_ble_eq_true rfl) (exec_E OI_ok kc_Mo_hadBy so_Mo_hadBy (runF_E OI_ok kc_Mo_hadBy so_Mo_hadBy (List.forall_mem_cons.mpr ⟨(by
          intro L st h vs hp hf
          dsimp only at hf
          split at hf
          · split at hf
            · next hq9 =>
              have hq9 := Nat.eq_of_beq_eq_true hq9
              subst hq9
              exact Ends.at hp (E_Mo_hadBy_4 hf)
            · cases hf
          · cases hf), fun _ h => absurd h List.not_mem_nil⟩) 400) ((e_Mo_hadBy_0 x1 h).symm.trans hz))
    · cases hz
  · cases hz
set_option maxRecDepth 100000 in
theorem kc_Mo_takes : k_Mo_takes.all (chkE 7 (mtC 120)) = true := by decide +kernel
theorem so_Mo_takes : SemOK toGI S_Mo_takes 1 := fun _ h => absurd h List.not_mem_nil
set_option maxRecDepth 100000 in
theorem ok_Mo_takes : ∀ as h z, sF_Mo_takes as h = some z → Okm toGI 120 1 as h z := by
  intro as h z hz
  unfold sF_Mo_takes at hz
  split at hz
  · next f0 x1 x2 x3 =>
    split at hz
    · next hq9 =>
      have hq9 := Nat.eq_of_beq_eq_true hq9
      subst hq9
      exact okm_of (own := 7) (rk := 2) (by decide +kernel) (by decide +kernel) (by omega) rfl (Nat.le_of_ble_eq_true rfl) (exec_E OI_ok kc_Mo_takes so_Mo_takes (runF_E OI_ok kc_Mo_takes so_Mo_takes (fun _ h => absurd h List.not_mem_nil) 400) ((e_Mo_takes_0 x1 x2 x3 h).symm.trans hz))
    · cases hz
  · cases hz
set_option maxRecDepth 100000 in
theorem kc_Mo_givable : k_Mo_givable.all (chkE 7 (mtC 121)) = true := by decide +kernel
theorem so_Mo_givable : SemOK toGI S_Mo_givable 4 := List.forall_mem_cons.mpr ⟨⟨mt_105, 1, by omega, ok_Mo_letterOf⟩, List.forall_mem_cons.mpr ⟨⟨mt_107, 3, by omega, ok_Mo_isThere⟩, List.forall_mem_cons.mpr ⟨⟨mt_106, 2, by omega, ok_Mo_holderOf⟩, List.forall_mem_cons.mpr ⟨⟨mt_104, 1, by omega, ok_Mo_metBy⟩, List.forall_mem_cons.mpr ⟨⟨mt_119, 2, by omega, ok_Mo_hadBy⟩, List.forall_mem_cons.mpr ⟨⟨mt_74, 1, by omega, ok_Mo_has⟩, List.forall_mem_cons.mpr ⟨⟨mt_103, 3, by omega, ok_Mo_mayCarry⟩, List.forall_mem_cons.mpr ⟨⟨mt_120, 1, by omega, ok_Mo_takes⟩, fun _ h => absurd h List.not_mem_nil⟩⟩⟩⟩⟩⟩⟩⟩
set_option maxRecDepth 100000 in
theorem E_Mo_givable_71 {z : Option Value × Hp} {x1 : Int32} {x3 : Int32} {x4 : Int32} {x5 : Int32} {x6 : Int32} {h : Hp} (hz : loopC (Mo_givable_71   ) FU (x1, x3, x4, x5, x6, h) = some z) : Ends toGI 7 121 4 1 z 71 (spr (mtM 121) [0, 1, 3, 4, 5, 6] [.ref 178, .int x1, .int x3, .int x4, .int x5, .int x6]) [] h := by
  refine loop_E (b := Mo_givable_71   ) (P := fun s => match s with | (x1, x3, x4, x5, x6, h) => Ends toGI 7 121 4 1 z 71 (spr (mtM 121) [0, 1, 3, 4, 5, 6] [.ref 178, .int x1, .int x3, .int x4, .int x5, .int x6]) [] h) (fun s κ71 hκ hz => ?_) FU (x1, x3, x4, x5, x6, h) hz
  obtain ⟨x1, x3, x4, x5, x6, h⟩ := s
  have hκ71 : ∀ (x1 : Int32) (x3 : Int32) (x4 : Int32) (x5 : Int32) (x6 : Int32) (h : Hp), κ71 (x1, x3, x4, x5, x6, h) = some z → Ends toGI 7 121 4 1 z 71 (spr (mtM 121) [0, 1, 3, 4, 5, 6] [.ref 178, .int x1, .int x3, .int x4, .int x5, .int x6]) [] h := fun x1 x3 x4 x5 x6 h q => hκ (x1, x3, x4, x5, x6, h) q
  exact exec_E OI_ok kc_Mo_givable so_Mo_givable (runF_E OI_ok kc_Mo_givable so_Mo_givable (List.forall_mem_cons.mpr ⟨(by
    intro L st h vs hp hf
    dsimp only at hf
    split at hf
    · split at hf
      · next hq9 =>
        have hq9 := Nat.eq_of_beq_eq_true hq9
        subst hq9
        exact Ends.at hp (hκ71 _ _ _ _ _ _ hf)
      · cases hf
    · cases hf), fun _ h => absurd h List.not_mem_nil⟩) 400) ((e_Mo_givable_71  κ71 x1 x3 x4 x5 x6 h).symm.trans hz)
set_option maxRecDepth 100000 in
theorem ok_Mo_givable : ∀ as h z, sF_Mo_givable as h = some z → Okm toGI 121 4 as h z := by
  intro as h z hz
  unfold sF_Mo_givable at hz
  split at hz
  · next f0 x1 =>
    split at hz
    · next hq9 =>
      have hq9 := Nat.eq_of_beq_eq_true hq9
      subst hq9
      exact okm_of (own := 7) (rk := 1) (by decide +kernel) (by decide +kernel) (by omega) rfl (Nat.le_of_ble_eq_true rfl) (exec_E OI_ok kc_Mo_givable so_Mo_givable (runF_E OI_ok kc_Mo_givable so_Mo_givable (List.forall_mem_cons.mpr ⟨(by
          intro L st h vs hp hf
          dsimp only at hf
          split at hf
          · split at hf
            · next hq9 =>
              have hq9 := Nat.eq_of_beq_eq_true hq9
              subst hq9
              exact Ends.at hp (E_Mo_givable_71 hf)
            · cases hf
          · cases hf), fun _ h => absurd h List.not_mem_nil⟩) 400) ((e_Mo_givable_0 x1 h).symm.trans hz))
    · cases hz
  · cases hz
set_option maxRecDepth 100000 in
theorem kc_Mo_giveTo : k_Mo_giveTo.all (chkE 7 (mtC 122)) = true := by decide +kernel
theorem so_Mo_giveTo : SemOK toGI S_Mo_giveTo 3 := List.forall_mem_cons.mpr ⟨⟨mt_105, 1, by omega, ok_Mo_letterOf⟩, List.forall_mem_cons.mpr ⟨⟨mt_106, 2, by omega, ok_Mo_holderOf⟩, List.forall_mem_cons.mpr ⟨⟨mt_101, 1, by omega, ok_Mo_isA⟩, fun _ h => absurd h List.not_mem_nil⟩⟩⟩
set_option maxRecDepth 100000 in
theorem ok_Mo_giveTo : ∀ as h z, sF_Mo_giveTo as h = some z → Okm toGI 122 3 as h z := by
  intro as h z hz
  unfold sF_Mo_giveTo at hz
  split at hz
  · next f0 x1 x2 =>
    split at hz
    · next hq9 =>
      have hq9 := Nat.eq_of_beq_eq_true hq9
      subst hq9
      exact okm_of (own := 7) (rk := 1) (by decide +kernel) (by decide +kernel) (by omega) rfl (Nat.le_of_ble_eq_true rfl) (exec_E OI_ok kc_Mo_giveTo so_Mo_giveTo (runF_E OI_ok kc_Mo_giveTo so_Mo_giveTo (fun _ h => absurd h List.not_mem_nil) 400) ((e_Mo_giveTo_0 x1 x2 h).symm.trans hz))
    · cases hz
  · cases hz
set_option maxRecDepth 100000 in
theorem kc_Mo_askedLetter : k_Mo_askedLetter.all (chkE 7 (mtC 123)) = true := by decide +kernel
theorem so_Mo_askedLetter : SemOK toGI S_Mo_askedLetter 2 := List.forall_mem_cons.mpr ⟨⟨mt_72, 1, by omega, ok_Mo_meetWith⟩, fun _ h => absurd h List.not_mem_nil⟩
set_option maxRecDepth 100000 in
theorem ok_Mo_askedLetter : ∀ as h z, sF_Mo_askedLetter as h = some z → Okm toGI 123 2 as h z := by
  intro as h z hz
  unfold sF_Mo_askedLetter at hz
  split at hz
  · next f0 x1 =>
    split at hz
    · next hq9 =>
      have hq9 := Nat.eq_of_beq_eq_true hq9
      subst hq9
      exact okm_of (own := 7) (rk := 1) (by decide +kernel) (by decide +kernel) (by omega) rfl (Nat.le_of_ble_eq_true rfl) (exec_E OI_ok kc_Mo_askedLetter so_Mo_askedLetter (runF_E OI_ok kc_Mo_askedLetter so_Mo_askedLetter (fun _ h => absurd h List.not_mem_nil) 400) ((e_Mo_askedLetter_0 x1 h).symm.trans hz))
    · cases hz
  · cases hz
set_option maxRecDepth 100000 in
theorem kc_Mo_give : k_Mo_give.all (chkE 7 (mtC 124)) = true := by decide +kernel
theorem so_Mo_give : SemOK toGI S_Mo_give 5 := List.forall_mem_cons.mpr ⟨⟨mt_123, 2, by omega, ok_Mo_askedLetter⟩, List.forall_mem_cons.mpr ⟨⟨mt_121, 4, by omega, ok_Mo_givable⟩, List.forall_mem_cons.mpr ⟨⟨mt_74, 1, by omega, ok_Mo_has⟩, List.forall_mem_cons.mpr ⟨⟨mt_122, 3, by omega, ok_Mo_giveTo⟩, List.forall_mem_cons.mpr ⟨⟨mt_97, 2, by omega, ok_Mo_isOne⟩, fun _ h => absurd h List.not_mem_nil⟩⟩⟩⟩⟩
set_option maxRecDepth 100000 in
theorem ok_Mo_give : ∀ as h z, sF_Mo_give as h = some z → Okm toGI 124 5 as h z := by
  intro as h z hz
  unfold sF_Mo_give at hz
  split at hz
  · next f0 x1 x2 =>
    split at hz
    · next hq9 =>
      have hq9 := Nat.eq_of_beq_eq_true hq9
      subst hq9
      exact okm_of (own := 7) (rk := 1) (by decide +kernel) (by decide +kernel) (by omega) rfl (Nat.le_of_ble_eq_true rfl) (exec_E OI_ok kc_Mo_give so_Mo_give (runF_E OI_ok kc_Mo_give so_Mo_give (fun _ h => absurd h List.not_mem_nil) 400) ((e_Mo_give_0 x1 x2 h).symm.trans hz))
    · cases hz
  · cases hz
set_option maxRecDepth 100000 in
theorem kc_Mo_hours : k_Mo_hours.all (chkE 7 (mtC 125)) = true := by decide +kernel
theorem so_Mo_hours : SemOK toGI S_Mo_hours 2 := List.forall_mem_cons.mpr ⟨⟨mt_71, 1, by omega, ok_Mo_in⟩, fun _ h => absurd h List.not_mem_nil⟩
set_option maxRecDepth 100000 in
theorem ok_Mo_hours : ∀ as h z, sF_Mo_hours as h = some z → Okm toGI 125 2 as h z := by
  intro as h z hz
  unfold sF_Mo_hours at hz
  split at hz
  · next f0 x1 =>
    split at hz
    · next hq9 =>
      have hq9 := Nat.eq_of_beq_eq_true hq9
      subst hq9
      exact okm_of (own := 7) (rk := 1) (by decide +kernel) (by decide +kernel) (by omega) rfl (Nat.le_of_ble_eq_true rfl) (exec_E OI_ok kc_Mo_hours so_Mo_hours (runF_E OI_ok kc_Mo_hours so_Mo_hours (fun _ h => absurd h List.not_mem_nil) 400) ((e_Mo_hours_0 x1 h).symm.trans hz))
    · cases hz
  · cases hz
set_option maxRecDepth 100000 in
theorem kc_Mo_where : k_Mo_where.all (chkE 7 (mtC 126)) = true := by decide +kernel
theorem so_Mo_where : SemOK toGI S_Mo_where 3 := List.forall_mem_cons.mpr ⟨⟨mt_123, 2, by omega, ok_Mo_askedLetter⟩, List.forall_mem_cons.mpr ⟨⟨mt_105, 1, by omega, ok_Mo_letterOf⟩, List.forall_mem_cons.mpr ⟨⟨mt_106, 2, by omega, ok_Mo_holderOf⟩, List.forall_mem_cons.mpr ⟨⟨mt_73, 1, by omega, ok_Mo_ask⟩, fun _ h => absurd h List.not_mem_nil⟩⟩⟩⟩
set_option maxRecDepth 100000 in
theorem ok_Mo_where : ∀ as h z, sF_Mo_where as h = some z → Okm toGI 126 3 as h z := by
  intro as h z hz
  unfold sF_Mo_where at hz
  split at hz
  · next f0 x1 =>
    split at hz
    · next hq9 =>
      have hq9 := Nat.eq_of_beq_eq_true hq9
      subst hq9
      exact okm_of (own := 7) (rk := 1) (by decide +kernel) (by decide +kernel) (by omega) rfl (Nat.le_of_ble_eq_true rfl) (exec_E OI_ok kc_Mo_where so_Mo_where (runF_E OI_ok kc_Mo_where so_Mo_where (fun _ h => absurd h List.not_mem_nil) 400) ((e_Mo_where_0 x1 h).symm.trans hz))
    · cases hz
  · cases hz
set_option maxRecDepth 100000 in
theorem kc_Mo_hands : k_Mo_hands.all (chkE 7 (mtC 127)) = true := by decide +kernel
theorem so_Mo_hands : SemOK toGI S_Mo_hands 4 := List.forall_mem_cons.mpr ⟨⟨mt_76, 2, by omega, ok_Mo_isRow⟩, List.forall_mem_cons.mpr ⟨⟨mt_123, 2, by omega, ok_Mo_askedLetter⟩, List.forall_mem_cons.mpr ⟨⟨mt_105, 1, by omega, ok_Mo_letterOf⟩, List.forall_mem_cons.mpr ⟨⟨mt_82, 3, by omega, ok_Mo_row⟩, List.forall_mem_cons.mpr ⟨⟨mt_81, 1, by omega, ok_Mo_setRow⟩, fun _ h => absurd h List.not_mem_nil⟩⟩⟩⟩⟩
set_option maxRecDepth 100000 in
theorem E_Mo_hands_40 {z : Option Value × Hp} {x1 : Int32} {x2 : Int32} {x4 : Int32} {x5 : Int32} {h : Hp} (hz : loopC (Mo_hands_40   ) FU (x1, x2, x4, x5, h) = some z) : Ends toGI 7 127 4 1 z 40 (spr (mtM 127) [0, 1, 2, 4, 5] [.ref 178, .int x1, .int x2, .int x4, .int x5]) [] h := by
  refine loop_E (b := Mo_hands_40   ) (P := fun s => match s with | (x1, x2, x4, x5, h) => Ends toGI 7 127 4 1 z 40 (spr (mtM 127) [0, 1, 2, 4, 5] [.ref 178, .int x1, .int x2, .int x4, .int x5]) [] h) (fun s κ40 hκ hz => ?_) FU (x1, x2, x4, x5, h) hz
  obtain ⟨x1, x2, x4, x5, h⟩ := s
  have hκ40 : ∀ (x1 : Int32) (x2 : Int32) (x4 : Int32) (x5 : Int32) (h : Hp), κ40 (x1, x2, x4, x5, h) = some z → Ends toGI 7 127 4 1 z 40 (spr (mtM 127) [0, 1, 2, 4, 5] [.ref 178, .int x1, .int x2, .int x4, .int x5]) [] h := fun x1 x2 x4 x5 h q => hκ (x1, x2, x4, x5, h) q
  exact exec_E OI_ok kc_Mo_hands so_Mo_hands (runF_E OI_ok kc_Mo_hands so_Mo_hands (List.forall_mem_cons.mpr ⟨(by
    intro L st h vs hp hf
    dsimp only at hf
    split at hf
    · split at hf
      · next hq9 =>
        have hq9 := Nat.eq_of_beq_eq_true hq9
        subst hq9
        exact Ends.at hp (hκ40 _ _ _ _ _ hf)
      · cases hf
    · cases hf), fun _ h => absurd h List.not_mem_nil⟩) 400) ((e_Mo_hands_40  κ40 x1 x2 x4 x5 h).symm.trans hz)
set_option maxRecDepth 100000 in
theorem ok_Mo_hands : ∀ as h z, sF_Mo_hands as h = some z → Okm toGI 127 4 as h z := by
  intro as h z hz
  unfold sF_Mo_hands at hz
  split at hz
  · next f0 x1 x2 =>
    split at hz
    · next hq9 =>
      have hq9 := Nat.eq_of_beq_eq_true hq9
      subst hq9
      exact okm_of (own := 7) (rk := 1) (by decide +kernel) (by decide +kernel) (by omega) rfl (Nat.le_of_ble_eq_true rfl) (exec_E OI_ok kc_Mo_hands so_Mo_hands (runF_E OI_ok kc_Mo_hands so_Mo_hands (List.forall_mem_cons.mpr ⟨(by
          intro L st h vs hp hf
          dsimp only at hf
          split at hf
          · split at hf
            · next hq9 =>
              have hq9 := Nat.eq_of_beq_eq_true hq9
              subst hq9
              exact Ends.at hp (E_Mo_hands_40 hf)
            · cases hf
          · cases hf), fun _ h => absurd h List.not_mem_nil⟩) 400) ((e_Mo_hands_0 x1 x2 h).symm.trans hz))
    · cases hz
  · cases hz
set_option maxRecDepth 100000 in
theorem kc_Mo_back : k_Mo_back.all (chkE 7 (mtC 128)) = true := by decide +kernel
theorem so_Mo_back : SemOK toGI S_Mo_back 3 := List.forall_mem_cons.mpr ⟨⟨mt_123, 2, by omega, ok_Mo_askedLetter⟩, List.forall_mem_cons.mpr ⟨⟨mt_105, 1, by omega, ok_Mo_letterOf⟩, List.forall_mem_cons.mpr ⟨⟨mt_106, 2, by omega, ok_Mo_holderOf⟩, fun _ h => absurd h List.not_mem_nil⟩⟩⟩
set_option maxRecDepth 100000 in
theorem ok_Mo_back : ∀ as h z, sF_Mo_back as h = some z → Okm toGI 128 3 as h z := by
  intro as h z hz
  unfold sF_Mo_back at hz
  split at hz
  · next f0 x1 =>
    split at hz
    · next hq9 =>
      have hq9 := Nat.eq_of_beq_eq_true hq9
      subst hq9
      exact okm_of (own := 7) (rk := 1) (by decide +kernel) (by decide +kernel) (by omega) rfl (Nat.le_of_ble_eq_true rfl) (exec_E OI_ok kc_Mo_back so_Mo_back (runF_E OI_ok kc_Mo_back so_Mo_back (fun _ h => absurd h List.not_mem_nil) 400) ((e_Mo_back_0 x1 h).symm.trans hz))
    · cases hz
  · cases hz
set_option maxRecDepth 100000 in
theorem kc_Mo_keep : k_Mo_keep.all (chkE 7 (mtC 129)) = true := by decide +kernel
theorem so_Mo_keep : SemOK toGI S_Mo_keep 2 := List.forall_mem_cons.mpr ⟨⟨mt_71, 1, by omega, ok_Mo_in⟩, fun _ h => absurd h List.not_mem_nil⟩
set_option maxRecDepth 100000 in
theorem E_Mo_keep_124 {z : Option Value × Hp} {x2 : Int32} {x3 : Int32} {h : Hp} (hz : loopC (Mo_keep_124   ) FU (x2, x3, h) = some z) : Ends toGI 7 129 2 1 z 124 (spr (mtM 129) [0, 2, 3] [.ref 178, .int x2, .int x3]) [] h := by
  refine loop_E (b := Mo_keep_124   ) (P := fun s => match s with | (x2, x3, h) => Ends toGI 7 129 2 1 z 124 (spr (mtM 129) [0, 2, 3] [.ref 178, .int x2, .int x3]) [] h) (fun s κ124 hκ hz => ?_) FU (x2, x3, h) hz
  obtain ⟨x2, x3, h⟩ := s
  have hκ124 : ∀ (x2 : Int32) (x3 : Int32) (h : Hp), κ124 (x2, x3, h) = some z → Ends toGI 7 129 2 1 z 124 (spr (mtM 129) [0, 2, 3] [.ref 178, .int x2, .int x3]) [] h := fun x2 x3 h q => hκ (x2, x3, h) q
  exact exec_E OI_ok kc_Mo_keep so_Mo_keep (runF_E OI_ok kc_Mo_keep so_Mo_keep (List.forall_mem_cons.mpr ⟨(by
    intro L st h vs hp hf
    dsimp only at hf
    split at hf
    · split at hf
      · next hq9 =>
        have hq9 := Nat.eq_of_beq_eq_true hq9
        subst hq9
        exact Ends.at hp (hκ124 _ _ _ hf)
      · cases hf
    · cases hf), fun _ h => absurd h List.not_mem_nil⟩) 400) ((e_Mo_keep_124  κ124 x2 x3 h).symm.trans hz)
set_option maxRecDepth 100000 in
theorem E_Mo_keep_93 {z : Option Value × Hp} {x2 : Int32} {x3 : Int32} {h : Hp} (hz : loopC (Mo_keep_93   ) FU (x2, x3, h) = some z) : Ends toGI 7 129 2 1 z 93 (spr (mtM 129) [0, 2, 3] [.ref 178, .int x2, .int x3]) [] h := by
  refine loop_E (b := Mo_keep_93   ) (P := fun s => match s with | (x2, x3, h) => Ends toGI 7 129 2 1 z 93 (spr (mtM 129) [0, 2, 3] [.ref 178, .int x2, .int x3]) [] h) (fun s κ93 hκ hz => ?_) FU (x2, x3, h) hz
  obtain ⟨x2, x3, h⟩ := s
  have hκ93 : ∀ (x2 : Int32) (x3 : Int32) (h : Hp), κ93 (x2, x3, h) = some z → Ends toGI 7 129 2 1 z 93 (spr (mtM 129) [0, 2, 3] [.ref 178, .int x2, .int x3]) [] h := fun x2 x3 h q => hκ (x2, x3, h) q
  exact exec_E OI_ok kc_Mo_keep so_Mo_keep (runF_E OI_ok kc_Mo_keep so_Mo_keep (List.forall_mem_cons.mpr ⟨(by
    intro L st h vs hp hf
    dsimp only at hf
    split at hf
    · split at hf
      · next hq9 =>
        have hq9 := Nat.eq_of_beq_eq_true hq9
        subst hq9
        exact Ends.at hp (E_Mo_keep_124 hf)
      · cases hf
    · cases hf), List.forall_mem_cons.mpr ⟨(by
    intro L st h vs hp hf
    dsimp only at hf
    split at hf
    · split at hf
      · next hq9 =>
        have hq9 := Nat.eq_of_beq_eq_true hq9
        subst hq9
        exact Ends.at hp (hκ93 _ _ _ hf)
      · cases hf
    · cases hf), fun _ h => absurd h List.not_mem_nil⟩⟩) 400) ((e_Mo_keep_93  κ93 x2 x3 h).symm.trans hz)
set_option maxRecDepth 100000 in
theorem E_Mo_keep_63 {z : Option Value × Hp} {x2 : Int32} {x3 : Int32} {h : Hp} (hz : loopC (Mo_keep_63   ) FU (x2, x3, h) = some z) : Ends toGI 7 129 2 1 z 63 (spr (mtM 129) [0, 2, 3] [.ref 178, .int x2, .int x3]) [] h := by
  refine loop_E (b := Mo_keep_63   ) (P := fun s => match s with | (x2, x3, h) => Ends toGI 7 129 2 1 z 63 (spr (mtM 129) [0, 2, 3] [.ref 178, .int x2, .int x3]) [] h) (fun s κ63 hκ hz => ?_) FU (x2, x3, h) hz
  obtain ⟨x2, x3, h⟩ := s
  have hκ63 : ∀ (x2 : Int32) (x3 : Int32) (h : Hp), κ63 (x2, x3, h) = some z → Ends toGI 7 129 2 1 z 63 (spr (mtM 129) [0, 2, 3] [.ref 178, .int x2, .int x3]) [] h := fun x2 x3 h q => hκ (x2, x3, h) q
  exact exec_E OI_ok kc_Mo_keep so_Mo_keep (runF_E OI_ok kc_Mo_keep so_Mo_keep (List.forall_mem_cons.mpr ⟨(by
    intro L st h vs hp hf
    dsimp only at hf
    split at hf
    · split at hf
      · next hq9 =>
        have hq9 := Nat.eq_of_beq_eq_true hq9
        subst hq9
        exact Ends.at hp (E_Mo_keep_93 hf)
      · cases hf
    · cases hf), List.forall_mem_cons.mpr ⟨(by
    intro L st h vs hp hf
    dsimp only at hf
    split at hf
    · split at hf
      · next hq9 =>
        have hq9 := Nat.eq_of_beq_eq_true hq9
        subst hq9
        exact Ends.at hp (hκ63 _ _ _ hf)
      · cases hf
    · cases hf), fun _ h => absurd h List.not_mem_nil⟩⟩) 400) ((e_Mo_keep_63  κ63 x2 x3 h).symm.trans hz)
set_option maxRecDepth 100000 in
theorem ok_Mo_keep : ∀ as h z, sF_Mo_keep as h = some z → Okm toGI 129 2 as h z := by
  intro as h z hz
  unfold sF_Mo_keep at hz
  split at hz
  · next f0 x1 =>
    split at hz
    · next hq9 =>
      have hq9 := Nat.eq_of_beq_eq_true hq9
      subst hq9
      exact okm_of (own := 7) (rk := 1) (by decide +kernel) (by decide +kernel) (by omega) rfl (Nat.le_of_ble_eq_true rfl) (exec_E OI_ok kc_Mo_keep so_Mo_keep (runF_E OI_ok kc_Mo_keep so_Mo_keep (List.forall_mem_cons.mpr ⟨(by
          intro L st h vs hp hf
          dsimp only at hf
          split at hf
          · split at hf
            · next hq9 =>
              have hq9 := Nat.eq_of_beq_eq_true hq9
              subst hq9
              exact Ends.at hp (E_Mo_keep_63 hf)
            · cases hf
          · cases hf), fun _ h => absurd h List.not_mem_nil⟩) 400) ((e_Mo_keep_0 x1 h).symm.trans hz))
    · cases hz
  · cases hz
