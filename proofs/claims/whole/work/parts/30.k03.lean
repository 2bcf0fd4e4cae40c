set_option maxRecDepth 100000 in
theorem kc_Wa_mostApart : k_Wa_mostApart.all (chkE 5 (mtC 237)) = true := by decide +kernel
theorem so_Wa_mostApart : SemOK toGI S_Wa_mostApart 4 := List.forall_mem_cons.mpr ⟨⟨mt_233, 3, by omega, ok_Wa_carriers⟩, List.forall_mem_cons.mpr ⟨⟨mt_64, 1, by omega, ok_Bp_bit⟩, List.forall_mem_cons.mpr ⟨⟨mt_65, 1, by omega, ok_Bp_has⟩, List.forall_mem_cons.mpr ⟨⟨mt_250, 1, by omega, ok_Jint_bitCount⟩, List.forall_mem_cons.mpr ⟨⟨mt_238, 3, by omega, ok_Wa_leadsOver⟩, fun _ h => absurd h List.not_mem_nil⟩⟩⟩⟩⟩
set_option maxRecDepth 100000 in
theorem E_Wa_mostApart_28 {z : Option Value × Hp} {x1 : Int32} {x2 : Int32} {x4 : Int32} {x5 : Int32} {x6 : Int32} {h : Hp} (hz : loopC (Wa_mostApart_28   ) FU (x1, x2, x4, x5, x6, h) = some z) : Ends toGI 5 237 4 1 z 28 (spr (mtM 237) [0, 1, 2, 4, 5, 6] [.ref 64, .int x1, .int x2, .int x4, .int x5, .int x6]) [] h := by
  refine loop_E (b := Wa_mostApart_28   ) (P := fun s => match s with | (x1, x2, x4, x5, x6, h) => Ends toGI 5 237 4 1 z 28 (spr (mtM 237) [0, 1, 2, 4, 5, 6] [.ref 64, .int x1, .int x2, .int x4, .int x5, .int x6]) [] h) (fun s κ28 hκ hz => ?_) FU (x1, x2, x4, x5, x6, h) hz
  obtain ⟨x1, x2, x4, x5, x6, h⟩ := s
  have hκ28 : ∀ (x1 : Int32) (x2 : Int32) (x4 : Int32) (x5 : Int32) (x6 : Int32) (h : Hp), κ28 (x1, x2, x4, x5, x6, h) = some z → Ends toGI 5 237 4 1 z 28 (spr (mtM 237) [0, 1, 2, 4, 5, 6] [.ref 64, .int x1, .int x2, .int x4, .int x5, .int x6]) [] h := fun x1 x2 x4 x5 x6 h q => hκ (x1, x2, x4, x5, x6, h) q
  exact exec_E OI_ok kc_Wa_mostApart so_Wa_mostApart (runF_E OI_ok kc_Wa_mostApart so_Wa_mostApart (List.forall_mem_cons.mpr ⟨(by
    intro L st h vs hp hf
    dsimp only at hf
    split at hf
    · split at hf
      · next hq9 =>
        have hq9 := Nat.eq_of_beq_eq_true hq9
        subst hq9
        exact Ends.at hp (hκ28 _ _ _ _ _ _ hf)
      · cases hf
    · cases hf), fun _ h => absurd h List.not_mem_nil⟩) 400) ((e_Wa_mostApart_28  κ28 x1 x2 x4 x5 x6 h).symm.trans hz)
set_option maxRecDepth 100000 in
theorem ok_Wa_mostApart : ∀ as h z, sF_Wa_mostApart as h = some z → Okm toGI 237 4 as h z := by
  intro as h z hz
  unfold sF_Wa_mostApart at hz
  split at hz
  · next f0 x1 x2 x3 =>
    split at hz
    · next hq9 =>
      have hq9 := Nat.eq_of_beq_eq_true hq9
      subst hq9
      exact okm_of (own := 5) (rk := 1) (by decide +kernel) (by decide +kernel) (by omega) rfl (Nat.le_of_ble_eq_true rfl) (exec_E OI_ok kc_Wa_mostApart so_Wa_mostApart (runF_E OI_ok kc_Wa_mostApart so_Wa_mostApart (List.forall_mem_cons.mpr ⟨(by
          intro L st h vs hp hf
          dsimp only at hf
          split at hf
          · split at hf
            · next hq9 =>
              have hq9 := Nat.eq_of_beq_eq_true hq9
              subst hq9
              exact Ends.at hp (E_Wa_mostApart_28 hf)
            · cases hf
          · cases hf), fun _ h => absurd h List.not_mem_nil⟩) 400) ((e_Wa_mostApart_0 x1 x2 x3 h).symm.trans hz))
    · cases hz
  · cases hz
set_option maxRecDepth 100000 in
theorem kc_Bp_apart : k_Bp_apart.all (chkE 6 (mtC 30)) = true := by decide +kernel
theorem so_Bp_apart : SemOK toGI S_Bp_apart 5 := List.forall_mem_cons.mpr ⟨⟨mt_58, 2, by omega, ok_Bp_noPair⟩, List.forall_mem_cons.mpr ⟨⟨mt_56, 1, by omega, ok_Bp_noTongues⟩, List.forall_mem_cons.mpr ⟨⟨mt_237, 4, by omega, ok_Wa_mostApart⟩, fun _ h => absurd h List.not_mem_nil⟩⟩⟩
set_option maxRecDepth 100000 in
theorem ok_Bp_apart : ∀ as h z, sF_Bp_apart as h = some z → Okm toGI 30 5 as h z := by
  intro as h z hz
  unfold sF_Bp_apart at hz
  split at hz
  · next f0 x1 x2 x3 =>
    split at hz
    · next hq9 =>
      have hq9 := Nat.eq_of_beq_eq_true hq9
      subst hq9
      exact okm_of (own := 6) (rk := 1) (by decide +kernel) (by decide +kernel) (by omega) rfl (Nat.le_of_ble_eq_true rfl) (exec_E OI_ok kc_Bp_apart so_Bp_apart (runF_E OI_ok kc_Bp_apart so_Bp_apart (fun _ h => absurd h List.not_mem_nil) 400) ((e_Bp_apart_0 x1 x2 x3 h).symm.trans hz))
    · cases hz
  · cases hz
set_option maxRecDepth 100000 in
theorem kc_Wa_endsFrom : k_Wa_endsFrom.all (chkE 5 (mtC 234)) = true := by decide +kernel
theorem so_Wa_endsFrom : SemOK toGI S_Wa_endsFrom 3 := List.forall_mem_cons.mpr ⟨⟨mt_64, 1, by omega, ok_Bp_bit⟩, List.forall_mem_cons.mpr ⟨⟨mt_180, 2, by omega, ok_La_ofKind⟩, List.forall_mem_cons.mpr ⟨⟨mt_235, 2, by omega, ok_Wa_metByAny⟩, fun _ h => absurd h List.not_mem_nil⟩⟩⟩
set_option maxRecDepth 100000 in
theorem E_Wa_endsFrom_47 {z : Option Value × Hp} {x1 : Int32} {x4 : Int32} {x5 : Int32} {x6 : Int32} {x7 : Int32} {x8 : Int32} {h : Hp} (hz : loopC (Wa_endsFrom_47   ) FU (x1, x4, x5, x6, x7, x8, h) = some z) : Ends toGI 5 234 3 1 z 47 (spr (mtM 234) [0, 1, 4, 5, 6, 7, 8] [.ref 64, .int x1, .int x4, .int x5, .int x6, .int x7, .int x8]) [] h := by
  refine loop_E (b := Wa_endsFrom_47   ) (P := fun s => match s with | (x1, x4, x5, x6, x7, x8, h) => Ends toGI 5 234 3 1 z 47 (spr (mtM 234) [0, 1, 4, 5, 6, 7, 8] [.ref 64, .int x1, .int x4, .int x5, .int x6, .int x7, .int x8]) [] h) (fun s κ47 hκ hz => ?_) FU (x1, x4, x5, x6, x7, x8, h) hz
  obtain ⟨x1, x4, x5, x6, x7, x8, h⟩ := s
  have hκ47 : ∀ (x1 : Int32) (x4 : Int32) (x5 : Int32) (x6 : Int32) (x7 : Int32) (x8 : Int32) (h : Hp), κ47 (x1, x4, x5, x6, x7, x8, h) = some z → Ends toGI 5 234 3 1 z 47 (spr (mtM 234) [0, 1, 4, 5, 6, 7, 8] [.ref 64, .int x1, .int x4, .int x5, .int x6, .int x7, .int x8]) [] h := fun x1 x4 x5 x6 x7 x8 h q => hκ (x1, x4, x5, x6, x7, x8, h) q
  exact exec_E OI_ok kc_Wa_endsFrom so_Wa_endsFrom (runF_E OI_ok kc_Wa_endsFrom so_Wa_endsFrom (List.forall_mem_cons.mpr ⟨(by
    intro L st h vs hp hf
    dsimp only at hf
    split at hf
    · split at hf
      · next hq9 =>
        have hq9 := Nat.eq_of_beq_eq_true hq9
        subst hq9
        exact Ends.at hp (hκ47 _ _ _ _ _ _ _ hf)
      · cases hf
    · cases hf), fun _ h => absurd h List.not_mem_nil⟩) 400) ((e_Wa_endsFrom_47  κ47 x1 x4 x5 x6 x7 x8 h).symm.trans hz)
set_option maxRecDepth 100000 in
theorem ok_Wa_endsFrom : ∀ as h z, sF_Wa_endsFrom as h = some z → Okm toGI 234 3 as h z := by
  intro as h z hz
  unfold sF_Wa_endsFrom at hz
  split at hz
  · next f0 x1 x2 =>
    split at hz
    · next hq9 =>
      have hq9 := Nat.eq_of_beq_eq_true hq9
      subst hq9
      exact okm_of (own := 5) (rk := 1) (by decide +kernel) (by decide +kernel) (by omega) rfl (Nat.le_of_ble_eq_true rfl) (exec_E OI_ok kc_Wa_endsFrom so_Wa_endsFrom (runF_E OI_ok kc_Wa_endsFrom so_Wa_endsFrom (List.forall_mem_cons.mpr ⟨(by
          intro L st h vs hp hf
          dsimp only at hf
          split at hf
          · split at hf
            · next hq9 =>
              have hq9 := Nat.eq_of_beq_eq_true hq9
              subst hq9
              exact Ends.at hp (E_Wa_endsFrom_47 hf)
            · cases hf
          · cases hf), fun _ h => absurd h List.not_mem_nil⟩) 400) ((e_Wa_endsFrom_0 x1 x2 h).symm.trans hz))
    · cases hz
  · cases hz
set_option maxRecDepth 100000 in
theorem kc_Bp_needs : k_Bp_needs.all (chkE 6 (mtC 31)) = true := by decide +kernel
theorem so_Bp_needs : SemOK toGI S_Bp_needs 4 := List.forall_mem_cons.mpr ⟨⟨mt_58, 2, by omega, ok_Bp_noPair⟩, List.forall_mem_cons.mpr ⟨⟨mt_56, 1, by omega, ok_Bp_noTongues⟩, List.forall_mem_cons.mpr ⟨⟨mt_233, 3, by omega, ok_Wa_carriers⟩, List.forall_mem_cons.mpr ⟨⟨mt_234, 3, by omega, ok_Wa_endsFrom⟩, List.forall_mem_cons.mpr ⟨⟨mt_65, 1, by omega, ok_Bp_has⟩, List.forall_mem_cons.mpr ⟨⟨mt_64, 1, by omega, ok_Bp_bit⟩, fun _ h => absurd h List.not_mem_nil⟩⟩⟩⟩⟩⟩
set_option maxRecDepth 100000 in
theorem E_Bp_needs_53 {z : Option Value × Hp} {x1 : Int32} {x2 : Int32} {x4 : Int32} {x5 : Int32} {x6 : Int32} {h : Hp} (hz : loopC (Bp_needs_53   ) FU (x1, x2, x4, x5, x6, h) = some z) : Ends toGI 6 31 4 1 z 53 (spr (mtM 31) [0, 1, 2, 4, 5, 6] [.ref 0, .int x1, .int x2, .int x4, .int x5, .int x6]) [] h := by
  refine loop_E (b := Bp_needs_53   ) (P := fun s => match s with | (x1, x2, x4, x5, x6, h) => Ends toGI 6 31 4 1 z 53 (spr (mtM 31) [0, 1, 2, 4, 5, 6] [.ref 0, .int x1, .int x2, .int x4, .int x5, .int x6]) [] h) (fun s κ53 hκ hz => ?_) FU (x1, x2, x4, x5, x6, h) hz
  obtain ⟨x1, x2, x4, x5, x6, h⟩ := s
  have hκ53 : ∀ (x1 : Int32) (x2 : Int32) (x4 : Int32) (x5 : Int32) (x6 : Int32) (h : Hp), κ53 (x1, x2, x4, x5, x6, h) = some z → Ends toGI 6 31 4 1 z 53 (spr (mtM 31) [0, 1, 2, 4, 5, 6] [.ref 0, .int x1, .int x2, .int x4, .int x5, .int x6]) [] h := fun x1 x2 x4 x5 x6 h q => hκ (x1, x2, x4, x5, x6, h) q
  exact exec_E OI_ok kc_Bp_needs so_Bp_needs (runF_E OI_ok kc_Bp_needs so_Bp_needs (List.forall_mem_cons.mpr ⟨(by
    intro L st h vs hp hf
    dsimp only at hf
    split at hf
    · split at hf
      · next hq9 =>
        have hq9 := Nat.eq_of_beq_eq_true hq9
        subst hq9
        exact Ends.at hp (hκ53 _ _ _ _ _ _ hf)
      · cases hf
    · cases hf), fun _ h => absurd h List.not_mem_nil⟩) 400) ((e_Bp_needs_53  κ53 x1 x2 x4 x5 x6 h).symm.trans hz)
set_option maxRecDepth 100000 in
theorem ok_Bp_needs : ∀ as h z, sF_Bp_needs as h = some z → Okm toGI 31 4 as h z := by
  intro as h z hz
  unfold sF_Bp_needs at hz
  split at hz
  · next f0 x1 x2 x3 =>
    split at hz
    · next hq9 =>
      have hq9 := Nat.eq_of_beq_eq_true hq9
      subst hq9
      exact okm_of (own := 6) (rk := 1) (by decide +kernel) (by decide +kernel) (by omega) rfl (Nat.le_of_ble_eq_true rfl) (exec_E OI_ok kc_Bp_needs so_Bp_needs (runF_E OI_ok kc_Bp_needs so_Bp_needs (List.forall_mem_cons.mpr ⟨(by
          intro L st h vs hp hf
          dsimp only at hf
          split at hf
          · split at hf
            · next hq9 =>
              have hq9 := Nat.eq_of_beq_eq_true hq9
              subst hq9
              exact Ends.at hp (E_Bp_needs_53 hf)
            · cases hf
          · cases hf), fun _ h => absurd h List.not_mem_nil⟩) 400) ((e_Bp_needs_0 x1 x2 x3 h).symm.trans hz))
    · cases hz
  · cases hz
set_option maxRecDepth 100000 in
theorem kc_Wa_priceByForgetting : k_Wa_priceByForgetting.all (chkE 5 (mtC 240)) = true := by decide +kernel
theorem so_Wa_priceByForgetting : SemOK toGI S_Wa_priceByForgetting 3 := List.forall_mem_cons.mpr ⟨⟨mt_182, 2, by omega, ok_La_bars⟩, List.forall_mem_cons.mpr ⟨⟨mt_250, 1, by omega, ok_Jint_bitCount⟩, fun _ h => absurd h List.not_mem_nil⟩⟩
set_option maxRecDepth 100000 in
theorem E_Wa_priceByForgetting_2 {z : Option Value × Hp} {x1 : Int32} {x2 : Int32} {h : Hp} (hz : loopC (Wa_priceByForgetting_2   ) FU (x1, x2, h) = some z) : Ends toGI 5 240 3 0 z 2 (spr (mtM 240) [0, 1, 2] [.ref 64, .int x1, .int x2]) [] h := by
  refine loop_E (b := Wa_priceByForgetting_2   ) (P := fun s => match s with | (x1, x2, h) => Ends toGI 5 240 3 0 z 2 (spr (mtM 240) [0, 1, 2] [.ref 64, .int x1, .int x2]) [] h) (fun s κ2 hκ hz => ?_) FU (x1, x2, h) hz
  obtain ⟨x1, x2, h⟩ := s
  have hκ2 : ∀ (x1 : Int32) (x2 : Int32) (h : Hp), κ2 (x1, x2, h) = some z → Ends toGI 5 240 3 0 z 2 (spr (mtM 240) [0, 1, 2] [.ref 64, .int x1, .int x2]) [] h := fun x1 x2 h q => hκ (x1, x2, h) q
  exact exec_E OI_ok kc_Wa_priceByForgetting so_Wa_priceByForgetting (runF_E OI_ok kc_Wa_priceByForgetting so_Wa_priceByForgetting (List.forall_mem_cons.mpr ⟨(by
    intro L st h vs hp hf
    dsimp only at hf
    split at hf
    · split at hf
      · next hq9 =>
        have hq9 := Nat.eq_of_beq_eq_true hq9
        subst hq9
        exact Ends.at hp (hκ2 _ _ _ hf)
      · cases hf
    · cases hf), fun _ h => absurd h List.not_mem_nil⟩) 400) ((e_Wa_priceByForgetting_2  κ2 x1 x2 h).symm.trans hz)
set_option maxRecDepth 100000 in
theorem ok_Wa_priceByForgetting : ∀ as h z, sF_Wa_priceByForgetting as h = some z → Okm toGI 240 3 as h z := by
  intro as h z hz
  unfold sF_Wa_priceByForgetting at hz
  split at hz
  · next f0 x1 =>
    split at hz
    · next hq9 =>
      have hq9 := Nat.eq_of_beq_eq_true hq9
      subst hq9
      exact okm_of (own := 5) (rk := 0) (by decide +kernel) (by decide +kernel) (by omega) rfl (Nat.le_of_ble_eq_true rfl) (exec_E OI_ok kc_Wa_priceByForgetting so_Wa_priceByForgetting (runF_E OI_ok kc_Wa_priceByForgetting so_Wa_priceByForgetting (List.forall_mem_cons.mpr ⟨(by
          intro L st h vs hp hf
          dsimp only at hf
          split at hf
          · split at hf
            · next hq9 =>
              have hq9 := Nat.eq_of_beq_eq_true hq9
              subst hq9
              exact Ends.at hp (E_Wa_priceByForgetting_2 hf)
            · cases hf
          · cases hf), fun _ h => absurd h List.not_mem_nil⟩) 400) ((e_Wa_priceByForgetting_0 x1 h).symm.trans hz))
    · cases hz
  · cases hz
set_option maxRecDepth 100000 in
theorem kc_Wa_whoPay : k_Wa_whoPay.all (chkE 5 (mtC 247)) = true := by decide +kernel
theorem so_Wa_whoPay : SemOK toGI S_Wa_whoPay 2 := List.forall_mem_cons.mpr ⟨⟨mt_64, 1, by omega, ok_Bp_bit⟩, fun _ h => absurd h List.not_mem_nil⟩
set_option maxRecDepth 100000 in
theorem E_Wa_whoPay_4 {z : Option Value × Hp} {x1 : Int32} {x2 : Int32} {h : Hp} (hz : loopC (Wa_whoPay_4   ) FU (x1, x2, h) = some z) : Ends toGI 5 247 2 1 z 4 (spr (mtM 247) [0, 1, 2] [.ref 64, .int x1, .int x2]) [] h := by
  refine loop_E (b := Wa_whoPay_4   ) (P := fun s => match s with | (x1, x2, h) => Ends toGI 5 247 2 1 z 4 (spr (mtM 247) [0, 1, 2] [.ref 64, .int x1, .int x2]) [] h) (fun s κ4 hκ hz => ?_) FU (x1, x2, h) hz
  obtain ⟨x1, x2, h⟩ := s
  have hκ4 : ∀ (x1 : Int32) (x2 : Int32) (h : Hp), κ4 (x1, x2, h) = some z → Ends toGI 5 247 2 1 z 4 (spr (mtM 247) [0, 1, 2] [.ref 64, .int x1, .int x2]) [] h := fun x1 x2 h q => hκ (x1, x2, h) q
  exact exec_E OI_ok kc_Wa_whoPay so_Wa_whoPay (runF_E OI_ok kc_Wa_whoPay so_Wa_whoPay (List.forall_mem_cons.mpr ⟨(by
    intro L st h vs hp hf
    dsimp only at hf
    split at hf
    · split at hf
      · next hq9 =>
        have hq9 := Nat.eq_of_beq_eq_true hq9
        subst hq9
        exact Ends.at hp (hκ4 _ _ _ hf)
      · cases hf
    · cases hf), fun _ h => absurd h List.not_mem_nil⟩) 400) ((e_Wa_whoPay_4  κ4 x1 x2 h).symm.trans hz)
set_option maxRecDepth 100000 in
theorem ok_Wa_whoPay : ∀ as h z, sF_Wa_whoPay as h = some z → Okm toGI 247 2 as h z := by
  intro as h z hz
  unfold sF_Wa_whoPay at hz
  split at hz
  · next f0 =>
    split at hz
    · next hq9 =>
      have hq9 := Nat.eq_of_beq_eq_true hq9
      subst hq9
      exact okm_of (own := 5) (rk := 1) (by decide +kernel) (by decide +kernel) (by omega) rfl (Nat.le_of_ble_eq_true rfl) (exec_E OI_ok kc_Wa_whoPay so_Wa_whoPay (runF_E OI_ok kc_Wa_whoPay so_Wa_whoPay (List.forall_mem_cons.mpr ⟨(by
          intro L st h vs hp hf
          dsimp only at hf
          split at hf
          · split at hf
            · next hq9 =>
              have hq9 := Nat.eq_of_beq_eq_true hq9
              subst hq9
              exact Ends.at hp (E_Wa_whoPay_4 hf)
            · cases hf
          · cases hf), fun _ h => absurd h List.not_mem_nil⟩) 400) ((e_Wa_whoPay_0  h).symm.trans hz))
    · cases hz
  · cases hz
set_option maxRecDepth 100000 in
theorem kc_Wa_wholePrice : k_Wa_wholePrice.all (chkE 5 (mtC 246)) = true := by decide +kernel
theorem so_Wa_wholePrice : SemOK toGI S_Wa_wholePrice 1 := fun _ h => absurd h List.not_mem_nil
set_option maxRecDepth 100000 in
theorem E_Wa_wholePrice_4 {z : Option Value × Hp} {x1 : Int32} {x2 : Int32} {h : Hp} (hz : loopC (Wa_wholePrice_4   ) FU (x1, x2, h) = some z) : Ends toGI 5 246 1 1 z 4 (spr (mtM 246) [0, 1, 2] [.ref 64, .int x1, .int x2]) [] h := by
  refine loop_E (b := Wa_wholePrice_4   ) (P := fun s => match s with | (x1, x2, h) => Ends toGI 5 246 1 1 z 4 (spr (mtM 246) [0, 1, 2] [.ref 64, .int x1, .int x2]) [] h) (fun s κ4 hκ hz => ?_) FU (x1, x2, h) hz
  obtain ⟨x1, x2, h⟩ := s
  have hκ4 : ∀ (x1 : Int32) (x2 : Int32) (h : Hp), κ4 (x1, x2, h) = some z → Ends toGI 5 246 1 1 z 4 (spr (mtM 246) [0, 1, 2] [.ref 64, .int x1, .int x2]) [] h := fun x1 x2 h q => hκ (x1, x2, h) q
  exact exec_E OI_ok kc_Wa_wholePrice so_Wa_wholePrice (runF_E OI_ok kc_Wa_wholePrice so_Wa_wholePrice (List.forall_mem_cons.mpr ⟨(by
    intro L st h vs hp hf
    dsimp only at hf
    split at hf
    · split at hf
      · next hq9 =>
        have hq9 := Nat.eq_of_beq_eq_true hq9
        subst hq9
        exact Ends.at hp (hκ4 _ _ _ hf)
      · cases hf
    · cases hf), fun _ h => absurd h List.not_mem_nil⟩) 400) ((e_Wa_wholePrice_4  κ4 x1 x2 h).symm.trans hz)
set_option maxRecDepth 100000 in
theorem ok_Wa_wholePrice : ∀ as h z, sF_Wa_wholePrice as h = some z → Okm toGI 246 1 as h z := by
  intro as h z hz
  unfold sF_Wa_wholePrice at hz
  split at hz
  · next f0 =>
    split at hz
    · next hq9 =>
      have hq9 := Nat.eq_of_beq_eq_true hq9
      subst hq9
      exact okm_of (own := 5) (rk := 1) (by decide +kernel) (by decide +kernel) (by omega) rfl (Nat.le_of_ble_eq_true rfl) (exec_E OI_ok kc_Wa_wholePrice so_Wa_wholePrice (runF_E OI_ok kc_Wa_wholePrice so_Wa_wholePrice (List.forall_mem_cons.mpr ⟨(by
          intro L st h vs hp hf
          dsimp only at hf
          split at hf
          · split at hf
            · next hq9 =>
              have hq9 := Nat.eq_of_beq_eq_true hq9
              subst hq9
              exact Ends.at hp (E_Wa_wholePrice_4 hf)
            · cases hf
          · cases hf), fun _ h => absurd h List.not_mem_nil⟩) 400) ((e_Wa_wholePrice_0  h).symm.trans hz))
    · cases hz
  · cases hz
set_option maxRecDepth 100000 in
theorem kc_Bp_forget : k_Bp_forget.all (chkE 6 (mtC 32)) = true := by decide +kernel
theorem so_Bp_forget : SemOK toGI S_Bp_forget 5 := List.forall_mem_cons.mpr ⟨⟨mt_58, 2, by omega, ok_Bp_noPair⟩, List.forall_mem_cons.mpr ⟨⟨mt_56, 1, by omega, ok_Bp_noTongues⟩, List.forall_mem_cons.mpr ⟨⟨mt_240, 3, by omega, ok_Wa_priceByForgetting⟩, List.forall_mem_cons.mpr ⟨⟨mt_241, 4, by omega, ok_Wa_find⟩, List.forall_mem_cons.mpr ⟨⟨mt_247, 2, by omega, ok_Wa_whoPay⟩, List.forall_mem_cons.mpr ⟨⟨mt_246, 1, by omega, ok_Wa_wholePrice⟩, fun _ h => absurd h List.not_mem_nil⟩⟩⟩⟩⟩⟩
set_option maxRecDepth 100000 in
theorem ok_Bp_forget : ∀ as h z, sF_Bp_forget as h = some z → Okm toGI 32 5 as h z := by
  intro as h z hz
  unfold sF_Bp_forget at hz
  split at hz
  · next f0 x1 x2 x3 =>
    split at hz
    · next hq9 =>
      have hq9 := Nat.eq_of_beq_eq_true hq9
      subst hq9
      exact okm_of (own := 6) (rk := 1) (by decide +kernel) (by decide +kernel) (by omega) rfl (Nat.le_of_ble_eq_true rfl) (exec_E OI_ok kc_Bp_forget so_Bp_forget (runF_E OI_ok kc_Bp_forget so_Bp_forget (fun _ h => absurd h List.not_mem_nil) 400) ((e_Bp_forget_0 x1 x2 x3 h).symm.trans hz))
    · cases hz
  · cases hz
set_option maxRecDepth 100000 in
theorem kc_La_knowers : k_La_knowers.all (chkE 0 (mtC 181)) = true := by decide +kernel
theorem so_La_knowers : SemOK toGI S_La_knowers 2 := List.forall_mem_cons.mpr ⟨⟨mt_65, 1, by omega, ok_Bp_has⟩, List.forall_mem_cons.mpr ⟨⟨mt_64, 1, by omega, ok_Bp_bit⟩, fun _ h => absurd h List.not_mem_nil⟩⟩
set_option maxRecDepth 100000 in
theorem E_La_knowers_4 {z : Option Value × Hp} {o0 : Nat} {x1 : Int32} {x2 : Int32} {x3 : Int32} {h : Hp} (hz : loopC (La_knowers_4   ) FU (o0, x1, x2, x3, h) = some z) : Ends toGI 0 181 2 1 z 4 (spr (mtM 181) [0, 1, 2, 3] [.ref o0, .int x1, .int x2, .int x3]) [] h := by
  refine loop_E (b := La_knowers_4   ) (P := fun s => match s with | (o0, x1, x2, x3, h) => Ends toGI 0 181 2 1 z 4 (spr (mtM 181) [0, 1, 2, 3] [.ref o0, .int x1, .int x2, .int x3]) [] h) (fun s κ4 hκ hz => ?_) FU (o0, x1, x2, x3, h) hz
  obtain ⟨o0, x1, x2, x3, h⟩ := s
  have hκ4 : ∀ (o0 : Nat) (x1 : Int32) (x2 : Int32) (x3 : Int32) (h : Hp), κ4 (o0, x1, x2, x3, h) = some z → Ends toGI 0 181 2 1 z 4 (spr (mtM 181) [0, 1, 2, 3] [.ref o0, .int x1, .int x2, .int x3]) [] h := fun o0 x1 x2 x3 h q => hκ (o0, x1, x2, x3, h) q
  exact exec_E OI_ok kc_La_knowers so_La_knowers (runF_E OI_ok kc_La_knowers so_La_knowers (List.forall_mem_cons.mpr ⟨(by
    intro L st h vs hp hf
    dsimp only at hf
    split at hf
    · exact Ends.at hp (hκ4 _ _ _ _ _ hf)
    · cases hf), fun _ h => absurd h List.not_mem_nil⟩) 400) ((e_La_knowers_4  κ4 o0 x1 x2 x3 h).symm.trans hz)
set_option maxRecDepth 100000 in
theorem ok_La_knowers : ∀ as h z, sF_La_knowers as h = some z → Okm toGI 181 2 as h z := by
  intro as h z hz
  unfold sF_La_knowers at hz
  split at hz
  · next o0 x1 =>
    exact okm_of (own := 0) (rk := 1) (by decide +kernel) (by decide +kernel) (by omega) rfl (Nat.le_of_ble_eq_true rfl) (exec_E OI_ok kc_La_knowers so_La_knowers (runF_E OI_ok kc_La_knowers so_La_knowers (List.forall_mem_cons.mpr ⟨(by
          intro L st h vs hp hf
          dsimp only at hf
          split at hf
          · exact Ends.at hp (E_La_knowers_4 hf)
          · cases hf), fun _ h => absurd h List.not_mem_nil⟩) 400) ((e_La_knowers_0 o0 x1 h).symm.trans hz))
  · cases hz
set_option maxRecDepth 100000 in
theorem kc_Pa_writtenBy : k_Pa_writtenBy.all (chkE 2 (mtC 207)) = true := by decide +kernel
theorem so_Pa_writtenBy : SemOK toGI S_Pa_writtenBy 3 := List.forall_mem_cons.mpr ⟨⟨mt_65, 1, by omega, ok_Bp_has⟩, List.forall_mem_cons.mpr ⟨⟨mt_181, 2, by omega, ok_La_knowers⟩, List.forall_mem_cons.mpr ⟨⟨mt_64, 1, by omega, ok_Bp_bit⟩, fun _ h => absurd h List.not_mem_nil⟩⟩⟩
set_option maxRecDepth 100000 in
theorem ok_Pa_writtenBy : ∀ as h z, sF_Pa_writtenBy as h = some z → Okm toGI 207 3 as h z := by
  intro as h z hz
  unfold sF_Pa_writtenBy at hz
  split at hz
  · next f0 x1 x2 =>
    split at hz
    · next hq9 =>
      have hq9 := Nat.eq_of_beq_eq_true hq9
      subst hq9
      exact okm_of (own := 2) (rk := 1) (by decide +kernel) (by decide +kernel) (by omega) rfl (Nat.le_of_ble_eq_true rfl) (exec_E OI_ok kc_Pa_writtenBy so_Pa_writtenBy (runF_E OI_ok kc_Pa_writtenBy so_Pa_writtenBy (fun _ h => absurd h List.not_mem_nil) 400) ((e_Pa_writtenBy_0 x1 x2 h).symm.trans hz))
    · cases hz
  · cases hz
set_option maxRecDepth 100000 in
theorem kc_Pa_reachedBy : k_Pa_reachedBy.all (chkE 2 (mtC 208)) = true := by decide +kernel
theorem so_Pa_reachedBy : SemOK toGI S_Pa_reachedBy 4 := List.forall_mem_cons.mpr ⟨⟨mt_207, 3, by omega, ok_Pa_writtenBy⟩, List.forall_mem_cons.mpr ⟨⟨mt_64, 1, by omega, ok_Bp_bit⟩, List.forall_mem_cons.mpr ⟨⟨mt_233, 3, by omega, ok_Wa_carriers⟩, List.forall_mem_cons.mpr ⟨⟨mt_234, 3, by omega, ok_Wa_endsFrom⟩, fun _ h => absurd h List.not_mem_nil⟩⟩⟩⟩
set_option maxRecDepth 100000 in
theorem ok_Pa_reachedBy : ∀ as h z, sF_Pa_reachedBy as h = some z → Okm toGI 208 4 as h z := by
  intro as h z hz
  unfold sF_Pa_reachedBy at hz
  split at hz
  · next f0 x1 x2 =>
    split at hz
    · next hq9 =>
      have hq9 := Nat.eq_of_beq_eq_true hq9
      subst hq9
      exact okm_of (own := 2) (rk := 1) (by decide +kernel) (by decide +kernel) (by omega) rfl (Nat.le_of_ble_eq_true rfl) (exec_E OI_ok kc_Pa_reachedBy so_Pa_reachedBy (runF_E OI_ok kc_Pa_reachedBy so_Pa_reachedBy (fun _ h => absurd h List.not_mem_nil) 400) ((e_Pa_reachedBy_0 x1 x2 h).symm.trans hz))
    · cases hz
  · cases hz
set_option maxRecDepth 100000 in
theorem kc_Bp_reach : k_Bp_reach.all (chkE 6 (mtC 33)) = true := by decide +kernel
theorem so_Bp_reach : SemOK toGI S_Bp_reach 5 := List.forall_mem_cons.mpr ⟨⟨mt_175, 1, by omega, ok_La_lacks⟩, List.forall_mem_cons.mpr ⟨⟨mt_55, 1, by omega, ok_Bp_noTongue⟩, List.forall_mem_cons.mpr ⟨⟨mt_208, 4, by omega, ok_Pa_reachedBy⟩, fun _ h => absurd h List.not_mem_nil⟩⟩⟩
set_option maxRecDepth 100000 in
theorem ok_Bp_reach : ∀ as h z, sF_Bp_reach as h = some z → Okm toGI 33 5 as h z := by
  intro as h z hz
  unfold sF_Bp_reach at hz
  split at hz
  · next f0 x1 x2 =>
    split at hz
    · next hq9 =>
      have hq9 := Nat.eq_of_beq_eq_true hq9
      subst hq9
      exact okm_of (own := 6) (rk := 1) (by decide +kernel) (by decide +kernel) (by omega) rfl (Nat.le_of_ble_eq_true rfl) (exec_E OI_ok kc_Bp_reach so_Bp_reach (runF_E OI_ok kc_Bp_reach so_Bp_reach (fun _ h => absurd h List.not_mem_nil) 400) ((e_Bp_reach_0 x1 x2 h).symm.trans hz))
    · cases hz
  · cases hz
set_option maxRecDepth 100000 in
theorem kc_Pa_tally : k_Pa_tally.all (chkE 2 (mtC 209)) = true := by decide +kernel
theorem so_Pa_tally : SemOK toGI S_Pa_tally 5 := List.forall_mem_cons.mpr ⟨⟨mt_250, 1, by omega, ok_Jint_bitCount⟩, List.forall_mem_cons.mpr ⟨⟨mt_207, 3, by omega, ok_Pa_writtenBy⟩, List.forall_mem_cons.mpr ⟨⟨mt_208, 4, by omega, ok_Pa_reachedBy⟩, fun _ h => absurd h List.not_mem_nil⟩⟩⟩
set_option maxRecDepth 100000 in
theorem E_Pa_tally_30 {z : Option Value × Hp} {κ12 : (Int32 × Hp) → Res Hp} (hκ12 : ∀ (x1 : Int32) (h : Hp), κ12 (x1, h) = some z → Ends toGI 2 209 5 0 z 12 (spr (mtM 209) [0, 1] [.ref 68, .int x1]) [] h) {x1 : Int32} {x2 : Int32} {x3 : Int32} {x4 : Int32} {h : Hp} (hz : loopC (Pa_tally_30 κ12  ) FU (x1, x2, x3, x4, h) = some z) : Ends toGI 2 209 5 0 z 30 (spr (mtM 209) [0, 1, 2, 3, 4] [.ref 68, .int x1, .int x2, .int x3, .int x4]) [] h := by
  refine loop_E (b := Pa_tally_30 κ12  ) (P := fun s => match s with | (x1, x2, x3, x4, h) => Ends toGI 2 209 5 0 z 30 (spr (mtM 209) [0, 1, 2, 3, 4] [.ref 68, .int x1, .int x2, .int x3, .int x4]) [] h) (fun s κ30 hκ hz => ?_) FU (x1, x2, x3, x4, h) hz
  obtain ⟨x1, x2, x3, x4, h⟩ := s
  have hκ30 : ∀ (x1 : Int32) (x2 : Int32) (x3 : Int32) (x4 : Int32) (h : Hp), κ30 (x1, x2, x3, x4, h) = some z → Ends toGI 2 209 5 0 z 30 (spr (mtM 209) [0, 1, 2, 3, 4] [.ref 68, .int x1, .int x2, .int x3, .int x4]) [] h := fun x1 x2 x3 x4 h q => hκ (x1, x2, x3, x4, h) q
  exact exec_E OI_ok kc_Pa_tally so_Pa_tally (runF_E OI_ok kc_Pa_tally so_Pa_tally (List.forall_mem_cons.mpr ⟨(by
    intro L st h vs hp hf
    dsimp only at hf
    split at hf
    · split at hf
      · next hq9 =>
        have hq9 := Nat.eq_of_beq_eq_true hq9
        subst hq9
        exact Ends.at hp (hκ12 _ _ hf)
      · cases hf
    · cases hf), List.forall_mem_cons.mpr ⟨(by
    intro L st h vs hp hf
    dsimp only at hf
    split at hf
    · split at hf
      · next hq9 =>
        have hq9 := Nat.eq_of_beq_eq_true hq9
        subst hq9
        exact Ends.at hp (hκ30 _ _ _ _ _ hf)
      · cases hf
    · cases hf), fun _ h => absurd h List.not_mem_nil⟩⟩) 400) ((e_Pa_tally_30 κ12 κ30 x1 x2 x3 x4 h).symm.trans hz)
set_option maxRecDepth 100000 in
theorem E_Pa_tally_12 {z : Option Value × Hp} {x1 : Int32} {h : Hp} (hz : loopC (Pa_tally_12   ) FU (x1, h) = some z) : Ends toGI 2 209 5 0 z 12 (spr (mtM 209) [0, 1] [.ref 68, .int x1]) [] h := by
  refine loop_E (b := Pa_tally_12   ) (P := fun s => match s with | (x1, h) => Ends toGI 2 209 5 0 z 12 (spr (mtM 209) [0, 1] [.ref 68, .int x1]) [] h) (fun s κ12 hκ hz => ?_) FU (x1, h) hz
  obtain ⟨x1, h⟩ := s
  have hκ12 : ∀ (x1 : Int32) (h : Hp), κ12 (x1, h) = some z → Ends toGI 2 209 5 0 z 12 (spr (mtM 209) [0, 1] [.ref 68, .int x1]) [] h := fun x1 h q => hκ (x1, h) q
  exact exec_E OI_ok kc_Pa_tally so_Pa_tally (runF_E OI_ok kc_Pa_tally so_Pa_tally (List.forall_mem_cons.mpr ⟨(by
    intro L st h vs hp hf
    dsimp only at hf
    split at hf
    · split at hf
      · next hq9 =>
        have hq9 := Nat.eq_of_beq_eq_true hq9
        subst hq9
        exact Ends.at hp (E_Pa_tally_30 hκ12 hf)
      · cases hf
    · cases hf), fun _ h => absurd h List.not_mem_nil⟩) 400) ((e_Pa_tally_12  κ12 x1 h).symm.trans hz)
set_option maxRecDepth 100000 in
theorem ok_Pa_tally : ∀ as h z, sF_Pa_tally as h = some z → Okm toGI 209 5 as h z := by
  intro as h z hz
  unfold sF_Pa_tally at hz
  split at hz
  · next f0 =>
    split at hz
    · next hq9 =>
      have hq9 := Nat.eq_of_beq_eq_true hq9
      subst hq9
      exact okm_of (own := 2) (rk := 0) (by decide +kernel) (by decide +kernel) (by omega) rfl (Nat.le_of_ble_eq_true rfl) (exec_E OI_ok kc_Pa_tally so_Pa_tally (runF_E OI_ok kc_Pa_tally so_Pa_tally (List.forall_mem_cons.mpr ⟨(by
          intro L st h vs hp hf
          dsimp only at hf
          split at hf
          · split at hf
            · next hq9 =>
              have hq9 := Nat.eq_of_beq_eq_true hq9
              subst hq9
              exact Ends.at hp (E_Pa_tally_12 hf)
            · cases hf
          · cases hf), fun _ h => absurd h List.not_mem_nil⟩) 400) ((e_Pa_tally_0  h).symm.trans hz))
    · cases hz
  · cases hz
set_option maxRecDepth 100000 in
theorem kc_Bp_cutOff : k_Bp_cutOff.all (chkE 6 (mtC 34)) = true := by decide +kernel
theorem so_Bp_cutOff : SemOK toGI S_Bp_cutOff 6 := List.forall_mem_cons.mpr ⟨⟨mt_209, 5, by omega, ok_Pa_tally⟩, fun _ h => absurd h List.not_mem_nil⟩
set_option maxRecDepth 100000 in
theorem ok_Bp_cutOff : ∀ as h z, sF_Bp_cutOff as h = some z → Okm toGI 34 6 as h z := by
  intro as h z hz
  unfold sF_Bp_cutOff at hz
  split at hz
  · next f0 =>
    split at hz
    · next hq9 =>
      have hq9 := Nat.eq_of_beq_eq_true hq9
      subst hq9
      exact okm_of (own := 6) (rk := 1) (by decide +kernel) (by decide +kernel) (by omega) rfl (Nat.le_of_ble_eq_true rfl) (exec_E OI_ok kc_Bp_cutOff so_Bp_cutOff (runF_E OI_ok kc_Bp_cutOff so_Bp_cutOff (fun _ h => absurd h List.not_mem_nil) 400) ((e_Bp_cutOff_0  h).symm.trans hz))
    · cases hz
  · cases hz
set_option maxRecDepth 100000 in
theorem kc_Pa_cutIfKnown : k_Pa_cutIfKnown.all (chkE 2 (mtC 210)) = true := by decide +kernel
theorem so_Pa_cutIfKnown : SemOK toGI S_Pa_cutIfKnown 6 := List.forall_mem_cons.mpr ⟨⟨mt_64, 1, by omega, ok_Bp_bit⟩, List.forall_mem_cons.mpr ⟨⟨mt_209, 5, by omega, ok_Pa_tally⟩, fun _ h => absurd h List.not_mem_nil⟩⟩
set_option maxRecDepth 100000 in
theorem ok_Pa_cutIfKnown : ∀ as h z, sF_Pa_cutIfKnown as h = some z → Okm toGI 210 6 as h z := by
  intro as h z hz
  unfold sF_Pa_cutIfKnown at hz
  split at hz
  · next f0 x1 x2 =>
    split at hz
    · next hq9 =>
      have hq9 := Nat.eq_of_beq_eq_true hq9
      subst hq9
      exact okm_of (own := 2) (rk := 1) (by decide +kernel) (by decide +kernel) (by omega) rfl (Nat.le_of_ble_eq_true rfl) (exec_E OI_ok kc_Pa_cutIfKnown so_Pa_cutIfKnown (runF_E OI_ok kc_Pa_cutIfKnown so_Pa_cutIfKnown (fun _ h => absurd h List.not_mem_nil) 400) ((e_Pa_cutIfKnown_0 x1 x2 h).symm.trans hz))
    · cases hz
  · cases hz
set_option maxRecDepth 100000 in
theorem kc_Bp_taught : k_Bp_taught.all (chkE 6 (mtC 35)) = true := by decide +kernel
theorem so_Bp_taught : SemOK toGI S_Bp_taught 7 := List.forall_mem_cons.mpr ⟨⟨mt_175, 1, by omega, ok_La_lacks⟩, List.forall_mem_cons.mpr ⟨⟨mt_55, 1, by omega, ok_Bp_noTongue⟩, List.forall_mem_cons.mpr ⟨⟨mt_209, 5, by omega, ok_Pa_tally⟩, List.forall_mem_cons.mpr ⟨⟨mt_210, 6, by omega, ok_Pa_cutIfKnown⟩, List.forall_mem_cons.mpr ⟨⟨mt_51, 1, by omega, ok_Bp_tell⟩, fun _ h => absurd h List.not_mem_nil⟩⟩⟩⟩⟩
set_option maxRecDepth 100000 in
theorem ok_Bp_taught : ∀ as h z, sF_Bp_taught as h = some z → Okm toGI 35 7 as h z := by
  intro as h z hz
  unfold sF_Bp_taught at hz
  split at hz
  · next f0 x1 x2 =>
    split at hz
    · next hq9 =>
      have hq9 := Nat.eq_of_beq_eq_true hq9
      subst hq9
      exact okm_of (own := 6) (rk := 1) (by decide +kernel) (by decide +kernel) (by omega) rfl (Nat.le_of_ble_eq_true rfl) (exec_E OI_ok kc_Bp_taught so_Bp_taught (runF_E OI_ok kc_Bp_taught so_Bp_taught (fun _ h => absurd h List.not_mem_nil) 400) ((e_Bp_taught_0 x1 x2 h).symm.trans hz))
    · cases hz
  · cases hz
set_option maxRecDepth 100000 in
theorem kc_Bp_best : k_Bp_best.all (chkE 6 (mtC 36)) = true := by decide +kernel
theorem so_Bp_best : SemOK toGI S_Bp_best 7 := List.forall_mem_cons.mpr ⟨⟨mt_65, 1, by omega, ok_Bp_has⟩, List.forall_mem_cons.mpr ⟨⟨mt_210, 6, by omega, ok_Pa_cutIfKnown⟩, fun _ h => absurd h List.not_mem_nil⟩⟩
set_option maxRecDepth 100000 in
theorem E_Bp_best_22 {z : Option Value × Hp} {κ8 : (Int32 × Int32 × Int32 × Hp) → Res Hp} (hκ8 : ∀ (x1 : Int32) (x2 : Int32) (x3 : Int32) (h : Hp), κ8 (x1, x2, x3, h) = some z → Ends toGI 6 36 7 1 z 8 (spr (mtM 36) [0, 1, 2, 3] [.ref 0, .int x1, .int x2, .int x3]) [] h) {x1 : Int32} {x2 : Int32} {x3 : Int32} {x4 : Int32} {h : Hp} (hz : loopC (Bp_best_22 κ8  ) FU (x1, x2, x3, x4, h) = some z) : Ends toGI 6 36 7 1 z 22 (spr (mtM 36) [0, 1, 2, 3, 4] [.ref 0, .int x1, .int x2, .int x3, .int x4]) [] h := by
  refine loop_E (b := Bp_best_22 κ8  ) (P := fun s => match s with | (x1, x2, x3, x4, h) => Ends toGI 6 36 7 1 z 22 (spr (mtM 36) [0, 1, 2, 3, 4] [.ref 0, .int x1, .int x2, .int x3, .int x4]) [] h) (fun s κ22 hκ hz => ?_) FU (x1, x2, x3, x4, h) hz
  obtain ⟨x1, x2, x3, x4, h⟩ := s
  have hκ22 : ∀ (x1 : Int32) (x2 : Int32) (x3 : Int32) (x4 : Int32) (h : Hp), κ22 (x1, x2, x3, x4, h) = some z → Ends toGI 6 36 7 1 z 22 (spr (mtM 36) [0, 1, 2, 3, 4] [.ref 0, .int x1, .int x2, .int x3, .int x4]) [] h := fun x1 x2 x3 x4 h q => hκ (x1, x2, x3, x4, h) q
  exact exec_E OI_ok kc_Bp_best so_Bp_best (runF_E OI_ok kc_Bp_best so_Bp_best (List.forall_mem_cons.mpr ⟨(by
    intro L st h vs hp hf
    dsimp only at hf
    split at hf
    · split at hf
      · next hq9 =>
        have hq9 := Nat.eq_of_beq_eq_true hq9
        subst hq9
        exact Ends.at hp (hκ8 _ _ _ _ hf)
      · cases hf
    · cases hf), List.forall_mem_cons.mpr ⟨(by
    intro L st h vs hp hf
    dsimp only at hf
    split at hf
    · split at hf
      · next hq9 =>
        have hq9 := Nat.eq_of_beq_eq_true hq9
        subst hq9
        exact Ends.at hp (hκ22 _ _ _ _ _ hf)
      · cases hf
    · cases hf), fun _ h => absurd h List.not_mem_nil⟩⟩) 400) ((e_Bp_best_22 κ8 κ22 x1 x2 x3 x4 h).symm.trans hz)
set_option maxRecDepth 100000 in
theorem E_Bp_best_8 {z : Option Value × Hp} {x1 : Int32} {x2 : Int32} {x3 : Int32} {h : Hp} (hz : loopC (Bp_best_8   ) FU (x1, x2, x3, h) = some z) : Ends toGI 6 36 7 1 z 8 (spr (mtM 36) [0, 1, 2, 3] [.ref 0, .int x1, .int x2, .int x3]) [] h := by
  refine loop_E (b := Bp_best_8   ) (P := fun s => match s with | (x1, x2, x3, h) => Ends toGI 6 36 7 1 z 8 (spr (mtM 36) [0, 1, 2, 3] [.ref 0, .int x1, .int x2, .int x3]) [] h) (fun s κ8 hκ hz => ?_) FU (x1, x2, x3, h) hz
  obtain ⟨x1, x2, x3, h⟩ := s
  have hκ8 : ∀ (x1 : Int32) (x2 : Int32) (x3 : Int32) (h : Hp), κ8 (x1, x2, x3, h) = some z → Ends toGI 6 36 7 1 z 8 (spr (mtM 36) [0, 1, 2, 3] [.ref 0, .int x1, .int x2, .int x3]) [] h := fun x1 x2 x3 h q => hκ (x1, x2, x3, h) q
  exact exec_E OI_ok kc_Bp_best so_Bp_best (runF_E OI_ok kc_Bp_best so_Bp_best (List.forall_mem_cons.mpr ⟨(by
    intro L st h vs hp hf
    dsimp only at hf
    split at hf
    · split at hf
      · next hq9 =>
        have hq9 := Nat.eq_of_beq_eq_true hq9
        subst hq9
        exact Ends.at hp (E_Bp_best_22 hκ8 hf)
      · cases hf
    · cases hf), fun _ h => absurd h List.not_mem_nil⟩) 400) ((e_Bp_best_8  κ8 x1 x2 x3 h).symm.trans hz)
set_option maxRecDepth 100000 in
theorem ok_Bp_best : ∀ as h z, sF_Bp_best as h = some z → Okm toGI 36 7 as h z := by
  intro as h z hz
  unfold sF_Bp_best at hz
  split at hz
  · next f0 =>
    split at hz
    · next hq9 =>
      have hq9 := Nat.eq_of_beq_eq_true hq9
      subst hq9
      exact okm_of (own := 6) (rk := 1) (by decide +kernel) (by decide +kernel) (by omega) rfl (Nat.le_of_ble_eq_true rfl) (exec_E OI_ok kc_Bp_best so_Bp_best (runF_E OI_ok kc_Bp_best so_Bp_best (List.forall_mem_cons.mpr ⟨(by
          intro L st h vs hp hf
          dsimp only at hf
          split at hf
          · split at hf
            · next hq9 =>
              have hq9 := Nat.eq_of_beq_eq_true hq9
              subst hq9
              exact Ends.at hp (E_Bp_best_8 hf)
            · cases hf
          · cases hf), fun _ h => absurd h List.not_mem_nil⟩) 400) ((e_Bp_best_0  h).symm.trans hz))
    · cases hz
  · cases hz
set_option maxRecDepth 100000 in
theorem kc_Pa_lostWithout : k_Pa_lostWithout.all (chkE 2 (mtC 211)) = true := by decide +kernel
theorem so_Pa_lostWithout : SemOK toGI S_Pa_lostWithout 5 := List.forall_mem_cons.mpr ⟨⟨mt_64, 1, by omega, ok_Bp_bit⟩, List.forall_mem_cons.mpr ⟨⟨mt_233, 3, by omega, ok_Wa_carriers⟩, List.forall_mem_cons.mpr ⟨⟨mt_208, 4, by omega, ok_Pa_reachedBy⟩, List.forall_mem_cons.mpr ⟨⟨mt_234, 3, by omega, ok_Wa_endsFrom⟩, List.forall_mem_cons.mpr ⟨⟨mt_250, 1, by omega, ok_Jint_bitCount⟩, fun _ h => absurd h List.not_mem_nil⟩⟩⟩⟩⟩
set_option maxRecDepth 100000 in
theorem E_Pa_lostWithout_25 {z : Option Value × Hp} {κ4 : (Int32 × Int32 × Int32 × Hp) → Res Hp} (hκ4 : ∀ (x1 : Int32) (x2 : Int32) (x3 : Int32) (h : Hp), κ4 (x1, x2, x3, h) = some z → Ends toGI 2 211 5 1 z 4 (spr (mtM 211) [0, 1, 2, 3] [.ref 68, .int x1, .int x2, .int x3]) [] h) {x1 : Int32} {x2 : Int32} {x3 : Int32} {x4 : Int32} {x5 : Int32} {h : Hp} (hz : loopC (Pa_lostWithout_25 κ4  ) FU (x1, x2, x3, x4, x5, h) = some z) : Ends toGI 2 211 5 1 z 25 (spr (mtM 211) [0, 1, 2, 3, 4, 5] [.ref 68, .int x1, .int x2, .int x3, .int x4, .int x5]) [] h := by
  refine loop_E (b := Pa_lostWithout_25 κ4  ) (P := fun s => match s with | (x1, x2, x3, x4, x5, h) => Ends toGI 2 211 5 1 z 25 (spr (mtM 211) [0, 1, 2, 3, 4, 5] [.ref 68, .int x1, .int x2, .int x3, .int x4, .int x5]) [] h) (fun s κ25 hκ hz => ?_) FU (x1, x2, x3, x4, x5, h) hz
  obtain ⟨x1, x2, x3, x4, x5, h⟩ := s
  have hκ25 : ∀ (x1 : Int32) (x2 : Int32) (x3 : Int32) (x4 : Int32) (x5 : Int32) (h : Hp), κ25 (x1, x2, x3, x4, x5, h) = some z → Ends toGI 2 211 5 1 z 25 (spr (mtM 211) [0, 1, 2, 3, 4, 5] [.ref 68, .int x1, .int x2, .int x3, .int x4, .int x5]) [] h := fun x1 x2 x3 x4 x5 h q => hκ (x1, x2, x3, x4, x5, h) q
  exact exec_E OI_ok kc_Pa_lostWithout so_Pa_lostWithout (runF_E OI_ok kc_Pa_lostWithout so_Pa_lostWithout (List.forall_mem_cons.mpr ⟨(by
    intro L st h vs hp hf
    dsimp only at hf
    split at hf
    · split at hf
      · next hq9 =>
        have hq9 := Nat.eq_of_beq_eq_true hq9
        subst hq9
        exact Ends.at hp (hκ4 _ _ _ _ hf)
      · cases hf
    · cases hf), List.forall_mem_cons.mpr ⟨(by
    intro L st h vs hp hf
    dsimp only at hf
    split at hf
    · split at hf
      · next hq9 =>
        have hq9 := Nat.eq_of_beq_eq_true hq9
        subst hq9
        exact Ends.at hp (hκ25 _ _ _ _ _ _ hf)
      · cases hf
    · cases hf), fun _ h => absurd h List.not_mem_nil⟩⟩) 400) ((e_Pa_lostWithout_25 κ4 κ25 x1 x2 x3 x4 x5 h).symm.trans hz)
set_option maxRecDepth 100000 in
theorem E_Pa_lostWithout_4 {z : Option Value × Hp} {x1 : Int32} {x2 : Int32} {x3 : Int32} {h : Hp} (hz : loopC (Pa_lostWithout_4   ) FU (x1, x2, x3, h) = some z) : Ends toGI 2 211 5 1 z 4 (spr (mtM 211) [0, 1, 2, 3] [.ref 68, .int x1, .int x2, .int x3]) [] h := by
  refine loop_E (b := Pa_lostWithout_4   ) (P := fun s => match s with | (x1, x2, x3, h) => Ends toGI 2 211 5 1 z 4 (spr (mtM 211) [0, 1, 2, 3] [.ref 68, .int x1, .int x2, .int x3]) [] h) (fun s κ4 hκ hz => ?_) FU (x1, x2, x3, h) hz
  obtain ⟨x1, x2, x3, h⟩ := s
  have hκ4 : ∀ (x1 : Int32) (x2 : Int32) (x3 : Int32) (h : Hp), κ4 (x1, x2, x3, h) = some z → Ends toGI 2 211 5 1 z 4 (spr (mtM 211) [0, 1, 2, 3] [.ref 68, .int x1, .int x2, .int x3]) [] h := fun x1 x2 x3 h q => hκ (x1, x2, x3, h) q
  exact exec_E OI_ok kc_Pa_lostWithout so_Pa_lostWithout (runF_E OI_ok kc_Pa_lostWithout so_Pa_lostWithout (List.forall_mem_cons.mpr ⟨(by
    intro L st h vs hp hf
    dsimp only at hf
    split at hf
    · split at hf
      · next hq9 =>
        have hq9 := Nat.eq_of_beq_eq_true hq9
        subst hq9
        exact Ends.at hp (E_Pa_lostWithout_25 hκ4 hf)
      · cases hf
    · cases hf), fun _ h => absurd h List.not_mem_nil⟩) 400) ((e_Pa_lostWithout_4  κ4 x1 x2 x3 h).symm.trans hz)
set_option maxRecDepth 100000 in
theorem ok_Pa_lostWithout : ∀ as h z, sF_Pa_lostWithout as h = some z → Okm toGI 211 5 as h z := by
  intro as h z hz
  unfold sF_Pa_lostWithout at hz
  split at hz
  · next f0 x1 =>
    split at hz
    · next hq9 =>
      have hq9 := Nat.eq_of_beq_eq_true hq9
      subst hq9
      exact okm_of (own := 2) (rk := 1) (by decide +kernel) (by decide +kernel) (by omega) rfl (Nat.le_of_ble_eq_true rfl) (exec_E OI_ok kc_Pa_lostWithout so_Pa_lostWithout (runF_E OI_ok kc_Pa_lostWithout so_Pa_lostWithout (List.forall_mem_cons.mpr ⟨(by
          intro L st h vs hp hf
          dsimp only at hf
          split at hf
          · split at hf
            · next hq9 =>
              have hq9 := Nat.eq_of_beq_eq_true hq9
              subst hq9
              exact Ends.at hp (E_Pa_lostWithout_4 hf)
            · cases hf
          · cases hf), fun _ h => absurd h List.not_mem_nil⟩) 400) ((e_Pa_lostWithout_0 x1 h).symm.trans hz))
    · cases hz
  · cases hz
set_option maxRecDepth 100000 in
theorem kc_Bp_worth : k_Bp_worth.all (chkE 6 (mtC 37)) = true := by decide +kernel
theorem so_Bp_worth : SemOK toGI S_Bp_worth 6 := List.forall_mem_cons.mpr ⟨⟨mt_175, 1, by omega, ok_La_lacks⟩, List.forall_mem_cons.mpr ⟨⟨mt_211, 5, by omega, ok_Pa_lostWithout⟩, fun _ h => absurd h List.not_mem_nil⟩⟩
set_option maxRecDepth 100000 in
theorem ok_Bp_worth : ∀ as h z, sF_Bp_worth as h = some z → Okm toGI 37 6 as h z := by
  intro as h z hz
  unfold sF_Bp_worth at hz
  split at hz
  · next f0 x1 =>
    split at hz
    · next hq9 =>
      have hq9 := Nat.eq_of_beq_eq_true hq9
      subst hq9
      exact okm_of (own := 6) (rk := 1) (by decide +kernel) (by decide +kernel) (by omega) rfl (Nat.le_of_ble_eq_true rfl) (exec_E OI_ok kc_Bp_worth so_Bp_worth (runF_E OI_ok kc_Bp_worth so_Bp_worth (fun _ h => absurd h List.not_mem_nil) 400) ((e_Bp_worth_0 x1 h).symm.trans hz))
    · cases hz
  · cases hz
set_option maxRecDepth 100000 in
theorem kc_Pa_tonguesTo : k_Pa_tonguesTo.all (chkE 2 (mtC 214)) = true := by decide +kernel
theorem so_Pa_tonguesTo : SemOK toGI S_Pa_tonguesTo 2 := List.forall_mem_cons.mpr ⟨⟨mt_65, 1, by omega, ok_Bp_has⟩, List.forall_mem_cons.mpr ⟨⟨mt_64, 1, by omega, ok_Bp_bit⟩, fun _ h => absurd h List.not_mem_nil⟩⟩
set_option maxRecDepth 100000 in
theorem E_Pa_tonguesTo_4 {z : Option Value × Hp} {x1 : Int32} {x2 : Int32} {x3 : Int32} {h : Hp} (hz : loopC (Pa_tonguesTo_4   ) FU (x1, x2, x3, h) = some z) : Ends toGI 2 214 2 1 z 4 (spr (mtM 214) [0, 1, 2, 3] [.ref 68, .int x1, .int x2, .int x3]) [] h := by
  refine loop_E (b := Pa_tonguesTo_4   ) (P := fun s => match s with | (x1, x2, x3, h) => Ends toGI 2 214 2 1 z 4 (spr (mtM 214) [0, 1, 2, 3] [.ref 68, .int x1, .int x2, .int x3]) [] h) (fun s κ4 hκ hz => ?_) FU (x1, x2, x3, h) hz
  obtain ⟨x1, x2, x3, h⟩ := s
  have hκ4 : ∀ (x1 : Int32) (x2 : Int32) (x3 : Int32) (h : Hp), κ4 (x1, x2, x3, h) = some z → Ends toGI 2 214 2 1 z 4 (spr (mtM 214) [0, 1, 2, 3] [.ref 68, .int x1, .int x2, .int x3]) [] h := fun x1 x2 x3 h q => hκ (x1, x2, x3, h) q
  exact exec_E OI_ok kc_Pa_tonguesTo so_Pa_tonguesTo (runF_E OI_ok kc_Pa_tonguesTo so_Pa_tonguesTo (List.forall_mem_cons.mpr ⟨(by
    intro L st h vs hp hf
    dsimp only at hf
    split at hf
    · split at hf
      · next hq9 =>
        have hq9 := Nat.eq_of_beq_eq_true hq9
        subst hq9
        exact Ends.at hp (hκ4 _ _ _ _ hf)
      · cases hf
    · cases hf), fun _ h => absurd h List.not_mem_nil⟩) 400) ((e_Pa_tonguesTo_4  κ4 x1 x2 x3 h).symm.trans hz)
set_option maxRecDepth 100000 in
theorem ok_Pa_tonguesTo : ∀ as h z, sF_Pa_tonguesTo as h = some z → Okm toGI 214 2 as h z := by
  intro as h z hz
  unfold sF_Pa_tonguesTo at hz
  split at hz
  · next f0 x1 =>
    split at hz
    · next hq9 =>
      have hq9 := Nat.eq_of_beq_eq_true hq9
      subst hq9
      exact okm_of (own := 2) (rk := 1) (by decide +kernel) (by decide +kernel) (by omega) rfl (Nat.le_of_ble_eq_true rfl) (exec_E OI_ok kc_Pa_tonguesTo so_Pa_tonguesTo (runF_E OI_ok kc_Pa_tonguesTo so_Pa_tonguesTo (List.forall_mem_cons.mpr ⟨(by
          intro L st h vs hp hf
          dsimp only at hf
          split at hf
          · split at hf
            · next hq9 =>
              have hq9 := Nat.eq_of_beq_eq_true hq9
              subst hq9
              exact Ends.at hp (E_Pa_tonguesTo_4 hf)
            · cases hf
          · cases hf), fun _ h => absurd h List.not_mem_nil⟩) 400) ((e_Pa_tonguesTo_0 x1 h).symm.trans hz))
    · cases hz
  · cases hz
set_option maxRecDepth 100000 in
theorem kc_Pa_choicesOfPairs : k_Pa_choicesOfPairs.all (chkE 2 (mtC 213)) = true := by decide +kernel
theorem so_Pa_choicesOfPairs : SemOK toGI S_Pa_choicesOfPairs 5 := List.forall_mem_cons.mpr ⟨⟨mt_214, 2, by omega, ok_Pa_tonguesTo⟩, List.forall_mem_cons.mpr ⟨⟨mt_64, 1, by omega, ok_Bp_bit⟩, List.forall_mem_cons.mpr ⟨⟨mt_208, 4, by omega, ok_Pa_reachedBy⟩, fun _ h => absurd h List.not_mem_nil⟩⟩⟩
set_option maxRecDepth 100000 in
theorem E_Pa_choicesOfPairs_42 {z : Option Value × Hp} {κ4 : (Int32 × Int32 × Hp) → Res Hp} (hκ4 : ∀ (x1 : Int32) (x2 : Int32) (h : Hp), κ4 (x1, x2, h) = some z → Ends toGI 2 213 5 1 z 4 (spr (mtM 213) [0, 1, 2] [.ref 68, .int x1, .int x2]) [] h) {x1 : Int32} {x2 : Int32} {x3 : Int32} {h : Hp} (hz : loopC (Pa_choicesOfPairs_42 κ4  ) FU (x1, x2, x3, h) = some z) : Ends toGI 2 213 5 1 z 42 (spr (mtM 213) [0, 1, 2, 3] [.ref 68, .int x1, .int x2, .int x3]) [] h := by
  refine loop_E (b := Pa_choicesOfPairs_42 κ4  ) (P := fun s => match s with | (x1, x2, x3, h) => Ends toGI 2 213 5 1 z 42 (spr (mtM 213) [0, 1, 2, 3] [.ref 68, .int x1, .int x2, .int x3]) [] h) (fun s κ42 hκ hz => ?_) FU (x1, x2, x3, h) hz
  obtain ⟨x1, x2, x3, h⟩ := s
  have hκ42 : ∀ (x1 : Int32) (x2 : Int32) (x3 : Int32) (h : Hp), κ42 (x1, x2, x3, h) = some z → Ends toGI 2 213 5 1 z 42 (spr (mtM 213) [0, 1, 2, 3] [.ref 68, .int x1, .int x2, .int x3]) [] h := fun x1 x2 x3 h q => hκ (x1, x2, x3, h) q
  exact exec_E OI_ok kc_Pa_choicesOfPairs so_Pa_choicesOfPairs (runF_E OI_ok kc_Pa_choicesOfPairs so_Pa_choicesOfPairs (List.forall_mem_cons.mpr ⟨(by
    intro L st h vs hp hf
    dsimp only at hf
    split at hf
    · split at hf
      · next hq9 =>
        have hq9 := Nat.eq_of_beq_eq_true hq9
        subst hq9
        exact Ends.at hp (hκ4 _ _ _ hf)
      · cases hf
    · cases hf), List.forall_mem_cons.mpr ⟨(by
    intro L st h vs hp hf
    dsimp only at hf
    split at hf
    · split at hf
      · next hq9 =>
        have hq9 := Nat.eq_of_beq_eq_true hq9
        subst hq9
        exact Ends.at hp (hκ42 _ _ _ _ hf)
      · cases hf
    · cases hf), fun _ h => absurd h List.not_mem_nil⟩⟩) 400) ((e_Pa_choicesOfPairs_42 κ4 κ42 x1 x2 x3 h).symm.trans hz)
set_option maxRecDepth 100000 in
theorem E_Pa_choicesOfPairs_17 {z : Option Value × Hp} {κ4 : (Int32 × Int32 × Hp) → Res Hp} (hκ4 : ∀ (x1 : Int32) (x2 : Int32) (h : Hp), κ4 (x1, x2, h) = some z → Ends toGI 2 213 5 1 z 4 (spr (mtM 213) [0, 1, 2] [.ref 68, .int x1, .int x2]) [] h) {x1 : Int32} {x2 : Int32} {x3 : Int32} {h : Hp} (hz : loopC (Pa_choicesOfPairs_17 κ4  ) FU (x1, x2, x3, h) = some z) : Ends toGI 2 213 5 1 z 17 (spr (mtM 213) [0, 1, 2, 3] [.ref 68, .int x1, .int x2, .int x3]) [] h := by
  refine loop_E (b := Pa_choicesOfPairs_17 κ4  ) (P := fun s => match s with | (x1, x2, x3, h) => Ends toGI 2 213 5 1 z 17 (spr (mtM 213) [0, 1, 2, 3] [.ref 68, .int x1, .int x2, .int x3]) [] h) (fun s κ17 hκ hz => ?_) FU (x1, x2, x3, h) hz
  obtain ⟨x1, x2, x3, h⟩ := s
  have hκ17 : ∀ (x1 : Int32) (x2 : Int32) (x3 : Int32) (h : Hp), κ17 (x1, x2, x3, h) = some z → Ends toGI 2 213 5 1 z 17 (spr (mtM 213) [0, 1, 2, 3] [.ref 68, .int x1, .int x2, .int x3]) [] h := fun x1 x2 x3 h q => hκ (x1, x2, x3, h) q
  exact exec_E OI_ok kc_Pa_choicesOfPairs so_Pa_choicesOfPairs (runF_E OI_ok kc_Pa_choicesOfPairs so_Pa_choicesOfPairs (List.forall_mem_cons.mpr ⟨(by
    intro L st h vs hp hf
    dsimp only at hf
    split at hf
    · split at hf
      · next hq9 =>
        have hq9 := Nat.eq_of_beq_eq_true hq9
        subst hq9
        exact Ends.at hp (E_Pa_choicesOfPairs_42 hκ4 hf)
      · cases hf
    · cases hf), List.forall_mem_cons.mpr ⟨(by
    intro L st h vs hp hf
    dsimp only at hf
    split at hf
    · split at hf
      · next hq9 =>
        have hq9 := Nat.eq_of_beq_eq_true hq9
        subst hq9
        exact Ends.at hp (hκ17 _ _ _ _ hf)
      · cases hf
    · cases hf), fun _ h => absurd h List.not_mem_nil⟩⟩) 400) ((e_Pa_choicesOfPairs_17 κ4 κ17 x1 x2 x3 h).symm.trans hz)
set_option maxRecDepth 100000 in
theorem E_Pa_choicesOfPairs_4 {z : Option Value × Hp} {x1 : Int32} {x2 : Int32} {h : Hp} (hz : loopC (Pa_choicesOfPairs_4   ) FU (x1, x2, h) = some z) : Ends toGI 2 213 5 1 z 4 (spr (mtM 213) [0, 1, 2] [.ref 68, .int x1, .int x2]) [] h := by
  refine loop_E (b := Pa_choicesOfPairs_4   ) (P := fun s => match s with | (x1, x2, h) => Ends toGI 2 213 5 1 z 4 (spr (mtM 213) [0, 1, 2] [.ref 68, .int x1, .int x2]) [] h) (fun s κ4 hκ hz => ?_) FU (x1, x2, h) hz
  obtain ⟨x1, x2, h⟩ := s
  have hκ4 : ∀ (x1 : Int32) (x2 : Int32) (h : Hp), κ4 (x1, x2, h) = some z → Ends toGI 2 213 5 1 z 4 (spr (mtM 213) [0, 1, 2] [.ref 68, .int x1, .int x2]) [] h := fun x1 x2 h q => hκ (x1, x2, h) q
  exact exec_E OI_ok kc_Pa_choicesOfPairs so_Pa_choicesOfPairs (runF_E OI_ok kc_Pa_choicesOfPairs so_Pa_choicesOfPairs (List.forall_mem_cons.mpr ⟨(by
    intro L st h vs hp hf
    dsimp only at hf
    split at hf
    · split at hf
      · next hq9 =>
        have hq9 := Nat.eq_of_beq_eq_true hq9
        subst hq9
        exact Ends.at hp (E_Pa_choicesOfPairs_17 hκ4 hf)
      · cases hf
    · cases hf), fun _ h => absurd h List.not_mem_nil⟩) 400) ((e_Pa_choicesOfPairs_4  κ4 x1 x2 h).symm.trans hz)
set_option maxRecDepth 100000 in
theorem ok_Pa_choicesOfPairs : ∀ as h z, sF_Pa_choicesOfPairs as h = some z → Okm toGI 213 5 as h z := by
  intro as h z hz
  unfold sF_Pa_choicesOfPairs at hz
  split at hz
  · next f0 =>
    split at hz
    · next hq9 =>
      have hq9 := Nat.eq_of_beq_eq_true hq9
      subst hq9
      exact okm_of (own := 2) (rk := 1) (by decide +kernel) (by decide +kernel) (by omega) rfl (Nat.le_of_ble_eq_true rfl) (exec_E OI_ok kc_Pa_choicesOfPairs so_Pa_choicesOfPairs (runF_E OI_ok kc_Pa_choicesOfPairs so_Pa_choicesOfPairs (List.forall_mem_cons.mpr ⟨(by
          intro L st h vs hp hf
          dsimp only at hf
          split at hf
          · split at hf
            · next hq9 =>
              have hq9 := Nat.eq_of_beq_eq_true hq9
              subst hq9
              exact Ends.at hp (E_Pa_choicesOfPairs_4 hf)
            · cases hf
          · cases hf), fun _ h => absurd h List.not_mem_nil⟩) 400) ((e_Pa_choicesOfPairs_0  h).symm.trans hz))
    · cases hz
  · cases hz
set_option maxRecDepth 100000 in
theorem kc_Pa_meetsEach : k_Pa_meetsEach.all (chkE 2 (mtC 215)) = true := by decide +kernel
theorem so_Pa_meetsEach : SemOK toGI S_Pa_meetsEach 1 := fun _ h => absurd h List.not_mem_nil
set_option maxRecDepth 100000 in
theorem E_Pa_meetsEach_2 {z : Option Value × Hp} {x0 : Int32} {x1 : Int32} {x2 : Int32} {h : Hp} (hz : loopC (Pa_meetsEach_2   ) FU (x0, x1, x2, h) = some z) : Ends toGI 2 215 1 2 z 2 (spr (mtM 215) [0, 1, 2] [.int x0, .int x1, .int x2]) [] h := by
  refine loop_E (b := Pa_meetsEach_2   ) (P := fun s => match s with | (x0, x1, x2, h) => Ends toGI 2 215 1 2 z 2 (spr (mtM 215) [0, 1, 2] [.int x0, .int x1, .int x2]) [] h) (fun s κ2 hκ hz => ?_) FU (x0, x1, x2, h) hz
  obtain ⟨x0, x1, x2, h⟩ := s
  have hκ2 : ∀ (x0 : Int32) (x1 : Int32) (x2 : Int32) (h : Hp), κ2 (x0, x1, x2, h) = some z → Ends toGI 2 215 1 2 z 2 (spr (mtM 215) [0, 1, 2] [.int x0, .int x1, .int x2]) [] h := fun x0 x1 x2 h q => hκ (x0, x1, x2, h) q
  exact exec_E OI_ok kc_Pa_meetsEach so_Pa_meetsEach (runF_E OI_ok kc_Pa_meetsEach so_Pa_meetsEach (List.forall_mem_cons.mpr ⟨(by
    intro L st h vs hp hf
    dsimp only at hf
    split at hf
    · exact Ends.at hp (hκ2 _ _ _ _ hf)
    · cases hf), fun _ h => absurd h List.not_mem_nil⟩) 400) ((e_Pa_meetsEach_2  κ2 x0 x1 x2 h).symm.trans hz)
set_option maxRecDepth 100000 in
theorem ok_Pa_meetsEach : ∀ as h z, sF_Pa_meetsEach as h = some z → Okm toGI 215 1 as h z := by
  intro as h z hz
  unfold sF_Pa_meetsEach at hz
  split at hz
  · next x0 x1 =>
    exact okm_of (own := 2) (rk := 2) (by decide +kernel) (by decide +kernel) (by omega) rfl (Nat.le_of_ble_eq_true rfl) (exec_E OI_ok kc_Pa_meetsEach so_Pa_meetsEach (runF_E OI_ok kc_Pa_meetsEach so_Pa_meetsEach (List.forall_mem_cons.mpr ⟨(by
          intro L st h vs hp hf
          dsimp only at hf
          split at hf
          · exact Ends.at hp (E_Pa_meetsEach_2 hf)
          · cases hf), fun _ h => absurd h List.not_mem_nil⟩) 400) ((e_Pa_meetsEach_0 x0 x1 h).symm.trans hz))
  · cases hz
set_option maxRecDepth 100000 in
theorem kc_Pa_leastTongues : k_Pa_leastTongues.all (chkE 2 (mtC 212)) = true := by decide +kernel
theorem so_Pa_leastTongues : SemOK toGI S_Pa_leastTongues 6 := List.forall_mem_cons.mpr ⟨⟨mt_213, 5, by omega, ok_Pa_choicesOfPairs⟩, List.forall_mem_cons.mpr ⟨⟨mt_250, 1, by omega, ok_Jint_bitCount⟩, List.forall_mem_cons.mpr ⟨⟨mt_215, 1, by omega, ok_Pa_meetsEach⟩, fun _ h => absurd h List.not_mem_nil⟩⟩⟩
set_option maxRecDepth 100000 in
theorem E_Pa_leastTongues_10 {z : Option Value × Hp} {x1 : Int32} {x2 : Int32} {x3 : Int32} {h : Hp} (hz : loopC (Pa_leastTongues_10   ) FU (x1, x2, x3, h) = some z) : Ends toGI 2 212 6 1 z 10 (spr (mtM 212) [1, 2, 3] [.int x1, .int x2, .int x3]) [] h := by
  refine loop_E (b := Pa_leastTongues_10   ) (P := fun s => match s with | (x1, x2, x3, h) => Ends toGI 2 212 6 1 z 10 (spr (mtM 212) [1, 2, 3] [.int x1, .int x2, .int x3]) [] h) (fun s κ10 hκ hz => ?_) FU (x1, x2, x3, h) hz
  obtain ⟨x1, x2, x3, h⟩ := s
  have hκ10 : ∀ (x1 : Int32) (x2 : Int32) (x3 : Int32) (h : Hp), κ10 (x1, x2, x3, h) = some z → Ends toGI 2 212 6 1 z 10 (spr (mtM 212) [1, 2, 3] [.int x1, .int x2, .int x3]) [] h := fun x1 x2 x3 h q => hκ (x1, x2, x3, h) q
  exact exec_E OI_ok kc_Pa_leastTongues so_Pa_leastTongues (runF_E OI_ok kc_Pa_leastTongues so_Pa_leastTongues (List.forall_mem_cons.mpr ⟨(by
    intro L st h vs hp hf
    dsimp only at hf
    split at hf
    · exact Ends.at hp (hκ10 _ _ _ _ hf)
    · cases hf), fun _ h => absurd h List.not_mem_nil⟩) 400) ((e_Pa_leastTongues_10  κ10 x1 x2 x3 h).symm.trans hz)
set_option maxRecDepth 100000 in
theorem ok_Pa_leastTongues : ∀ as h z, sF_Pa_leastTongues as h = some z → Okm toGI 212 6 as h z := by
  intro as h z hz
  unfold sF_Pa_leastTongues at hz
  split at hz
  · next f0 =>
    split at hz
    · next hq9 =>
      have hq9 := Nat.eq_of_beq_eq_true hq9
      subst hq9
      exact okm_of (own := 2) (rk := 1) (by decide +kernel) (by decide +kernel) (by omega) rfl (Nat.le_of_ble_eq_true rfl) (exec_E OI_ok kc_Pa_leastTongues so_Pa_leastTongues (runF_E OI_ok kc_Pa_leastTongues so_Pa_leastTongues (List.forall_mem_cons.mpr ⟨(by
          intro L st h vs hp hf
          dsimp only at hf
          split at hf
          · exact Ends.at hp (E_Pa_leastTongues_10 hf)
          · cases hf), fun _ h => absurd h List.not_mem_nil⟩) 400) ((e_Pa_leastTongues_0  h).symm.trans hz))
    · cases hz
  · cases hz
set_option maxRecDepth 100000 in
theorem kc_Bp_fewest : k_Bp_fewest.all (chkE 6 (mtC 38)) = true := by decide +kernel
theorem so_Bp_fewest : SemOK toGI S_Bp_fewest 7 := List.forall_mem_cons.mpr ⟨⟨mt_212, 6, by omega, ok_Pa_leastTongues⟩, List.forall_mem_cons.mpr ⟨⟨mt_250, 1, by omega, ok_Jint_bitCount⟩, fun _ h => absurd h List.not_mem_nil⟩⟩
set_option maxRecDepth 100000 in
theorem ok_Bp_fewest : ∀ as h z, sF_Bp_fewest as h = some z → Okm toGI 38 7 as h z := by
  intro as h z hz
  unfold sF_Bp_fewest at hz
  split at hz
  · next f0 =>
    split at hz
    · next hq9 =>
      have hq9 := Nat.eq_of_beq_eq_true hq9
      subst hq9
      exact okm_of (own := 6) (rk := 1) (by decide +kernel) (by decide +kernel) (by omega) rfl (Nat.le_of_ble_eq_true rfl) (exec_E OI_ok kc_Bp_fewest so_Bp_fewest (runF_E OI_ok kc_Bp_fewest so_Bp_fewest (fun _ h => absurd h List.not_mem_nil) 400) ((e_Bp_fewest_0  h).symm.trans hz))
    · cases hz
  · cases hz
set_option maxRecDepth 100000 in
theorem kc_Bp_refusedPairs : k_Bp_refusedPairs.all (chkE 6 (mtC 61)) = true := by decide +kernel
theorem so_Bp_refusedPairs : SemOK toGI S_Bp_refusedPairs 2 := List.forall_mem_cons.mpr ⟨⟨mt_52, 1, by omega, ok_Bp_noRow⟩, List.forall_mem_cons.mpr ⟨⟨mt_225, 1, by omega, ok_Sh_isThere⟩, List.forall_mem_cons.mpr ⟨⟨mt_50, 1, by omega, ok_Bp_found⟩, List.forall_mem_cons.mpr ⟨⟨mt_64, 1, by omega, ok_Bp_bit⟩, fun _ h => absurd h List.not_mem_nil⟩⟩⟩⟩
set_option maxRecDepth 100000 in
theorem E_Bp_refusedPairs_46 {z : Option Value × Hp} {o2 : Nat} {x3 : Int32} {h : Hp} (hz : loopC (Bp_refusedPairs_46   ) FU (o2, x3, h) = some z) : Ends toGI 6 61 2 1 z 46 (spr (mtM 61) [0, 2, 3] [.ref 0, .ref o2, .int x3]) [] h := by
  refine loop_E (b := Bp_refusedPairs_46   ) (P := fun s => match s with | (o2, x3, h) => Ends toGI 6 61 2 1 z 46 (spr (mtM 61) [0, 2, 3] [.ref 0, .ref o2, .int x3]) [] h) (fun s κ46 hκ hz => ?_) FU (o2, x3, h) hz
  obtain ⟨o2, x3, h⟩ := s
  have hκ46 : ∀ (o2 : Nat) (x3 : Int32) (h : Hp), κ46 (o2, x3, h) = some z → Ends toGI 6 61 2 1 z 46 (spr (mtM 61) [0, 2, 3] [.ref 0, .ref o2, .int x3]) [] h := fun o2 x3 h q => hκ (o2, x3, h) q
  exact exec_E OI_ok kc_Bp_refusedPairs so_Bp_refusedPairs (runF_E OI_ok kc_Bp_refusedPairs so_Bp_refusedPairs (List.forall_mem_cons.mpr ⟨(by
    intro L st h vs hp hf
    dsimp only at hf
    split at hf
    · split at hf
      · next hq9 =>
        have hq9 := Nat.eq_of_beq_eq_true hq9
        subst hq9
        exact Ends.at hp (hκ46 _ _ _ hf)
      · cases hf
    · cases hf), fun _ h => absurd h List.not_mem_nil⟩) 400) ((e_Bp_refusedPairs_46  κ46 o2 x3 h).symm.trans hz)
set_option maxRecDepth 100000 in
theorem ok_Bp_refusedPairs : ∀ as h z, sF_Bp_refusedPairs as h = some z → Okm toGI 61 2 as h z := by
  intro as h z hz
  unfold sF_Bp_refusedPairs at hz
  split at hz
  · next f0 x1 =>
    split at hz
    · next hq9 =>
      have hq9 := Nat.eq_of_beq_eq_true hq9
      subst hq9
      exact okm_of (own := 6) (rk := 1) (by decide +kernel) (by decide +kernel) (by omega) rfl (Nat.le_of_ble_eq_true rfl) (exec_E OI_ok kc_Bp_refusedPairs so_Bp_refusedPairs (runF_E OI_ok kc_Bp_refusedPairs so_Bp_refusedPairs (List.forall_mem_cons.mpr ⟨(by
          intro L st h vs hp hf
          dsimp only at hf
          split at hf
          · split at hf
            · next hq9 =>
              have hq9 := Nat.eq_of_beq_eq_true hq9
              subst hq9
              exact Ends.at hp (E_Bp_refusedPairs_46 hf)
            · cases hf
          · cases hf), fun _ h => absurd h List.not_mem_nil⟩) 400) ((e_Bp_refusedPairs_0 x1 h).symm.trans hz))
    · cases hz
  · cases hz
set_option maxRecDepth 100000 in
theorem kc_Bp_readsSo : k_Bp_readsSo.all (chkE 6 (mtC 62)) = true := by decide +kernel
theorem so_Bp_readsSo : SemOK toGI S_Bp_readsSo 1 := fun _ h => absurd h List.not_mem_nil
set_option maxRecDepth 100000 in
theorem E_Bp_readsSo_2 {z : Option Value × Hp} {o0 : Nat} {x1 : Int32} {x2 : Int32} {h : Hp} (hz : loopC (Bp_readsSo_2   ) FU (o0, x1, x2, h) = some z) : Ends toGI 6 62 1 2 z 2 (spr (mtM 62) [0, 1, 2] [.ref o0, .int x1, .int x2]) [] h := by
  refine loop_E (b := Bp_readsSo_2   ) (P := fun s => match s with | (o0, x1, x2, h) => Ends toGI 6 62 1 2 z 2 (spr (mtM 62) [0, 1, 2] [.ref o0, .int x1, .int x2]) [] h) (fun s κ2 hκ hz => ?_) FU (o0, x1, x2, h) hz
  obtain ⟨o0, x1, x2, h⟩ := s
  have hκ2 : ∀ (o0 : Nat) (x1 : Int32) (x2 : Int32) (h : Hp), κ2 (o0, x1, x2, h) = some z → Ends toGI 6 62 1 2 z 2 (spr (mtM 62) [0, 1, 2] [.ref o0, .int x1, .int x2]) [] h := fun o0 x1 x2 h q => hκ (o0, x1, x2, h) q
  exact exec_E OI_ok kc_Bp_readsSo so_Bp_readsSo (runF_E OI_ok kc_Bp_readsSo so_Bp_readsSo (List.forall_mem_cons.mpr ⟨(by
    intro L st h vs hp hf
    dsimp only at hf
    split at hf
    · exact Ends.at hp (hκ2 _ _ _ _ hf)
    · cases hf), fun _ h => absurd h List.not_mem_nil⟩) 400) ((e_Bp_readsSo_2  κ2 o0 x1 x2 h).symm.trans hz)
set_option maxRecDepth 100000 in
theorem ok_Bp_readsSo : ∀ as h z, sF_Bp_readsSo as h = some z → Okm toGI 62 1 as h z := by
  intro as h z hz
  unfold sF_Bp_readsSo at hz
  split at hz
  · next o0 x1 =>
    exact okm_of (own := 6) (rk := 2) (by decide +kernel) (by decide +kernel) (by omega) rfl (Nat.le_of_ble_eq_true rfl) (exec_E OI_ok kc_Bp_readsSo so_Bp_readsSo (runF_E OI_ok kc_Bp_readsSo so_Bp_readsSo (List.forall_mem_cons.mpr ⟨(by
          intro L st h vs hp hf
          dsimp only at hf
          split at hf
          · exact Ends.at hp (E_Bp_readsSo_2 hf)
          · cases hf), fun _ h => absurd h List.not_mem_nil⟩) 400) ((e_Bp_readsSo_0 o0 x1 h).symm.trans hz))
  · cases hz
