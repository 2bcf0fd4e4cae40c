set_option maxRecDepth 100000 in
theorem kc_Bp_give : k_Bp_give.all (chkE 6 (mtC 19)) = true := by decide +kernel
theorem so_Bp_give : SemOK toGI S_Bp_give 6 := List.forall_mem_cons.mpr ⟨⟨mt_175, 1, by omega, ok_La_lacks⟩, List.forall_mem_cons.mpr ⟨⟨mt_184, 5, by omega, ok_La_takers⟩, List.forall_mem_cons.mpr ⟨⟨mt_65, 1, by omega, ok_Bp_has⟩, List.forall_mem_cons.mpr ⟨⟨mt_186, 3, by omega, ok_La_pass⟩, List.forall_mem_cons.mpr ⟨⟨mt_50, 1, by omega, ok_Bp_found⟩, fun _ h => absurd h List.not_mem_nil⟩⟩⟩⟩⟩
set_option maxRecDepth 100000 in
theorem ok_Bp_give : ∀ as h z, sF_Bp_give as h = some z → Okm toGI 19 6 as h z := by
  intro as h z hz
  unfold sF_Bp_give at hz
  split at hz
  · next f0 x1 x2 =>
    split at hz
    · next hq9 =>
      have hq9 := Nat.eq_of_beq_eq_true hq9
      subst hq9
      exact okm_of (own := 6) (rk := 1) (by decide +kernel) (by decide +kernel) (by omega) rfl (Nat.le_of_ble_eq_true rfl) (exec_E OI_ok kc_Bp_give so_Bp_give (runF_E OI_ok kc_Bp_give so_Bp_give (fun _ h => absurd h List.not_mem_nil) 400) ((e_Bp_give_0 x1 x2 h).symm.trans hz))
    · cases hz
  · cases hz
set_option maxRecDepth 100000 in
theorem kc_Bp_hours : k_Bp_hours.all (chkE 6 (mtC 20)) = true := by decide +kernel
theorem so_Bp_hours : SemOK toGI S_Bp_hours 1 := fun _ h => absurd h List.not_mem_nil
set_option maxRecDepth 100000 in
theorem ok_Bp_hours : ∀ as h z, sF_Bp_hours as h = some z → Okm toGI 20 1 as h z := by
  intro as h z hz
  unfold sF_Bp_hours at hz
  split at hz
  · next f0 x1 =>
    split at hz
    · next hq9 =>
      have hq9 := Nat.eq_of_beq_eq_true hq9
      subst hq9
      exact okm_of (own := 6) (rk := 1) (by decide +kernel) (by decide +kernel) (by omega) rfl (Nat.le_of_ble_eq_true rfl) (exec_E OI_ok kc_Bp_hours so_Bp_hours (runF_E OI_ok kc_Bp_hours so_Bp_hours (fun _ h => absurd h List.not_mem_nil) 400) ((e_Bp_hours_0 x1 h).symm.trans hz))
    · cases hz
  · cases hz
set_option maxRecDepth 100000 in
theorem kc_Bp_where : k_Bp_where.all (chkE 6 (mtC 21)) = true := by decide +kernel
theorem so_Bp_where : SemOK toGI S_Bp_where 2 := List.forall_mem_cons.mpr ⟨⟨mt_199, 1, by omega, ok_Le_cameWhen⟩, List.forall_mem_cons.mpr ⟨⟨mt_198, 1, by omega, ok_Le_holder⟩, List.forall_mem_cons.mpr ⟨⟨mt_50, 1, by omega, ok_Bp_found⟩, fun _ h => absurd h List.not_mem_nil⟩⟩⟩
set_option maxRecDepth 100000 in
theorem ok_Bp_where : ∀ as h z, sF_Bp_where as h = some z → Okm toGI 21 2 as h z := by
  intro as h z hz
  unfold sF_Bp_where at hz
  split at hz
  · next f0 x1 =>
    split at hz
    · next hq9 =>
      have hq9 := Nat.eq_of_beq_eq_true hq9
      subst hq9
      exact okm_of (own := 6) (rk := 1) (by decide +kernel) (by decide +kernel) (by omega) rfl (Nat.le_of_ble_eq_true rfl) (exec_E OI_ok kc_Bp_where so_Bp_where (runF_E OI_ok kc_Bp_where so_Bp_where (fun _ h => absurd h List.not_mem_nil) 400) ((e_Bp_where_0 x1 h).symm.trans hz))
    · cases hz
  · cases hz
set_option maxRecDepth 100000 in
theorem kc_Sh_fill : k_Sh_fill.all (chkE 4 (mtC 229)) = true := by decide +kernel
theorem so_Sh_fill : SemOK toGI S_Sh_fill 1 := fun _ h => absurd h List.not_mem_nil
set_option maxRecDepth 100000 in
theorem E_Sh_fill_20 {z : Option Value × Hp} {o0 : Nat} {o1 : Nat} {x3 : Int32} {h : Hp} (hz : loopC (Sh_fill_20   ) FU (o0, o1, x3, h) = some z) : Ends toGI 4 229 1 0 z 20 (spr (mtM 229) [0, 1, 3] [.ref o0, .ref o1, .int x3]) [] h := by
  refine loop_E (b := Sh_fill_20   ) (P := fun s => match s with | (o0, o1, x3, h) => Ends toGI 4 229 1 0 z 20 (spr (mtM 229) [0, 1, 3] [.ref o0, .ref o1, .int x3]) [] h) (fun s κ20 hκ hz => ?_) FU (o0, o1, x3, h) hz
  obtain ⟨o0, o1, x3, h⟩ := s
  have hκ20 : ∀ (o0 : Nat) (o1 : Nat) (x3 : Int32) (h : Hp), κ20 (o0, o1, x3, h) = some z → Ends toGI 4 229 1 0 z 20 (spr (mtM 229) [0, 1, 3] [.ref o0, .ref o1, .int x3]) [] h := fun o0 o1 x3 h q => hκ (o0, o1, x3, h) q
  exact exec_E OI_ok kc_Sh_fill so_Sh_fill (runF_E OI_ok kc_Sh_fill so_Sh_fill (List.forall_mem_cons.mpr ⟨(by
    intro L st h vs hp hf
    dsimp only at hf
    split at hf
    · exact Ends.at hp (hκ20 _ _ _ _ hf)
    · cases hf), fun _ h => absurd h List.not_mem_nil⟩) 400) ((e_Sh_fill_20  κ20 o0 o1 x3 h).symm.trans hz)
set_option maxRecDepth 100000 in
theorem ok_Sh_fill : ∀ as h z, sF_Sh_fill as h = some z → Okm toGI 229 1 as h z := by
  intro as h z hz
  unfold sF_Sh_fill at hz
  split at hz
  · next o0 o1 x2 =>
    exact okm_of (own := 4) (rk := 0) (by decide +kernel) (by decide +kernel) (by omega) rfl (Nat.le_of_ble_eq_true rfl) (exec_E OI_ok kc_Sh_fill so_Sh_fill (runF_E OI_ok kc_Sh_fill so_Sh_fill (List.forall_mem_cons.mpr ⟨(by
          intro L st h vs hp hf
          dsimp only at hf
          split at hf
          · exact Ends.at hp (E_Sh_fill_20 hf)
          · cases hf), fun _ h => absurd h List.not_mem_nil⟩) 400) ((e_Sh_fill_0 o0 o1 x2 h).symm.trans hz))
  · cases hz
set_option maxRecDepth 100000 in
theorem kc_Bp_hands : k_Bp_hands.all (chkE 6 (mtC 22)) = true := by decide +kernel
theorem so_Bp_hands : SemOK toGI S_Bp_hands 2 := List.forall_mem_cons.mpr ⟨⟨mt_52, 1, by omega, ok_Bp_noRow⟩, List.forall_mem_cons.mpr ⟨⟨mt_229, 1, by omega, ok_Sh_fill⟩, List.forall_mem_cons.mpr ⟨⟨mt_50, 1, by omega, ok_Bp_found⟩, fun _ h => absurd h List.not_mem_nil⟩⟩⟩
set_option maxRecDepth 100000 in
theorem ok_Bp_hands : ∀ as h z, sF_Bp_hands as h = some z → Okm toGI 22 2 as h z := by
  intro as h z hz
  unfold sF_Bp_hands at hz
  split at hz
  · next f0 x1 x2 =>
    split at hz
    · next hq9 =>
      have hq9 := Nat.eq_of_beq_eq_true hq9
      subst hq9
      exact okm_of (own := 6) (rk := 1) (by decide +kernel) (by decide +kernel) (by omega) rfl (Nat.le_of_ble_eq_true rfl) (exec_E OI_ok kc_Bp_hands so_Bp_hands (runF_E OI_ok kc_Bp_hands so_Bp_hands (fun _ h => absurd h List.not_mem_nil) 400) ((e_Bp_hands_0 x1 x2 h).symm.trans hz))
    · cases hz
  · cases hz
set_option maxRecDepth 100000 in
theorem kc_Bp_back : k_Bp_back.all (chkE 6 (mtC 23)) = true := by decide +kernel
theorem so_Bp_back : SemOK toGI S_Bp_back 2 := List.forall_mem_cons.mpr ⟨⟨mt_198, 1, by omega, ok_Le_holder⟩, List.forall_mem_cons.mpr ⟨⟨mt_50, 1, by omega, ok_Bp_found⟩, fun _ h => absurd h List.not_mem_nil⟩⟩
set_option maxRecDepth 100000 in
theorem ok_Bp_back : ∀ as h z, sF_Bp_back as h = some z → Okm toGI 23 2 as h z := by
  intro as h z hz
  unfold sF_Bp_back at hz
  split at hz
  · next f0 x1 =>
    split at hz
    · next hq9 =>
      have hq9 := Nat.eq_of_beq_eq_true hq9
      subst hq9
      exact okm_of (own := 6) (rk := 1) (by decide +kernel) (by decide +kernel) (by omega) rfl (Nat.le_of_ble_eq_true rfl) (exec_E OI_ok kc_Bp_back so_Bp_back (runF_E OI_ok kc_Bp_back so_Bp_back (fun _ h => absurd h List.not_mem_nil) 400) ((e_Bp_back_0 x1 h).symm.trans hz))
    · cases hz
  · cases hz
set_option maxRecDepth 100000 in
theorem kc_Bp_noPlace : k_Bp_noPlace.all (chkE 6 (mtC 54)) = true := by decide +kernel
theorem so_Bp_noPlace : SemOK toGI S_Bp_noPlace 1 := fun _ h => absurd h List.not_mem_nil
set_option maxRecDepth 100000 in
theorem ok_Bp_noPlace : ∀ as h z, sF_Bp_noPlace as h = some z → Okm toGI 54 1 as h z := by
  intro as h z hz
  unfold sF_Bp_noPlace at hz
  split at hz
  · next x0 =>
    exact okm_of (own := 6) (rk := 2) (by decide +kernel) (by decide +kernel) (by omega) rfl (Nat.le_of_ble_eq_true rfl) (exec_E OI_ok kc_Bp_noPlace so_Bp_noPlace (runF_E OI_ok kc_Bp_noPlace so_Bp_noPlace (fun _ h => absurd h List.not_mem_nil) 400) ((e_Bp_noPlace_0 x0 h).symm.trans hz))
  · cases hz
set_option maxRecDepth 100000 in
theorem kc_Bp_keep : k_Bp_keep.all (chkE 6 (mtC 24)) = true := by decide +kernel
theorem so_Bp_keep : SemOK toGI S_Bp_keep 5 := List.forall_mem_cons.mpr ⟨⟨mt_54, 1, by omega, ok_Bp_noPlace⟩, List.forall_mem_cons.mpr ⟨⟨mt_174, 4, by omega, ok_La_takeFrom⟩, fun _ h => absurd h List.not_mem_nil⟩⟩
set_option maxRecDepth 100000 in
theorem ok_Bp_keep : ∀ as h z, sF_Bp_keep as h = some z → Okm toGI 24 5 as h z := by
  intro as h z hz
  unfold sF_Bp_keep at hz
  split at hz
  · next f0 x1 =>
    split at hz
    · next hq9 =>
      have hq9 := Nat.eq_of_beq_eq_true hq9
      subst hq9
      exact okm_of (own := 6) (rk := 1) (by decide +kernel) (by decide +kernel) (by omega) rfl (Nat.le_of_ble_eq_true rfl) (exec_E OI_ok kc_Bp_keep so_Bp_keep (runF_E OI_ok kc_Bp_keep so_Bp_keep (fun _ h => absurd h List.not_mem_nil) 400) ((e_Bp_keep_0 x1 h).symm.trans hz))
    · cases hz
  · cases hz
set_option maxRecDepth 100000 in
theorem kc_Bp_on : k_Bp_on.all (chkE 6 (mtC 25)) = true := by decide +kernel
theorem so_Bp_on : SemOK toGI S_Bp_on 5 := List.forall_mem_cons.mpr ⟨⟨mt_54, 1, by omega, ok_Bp_noPlace⟩, List.forall_mem_cons.mpr ⟨⟨mt_174, 4, by omega, ok_La_takeFrom⟩, List.forall_mem_cons.mpr ⟨⟨mt_50, 1, by omega, ok_Bp_found⟩, fun _ h => absurd h List.not_mem_nil⟩⟩⟩
set_option maxRecDepth 100000 in
theorem ok_Bp_on : ∀ as h z, sF_Bp_on as h = some z → Okm toGI 25 5 as h z := by
  intro as h z hz
  unfold sF_Bp_on at hz
  split at hz
  · next f0 x1 =>
    split at hz
    · next hq9 =>
      have hq9 := Nat.eq_of_beq_eq_true hq9
      subst hq9
      exact okm_of (own := 6) (rk := 1) (by decide +kernel) (by decide +kernel) (by omega) rfl (Nat.le_of_ble_eq_true rfl) (exec_E OI_ok kc_Bp_on so_Bp_on (runF_E OI_ok kc_Bp_on so_Bp_on (fun _ h => absurd h List.not_mem_nil) 400) ((e_Bp_on_0 x1 h).symm.trans hz))
    · cases hz
  · cases hz
set_option maxRecDepth 100000 in
theorem kc_Wa_carriers : k_Wa_carriers.all (chkE 5 (mtC 233)) = true := by decide +kernel
theorem so_Wa_carriers : SemOK toGI S_Wa_carriers 3 := List.forall_mem_cons.mpr ⟨⟨mt_182, 2, by omega, ok_La_bars⟩, List.forall_mem_cons.mpr ⟨⟨mt_64, 1, by omega, ok_Bp_bit⟩, fun _ h => absurd h List.not_mem_nil⟩⟩
set_option maxRecDepth 100000 in
theorem E_Wa_carriers_4 {z : Option Value × Hp} {x1 : Int32} {x2 : Int32} {x3 : Int32} {h : Hp} (hz : loopC (Wa_carriers_4   ) FU (x1, x2, x3, h) = some z) : Ends toGI 5 233 3 1 z 4 (spr (mtM 233) [0, 1, 2, 3] [.ref 64, .int x1, .int x2, .int x3]) [] h := by
  refine loop_E (b := Wa_carriers_4   ) (P := fun s => match s with | (x1, x2, x3, h) => Ends toGI 5 233 3 1 z 4 (spr (mtM 233) [0, 1, 2, 3] [.ref 64, .int x1, .int x2, .int x3]) [] h) (fun s κ4 hκ hz => ?_) FU (x1, x2, x3, h) hz
  obtain ⟨x1, x2, x3, h⟩ := s
  have hκ4 : ∀ (x1 : Int32) (x2 : Int32) (x3 : Int32) (h : Hp), κ4 (x1, x2, x3, h) = some z → Ends toGI 5 233 3 1 z 4 (spr (mtM 233) [0, 1, 2, 3] [.ref 64, .int x1, .int x2, .int x3]) [] h := fun x1 x2 x3 h q => hκ (x1, x2, x3, h) q
  exact exec_E OI_ok kc_Wa_carriers so_Wa_carriers (runF_E OI_ok kc_Wa_carriers so_Wa_carriers (List.forall_mem_cons.mpr ⟨(by
    intro L st h vs hp hf
    dsimp only at hf
    split at hf
    · split at hf
      · next hq9 =>
        have hq9 := Nat.eq_of_beq_eq_true hq9
        subst hq9
        exact Ends.at hp (hκ4 _ _ _ _ hf)
      · cases hf
    · cases hf), fun _ h => absurd h List.not_mem_nil⟩) 400) ((e_Wa_carriers_4  κ4 x1 x2 x3 h).symm.trans hz)
set_option maxRecDepth 100000 in
theorem ok_Wa_carriers : ∀ as h z, sF_Wa_carriers as h = some z → Okm toGI 233 3 as h z := by
  intro as h z hz
  unfold sF_Wa_carriers at hz
  split at hz
  · next f0 x1 =>
    split at hz
    · next hq9 =>
      have hq9 := Nat.eq_of_beq_eq_true hq9
      subst hq9
      exact okm_of (own := 5) (rk := 1) (by decide +kernel) (by decide +kernel) (by omega) rfl (Nat.le_of_ble_eq_true rfl) (exec_E OI_ok kc_Wa_carriers so_Wa_carriers (runF_E OI_ok kc_Wa_carriers so_Wa_carriers (List.forall_mem_cons.mpr ⟨(by
          intro L st h vs hp hf
          dsimp only at hf
          split at hf
          · split at hf
            · next hq9 =>
              have hq9 := Nat.eq_of_beq_eq_true hq9
              subst hq9
              exact Ends.at hp (E_Wa_carriers_4 hf)
            · cases hf
          · cases hf), fun _ h => absurd h List.not_mem_nil⟩) 400) ((e_Wa_carriers_0 x1 h).symm.trans hz))
    · cases hz
  · cases hz
set_option maxRecDepth 100000 in
theorem kc_La_ofKind : k_La_ofKind.all (chkE 0 (mtC 180)) = true := by decide +kernel
theorem so_La_ofKind : SemOK toGI S_La_ofKind 2 := List.forall_mem_cons.mpr ⟨⟨mt_67, 1, by omega, ok_Bp_isOf⟩, List.forall_mem_cons.mpr ⟨⟨mt_64, 1, by omega, ok_Bp_bit⟩, fun _ h => absurd h List.not_mem_nil⟩⟩
set_option maxRecDepth 100000 in
theorem E_La_ofKind_4 {z : Option Value × Hp} {o0 : Nat} {x1 : Int32} {x2 : Int32} {x3 : Int32} {h : Hp} (hz : loopC (La_ofKind_4   ) FU (o0, x1, x2, x3, h) = some z) : Ends toGI 0 180 2 1 z 4 (spr (mtM 180) [0, 1, 2, 3] [.ref o0, .int x1, .int x2, .int x3]) [] h := by
  refine loop_E (b := La_ofKind_4   ) (P := fun s => match s with | (o0, x1, x2, x3, h) => Ends toGI 0 180 2 1 z 4 (spr (mtM 180) [0, 1, 2, 3] [.ref o0, .int x1, .int x2, .int x3]) [] h) (fun s κ4 hκ hz => ?_) FU (o0, x1, x2, x3, h) hz
  obtain ⟨o0, x1, x2, x3, h⟩ := s
  have hκ4 : ∀ (o0 : Nat) (x1 : Int32) (x2 : Int32) (x3 : Int32) (h : Hp), κ4 (o0, x1, x2, x3, h) = some z → Ends toGI 0 180 2 1 z 4 (spr (mtM 180) [0, 1, 2, 3] [.ref o0, .int x1, .int x2, .int x3]) [] h := fun o0 x1 x2 x3 h q => hκ (o0, x1, x2, x3, h) q
  exact exec_E OI_ok kc_La_ofKind so_La_ofKind (runF_E OI_ok kc_La_ofKind so_La_ofKind (List.forall_mem_cons.mpr ⟨(by
    intro L st h vs hp hf
    dsimp only at hf
    split at hf
    · exact Ends.at hp (hκ4 _ _ _ _ _ hf)
    · cases hf), fun _ h => absurd h List.not_mem_nil⟩) 400) ((e_La_ofKind_4  κ4 o0 x1 x2 x3 h).symm.trans hz)
set_option maxRecDepth 100000 in
theorem ok_La_ofKind : ∀ as h z, sF_La_ofKind as h = some z → Okm toGI 180 2 as h z := by
  intro as h z hz
  unfold sF_La_ofKind at hz
  split at hz
  · next o0 x1 =>
    exact okm_of (own := 0) (rk := 1) (by decide +kernel) (by decide +kernel) (by omega) rfl (Nat.le_of_ble_eq_true rfl) (exec_E OI_ok kc_La_ofKind so_La_ofKind (runF_E OI_ok kc_La_ofKind so_La_ofKind (List.forall_mem_cons.mpr ⟨(by
          intro L st h vs hp hf
          dsimp only at hf
          split at hf
          · exact Ends.at hp (E_La_ofKind_4 hf)
          · cases hf), fun _ h => absurd h List.not_mem_nil⟩) 400) ((e_La_ofKind_0 o0 x1 h).symm.trans hz))
  · cases hz
set_option maxRecDepth 100000 in
theorem kc_Wa_soonest : k_Wa_soonest.all (chkE 5 (mtC 236)) = true := by decide +kernel
theorem so_Wa_soonest : SemOK toGI S_Wa_soonest 4 := List.forall_mem_cons.mpr ⟨⟨mt_233, 3, by omega, ok_Wa_carriers⟩, List.forall_mem_cons.mpr ⟨⟨mt_64, 1, by omega, ok_Bp_bit⟩, List.forall_mem_cons.mpr ⟨⟨mt_180, 2, by omega, ok_La_ofKind⟩, List.forall_mem_cons.mpr ⟨⟨mt_65, 1, by omega, ok_Bp_has⟩, fun _ h => absurd h List.not_mem_nil⟩⟩⟩⟩
set_option maxRecDepth 100000 in
theorem E_Wa_soonest_76 {z : Option Value × Hp} {κ35 : (Int32 × Int32 × Int32 × Int32 × Int32 × Int32 × Int32 × Hp) → Res Hp} (hκ35 : ∀ (x1 : Int32) (x2 : Int32) (x4 : Int32) (x5 : Int32) (x6 : Int32) (x7 : Int32) (x8 : Int32) (h : Hp), κ35 (x1, x2, x4, x5, x6, x7, x8, h) = some z → Ends toGI 5 236 4 1 z 35 (spr (mtM 236) [0, 1, 2, 4, 5, 6, 7, 8] [.ref 64, .int x1, .int x2, .int x4, .int x5, .int x6, .int x7, .int x8]) [] h) {x1 : Int32} {x2 : Int32} {x4 : Int32} {x5 : Int32} {x6 : Int32} {x7 : Int32} {x8 : Int32} {o9 : Nat} {x10 : Int32} {x11 : Int32} {h : Hp} (hz : loopC (Wa_soonest_76 κ35  ) FU (x1, x2, x4, x5, x6, x7, x8, o9, x10, x11, h) = some z) : Ends toGI 5 236 4 1 z 76 (spr (mtM 236) [0, 1, 2, 4, 5, 6, 7, 8, 9, 10, 11] [.ref 64, .int x1, .int x2, .int x4, .int x5, .int x6, .int x7, .int x8, .ref o9, .int x10, .int x11]) [] h := by
  refine loop_E (b := Wa_soonest_76 κ35  ) (P := fun s => match s with | (x1, x2, x4, x5, x6, x7, x8, o9, x10, x11, h) => Ends toGI 5 236 4 1 z 76 (spr (mtM 236) [0, 1, 2, 4, 5, 6, 7, 8, 9, 10, 11] [.ref 64, .int x1, .int x2, .int x4, .int x5, .int x6, .int x7, .int x8, .ref o9, .int x10, .int x11]) [] h) (fun s κ76 hκ hz => ?_) FU (x1, x2, x4, x5, x6, x7, x8, o9, x10, x11, h) hz
  obtain ⟨x1, x2, x4, x5, x6, x7, x8, o9, x10, x11, h⟩ := s
  have hκ76 : ∀ (x1 : Int32) (x2 : Int32) (x4 : Int32) (x5 : Int32) (x6 : Int32) (x7 : Int32) (x8 : Int32) (o9 : Nat) (x10 : Int32) (x11 : Int32) (h : Hp), κ76 (x1, x2, x4, x5, x6, x7, x8, o9, x10, x11, h) = some z → Ends toGI 5 236 4 1 z 76 (spr (mtM 236) [0, 1, 2, 4, 5, 6, 7, 8, 9, 10, 11] [.ref 64, .int x1, .int x2, .int x4, .int x5, .int x6, .int x7, .int x8, .ref o9, .int x10, .int x11]) [] h := fun x1 x2 x4 x5 x6 x7 x8 o9 x10 x11 h q => hκ (x1, x2, x4, x5, x6, x7, x8, o9, x10, x11, h) q
  exact exec_E OI_ok kc_Wa_soonest so_Wa_soonest (runF_E OI_ok kc_Wa_soonest so_Wa_soonest (List.forall_mem_cons.mpr ⟨(by
    intro L st h vs hp hf
    dsimp only at hf
    split at hf
    · split at hf
      · next hq9 =>
        have hq9 := Nat.eq_of_beq_eq_true hq9
        subst hq9
        exact Ends.at hp (hκ35 _ _ _ _ _ _ _ _ hf)
      · cases hf
    · cases hf), List.forall_mem_cons.mpr ⟨(by
    intro L st h vs hp hf
    dsimp only at hf
    split at hf
    · split at hf
      · next hq9 =>
        have hq9 := Nat.eq_of_beq_eq_true hq9
        subst hq9
        exact Ends.at hp (hκ76 _ _ _ _ _ _ _ _ _ _ _ hf)
      · cases hf
    · cases hf), fun _ h => absurd h List.not_mem_nil⟩⟩) 400) ((e_Wa_soonest_76 κ35 κ76 x1 x2 x4 x5 x6 x7 x8 o9 x10 x11 h).symm.trans hz)
set_option maxRecDepth 100000 in
theorem E_Wa_soonest_35 {z : Option Value × Hp} {x1 : Int32} {x2 : Int32} {x4 : Int32} {x5 : Int32} {x6 : Int32} {x7 : Int32} {x8 : Int32} {h : Hp} (hz : loopC (Wa_soonest_35   ) FU (x1, x2, x4, x5, x6, x7, x8, h) = some z) : Ends toGI 5 236 4 1 z 35 (spr (mtM 236) [0, 1, 2, 4, 5, 6, 7, 8] [.ref 64, .int x1, .int x2, .int x4, .int x5, .int x6, .int x7, .int x8]) [] h := by
  refine loop_E (b := Wa_soonest_35   ) (P := fun s => match s with | (x1, x2, x4, x5, x6, x7, x8, h) => Ends toGI 5 236 4 1 z 35 (spr (mtM 236) [0, 1, 2, 4, 5, 6, 7, 8] [.ref 64, .int x1, .int x2, .int x4, .int x5, .int x6, .int x7, .int x8]) [] h) (fun s κ35 hκ hz => ?_) FU (x1, x2, x4, x5, x6, x7, x8, h) hz
  obtain ⟨x1, x2, x4, x5, x6, x7, x8, h⟩ := s
  have hκ35 : ∀ (x1 : Int32) (x2 : Int32) (x4 : Int32) (x5 : Int32) (x6 : Int32) (x7 : Int32) (x8 : Int32) (h : Hp), κ35 (x1, x2, x4, x5, x6, x7, x8, h) = some z → Ends toGI 5 236 4 1 z 35 (spr (mtM 236) [0, 1, 2, 4, 5, 6, 7, 8] [.ref 64, .int x1, .int x2, .int x4, .int x5, .int x6, .int x7, .int x8]) [] h := fun x1 x2 x4 x5 x6 x7 x8 h q => hκ (x1, x2, x4, x5, x6, x7, x8, h) q
  exact exec_E OI_ok kc_Wa_soonest so_Wa_soonest (runF_E OI_ok kc_Wa_soonest so_Wa_soonest (List.forall_mem_cons.mpr ⟨(by
    intro L st h vs hp hf
    dsimp only at hf
    split at hf
    · split at hf
      · next hq9 =>
        have hq9 := Nat.eq_of_beq_eq_true hq9
        subst hq9
        exact Ends.at hp (E_Wa_soonest_76 hκ35 hf)
      · cases hf
    · cases hf), fun _ h => absurd h List.not_mem_nil⟩) 400) ((e_Wa_soonest_35  κ35 x1 x2 x4 x5 x6 x7 x8 h).symm.trans hz)
set_option maxRecDepth 100000 in
theorem ok_Wa_soonest : ∀ as h z, sF_Wa_soonest as h = some z → Okm toGI 236 4 as h z := by
  intro as h z hz
  unfold sF_Wa_soonest at hz
  split at hz
  · next f0 x1 x2 x3 x4 =>
    split at hz
    · next hq9 =>
      have hq9 := Nat.eq_of_beq_eq_true hq9
      subst hq9
      exact okm_of (own := 5) (rk := 1) (by decide +kernel) (by decide +kernel) (by omega) rfl (Nat.le_of_ble_eq_true rfl) (exec_E OI_ok kc_Wa_soonest so_Wa_soonest (runF_E OI_ok kc_Wa_soonest so_Wa_soonest (List.forall_mem_cons.mpr ⟨(by
          intro L st h vs hp hf
          dsimp only at hf
          split at hf
          · split at hf
            · next hq9 =>
              have hq9 := Nat.eq_of_beq_eq_true hq9
              subst hq9
              exact Ends.at hp (E_Wa_soonest_35 hf)
            · cases hf
          · cases hf), fun _ h => absurd h List.not_mem_nil⟩) 400) ((e_Wa_soonest_0 x1 x2 x3 x4 h).symm.trans hz))
    · cases hz
  · cases hz
set_option maxRecDepth 100000 in
theorem kc_Bp_soon : k_Bp_soon.all (chkE 6 (mtC 26)) = true := by decide +kernel
theorem so_Bp_soon : SemOK toGI S_Bp_soon 5 := List.forall_mem_cons.mpr ⟨⟨mt_58, 2, by omega, ok_Bp_noPair⟩, List.forall_mem_cons.mpr ⟨⟨mt_56, 1, by omega, ok_Bp_noTongues⟩, List.forall_mem_cons.mpr ⟨⟨mt_57, 1, by omega, ok_Bp_noHour⟩, List.forall_mem_cons.mpr ⟨⟨mt_236, 4, by omega, ok_Wa_soonest⟩, fun _ h => absurd h List.not_mem_nil⟩⟩⟩⟩
set_option maxRecDepth 100000 in
theorem ok_Bp_soon : ∀ as h z, sF_Bp_soon as h = some z → Okm toGI 26 5 as h z := by
  intro as h z hz
  unfold sF_Bp_soon at hz
  split at hz
  · next f0 x1 x2 x3 x4 =>
    split at hz
    · next hq9 =>
      have hq9 := Nat.eq_of_beq_eq_true hq9
      subst hq9
      exact okm_of (own := 6) (rk := 1) (by decide +kernel) (by decide +kernel) (by omega) rfl (Nat.le_of_ble_eq_true rfl) (exec_E OI_ok kc_Bp_soon so_Bp_soon (runF_E OI_ok kc_Bp_soon so_Bp_soon (fun _ h => absurd h List.not_mem_nil) 400) ((e_Bp_soon_0 x1 x2 x3 x4 h).symm.trans hz))
    · cases hz
  · cases hz
set_option maxRecDepth 100000 in
theorem kc_Wa_priceAsTheyAre : k_Wa_priceAsTheyAre.all (chkE 5 (mtC 239)) = true := by decide +kernel
theorem so_Wa_priceAsTheyAre : SemOK toGI S_Wa_priceAsTheyAre 4 := List.forall_mem_cons.mpr ⟨⟨mt_183, 3, by omega, ok_La_carries⟩, fun _ h => absurd h List.not_mem_nil⟩
set_option maxRecDepth 100000 in
theorem E_Wa_priceAsTheyAre_2 {z : Option Value × Hp} {x1 : Int32} {x2 : Int32} {h : Hp} (hz : loopC (Wa_priceAsTheyAre_2   ) FU (x1, x2, h) = some z) : Ends toGI 5 239 4 0 z 2 (spr (mtM 239) [0, 1, 2] [.ref 64, .int x1, .int x2]) [] h := by
  refine loop_E (b := Wa_priceAsTheyAre_2   ) (P := fun s => match s with | (x1, x2, h) => Ends toGI 5 239 4 0 z 2 (spr (mtM 239) [0, 1, 2] [.ref 64, .int x1, .int x2]) [] h) (fun s κ2 hκ hz => ?_) FU (x1, x2, h) hz
  obtain ⟨x1, x2, h⟩ := s
  have hκ2 : ∀ (x1 : Int32) (x2 : Int32) (h : Hp), κ2 (x1, x2, h) = some z → Ends toGI 5 239 4 0 z 2 (spr (mtM 239) [0, 1, 2] [.ref 64, .int x1, .int x2]) [] h := fun x1 x2 h q => hκ (x1, x2, h) q
  exact exec_E OI_ok kc_Wa_priceAsTheyAre so_Wa_priceAsTheyAre (runF_E OI_ok kc_Wa_priceAsTheyAre so_Wa_priceAsTheyAre (List.forall_mem_cons.mpr ⟨(by
    intro L st h vs hp hf
    dsimp only at hf
    split at hf
    · split at hf
      · next hq9 =>
        have hq9 := Nat.eq_of_beq_eq_true hq9
        subst hq9
        exact Ends.at hp (hκ2 _ _ _ hf)
      · cases hf
    · cases hf), fun _ h => absurd h List.not_mem_nil⟩) 400) ((e_Wa_priceAsTheyAre_2  κ2 x1 x2 h).symm.trans hz)
set_option maxRecDepth 100000 in
theorem ok_Wa_priceAsTheyAre : ∀ as h z, sF_Wa_priceAsTheyAre as h = some z → Okm toGI 239 4 as h z := by
  intro as h z hz
  unfold sF_Wa_priceAsTheyAre at hz
  split at hz
  · next f0 x1 =>
    split at hz
    · next hq9 =>
      have hq9 := Nat.eq_of_beq_eq_true hq9
      subst hq9
      exact okm_of (own := 5) (rk := 0) (by decide +kernel) (by decide +kernel) (by omega) rfl (Nat.le_of_ble_eq_true rfl) (exec_E OI_ok kc_Wa_priceAsTheyAre so_Wa_priceAsTheyAre (runF_E OI_ok kc_Wa_priceAsTheyAre so_Wa_priceAsTheyAre (List.forall_mem_cons.mpr ⟨(by
          intro L st h vs hp hf
          dsimp only at hf
          split at hf
          · split at hf
            · next hq9 =>
              have hq9 := Nat.eq_of_beq_eq_true hq9
              subst hq9
              exact Ends.at hp (E_Wa_priceAsTheyAre_2 hf)
            · cases hf
          · cases hf), fun _ h => absurd h List.not_mem_nil⟩) 400) ((e_Wa_priceAsTheyAre_0 x1 h).symm.trans hz))
    · cases hz
  · cases hz
set_option maxRecDepth 100000 in
theorem kc_Wa_leadsOn : k_Wa_leadsOn.all (chkE 5 (mtC 243)) = true := by decide +kernel
theorem so_Wa_leadsOn : SemOK toGI S_Wa_leadsOn 2 := List.forall_mem_cons.mpr ⟨⟨mt_65, 1, by omega, ok_Bp_has⟩, fun _ h => absurd h List.not_mem_nil⟩
set_option maxRecDepth 100000 in
theorem ok_Wa_leadsOn : ∀ as h z, sF_Wa_leadsOn as h = some z → Okm toGI 243 2 as h z := by
  intro as h z hz
  unfold sF_Wa_leadsOn at hz
  split at hz
  · next f0 x1 x2 x3 =>
    split at hz
    · next hq9 =>
      have hq9 := Nat.eq_of_beq_eq_true hq9
      subst hq9
      exact okm_of (own := 5) (rk := 2) (by decide +kernel) (by decide +kernel) (by omega) rfl (Nat.le_of_ble_eq_true rfl) (exec_E OI_ok kc_Wa_leadsOn so_Wa_leadsOn (runF_E OI_ok kc_Wa_leadsOn so_Wa_leadsOn (fun _ h => absurd h List.not_mem_nil) 400) ((e_Wa_leadsOn_0 x1 x2 x3 h).symm.trans hz))
    · cases hz
  · cases hz
set_option maxRecDepth 100000 in
theorem kc_Wa_weightBy : k_Wa_weightBy.all (chkE 5 (mtC 244)) = true := by decide +kernel
theorem so_Wa_weightBy : SemOK toGI S_Wa_weightBy 1 := fun _ h => absurd h List.not_mem_nil
set_option maxRecDepth 100000 in
theorem ok_Wa_weightBy : ∀ as h z, sF_Wa_weightBy as h = some z → Okm toGI 244 1 as h z := by
  intro as h z hz
  unfold sF_Wa_weightBy at hz
  split at hz
  · next f0 x1 =>
    split at hz
    · next hq9 =>
      have hq9 := Nat.eq_of_beq_eq_true hq9
      subst hq9
      exact okm_of (own := 5) (rk := 1) (by decide +kernel) (by decide +kernel) (by omega) rfl (Nat.le_of_ble_eq_true rfl) (exec_E OI_ok kc_Wa_weightBy so_Wa_weightBy (runF_E OI_ok kc_Wa_weightBy so_Wa_weightBy (fun _ h => absurd h List.not_mem_nil) 400) ((e_Wa_weightBy_0 x1 h).symm.trans hz))
    · cases hz
  · cases hz
set_option maxRecDepth 100000 in
theorem kc_Wa_weighAhead : k_Wa_weighAhead.all (chkE 5 (mtC 242)) = true := by decide +kernel
theorem so_Wa_weighAhead : SemOK toGI S_Wa_weighAhead 3 := List.forall_mem_cons.mpr ⟨⟨mt_243, 2, by omega, ok_Wa_leadsOn⟩, List.forall_mem_cons.mpr ⟨⟨mt_244, 1, by omega, ok_Wa_weightBy⟩, List.forall_mem_cons.mpr ⟨⟨mt_65, 1, by omega, ok_Bp_has⟩, fun _ h => absurd h List.not_mem_nil⟩⟩⟩
set_option maxRecDepth 100000 in
theorem E_Wa_weighAhead_73 {z : Option Value × Hp} {κ49 : (Int32 × Int32 × Int32 × Hp) → Res Hp} {κ58 : (Int32 × Int32 × Int32 × Int32 × Hp) → Res Hp} (hκ49 : ∀ (x1 : Int32) (x2 : Int32) (x3 : Int32) (h : Hp), κ49 (x1, x2, x3, h) = some z → Ends toGI 5 242 3 0 z 49 (spr (mtM 242) [0, 1, 2, 3] [.ref 64, .int x1, .int x2, .int x3]) [] h) (hκ58 : ∀ (x1 : Int32) (x2 : Int32) (x3 : Int32) (x4 : Int32) (h : Hp), κ58 (x1, x2, x3, x4, h) = some z → Ends toGI 5 242 3 0 z 58 (spr (mtM 242) [0, 1, 2, 3, 4] [.ref 64, .int x1, .int x2, .int x3, .int x4]) [] h) {x1 : Int32} {x2 : Int32} {x3 : Int32} {x4 : Int32} {x5 : Int32} {h : Hp} (hz : loopC (Wa_weighAhead_73 κ49 κ58  ) FU (x1, x2, x3, x4, x5, h) = some z) : Ends toGI 5 242 3 0 z 73 (spr (mtM 242) [0, 1, 2, 3, 4, 5] [.ref 64, .int x1, .int x2, .int x3, .int x4, .int x5]) [] h := by
  refine loop_E (b := Wa_weighAhead_73 κ49 κ58  ) (P := fun s => match s with | (x1, x2, x3, x4, x5, h) => Ends toGI 5 242 3 0 z 73 (spr (mtM 242) [0, 1, 2, 3, 4, 5] [.ref 64, .int x1, .int x2, .int x3, .int x4, .int x5]) [] h) (fun s κ73 hκ hz => ?_) FU (x1, x2, x3, x4, x5, h) hz
  obtain ⟨x1, x2, x3, x4, x5, h⟩ := s
  have hκ73 : ∀ (x1 : Int32) (x2 : Int32) (x3 : Int32) (x4 : Int32) (x5 : Int32) (h : Hp), κ73 (x1, x2, x3, x4, x5, h) = some z → Ends toGI 5 242 3 0 z 73 (spr (mtM 242) [0, 1, 2, 3, 4, 5] [.ref 64, .int x1, .int x2, .int x3, .int x4, .int x5]) [] h := fun x1 x2 x3 x4 x5 h q => hκ (x1, x2, x3, x4, x5, h) q
  exact exec_E OI_ok kc_Wa_weighAhead so_Wa_weighAhead (runF_E OI_ok kc_Wa_weighAhead so_Wa_weighAhead (List.forall_mem_cons.mpr ⟨(by
    intro L st h vs hp hf
    dsimp only at hf
    split at hf
    · split at hf
      · next hq9 =>
        have hq9 := Nat.eq_of_beq_eq_true hq9
        subst hq9
        exact Ends.at hp (hκ58 _ _ _ _ _ hf)
      · cases hf
    · cases hf), List.forall_mem_cons.mpr ⟨(by
    intro L st h vs hp hf
    dsimp only at hf
    split at hf
    · split at hf
      · next hq9 =>
        have hq9 := Nat.eq_of_beq_eq_true hq9
        subst hq9
        exact Ends.at hp (hκ73 _ _ _ _ _ _ hf)
      · cases hf
    · cases hf), fun _ h => absurd h List.not_mem_nil⟩⟩) 400) ((e_Wa_weighAhead_73 κ49 κ58 κ73 x1 x2 x3 x4 x5 h).symm.trans hz)
set_option maxRecDepth 100000 in
theorem E_Wa_weighAhead_58 {z : Option Value × Hp} {κ49 : (Int32 × Int32 × Int32 × Hp) → Res Hp} (hκ49 : ∀ (x1 : Int32) (x2 : Int32) (x3 : Int32) (h : Hp), κ49 (x1, x2, x3, h) = some z → Ends toGI 5 242 3 0 z 49 (spr (mtM 242) [0, 1, 2, 3] [.ref 64, .int x1, .int x2, .int x3]) [] h) {x1 : Int32} {x2 : Int32} {x3 : Int32} {x4 : Int32} {h : Hp} (hz : loopC (Wa_weighAhead_58 κ49  ) FU (x1, x2, x3, x4, h) = some z) : Ends toGI 5 242 3 0 z 58 (spr (mtM 242) [0, 1, 2, 3, 4] [.ref 64, .int x1, .int x2, .int x3, .int x4]) [] h := by
  refine loop_E (b := Wa_weighAhead_58 κ49  ) (P := fun s => match s with | (x1, x2, x3, x4, h) => Ends toGI 5 242 3 0 z 58 (spr (mtM 242) [0, 1, 2, 3, 4] [.ref 64, .int x1, .int x2, .int x3, .int x4]) [] h) (fun s κ58 hκ hz => ?_) FU (x1, x2, x3, x4, h) hz
  obtain ⟨x1, x2, x3, x4, h⟩ := s
  have hκ58 : ∀ (x1 : Int32) (x2 : Int32) (x3 : Int32) (x4 : Int32) (h : Hp), κ58 (x1, x2, x3, x4, h) = some z → Ends toGI 5 242 3 0 z 58 (spr (mtM 242) [0, 1, 2, 3, 4] [.ref 64, .int x1, .int x2, .int x3, .int x4]) [] h := fun x1 x2 x3 x4 h q => hκ (x1, x2, x3, x4, h) q
  exact exec_E OI_ok kc_Wa_weighAhead so_Wa_weighAhead (runF_E OI_ok kc_Wa_weighAhead so_Wa_weighAhead (List.forall_mem_cons.mpr ⟨(by
    intro L st h vs hp hf
    dsimp only at hf
    split at hf
    · split at hf
      · next hq9 =>
        have hq9 := Nat.eq_of_beq_eq_true hq9
        subst hq9
        exact Ends.at hp (hκ49 _ _ _ _ hf)
      · cases hf
    · cases hf), List.forall_mem_cons.mpr ⟨(by
    intro L st h vs hp hf
    dsimp only at hf
    split at hf
    · split at hf
      · next hq9 =>
        have hq9 := Nat.eq_of_beq_eq_true hq9
        subst hq9
        exact Ends.at hp (E_Wa_weighAhead_73 hκ49 hκ58 hf)
      · cases hf
    · cases hf), fun _ h => absurd h List.not_mem_nil⟩⟩) 400) ((e_Wa_weighAhead_58 κ49 κ58 x1 x2 x3 x4 h).symm.trans hz)
set_option maxRecDepth 100000 in
theorem E_Wa_weighAhead_49 {z : Option Value × Hp} {x1 : Int32} {x2 : Int32} {x3 : Int32} {h : Hp} (hz : loopC (Wa_weighAhead_49   ) FU (x1, x2, x3, h) = some z) : Ends toGI 5 242 3 0 z 49 (spr (mtM 242) [0, 1, 2, 3] [.ref 64, .int x1, .int x2, .int x3]) [] h := by
  refine loop_E (b := Wa_weighAhead_49   ) (P := fun s => match s with | (x1, x2, x3, h) => Ends toGI 5 242 3 0 z 49 (spr (mtM 242) [0, 1, 2, 3] [.ref 64, .int x1, .int x2, .int x3]) [] h) (fun s κ49 hκ hz => ?_) FU (x1, x2, x3, h) hz
  obtain ⟨x1, x2, x3, h⟩ := s
  have hκ49 : ∀ (x1 : Int32) (x2 : Int32) (x3 : Int32) (h : Hp), κ49 (x1, x2, x3, h) = some z → Ends toGI 5 242 3 0 z 49 (spr (mtM 242) [0, 1, 2, 3] [.ref 64, .int x1, .int x2, .int x3]) [] h := fun x1 x2 x3 h q => hκ (x1, x2, x3, h) q
  exact exec_E OI_ok kc_Wa_weighAhead so_Wa_weighAhead (runF_E OI_ok kc_Wa_weighAhead so_Wa_weighAhead (List.forall_mem_cons.mpr ⟨(by
    intro L st h vs hp hf
    dsimp only at hf
    split at hf
    · split at hf
      · next hq9 =>
        have hq9 := Nat.eq_of_beq_eq_true hq9
        subst hq9
        exact Ends.at hp (E_Wa_weighAhead_58 hκ49 hf)
      · cases hf
    · cases hf), fun _ h => absurd h List.not_mem_nil⟩) 400) ((e_Wa_weighAhead_49  κ49 x1 x2 x3 h).symm.trans hz)
set_option maxRecDepth 100000 in
theorem E_Wa_weighAhead_2 {z : Option Value × Hp} {x1 : Int32} {x2 : Int32} {x3 : Int32} {h : Hp} (hz : loopC (Wa_weighAhead_2   ) FU (x1, x2, x3, h) = some z) : Ends toGI 5 242 3 0 z 2 (spr (mtM 242) [0, 1, 2, 3] [.ref 64, .int x1, .int x2, .int x3]) [] h := by
  refine loop_E (b := Wa_weighAhead_2   ) (P := fun s => match s with | (x1, x2, x3, h) => Ends toGI 5 242 3 0 z 2 (spr (mtM 242) [0, 1, 2, 3] [.ref 64, .int x1, .int x2, .int x3]) [] h) (fun s κ2 hκ hz => ?_) FU (x1, x2, x3, h) hz
  obtain ⟨x1, x2, x3, h⟩ := s
  have hκ2 : ∀ (x1 : Int32) (x2 : Int32) (x3 : Int32) (h : Hp), κ2 (x1, x2, x3, h) = some z → Ends toGI 5 242 3 0 z 2 (spr (mtM 242) [0, 1, 2, 3] [.ref 64, .int x1, .int x2, .int x3]) [] h := fun x1 x2 x3 h q => hκ (x1, x2, x3, h) q
  exact exec_E OI_ok kc_Wa_weighAhead so_Wa_weighAhead (runF_E OI_ok kc_Wa_weighAhead so_Wa_weighAhead (List.forall_mem_cons.mpr ⟨(by
    intro L st h vs hp hf
    dsimp only at hf
    split at hf
    · split at hf
      · next hq9 =>
        have hq9 := Nat.eq_of_beq_eq_true hq9
        subst hq9
        exact Ends.at hp (E_Wa_weighAhead_49 hf)
      · cases hf
    · cases hf), List.forall_mem_cons.mpr ⟨(by
    intro L st h vs hp hf
    dsimp only at hf
    split at hf
    · split at hf
      · next hq9 =>
        have hq9 := Nat.eq_of_beq_eq_true hq9
        subst hq9
        exact Ends.at hp (hκ2 _ _ _ _ hf)
      · cases hf
    · cases hf), fun _ h => absurd h List.not_mem_nil⟩⟩) 400) ((e_Wa_weighAhead_2  κ2 x1 x2 x3 h).symm.trans hz)
set_option maxRecDepth 100000 in
theorem ok_Wa_weighAhead : ∀ as h z, sF_Wa_weighAhead as h = some z → Okm toGI 242 3 as h z := by
  intro as h z hz
  unfold sF_Wa_weighAhead at hz
  split at hz
  · next f0 x1 x2 =>
    split at hz
    · next hq9 =>
      have hq9 := Nat.eq_of_beq_eq_true hq9
      subst hq9
      exact okm_of (own := 5) (rk := 0) (by decide +kernel) (by decide +kernel) (by omega) rfl (Nat.le_of_ble_eq_true rfl) (exec_E OI_ok kc_Wa_weighAhead so_Wa_weighAhead (runF_E OI_ok kc_Wa_weighAhead so_Wa_weighAhead (List.forall_mem_cons.mpr ⟨(by
          intro L st h vs hp hf
          dsimp only at hf
          split at hf
          · split at hf
            · next hq9 =>
              have hq9 := Nat.eq_of_beq_eq_true hq9
              subst hq9
              exact Ends.at hp (E_Wa_weighAhead_2 hf)
            · cases hf
          · cases hf), fun _ h => absurd h List.not_mem_nil⟩) 400) ((e_Wa_weighAhead_0 x1 x2 h).symm.trans hz))
    · cases hz
  · cases hz
set_option maxRecDepth 100000 in
theorem kc_Wa_nextOn : k_Wa_nextOn.all (chkE 5 (mtC 245)) = true := by decide +kernel
theorem so_Wa_nextOn : SemOK toGI S_Wa_nextOn 3 := List.forall_mem_cons.mpr ⟨⟨mt_243, 2, by omega, ok_Wa_leadsOn⟩, List.forall_mem_cons.mpr ⟨⟨mt_244, 1, by omega, ok_Wa_weightBy⟩, fun _ h => absurd h List.not_mem_nil⟩⟩
set_option maxRecDepth 100000 in
theorem E_Wa_nextOn_3 {z : Option Value × Hp} {x1 : Int32} {x2 : Int32} {x3 : Int32} {x4 : Int32} {h : Hp} (hz : loopC (Wa_nextOn_3   ) FU (x1, x2, x3, x4, h) = some z) : Ends toGI 5 245 3 1 z 3 (spr (mtM 245) [0, 1, 2, 3, 4] [.ref 64, .int x1, .int x2, .int x3, .int x4]) [] h := by
  refine loop_E (b := Wa_nextOn_3   ) (P := fun s => match s with | (x1, x2, x3, x4, h) => Ends toGI 5 245 3 1 z 3 (spr (mtM 245) [0, 1, 2, 3, 4] [.ref 64, .int x1, .int x2, .int x3, .int x4]) [] h) (fun s κ3 hκ hz => ?_) FU (x1, x2, x3, x4, h) hz
  obtain ⟨x1, x2, x3, x4, h⟩ := s
  have hκ3 : ∀ (x1 : Int32) (x2 : Int32) (x3 : Int32) (x4 : Int32) (h : Hp), κ3 (x1, x2, x3, x4, h) = some z → Ends toGI 5 245 3 1 z 3 (spr (mtM 245) [0, 1, 2, 3, 4] [.ref 64, .int x1, .int x2, .int x3, .int x4]) [] h := fun x1 x2 x3 x4 h q => hκ (x1, x2, x3, x4, h) q
  exact exec_E OI_ok kc_Wa_nextOn so_Wa_nextOn (runF_E OI_ok kc_Wa_nextOn so_Wa_nextOn (List.forall_mem_cons.mpr ⟨(by
    intro L st h vs hp hf
    dsimp only at hf
    split at hf
    · split at hf
      · next hq9 =>
        have hq9 := Nat.eq_of_beq_eq_true hq9
        subst hq9
        exact Ends.at hp (hκ3 _ _ _ _ _ hf)
      · cases hf
    · cases hf), fun _ h => absurd h List.not_mem_nil⟩) 400) ((e_Wa_nextOn_3  κ3 x1 x2 x3 x4 h).symm.trans hz)
set_option maxRecDepth 100000 in
theorem ok_Wa_nextOn : ∀ as h z, sF_Wa_nextOn as h = some z → Okm toGI 245 3 as h z := by
  intro as h z hz
  unfold sF_Wa_nextOn at hz
  split at hz
  · next f0 x1 x2 x3 =>
    split at hz
    · next hq9 =>
      have hq9 := Nat.eq_of_beq_eq_true hq9
      subst hq9
      exact okm_of (own := 5) (rk := 1) (by decide +kernel) (by decide +kernel) (by omega) rfl (Nat.le_of_ble_eq_true rfl) (exec_E OI_ok kc_Wa_nextOn so_Wa_nextOn (runF_E OI_ok kc_Wa_nextOn so_Wa_nextOn (List.forall_mem_cons.mpr ⟨(by
          intro L st h vs hp hf
          dsimp only at hf
          split at hf
          · split at hf
            · next hq9 =>
              have hq9 := Nat.eq_of_beq_eq_true hq9
              subst hq9
              exact Ends.at hp (E_Wa_nextOn_3 hf)
            · cases hf
          · cases hf), fun _ h => absurd h List.not_mem_nil⟩) 400) ((e_Wa_nextOn_0 x1 x2 x3 h).symm.trans hz))
    · cases hz
  · cases hz
set_option maxRecDepth 100000 in
theorem kc_Wa_find : k_Wa_find.all (chkE 5 (mtC 241)) = true := by decide +kernel
theorem so_Wa_find : SemOK toGI S_Wa_find 4 := List.forall_mem_cons.mpr ⟨⟨mt_180, 2, by omega, ok_La_ofKind⟩, List.forall_mem_cons.mpr ⟨⟨mt_242, 3, by omega, ok_Wa_weighAhead⟩, List.forall_mem_cons.mpr ⟨⟨mt_245, 3, by omega, ok_Wa_nextOn⟩, fun _ h => absurd h List.not_mem_nil⟩⟩⟩
set_option maxRecDepth 100000 in
theorem E_Wa_find_45 {z : Option Value × Hp} {x1 : Int32} {x2 : Int32} {x3 : Int32} {h : Hp} (hz : loopC (Wa_find_45   ) FU (x1, x2, x3, h) = some z) : Ends toGI 5 241 4 2 z 45 (spr (mtM 241) [0, 1, 2, 3] [.ref 64, .int x1, .int x2, .int x3]) [] h := by
  refine loop_E (b := Wa_find_45   ) (P := fun s => match s with | (x1, x2, x3, h) => Ends toGI 5 241 4 2 z 45 (spr (mtM 241) [0, 1, 2, 3] [.ref 64, .int x1, .int x2, .int x3]) [] h) (fun s κ45 hκ hz => ?_) FU (x1, x2, x3, h) hz
  obtain ⟨x1, x2, x3, h⟩ := s
  have hκ45 : ∀ (x1 : Int32) (x2 : Int32) (x3 : Int32) (h : Hp), κ45 (x1, x2, x3, h) = some z → Ends toGI 5 241 4 2 z 45 (spr (mtM 241) [0, 1, 2, 3] [.ref 64, .int x1, .int x2, .int x3]) [] h := fun x1 x2 x3 h q => hκ (x1, x2, x3, h) q
  exact exec_E OI_ok kc_Wa_find so_Wa_find (runF_E OI_ok kc_Wa_find so_Wa_find (List.forall_mem_cons.mpr ⟨(by
    intro L st h vs hp hf
    dsimp only at hf
    split at hf
    · split at hf
      · next hq9 =>
        have hq9 := Nat.eq_of_beq_eq_true hq9
        subst hq9
        exact Ends.at hp (hκ45 _ _ _ _ hf)
      · cases hf
    · cases hf), fun _ h => absurd h List.not_mem_nil⟩) 400) ((e_Wa_find_45  κ45 x1 x2 x3 h).symm.trans hz)
set_option maxRecDepth 100000 in
theorem ok_Wa_find : ∀ as h z, sF_Wa_find as h = some z → Okm toGI 241 4 as h z := by
  intro as h z hz
  unfold sF_Wa_find at hz
  split at hz
  · next f0 x1 x2 =>
    split at hz
    · next hq9 =>
      have hq9 := Nat.eq_of_beq_eq_true hq9
      subst hq9
      exact okm_of (own := 5) (rk := 2) (by decide +kernel) (by decide +kernel) (by omega) rfl (Nat.le_of_ble_eq_true rfl) (exec_E OI_ok kc_Wa_find so_Wa_find (runF_E OI_ok kc_Wa_find so_Wa_find (List.forall_mem_cons.mpr ⟨(by
          intro L st h vs hp hf
          dsimp only at hf
          split at hf
          · split at hf
            · next hq9 =>
              have hq9 := Nat.eq_of_beq_eq_true hq9
              subst hq9
              exact Ends.at hp (E_Wa_find_45 hf)
            · cases hf
          · cases hf), fun _ h => absurd h List.not_mem_nil⟩) 400) ((e_Wa_find_0 x1 x2 h).symm.trans hz))
    · cases hz
  · cases hz
set_option maxRecDepth 100000 in
theorem kc_Bp_way : k_Bp_way.all (chkE 6 (mtC 27)) = true := by decide +kernel
theorem so_Bp_way : SemOK toGI S_Bp_way 5 := List.forall_mem_cons.mpr ⟨⟨mt_58, 2, by omega, ok_Bp_noPair⟩, List.forall_mem_cons.mpr ⟨⟨mt_56, 1, by omega, ok_Bp_noTongues⟩, List.forall_mem_cons.mpr ⟨⟨mt_52, 1, by omega, ok_Bp_noRow⟩, List.forall_mem_cons.mpr ⟨⟨mt_239, 4, by omega, ok_Wa_priceAsTheyAre⟩, List.forall_mem_cons.mpr ⟨⟨mt_241, 4, by omega, ok_Wa_find⟩, List.forall_mem_cons.mpr ⟨⟨mt_229, 1, by omega, ok_Sh_fill⟩, fun _ h => absurd h List.not_mem_nil⟩⟩⟩⟩⟩⟩
set_option maxRecDepth 100000 in
theorem ok_Bp_way : ∀ as h z, sF_Bp_way as h = some z → Okm toGI 27 5 as h z := by
  intro as h z hz
  unfold sF_Bp_way at hz
  split at hz
  · next f0 x1 x2 x3 x4 =>
    split at hz
    · next hq9 =>
      have hq9 := Nat.eq_of_beq_eq_true hq9
      subst hq9
      exact okm_of (own := 6) (rk := 1) (by decide +kernel) (by decide +kernel) (by omega) rfl (Nat.le_of_ble_eq_true rfl) (exec_E OI_ok kc_Bp_way so_Bp_way (runF_E OI_ok kc_Bp_way so_Bp_way (fun _ h => absurd h List.not_mem_nil) 400) ((e_Bp_way_0 x1 x2 x3 x4 h).symm.trans hz))
    · cases hz
  · cases hz
set_option maxRecDepth 100000 in
theorem kc_Bp_tongue : k_Bp_tongue.all (chkE 6 (mtC 28)) = true := by decide +kernel
theorem so_Bp_tongue : SemOK toGI S_Bp_tongue 5 := List.forall_mem_cons.mpr ⟨⟨mt_58, 2, by omega, ok_Bp_noPair⟩, List.forall_mem_cons.mpr ⟨⟨mt_57, 1, by omega, ok_Bp_noHour⟩, List.forall_mem_cons.mpr ⟨⟨mt_65, 1, by omega, ok_Bp_has⟩, List.forall_mem_cons.mpr ⟨⟨mt_64, 1, by omega, ok_Bp_bit⟩, List.forall_mem_cons.mpr ⟨⟨mt_236, 4, by omega, ok_Wa_soonest⟩, fun _ h => absurd h List.not_mem_nil⟩⟩⟩⟩⟩
set_option maxRecDepth 100000 in
theorem E_Bp_tongue_50 {z : Option Value × Hp} {x1 : Int32} {x2 : Int32} {x3 : Int32} {x4 : Int32} {x5 : Int32} {x6 : Int32} {x7 : Int32} {h : Hp} (hz : loopC (Bp_tongue_50   ) FU (x1, x2, x3, x4, x5, x6, x7, h) = some z) : Ends toGI 6 28 5 1 z 50 (spr (mtM 28) [0, 1, 2, 3, 4, 5, 6, 7] [.ref 0, .int x1, .int x2, .int x3, .int x4, .int x5, .int x6, .int x7]) [] h := by
  refine loop_E (b := Bp_tongue_50   ) (P := fun s => match s with | (x1, x2, x3, x4, x5, x6, x7, h) => Ends toGI 6 28 5 1 z 50 (spr (mtM 28) [0, 1, 2, 3, 4, 5, 6, 7] [.ref 0, .int x1, .int x2, .int x3, .int x4, .int x5, .int x6, .int x7]) [] h) (fun s κ50 hκ hz => ?_) FU (x1, x2, x3, x4, x5, x6, x7, h) hz
  obtain ⟨x1, x2, x3, x4, x5, x6, x7, h⟩ := s
  have hκ50 : ∀ (x1 : Int32) (x2 : Int32) (x3 : Int32) (x4 : Int32) (x5 : Int32) (x6 : Int32) (x7 : Int32) (h : Hp), κ50 (x1, x2, x3, x4, x5, x6, x7, h) = some z → Ends toGI 6 28 5 1 z 50 (spr (mtM 28) [0, 1, 2, 3, 4, 5, 6, 7] [.ref 0, .int x1, .int x2, .int x3, .int x4, .int x5, .int x6, .int x7]) [] h := fun x1 x2 x3 x4 x5 x6 x7 h q => hκ (x1, x2, x3, x4, x5, x6, x7, h) q
  exact exec_E OI_ok kc_Bp_tongue so_Bp_tongue (runF_E OI_ok kc_Bp_tongue so_Bp_tongue (List.forall_mem_cons.mpr ⟨(by
    intro L st h vs hp hf
    dsimp only at hf
    split at hf
    · split at hf
      · next hq9 =>
        have hq9 := Nat.eq_of_beq_eq_true hq9
        subst hq9
        exact Ends.at hp (hκ50 _ _ _ _ _ _ _ _ hf)
      · cases hf
    · cases hf), fun _ h => absurd h List.not_mem_nil⟩) 400) ((e_Bp_tongue_50  κ50 x1 x2 x3 x4 x5 x6 x7 h).symm.trans hz)
set_option maxRecDepth 100000 in
theorem ok_Bp_tongue : ∀ as h z, sF_Bp_tongue as h = some z → Okm toGI 28 5 as h z := by
  intro as h z hz
  unfold sF_Bp_tongue at hz
  split at hz
  · next f0 x1 x2 x3 =>
    split at hz
    · next hq9 =>
      have hq9 := Nat.eq_of_beq_eq_true hq9
      subst hq9
      exact okm_of (own := 6) (rk := 1) (by decide +kernel) (by decide +kernel) (by omega) rfl (Nat.le_of_ble_eq_true rfl) (exec_E OI_ok kc_Bp_tongue so_Bp_tongue (runF_E OI_ok kc_Bp_tongue so_Bp_tongue (List.forall_mem_cons.mpr ⟨(by
          intro L st h vs hp hf
          dsimp only at hf
          split at hf
          · split at hf
            · next hq9 =>
              have hq9 := Nat.eq_of_beq_eq_true hq9
              subst hq9
              exact Ends.at hp (E_Bp_tongue_50 hf)
            · cases hf
          · cases hf), fun _ h => absurd h List.not_mem_nil⟩) 400) ((e_Bp_tongue_0 x1 x2 x3 h).symm.trans hz))
    · cases hz
  · cases hz
set_option maxRecDepth 100000 in
theorem kc_Bp_parts : k_Bp_parts.all (chkE 6 (mtC 29)) = true := by decide +kernel
theorem so_Bp_parts : SemOK toGI S_Bp_parts 5 := List.forall_mem_cons.mpr ⟨⟨mt_58, 2, by omega, ok_Bp_noPair⟩, List.forall_mem_cons.mpr ⟨⟨mt_56, 1, by omega, ok_Bp_noTongues⟩, List.forall_mem_cons.mpr ⟨⟨mt_57, 1, by omega, ok_Bp_noHour⟩, List.forall_mem_cons.mpr ⟨⟨mt_65, 1, by omega, ok_Bp_has⟩, List.forall_mem_cons.mpr ⟨⟨mt_64, 1, by omega, ok_Bp_bit⟩, List.forall_mem_cons.mpr ⟨⟨mt_236, 4, by omega, ok_Wa_soonest⟩, fun _ h => absurd h List.not_mem_nil⟩⟩⟩⟩⟩⟩
set_option maxRecDepth 100000 in
theorem E_Bp_parts_32 {z : Option Value × Hp} {x1 : Int32} {x2 : Int32} {x3 : Int32} {x4 : Int32} {x5 : Int32} {x6 : Int32} {h : Hp} (hz : loopC (Bp_parts_32   ) FU (x1, x2, x3, x4, x5, x6, h) = some z) : Ends toGI 6 29 5 1 z 32 (spr (mtM 29) [0, 1, 2, 3, 4, 5, 6] [.ref 0, .int x1, .int x2, .int x3, .int x4, .int x5, .int x6]) [] h := by
  refine loop_E (b := Bp_parts_32   ) (P := fun s => match s with | (x1, x2, x3, x4, x5, x6, h) => Ends toGI 6 29 5 1 z 32 (spr (mtM 29) [0, 1, 2, 3, 4, 5, 6] [.ref 0, .int x1, .int x2, .int x3, .int x4, .int x5, .int x6]) [] h) (fun s κ32 hκ hz => ?_) FU (x1, x2, x3, x4, x5, x6, h) hz
  obtain ⟨x1, x2, x3, x4, x5, x6, h⟩ := s
  have hκ32 : ∀ (x1 : Int32) (x2 : Int32) (x3 : Int32) (x4 : Int32) (x5 : Int32) (x6 : Int32) (h : Hp), κ32 (x1, x2, x3, x4, x5, x6, h) = some z → Ends toGI 6 29 5 1 z 32 (spr (mtM 29) [0, 1, 2, 3, 4, 5, 6] [.ref 0, .int x1, .int x2, .int x3, .int x4, .int x5, .int x6]) [] h := fun x1 x2 x3 x4 x5 x6 h q => hκ (x1, x2, x3, x4, x5, x6, h) q
  exact exec_E OI_ok kc_Bp_parts so_Bp_parts (runF_E OI_ok kc_Bp_parts so_Bp_parts (List.forall_mem_cons.mpr ⟨(by
    intro L st h vs hp hf
    dsimp only at hf
    split at hf
    · split at hf
      · next hq9 =>
        have hq9 := Nat.eq_of_beq_eq_true hq9
        subst hq9
        exact Ends.at hp (hκ32 _ _ _ _ _ _ _ hf)
      · cases hf
    · cases hf), fun _ h => absurd h List.not_mem_nil⟩) 400) ((e_Bp_parts_32  κ32 x1 x2 x3 x4 x5 x6 h).symm.trans hz)
set_option maxRecDepth 100000 in
theorem ok_Bp_parts : ∀ as h z, sF_Bp_parts as h = some z → Okm toGI 29 5 as h z := by
  intro as h z hz
  unfold sF_Bp_parts at hz
  split at hz
  · next f0 x1 x2 x3 x4 =>
    split at hz
    · next hq9 =>
      have hq9 := Nat.eq_of_beq_eq_true hq9
      subst hq9
      exact okm_of (own := 6) (rk := 1) (by decide +kernel) (by decide +kernel) (by omega) rfl (Nat.le_of_ble_eq_true rfl) (exec_E OI_ok kc_Bp_parts so_Bp_parts (runF_E OI_ok kc_Bp_parts so_Bp_parts (List.forall_mem_cons.mpr ⟨(by
          intro L st h vs hp hf
          dsimp only at hf
          split at hf
          · split at hf
            · next hq9 =>
              have hq9 := Nat.eq_of_beq_eq_true hq9
              subst hq9
              exact Ends.at hp (E_Bp_parts_32 hf)
            · cases hf
          · cases hf), fun _ h => absurd h List.not_mem_nil⟩) 400) ((e_Bp_parts_0 x1 x2 x3 x4 h).symm.trans hz))
    · cases hz
  · cases hz
set_option maxRecDepth 100000 in
theorem kc_Wa_metByAny : k_Wa_metByAny.all (chkE 5 (mtC 235)) = true := by decide +kernel
theorem so_Wa_metByAny : SemOK toGI S_Wa_metByAny 2 := List.forall_mem_cons.mpr ⟨⟨mt_65, 1, by omega, ok_Bp_has⟩, fun _ h => absurd h List.not_mem_nil⟩
set_option maxRecDepth 100000 in
theorem E_Wa_metByAny_4 {z : Option Value × Hp} {x1 : Int32} {x2 : Int32} {x3 : Int32} {h : Hp} (hz : loopC (Wa_metByAny_4   ) FU (x1, x2, x3, h) = some z) : Ends toGI 5 235 2 1 z 4 (spr (mtM 235) [0, 1, 2, 3] [.ref 64, .int x1, .int x2, .int x3]) [] h := by
  refine loop_E (b := Wa_metByAny_4   ) (P := fun s => match s with | (x1, x2, x3, h) => Ends toGI 5 235 2 1 z 4 (spr (mtM 235) [0, 1, 2, 3] [.ref 64, .int x1, .int x2, .int x3]) [] h) (fun s κ4 hκ hz => ?_) FU (x1, x2, x3, h) hz
  obtain ⟨x1, x2, x3, h⟩ := s
  have hκ4 : ∀ (x1 : Int32) (x2 : Int32) (x3 : Int32) (h : Hp), κ4 (x1, x2, x3, h) = some z → Ends toGI 5 235 2 1 z 4 (spr (mtM 235) [0, 1, 2, 3] [.ref 64, .int x1, .int x2, .int x3]) [] h := fun x1 x2 x3 h q => hκ (x1, x2, x3, h) q
  exact exec_E OI_ok kc_Wa_metByAny so_Wa_metByAny (runF_E OI_ok kc_Wa_metByAny so_Wa_metByAny (List.forall_mem_cons.mpr ⟨(by
    intro L st h vs hp hf
    dsimp only at hf
    split at hf
    · split at hf
      · next hq9 =>
        have hq9 := Nat.eq_of_beq_eq_true hq9
        subst hq9
        exact Ends.at hp (hκ4 _ _ _ _ hf)
      · cases hf
    · cases hf), fun _ h => absurd h List.not_mem_nil⟩) 400) ((e_Wa_metByAny_4  κ4 x1 x2 x3 h).symm.trans hz)
set_option maxRecDepth 100000 in
theorem ok_Wa_metByAny : ∀ as h z, sF_Wa_metByAny as h = some z → Okm toGI 235 2 as h z := by
  intro as h z hz
  unfold sF_Wa_metByAny at hz
  split at hz
  · next f0 x1 =>
    split at hz
    · next hq9 =>
      have hq9 := Nat.eq_of_beq_eq_true hq9
      subst hq9
      exact okm_of (own := 5) (rk := 1) (by decide +kernel) (by decide +kernel) (by omega) rfl (Nat.le_of_ble_eq_true rfl) (exec_E OI_ok kc_Wa_metByAny so_Wa_metByAny (runF_E OI_ok kc_Wa_metByAny so_Wa_metByAny (List.forall_mem_cons.mpr ⟨(by
          intro L st h vs hp hf
          dsimp only at hf
          split at hf
          · split at hf
            · next hq9 =>
              have hq9 := Nat.eq_of_beq_eq_true hq9
              subst hq9
              exact Ends.at hp (E_Wa_metByAny_4 hf)
            · cases hf
          · cases hf), fun _ h => absurd h List.not_mem_nil⟩) 400) ((e_Wa_metByAny_0 x1 h).symm.trans hz))
    · cases hz
  · cases hz
set_option maxRecDepth 100000 in
theorem kc_Wa_leadsOver : k_Wa_leadsOver.all (chkE 5 (mtC 238)) = true := by decide +kernel
theorem so_Wa_leadsOver : SemOK toGI S_Wa_leadsOver 3 := List.forall_mem_cons.mpr ⟨⟨mt_180, 2, by omega, ok_La_ofKind⟩, List.forall_mem_cons.mpr ⟨⟨mt_235, 2, by omega, ok_Wa_metByAny⟩, fun _ h => absurd h List.not_mem_nil⟩⟩
set_option maxRecDepth 100000 in
theorem E_Wa_leadsOver_30 {z : Option Value × Hp} {x2 : Int32} {x4 : Int32} {x5 : Int32} {x6 : Int32} {h : Hp} (hz : loopC (Wa_leadsOver_30   ) FU (x2, x4, x5, x6, h) = some z) : Ends toGI 5 238 3 2 z 30 (spr (mtM 238) [0, 2, 4, 5, 6] [.ref 64, .int x2, .int x4, .int x5, .int x6]) [] h := by
  refine loop_E (b := Wa_leadsOver_30   ) (P := fun s => match s with | (x2, x4, x5, x6, h) => Ends toGI 5 238 3 2 z 30 (spr (mtM 238) [0, 2, 4, 5, 6] [.ref 64, .int x2, .int x4, .int x5, .int x6]) [] h) (fun s κ30 hκ hz => ?_) FU (x2, x4, x5, x6, h) hz
  obtain ⟨x2, x4, x5, x6, h⟩ := s
  have hκ30 : ∀ (x2 : Int32) (x4 : Int32) (x5 : Int32) (x6 : Int32) (h : Hp), κ30 (x2, x4, x5, x6, h) = some z → Ends toGI 5 238 3 2 z 30 (spr (mtM 238) [0, 2, 4, 5, 6] [.ref 64, .int x2, .int x4, .int x5, .int x6]) [] h := fun x2 x4 x5 x6 h q => hκ (x2, x4, x5, x6, h) q
  exact exec_E OI_ok kc_Wa_leadsOver so_Wa_leadsOver (runF_E OI_ok kc_Wa_leadsOver so_Wa_leadsOver (List.forall_mem_cons.mpr ⟨(by
    intro L st h vs hp hf
    dsimp only at hf
    split at hf
    · split at hf
      · next hq9 =>
        have hq9 := Nat.eq_of_beq_eq_true hq9
        subst hq9
        exact Ends.at hp (hκ30 _ _ _ _ _ hf)
      · cases hf
    · cases hf), fun _ h => absurd h List.not_mem_nil⟩) 400) ((e_Wa_leadsOver_30  κ30 x2 x4 x5 x6 h).symm.trans hz)
set_option maxRecDepth 100000 in
theorem ok_Wa_leadsOver : ∀ as h z, sF_Wa_leadsOver as h = some z → Okm toGI 238 3 as h z := by
  intro as h z hz
  unfold sF_Wa_leadsOver at hz
  split at hz
  · next f0 x1 x2 x3 =>
    split at hz
    · next hq9 =>
      have hq9 := Nat.eq_of_beq_eq_true hq9
      subst hq9
      exact okm_of (own := 5) (rk := 2) (by decide +kernel) (by decide +kernel) (by omega) rfl (Nat.le_of_ble_eq_true rfl) (exec_E OI_ok kc_Wa_leadsOver so_Wa_leadsOver (runF_E OI_ok kc_Wa_leadsOver so_Wa_leadsOver (List.forall_mem_cons.mpr ⟨(by
          intro L st h vs hp hf
          dsimp only at hf
          split at hf
          · split at hf
            · next hq9 =>
              have hq9 := Nat.eq_of_beq_eq_true hq9
              subst hq9
              exact Ends.at hp (E_Wa_leadsOver_30 hf)
            · cases hf
          · cases hf), fun _ h => absurd h List.not_mem_nil⟩) 400) ((e_Wa_leadsOver_0 x1 x2 x3 h).symm.trans hz))
    · cases hz
  · cases hz
