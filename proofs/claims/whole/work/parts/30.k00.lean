set_option maxRecDepth 100000 in
theorem kc_Bp_noRow : k_Bp_noRow.all (chkE 6 (mtC 52)) = true := by decide +kernel
theorem so_Bp_noRow : SemOK toGI S_Bp_noRow 1 := fun _ h => absurd h List.not_mem_nil
set_option maxRecDepth 100000 in
theorem ok_Bp_noRow : ∀ as h z, sF_Bp_noRow as h = some z → Okm toGI 52 1 as h z := by
  intro as h z hz
  unfold sF_Bp_noRow at hz
  split at hz
  · next x0 =>
    exact okm_of (own := 6) (rk := 2) (by decide +kernel) (by decide +kernel) (by omega) rfl (Nat.le_of_ble_eq_true rfl) (exec_E OI_ok kc_Bp_noRow so_Bp_noRow (runF_E OI_ok kc_Bp_noRow so_Bp_noRow (fun _ h => absurd h List.not_mem_nil) 400) ((e_Bp_noRow_0 x0 h).symm.trans hz))
  · cases hz
set_option maxRecDepth 100000 in
theorem kc_Bp_found : k_Bp_found.all (chkE 6 (mtC 50)) = true := by decide +kernel
theorem so_Bp_found : SemOK toGI S_Bp_found 1 := fun _ h => absurd h List.not_mem_nil
set_option maxRecDepth 100000 in
theorem ok_Bp_found : ∀ as h z, sF_Bp_found as h = some z → Okm toGI 50 1 as h z := by
  intro as h z hz
  unfold sF_Bp_found at hz
  split at hz
  · next f0 x1 =>
    split at hz
    · next hq9 =>
      have hq9 := Nat.eq_of_beq_eq_true hq9
      subst hq9
      exact okm_of (own := 6) (rk := 1) (by decide +kernel) (by decide +kernel) (by omega) rfl (Nat.le_of_ble_eq_true rfl) (exec_E OI_ok kc_Bp_found so_Bp_found (runF_E OI_ok kc_Bp_found so_Bp_found (fun _ h => absurd h List.not_mem_nil) 400) ((e_Bp_found_0 x1 h).symm.trans hz))
    · cases hz
  · cases hz
set_option maxRecDepth 100000 in
theorem kc_Sh_renew : k_Sh_renew.all (chkE 4 (mtC 228)) = true := by decide +kernel
theorem so_Sh_renew : SemOK toGI S_Sh_renew 1 := fun _ h => absurd h List.not_mem_nil
set_option maxRecDepth 100000 in
theorem E_Sh_renew_15 {z : Option Value × Hp} {o0 : Nat} {x2 : Int32} {x3 : Int32} {h : Hp} (hz : loopC (Sh_renew_15   ) FU (o0, x2, x3, h) = some z) : Ends toGI 4 228 1 0 z 15 (spr (mtM 228) [0, 2, 3] [.ref o0, .int x2, .int x3]) [] h := by
  refine loop_E (b := Sh_renew_15   ) (P := fun s => match s with | (o0, x2, x3, h) => Ends toGI 4 228 1 0 z 15 (spr (mtM 228) [0, 2, 3] [.ref o0, .int x2, .int x3]) [] h) (fun s κ15 hκ hz => ?_) FU (o0, x2, x3, h) hz
  obtain ⟨o0, x2, x3, h⟩ := s
  have hκ15 : ∀ (o0 : Nat) (x2 : Int32) (x3 : Int32) (h : Hp), κ15 (o0, x2, x3, h) = some z → Ends toGI 4 228 1 0 z 15 (spr (mtM 228) [0, 2, 3] [.ref o0, .int x2, .int x3]) [] h := fun o0 x2 x3 h q => hκ (o0, x2, x3, h) q
  exact exec_E OI_ok kc_Sh_renew so_Sh_renew (runF_E OI_ok kc_Sh_renew so_Sh_renew (List.forall_mem_cons.mpr ⟨(by
    intro L st h vs hp hf
    dsimp only at hf
    split at hf
    · exact Ends.at hp (hκ15 _ _ _ _ hf)
    · cases hf), fun _ h => absurd h List.not_mem_nil⟩) 400) ((e_Sh_renew_15  κ15 o0 x2 x3 h).symm.trans hz)
set_option maxRecDepth 100000 in
theorem ok_Sh_renew : ∀ as h z, sF_Sh_renew as h = some z → Okm toGI 228 1 as h z := by
  intro as h z hz
  unfold sF_Sh_renew at hz
  split at hz
  · next o0 x1 x2 =>
    exact okm_of (own := 4) (rk := 0) (by decide +kernel) (by decide +kernel) (by omega) rfl (Nat.le_of_ble_eq_true rfl) (exec_E OI_ok kc_Sh_renew so_Sh_renew (runF_E OI_ok kc_Sh_renew so_Sh_renew (List.forall_mem_cons.mpr ⟨(by
          intro L st h vs hp hf
          dsimp only at hf
          split at hf
          · exact Ends.at hp (E_Sh_renew_15 hf)
          · cases hf), fun _ h => absurd h List.not_mem_nil⟩) 400) ((e_Sh_renew_0 o0 x1 x2 h).symm.trans hz))
  · cases hz
set_option maxRecDepth 100000 in
theorem kc_Bp_row : k_Bp_row.all (chkE 6 (mtC 1)) = true := by decide +kernel
theorem so_Bp_row : SemOK toGI S_Bp_row 2 := List.forall_mem_cons.mpr ⟨⟨mt_52, 1, by omega, ok_Bp_noRow⟩, List.forall_mem_cons.mpr ⟨⟨mt_228, 1, by omega, ok_Sh_renew⟩, List.forall_mem_cons.mpr ⟨⟨mt_50, 1, by omega, ok_Bp_found⟩, fun _ h => absurd h List.not_mem_nil⟩⟩⟩
set_option maxRecDepth 100000 in
theorem ok_Bp_row : ∀ as h z, sF_Bp_row as h = some z → Okm toGI 1 2 as h z := by
  intro as h z hz
  unfold sF_Bp_row at hz
  split at hz
  · next f0 x1 x2 =>
    split at hz
    · next hq9 =>
      have hq9 := Nat.eq_of_beq_eq_true hq9
      subst hq9
      exact okm_of (own := 6) (rk := 1) (by decide +kernel) (by decide +kernel) (by omega) rfl (Nat.le_of_ble_eq_true rfl) (exec_E OI_ok kc_Bp_row so_Bp_row (runF_E OI_ok kc_Bp_row so_Bp_row (fun _ h => absurd h List.not_mem_nil) 400) ((e_Bp_row_0 x1 x2 h).symm.trans hz))
    · cases hz
  · cases hz
set_option maxRecDepth 100000 in
theorem kc_Sh_isThere : k_Sh_isThere.all (chkE 4 (mtC 225)) = true := by decide +kernel
theorem so_Sh_isThere : SemOK toGI S_Sh_isThere 1 := fun _ h => absurd h List.not_mem_nil
set_option maxRecDepth 100000 in
theorem ok_Sh_isThere : ∀ as h z, sF_Sh_isThere as h = some z → Okm toGI 225 1 as h z := by
  intro as h z hz
  unfold sF_Sh_isThere at hz
  split at hz
  · next o0 =>
    exact okm_of (own := 4) (rk := 2) (by decide +kernel) (by decide +kernel) (by omega) rfl (Nat.le_of_ble_eq_true rfl) (exec_E OI_ok kc_Sh_isThere so_Sh_isThere (runF_E OI_ok kc_Sh_isThere so_Sh_isThere (fun _ h => absurd h List.not_mem_nil) 400) ((e_Sh_isThere_0 o0 h).symm.trans hz))
  · cases hz
set_option maxRecDepth 100000 in
theorem kc_Sh_lackAt : k_Sh_lackAt.all (chkE 4 (mtC 226)) = true := by decide +kernel
theorem so_Sh_lackAt : SemOK toGI S_Sh_lackAt 2 := List.forall_mem_cons.mpr ⟨⟨mt_225, 1, by omega, ok_Sh_isThere⟩, fun _ h => absurd h List.not_mem_nil⟩
set_option maxRecDepth 100000 in
theorem ok_Sh_lackAt : ∀ as h z, sF_Sh_lackAt as h = some z → Okm toGI 226 2 as h z := by
  intro as h z hz
  unfold sF_Sh_lackAt at hz
  split at hz
  · next o0 x1 =>
    exact okm_of (own := 4) (rk := 1) (by decide +kernel) (by decide +kernel) (by omega) rfl (Nat.le_of_ble_eq_true rfl) (exec_E OI_ok kc_Sh_lackAt so_Sh_lackAt (runF_E OI_ok kc_Sh_lackAt so_Sh_lackAt (fun _ h => absurd h List.not_mem_nil) 400) ((e_Sh_lackAt_0 o0 x1 h).symm.trans hz))
  · cases hz
set_option maxRecDepth 100000 in
theorem kc_Bp_tell : k_Bp_tell.all (chkE 6 (mtC 51)) = true := by decide +kernel
theorem so_Bp_tell : SemOK toGI S_Bp_tell 1 := fun _ h => absurd h List.not_mem_nil
set_option maxRecDepth 100000 in
theorem ok_Bp_tell : ∀ as h z, sF_Bp_tell as h = some z → Okm toGI 51 1 as h z := by
  intro as h z hz
  unfold sF_Bp_tell at hz
  split at hz
  · next f0 x1 =>
    split at hz
    · next hq9 =>
      have hq9 := Nat.eq_of_beq_eq_true hq9
      subst hq9
      exact okm_of (own := 6) (rk := 1) (by decide +kernel) (by decide +kernel) (by omega) rfl (Nat.le_of_ble_eq_true rfl) (exec_E OI_ok kc_Bp_tell so_Bp_tell (runF_E OI_ok kc_Bp_tell so_Bp_tell (fun _ h => absurd h List.not_mem_nil) 400) ((e_Bp_tell_0 x1 h).symm.trans hz))
    · cases hz
  · cases hz
set_option maxRecDepth 100000 in
theorem kc_Bp_lay : k_Bp_lay.all (chkE 6 (mtC 2)) = true := by decide +kernel
theorem so_Bp_lay : SemOK toGI S_Bp_lay 3 := List.forall_mem_cons.mpr ⟨⟨mt_52, 1, by omega, ok_Bp_noRow⟩, List.forall_mem_cons.mpr ⟨⟨mt_226, 2, by omega, ok_Sh_lackAt⟩, List.forall_mem_cons.mpr ⟨⟨mt_51, 1, by omega, ok_Bp_tell⟩, List.forall_mem_cons.mpr ⟨⟨mt_50, 1, by omega, ok_Bp_found⟩, fun _ h => absurd h List.not_mem_nil⟩⟩⟩⟩
set_option maxRecDepth 100000 in
theorem ok_Bp_lay : ∀ as h z, sF_Bp_lay as h = some z → Okm toGI 2 3 as h z := by
  intro as h z hz
  unfold sF_Bp_lay at hz
  split at hz
  · next f0 x1 x2 x3 =>
    split at hz
    · next hq9 =>
      have hq9 := Nat.eq_of_beq_eq_true hq9
      subst hq9
      exact okm_of (own := 6) (rk := 1) (by decide +kernel) (by decide +kernel) (by omega) rfl (Nat.le_of_ble_eq_true rfl) (exec_E OI_ok kc_Bp_lay so_Bp_lay (runF_E OI_ok kc_Bp_lay so_Bp_lay (fun _ h => absurd h List.not_mem_nil) 400) ((e_Bp_lay_0 x1 x2 x3 h).symm.trans hz))
    · cases hz
  · cases hz
set_option maxRecDepth 100000 in
theorem kc_Bp_at : k_Bp_at.all (chkE 6 (mtC 3)) = true := by decide +kernel
theorem so_Bp_at : SemOK toGI S_Bp_at 3 := List.forall_mem_cons.mpr ⟨⟨mt_52, 1, by omega, ok_Bp_noRow⟩, List.forall_mem_cons.mpr ⟨⟨mt_226, 2, by omega, ok_Sh_lackAt⟩, List.forall_mem_cons.mpr ⟨⟨mt_51, 1, by omega, ok_Bp_tell⟩, List.forall_mem_cons.mpr ⟨⟨mt_50, 1, by omega, ok_Bp_found⟩, fun _ h => absurd h List.not_mem_nil⟩⟩⟩⟩
set_option maxRecDepth 100000 in
theorem ok_Bp_at : ∀ as h z, sF_Bp_at as h = some z → Okm toGI 3 3 as h z := by
  intro as h z hz
  unfold sF_Bp_at at hz
  split at hz
  · next f0 x1 x2 =>
    split at hz
    · next hq9 =>
      have hq9 := Nat.eq_of_beq_eq_true hq9
      subst hq9
      exact okm_of (own := 6) (rk := 1) (by decide +kernel) (by decide +kernel) (by omega) rfl (Nat.le_of_ble_eq_true rfl) (exec_E OI_ok kc_Bp_at so_Bp_at (runF_E OI_ok kc_Bp_at so_Bp_at (fun _ h => absurd h List.not_mem_nil) 400) ((e_Bp_at_0 x1 x2 h).symm.trans hz))
    · cases hz
  · cases hz
set_option maxRecDepth 100000 in
theorem kc_Bp_tear : k_Bp_tear.all (chkE 6 (mtC 4)) = true := by decide +kernel
theorem so_Bp_tear : SemOK toGI S_Bp_tear 2 := List.forall_mem_cons.mpr ⟨⟨mt_52, 1, by omega, ok_Bp_noRow⟩, List.forall_mem_cons.mpr ⟨⟨mt_225, 1, by omega, ok_Sh_isThere⟩, List.forall_mem_cons.mpr ⟨⟨mt_50, 1, by omega, ok_Bp_found⟩, fun _ h => absurd h List.not_mem_nil⟩⟩⟩
set_option maxRecDepth 100000 in
theorem ok_Bp_tear : ∀ as h z, sF_Bp_tear as h = some z → Okm toGI 4 2 as h z := by
  intro as h z hz
  unfold sF_Bp_tear at hz
  split at hz
  · next f0 x1 =>
    split at hz
    · next hq9 =>
      have hq9 := Nat.eq_of_beq_eq_true hq9
      subst hq9
      exact okm_of (own := 6) (rk := 1) (by decide +kernel) (by decide +kernel) (by omega) rfl (Nat.le_of_ble_eq_true rfl) (exec_E OI_ok kc_Bp_tear so_Bp_tear (runF_E OI_ok kc_Bp_tear so_Bp_tear (fun _ h => absurd h List.not_mem_nil) 400) ((e_Bp_tear_0 x1 h).symm.trans hz))
    · cases hz
  · cases hz
set_option maxRecDepth 100000 in
theorem kc_Sh_spans : k_Sh_spans.all (chkE 4 (mtC 227)) = true := by decide +kernel
theorem so_Sh_spans : SemOK toGI S_Sh_spans 1 := fun _ h => absurd h List.not_mem_nil
set_option maxRecDepth 100000 in
theorem ok_Sh_spans : ∀ as h z, sF_Sh_spans as h = some z → Okm toGI 227 1 as h z := by
  intro as h z hz
  unfold sF_Sh_spans at hz
  split at hz
  · next o0 x1 x2 =>
    exact okm_of (own := 4) (rk := 2) (by decide +kernel) (by decide +kernel) (by omega) rfl (Nat.le_of_ble_eq_true rfl) (exec_E OI_ok kc_Sh_spans so_Sh_spans (runF_E OI_ok kc_Sh_spans so_Sh_spans (fun _ h => absurd h List.not_mem_nil) 400) ((e_Sh_spans_0 o0 x1 x2 h).symm.trans hz))
  · cases hz
set_option maxRecDepth 100000 in
theorem kc_Bp_copy : k_Bp_copy.all (chkE 6 (mtC 5)) = true := by decide +kernel
theorem so_Bp_copy : SemOK toGI S_Bp_copy 2 := List.forall_mem_cons.mpr ⟨⟨mt_52, 1, by omega, ok_Bp_noRow⟩, List.forall_mem_cons.mpr ⟨⟨mt_225, 1, by omega, ok_Sh_isThere⟩, List.forall_mem_cons.mpr ⟨⟨mt_50, 1, by omega, ok_Bp_found⟩, List.forall_mem_cons.mpr ⟨⟨mt_227, 1, by omega, ok_Sh_spans⟩, fun _ h => absurd h List.not_mem_nil⟩⟩⟩⟩
set_option maxRecDepth 100000 in
theorem ok_Bp_copy : ∀ as h z, sF_Bp_copy as h = some z → Okm toGI 5 2 as h z := by
  intro as h z hz
  unfold sF_Bp_copy at hz
  split at hz
  · next f0 x1 x2 x3 x4 x5 =>
    split at hz
    · next hq9 =>
      have hq9 := Nat.eq_of_beq_eq_true hq9
      subst hq9
      exact okm_of (own := 6) (rk := 1) (by decide +kernel) (by decide +kernel) (by omega) rfl (Nat.le_of_ble_eq_true rfl) (exec_E OI_ok kc_Bp_copy so_Bp_copy (runF_E OI_ok kc_Bp_copy so_Bp_copy (fun _ h => absurd h List.not_mem_nil) 400) ((e_Bp_copy_0 x1 x2 x3 x4 x5 h).symm.trans hz))
    · cases hz
  · cases hz
set_option maxRecDepth 100000 in
theorem kc_Sh_sum : k_Sh_sum.all (chkE 4 (mtC 230)) = true := by decide +kernel
theorem so_Sh_sum : SemOK toGI S_Sh_sum 1 := fun _ h => absurd h List.not_mem_nil
set_option maxRecDepth 100000 in
theorem E_Sh_sum_4 {z : Option Value × Hp} {o0 : Nat} {y1 : Int64} {x3 : Int32} {h : Hp} (hz : loopC (Sh_sum_4   ) FU (o0, y1, x3, h) = some z) : Ends toGI 4 230 1 3 z 4 (spr (mtM 230) [0, 1, 3] [.ref o0, .long y1, .int x3]) [] h := by
  refine loop_E (b := Sh_sum_4   ) (P := fun s => match s with | (o0, y1, x3, h) => Ends toGI 4 230 1 3 z 4 (spr (mtM 230) [0, 1, 3] [.ref o0, .long y1, .int x3]) [] h) (fun s κ4 hκ hz => ?_) FU (o0, y1, x3, h) hz
  obtain ⟨o0, y1, x3, h⟩ := s
  have hκ4 : ∀ (o0 : Nat) (y1 : Int64) (x3 : Int32) (h : Hp), κ4 (o0, y1, x3, h) = some z → Ends toGI 4 230 1 3 z 4 (spr (mtM 230) [0, 1, 3] [.ref o0, .long y1, .int x3]) [] h := fun o0 y1 x3 h q => hκ (o0, y1, x3, h) q
  exact exec_E OI_ok kc_Sh_sum so_Sh_sum (runF_E OI_ok kc_Sh_sum so_Sh_sum (List.forall_mem_cons.mpr ⟨(by
    intro L st h vs hp hf
    dsimp only at hf
    split at hf
    · exact Ends.at hp (hκ4 _ _ _ _ hf)
    · cases hf), fun _ h => absurd h List.not_mem_nil⟩) 400) ((e_Sh_sum_4  κ4 o0 y1 x3 h).symm.trans hz)
set_option maxRecDepth 100000 in
theorem ok_Sh_sum : ∀ as h z, sF_Sh_sum as h = some z → Okm toGI 230 1 as h z := by
  intro as h z hz
  unfold sF_Sh_sum at hz
  split at hz
  · next o0 =>
    exact okm_of (own := 4) (rk := 3) (by decide +kernel) (by decide +kernel) (by omega) rfl (Nat.le_of_ble_eq_true rfl) (exec_E OI_ok kc_Sh_sum so_Sh_sum (runF_E OI_ok kc_Sh_sum so_Sh_sum (List.forall_mem_cons.mpr ⟨(by
          intro L st h vs hp hf
          dsimp only at hf
          split at hf
          · exact Ends.at hp (E_Sh_sum_4 hf)
          · cases hf), fun _ h => absurd h List.not_mem_nil⟩) 400) ((e_Sh_sum_0 o0 h).symm.trans hz))
  · cases hz
set_option maxRecDepth 100000 in
theorem kc_Bp_mean : k_Bp_mean.all (chkE 6 (mtC 6)) = true := by decide +kernel
theorem so_Bp_mean : SemOK toGI S_Bp_mean 2 := List.forall_mem_cons.mpr ⟨⟨mt_52, 1, by omega, ok_Bp_noRow⟩, List.forall_mem_cons.mpr ⟨⟨mt_225, 1, by omega, ok_Sh_isThere⟩, List.forall_mem_cons.mpr ⟨⟨mt_230, 1, by omega, ok_Sh_sum⟩, List.forall_mem_cons.mpr ⟨⟨mt_51, 1, by omega, ok_Bp_tell⟩, List.forall_mem_cons.mpr ⟨⟨mt_50, 1, by omega, ok_Bp_found⟩, fun _ h => absurd h List.not_mem_nil⟩⟩⟩⟩⟩
set_option maxRecDepth 100000 in
theorem ok_Bp_mean : ∀ as h z, sF_Bp_mean as h = some z → Okm toGI 6 2 as h z := by
  intro as h z hz
  unfold sF_Bp_mean at hz
  split at hz
  · next f0 x1 =>
    split at hz
    · next hq9 =>
      have hq9 := Nat.eq_of_beq_eq_true hq9
      subst hq9
      exact okm_of (own := 6) (rk := 1) (by decide +kernel) (by decide +kernel) (by omega) rfl (Nat.le_of_ble_eq_true rfl) (exec_E OI_ok kc_Bp_mean so_Bp_mean (runF_E OI_ok kc_Bp_mean so_Bp_mean (fun _ h => absurd h List.not_mem_nil) 400) ((e_Bp_mean_0 x1 h).symm.trans hz))
    · cases hz
  · cases hz
set_option maxRecDepth 100000 in
theorem kc_Bp_noText : k_Bp_noText.all (chkE 6 (mtC 53)) = true := by decide +kernel
theorem so_Bp_noText : SemOK toGI S_Bp_noText 1 := fun _ h => absurd h List.not_mem_nil
set_option maxRecDepth 100000 in
theorem ok_Bp_noText : ∀ as h z, sF_Bp_noText as h = some z → Okm toGI 53 1 as h z := by
  intro as h z hz
  unfold sF_Bp_noText at hz
  split at hz
  · next x0 =>
    exact okm_of (own := 6) (rk := 2) (by decide +kernel) (by decide +kernel) (by omega) rfl (Nat.le_of_ble_eq_true rfl) (exec_E OI_ok kc_Bp_noText so_Bp_noText (runF_E OI_ok kc_Bp_noText so_Bp_noText (fun _ h => absurd h List.not_mem_nil) 400) ((e_Bp_noText_0 x0 h).symm.trans hz))
  · cases hz
set_option maxRecDepth 100000 in
theorem kc_Bp_text : k_Bp_text.all (chkE 6 (mtC 7)) = true := by decide +kernel
theorem so_Bp_text : SemOK toGI S_Bp_text 2 := List.forall_mem_cons.mpr ⟨⟨mt_53, 1, by omega, ok_Bp_noText⟩, List.forall_mem_cons.mpr ⟨⟨mt_228, 1, by omega, ok_Sh_renew⟩, List.forall_mem_cons.mpr ⟨⟨mt_50, 1, by omega, ok_Bp_found⟩, fun _ h => absurd h List.not_mem_nil⟩⟩⟩
set_option maxRecDepth 100000 in
theorem ok_Bp_text : ∀ as h z, sF_Bp_text as h = some z → Okm toGI 7 2 as h z := by
  intro as h z hz
  unfold sF_Bp_text at hz
  split at hz
  · next f0 x1 x2 =>
    split at hz
    · next hq9 =>
      have hq9 := Nat.eq_of_beq_eq_true hq9
      subst hq9
      exact okm_of (own := 6) (rk := 1) (by decide +kernel) (by decide +kernel) (by omega) rfl (Nat.le_of_ble_eq_true rfl) (exec_E OI_ok kc_Bp_text so_Bp_text (runF_E OI_ok kc_Bp_text so_Bp_text (fun _ h => absurd h List.not_mem_nil) 400) ((e_Bp_text_0 x1 x2 h).symm.trans hz))
    · cases hz
  · cases hz
set_option maxRecDepth 100000 in
theorem kc_Bp_put : k_Bp_put.all (chkE 6 (mtC 8)) = true := by decide +kernel
theorem so_Bp_put : SemOK toGI S_Bp_put 3 := List.forall_mem_cons.mpr ⟨⟨mt_53, 1, by omega, ok_Bp_noText⟩, List.forall_mem_cons.mpr ⟨⟨mt_226, 2, by omega, ok_Sh_lackAt⟩, List.forall_mem_cons.mpr ⟨⟨mt_50, 1, by omega, ok_Bp_found⟩, fun _ h => absurd h List.not_mem_nil⟩⟩⟩
set_option maxRecDepth 100000 in
theorem ok_Bp_put : ∀ as h z, sF_Bp_put as h = some z → Okm toGI 8 3 as h z := by
  intro as h z hz
  unfold sF_Bp_put at hz
  split at hz
  · next f0 x1 x2 x3 =>
    split at hz
    · next hq9 =>
      have hq9 := Nat.eq_of_beq_eq_true hq9
      subst hq9
      exact okm_of (own := 6) (rk := 1) (by decide +kernel) (by decide +kernel) (by omega) rfl (Nat.le_of_ble_eq_true rfl) (exec_E OI_ok kc_Bp_put so_Bp_put (runF_E OI_ok kc_Bp_put so_Bp_put (fun _ h => absurd h List.not_mem_nil) 400) ((e_Bp_put_0 x1 x2 x3 h).symm.trans hz))
    · cases hz
  · cases hz
set_option maxRecDepth 100000 in
theorem kc_Jarr_fill : k_Jarr_fill.all (chkE 11 (mtC 254)) = true := by decide +kernel
theorem so_Jarr_fill : SemOK toGI S_Jarr_fill 1 := fun _ h => absurd h List.not_mem_nil
set_option maxRecDepth 100000 in
theorem E_Jarr_fill_5 {z : Option Value × Hp} {o0 : Nat} {x1 : Int32} {x2 : Int32} {x3 : Int32} {h : Hp} (hz : loopC (Jarr_fill_5   ) FU (o0, x1, x2, x3, h) = some z) : Ends toGI 11 254 1 0 z 5 (spr (mtM 254) [0, 1, 2, 3] [.ref o0, .int x1, .int x2, .int x3]) [] h := by
  refine loop_E (b := Jarr_fill_5   ) (P := fun s => match s with | (o0, x1, x2, x3, h) => Ends toGI 11 254 1 0 z 5 (spr (mtM 254) [0, 1, 2, 3] [.ref o0, .int x1, .int x2, .int x3]) [] h) (fun s κ5 hκ hz => ?_) FU (o0, x1, x2, x3, h) hz
  obtain ⟨o0, x1, x2, x3, h⟩ := s
  have hκ5 : ∀ (o0 : Nat) (x1 : Int32) (x2 : Int32) (x3 : Int32) (h : Hp), κ5 (o0, x1, x2, x3, h) = some z → Ends toGI 11 254 1 0 z 5 (spr (mtM 254) [0, 1, 2, 3] [.ref o0, .int x1, .int x2, .int x3]) [] h := fun o0 x1 x2 x3 h q => hκ (o0, x1, x2, x3, h) q
  exact exec_E OI_ok kc_Jarr_fill so_Jarr_fill (runF_E OI_ok kc_Jarr_fill so_Jarr_fill (List.forall_mem_cons.mpr ⟨(by
    intro L st h vs hp hf
    dsimp only at hf
    split at hf
    · exact Ends.at hp (hκ5 _ _ _ _ _ hf)
    · cases hf), fun _ h => absurd h List.not_mem_nil⟩) 400) ((e_Jarr_fill_5  κ5 o0 x1 x2 x3 h).symm.trans hz)
set_option maxRecDepth 100000 in
theorem ok_Jarr_fill : ∀ as h z, sF_Jarr_fill as h = some z → Okm toGI 254 1 as h z := by
  intro as h z hz
  unfold sF_Jarr_fill at hz
  split at hz
  · next o0 x1 =>
    exact okm_of (own := 11) (rk := 0) (by decide +kernel) (by decide +kernel) (by omega) rfl (Nat.le_of_ble_eq_true rfl) (exec_E OI_ok kc_Jarr_fill so_Jarr_fill (runF_E OI_ok kc_Jarr_fill so_Jarr_fill (List.forall_mem_cons.mpr ⟨(by
          intro L st h vs hp hf
          dsimp only at hf
          split at hf
          · exact Ends.at hp (E_Jarr_fill_5 hf)
          · cases hf), fun _ h => absurd h List.not_mem_nil⟩) 400) ((e_Jarr_fill_0 o0 x1 h).symm.trans hz))
  · cases hz
set_option maxRecDepth 100000 in
theorem kc_Bp_bit : k_Bp_bit.all (chkE 6 (mtC 64)) = true := by decide +kernel
theorem so_Bp_bit : SemOK toGI S_Bp_bit 1 := fun _ h => absurd h List.not_mem_nil
set_option maxRecDepth 100000 in
theorem ok_Bp_bit : ∀ as h z, sF_Bp_bit as h = some z → Okm toGI 64 1 as h z := by
  intro as h z hz
  unfold sF_Bp_bit at hz
  split at hz
  · next x0 =>
    exact okm_of (own := 6) (rk := 1) (by decide +kernel) (by decide +kernel) (by omega) rfl (Nat.le_of_ble_eq_true rfl) (exec_E OI_ok kc_Bp_bit so_Bp_bit (runF_E OI_ok kc_Bp_bit so_Bp_bit (fun _ h => absurd h List.not_mem_nil) 400) ((e_Bp_bit_0 x0 h).symm.trans hz))
  · cases hz
set_option maxRecDepth 100000 in
theorem kc_La_tie : k_La_tie.all (chkE 0 (mtC 178)) = true := by decide +kernel
theorem so_La_tie : SemOK toGI S_La_tie 2 := List.forall_mem_cons.mpr ⟨⟨mt_64, 1, by omega, ok_Bp_bit⟩, fun _ h => absurd h List.not_mem_nil⟩
set_option maxRecDepth 100000 in
theorem ok_La_tie : ∀ as h z, sF_La_tie as h = some z → Okm toGI 178 2 as h z := by
  intro as h z hz
  unfold sF_La_tie at hz
  split at hz
  · next o0 x1 x2 x3 =>
    exact okm_of (own := 0) (rk := 0) (by decide +kernel) (by decide +kernel) (by omega) rfl (Nat.le_of_ble_eq_true rfl) (exec_E OI_ok kc_La_tie so_La_tie (runF_E OI_ok kc_La_tie so_La_tie (fun _ h => absurd h List.not_mem_nil) 400) ((e_La_tie_0 o0 x1 x2 x3 h).symm.trans hz))
  · cases hz
set_option maxRecDepth 100000 in
theorem kc_La_tieAll : k_La_tieAll.all (chkE 0 (mtC 179)) = true := by decide +kernel
theorem so_La_tieAll : SemOK toGI S_La_tieAll 3 := List.forall_mem_cons.mpr ⟨⟨mt_254, 1, by omega, ok_Jarr_fill⟩, List.forall_mem_cons.mpr ⟨⟨mt_178, 2, by omega, ok_La_tie⟩, fun _ h => absurd h List.not_mem_nil⟩⟩
set_option maxRecDepth 100000 in
theorem E_La_tieAll_34 {z : Option Value × Hp} {o0 : Nat} {x1 : Int32} {h : Hp} (hz : loopC (La_tieAll_34   ) FU (o0, x1, h) = some z) : Ends toGI 0 179 3 0 z 34 (spr (mtM 179) [0, 1] [.ref o0, .int x1]) [] h := by
  refine loop_E (b := La_tieAll_34   ) (P := fun s => match s with | (o0, x1, h) => Ends toGI 0 179 3 0 z 34 (spr (mtM 179) [0, 1] [.ref o0, .int x1]) [] h) (fun s κ34 hκ hz => ?_) FU (o0, x1, h) hz
  obtain ⟨o0, x1, h⟩ := s
  have hκ34 : ∀ (o0 : Nat) (x1 : Int32) (h : Hp), κ34 (o0, x1, h) = some z → Ends toGI 0 179 3 0 z 34 (spr (mtM 179) [0, 1] [.ref o0, .int x1]) [] h := fun o0 x1 h q => hκ (o0, x1, h) q
  exact exec_E OI_ok kc_La_tieAll so_La_tieAll (runF_E OI_ok kc_La_tieAll so_La_tieAll (List.forall_mem_cons.mpr ⟨(by
    intro L st h vs hp hf
    dsimp only at hf
    split at hf
    · exact Ends.at hp (hκ34 _ _ _ hf)
    · cases hf), fun _ h => absurd h List.not_mem_nil⟩) 400) ((e_La_tieAll_34  κ34 o0 x1 h).symm.trans hz)
set_option maxRecDepth 100000 in
theorem E_La_tieAll_10 {z : Option Value × Hp} {o0 : Nat} {x1 : Int32} {h : Hp} (hz : loopC (La_tieAll_10   ) FU (o0, x1, h) = some z) : Ends toGI 0 179 3 0 z 10 (spr (mtM 179) [0, 1] [.ref o0, .int x1]) [] h := by
  refine loop_E (b := La_tieAll_10   ) (P := fun s => match s with | (o0, x1, h) => Ends toGI 0 179 3 0 z 10 (spr (mtM 179) [0, 1] [.ref o0, .int x1]) [] h) (fun s κ10 hκ hz => ?_) FU (o0, x1, h) hz
  obtain ⟨o0, x1, h⟩ := s
  have hκ10 : ∀ (o0 : Nat) (x1 : Int32) (h : Hp), κ10 (o0, x1, h) = some z → Ends toGI 0 179 3 0 z 10 (spr (mtM 179) [0, 1] [.ref o0, .int x1]) [] h := fun o0 x1 h q => hκ (o0, x1, h) q
  exact exec_E OI_ok kc_La_tieAll so_La_tieAll (runF_E OI_ok kc_La_tieAll so_La_tieAll (List.forall_mem_cons.mpr ⟨(by
    intro L st h vs hp hf
    dsimp only at hf
    split at hf
    · exact Ends.at hp (E_La_tieAll_34 hf)
    · cases hf), List.forall_mem_cons.mpr ⟨(by
    intro L st h vs hp hf
    dsimp only at hf
    split at hf
    · exact Ends.at hp (hκ10 _ _ _ hf)
    · cases hf), fun _ h => absurd h List.not_mem_nil⟩⟩) 400) ((e_La_tieAll_10  κ10 o0 x1 h).symm.trans hz)
set_option maxRecDepth 100000 in
theorem ok_La_tieAll : ∀ as h z, sF_La_tieAll as h = some z → Okm toGI 179 3 as h z := by
  intro as h z hz
  unfold sF_La_tieAll at hz
  split at hz
  · next o0 =>
    exact okm_of (own := 0) (rk := 0) (by decide +kernel) (by decide +kernel) (by omega) rfl (Nat.le_of_ble_eq_true rfl) (exec_E OI_ok kc_La_tieAll so_La_tieAll (runF_E OI_ok kc_La_tieAll so_La_tieAll (List.forall_mem_cons.mpr ⟨(by
          intro L st h vs hp hf
          dsimp only at hf
          split at hf
          · exact Ends.at hp (E_La_tieAll_10 hf)
          · cases hf), fun _ h => absurd h List.not_mem_nil⟩) 400) ((e_La_tieAll_0 o0 h).symm.trans hz))
  · cases hz
set_option maxRecDepth 100000 in
theorem kc_La_clear : k_La_clear.all (chkE 0 (mtC 173)) = true := by decide +kernel
theorem so_La_clear : SemOK toGI S_La_clear 4 := List.forall_mem_cons.mpr ⟨⟨mt_179, 3, by omega, ok_La_tieAll⟩, fun _ h => absurd h List.not_mem_nil⟩
set_option maxRecDepth 100000 in
theorem ok_La_clear : ∀ as h z, sF_La_clear as h = some z → Okm toGI 173 4 as h z := by
  intro as h z hz
  unfold sF_La_clear at hz
  split at hz
  · next o0 =>
    exact okm_of (own := 0) (rk := 0) (by decide +kernel) (by decide +kernel) (by omega) rfl (Nat.le_of_ble_eq_true rfl) (exec_E OI_ok kc_La_clear so_La_clear (runF_E OI_ok kc_La_clear so_La_clear (fun _ h => absurd h List.not_mem_nil) 400) ((e_La_clear_0 o0 h).symm.trans hz))
  · cases hz
set_option maxRecDepth 100000 in
theorem kc_Bp_noTongue : k_Bp_noTongue.all (chkE 6 (mtC 55)) = true := by decide +kernel
theorem so_Bp_noTongue : SemOK toGI S_Bp_noTongue 1 := fun _ h => absurd h List.not_mem_nil
set_option maxRecDepth 100000 in
theorem ok_Bp_noTongue : ∀ as h z, sF_Bp_noTongue as h = some z → Okm toGI 55 1 as h z := by
  intro as h z hz
  unfold sF_Bp_noTongue at hz
  split at hz
  · next x0 =>
    exact okm_of (own := 6) (rk := 2) (by decide +kernel) (by decide +kernel) (by omega) rfl (Nat.le_of_ble_eq_true rfl) (exec_E OI_ok kc_Bp_noTongue so_Bp_noTongue (runF_E OI_ok kc_Bp_noTongue so_Bp_noTongue (fun _ h => absurd h List.not_mem_nil) 400) ((e_Bp_noTongue_0 x0 h).symm.trans hz))
  · cases hz
set_option maxRecDepth 100000 in
theorem kc_Re_takesTongue : k_Re_takesTongue.all (chkE 3 (mtC 220)) = true := by decide +kernel
theorem so_Re_takesTongue : SemOK toGI S_Re_takesTongue 2 := List.forall_mem_cons.mpr ⟨⟨mt_55, 1, by omega, ok_Bp_noTongue⟩, List.forall_mem_cons.mpr ⟨⟨mt_64, 1, by omega, ok_Bp_bit⟩, fun _ h => absurd h List.not_mem_nil⟩⟩
set_option maxRecDepth 100000 in
theorem ok_Re_takesTongue : ∀ as h z, sF_Re_takesTongue as h = some z → Okm toGI 220 2 as h z := by
  intro as h z hz
  unfold sF_Re_takesTongue at hz
  split at hz
  · next f0 x1 =>
    split at hz
    · next hq9 =>
      have hq9 := Nat.eq_of_beq_eq_true hq9
      subst hq9
      exact okm_of (own := 3) (rk := 2) (by decide +kernel) (by decide +kernel) (by omega) rfl (Nat.le_of_ble_eq_true rfl) (exec_E OI_ok kc_Re_takesTongue so_Re_takesTongue (runF_E OI_ok kc_Re_takesTongue so_Re_takesTongue (fun _ h => absurd h List.not_mem_nil) 400) ((e_Re_takesTongue_0 x1 h).symm.trans hz))
    · cases hz
  · cases hz
set_option maxRecDepth 100000 in
theorem kc_Bp_kindBy : k_Bp_kindBy.all (chkE 6 (mtC 68)) = true := by decide +kernel
theorem so_Bp_kindBy : SemOK toGI S_Bp_kindBy 1 := fun _ h => absurd h List.not_mem_nil
set_option maxRecDepth 100000 in
theorem ok_Bp_kindBy : ∀ as h z, sF_Bp_kindBy as h = some z → Okm toGI 68 1 as h z := by
  intro as h z hz
  unfold sF_Bp_kindBy at hz
  split at hz
  · next x0 =>
    exact okm_of (own := 6) (rk := 1) (by decide +kernel) (by decide +kernel) (by omega) rfl (Nat.le_of_ble_eq_true rfl) (exec_E OI_ok kc_Bp_kindBy so_Bp_kindBy (runF_E OI_ok kc_Bp_kindBy so_Bp_kindBy (fun _ h => absurd h List.not_mem_nil) 400) ((e_Bp_kindBy_0 x0 h).symm.trans hz))
  · cases hz
set_option maxRecDepth 100000 in
theorem kc_La_addHand : k_La_addHand.all (chkE 0 (mtC 176)) = true := by decide +kernel
theorem so_La_addHand : SemOK toGI S_La_addHand 1 := fun _ h => absurd h List.not_mem_nil
set_option maxRecDepth 100000 in
theorem ok_La_addHand : ∀ as h z, sF_La_addHand as h = some z → Okm toGI 176 1 as h z := by
  intro as h z hz
  unfold sF_La_addHand at hz
  split at hz
  · next o0 x1 =>
    exact okm_of (own := 0) (rk := 0) (by decide +kernel) (by decide +kernel) (by omega) rfl (Nat.le_of_ble_eq_true rfl) (exec_E OI_ok kc_La_addHand so_La_addHand (runF_E OI_ok kc_La_addHand so_La_addHand (fun _ h => absurd h List.not_mem_nil) 400) ((e_La_addHand_0 o0 x1 h).symm.trans hz))
  · cases hz
set_option maxRecDepth 100000 in
theorem kc_Re_takesStart : k_Re_takesStart.all (chkE 3 (mtC 219)) = true := by decide +kernel
theorem so_Re_takesStart : SemOK toGI S_Re_takesStart 2 := List.forall_mem_cons.mpr ⟨⟨mt_68, 1, by omega, ok_Bp_kindBy⟩, List.forall_mem_cons.mpr ⟨⟨mt_176, 1, by omega, ok_La_addHand⟩, fun _ h => absurd h List.not_mem_nil⟩⟩
set_option maxRecDepth 100000 in
theorem ok_Re_takesStart : ∀ as h z, sF_Re_takesStart as h = some z → Okm toGI 219 2 as h z := by
  intro as h z hz
  unfold sF_Re_takesStart at hz
  split at hz
  · next f0 x1 =>
    split at hz
    · next hq9 =>
      have hq9 := Nat.eq_of_beq_eq_true hq9
      subst hq9
      exact okm_of (own := 3) (rk := 2) (by decide +kernel) (by decide +kernel) (by omega) rfl (Nat.le_of_ble_eq_true rfl) (exec_E OI_ok kc_Re_takesStart so_Re_takesStart (runF_E OI_ok kc_Re_takesStart so_Re_takesStart (fun _ h => absurd h List.not_mem_nil) 400) ((e_Re_takesStart_0 x1 h).symm.trans hz))
    · cases hz
  · cases hz
set_option maxRecDepth 100000 in
theorem kc_La_lacks : k_La_lacks.all (chkE 0 (mtC 175)) = true := by decide +kernel
theorem so_La_lacks : SemOK toGI S_La_lacks 1 := fun _ h => absurd h List.not_mem_nil
set_option maxRecDepth 100000 in
theorem ok_La_lacks : ∀ as h z, sF_La_lacks as h = some z → Okm toGI 175 1 as h z := by
  intro as h z hz
  unfold sF_La_lacks at hz
  split at hz
  · next o0 x1 =>
    exact okm_of (own := 0) (rk := 2) (by decide +kernel) (by decide +kernel) (by omega) rfl (Nat.le_of_ble_eq_true rfl) (exec_E OI_ok kc_La_lacks so_La_lacks (runF_E OI_ok kc_La_lacks so_La_lacks (fun _ h => absurd h List.not_mem_nil) 400) ((e_La_lacks_0 o0 x1 h).symm.trans hz))
  · cases hz
set_option maxRecDepth 100000 in
theorem kc_Re_takesOne : k_Re_takesOne.all (chkE 3 (mtC 221)) = true := by decide +kernel
theorem so_Re_takesOne : SemOK toGI S_Re_takesOne 2 := List.forall_mem_cons.mpr ⟨⟨mt_175, 1, by omega, ok_La_lacks⟩, fun _ h => absurd h List.not_mem_nil⟩
set_option maxRecDepth 100000 in
theorem ok_Re_takesOne : ∀ as h z, sF_Re_takesOne as h = some z → Okm toGI 221 2 as h z := by
  intro as h z hz
  unfold sF_Re_takesOne at hz
  split at hz
  · next f0 x1 =>
    split at hz
    · next hq9 =>
      have hq9 := Nat.eq_of_beq_eq_true hq9
      subst hq9
      exact okm_of (own := 3) (rk := 2) (by decide +kernel) (by decide +kernel) (by omega) rfl (Nat.le_of_ble_eq_true rfl) (exec_E OI_ok kc_Re_takesOne so_Re_takesOne (runF_E OI_ok kc_Re_takesOne so_Re_takesOne (fun _ h => absurd h List.not_mem_nil) 400) ((e_Re_takesOne_0 x1 h).symm.trans hz))
    · cases hz
  · cases hz
set_option maxRecDepth 100000 in
theorem kc_Re_takesOther : k_Re_takesOther.all (chkE 3 (mtC 222)) = true := by decide +kernel
theorem so_Re_takesOther : SemOK toGI S_Re_takesOther 2 := List.forall_mem_cons.mpr ⟨⟨mt_175, 1, by omega, ok_La_lacks⟩, fun _ h => absurd h List.not_mem_nil⟩
set_option maxRecDepth 100000 in
theorem ok_Re_takesOther : ∀ as h z, sF_Re_takesOther as h = some z → Okm toGI 222 2 as h z := by
  intro as h z hz
  unfold sF_Re_takesOther at hz
  split at hz
  · next f0 x1 =>
    split at hz
    · next hq9 =>
      have hq9 := Nat.eq_of_beq_eq_true hq9
      subst hq9
      exact okm_of (own := 3) (rk := 2) (by decide +kernel) (by decide +kernel) (by omega) rfl (Nat.le_of_ble_eq_true rfl) (exec_E OI_ok kc_Re_takesOther so_Re_takesOther (runF_E OI_ok kc_Re_takesOther so_Re_takesOther (fun _ h => absurd h List.not_mem_nil) 400) ((e_Re_takesOther_0 x1 h).symm.trans hz))
    · cases hz
  · cases hz
set_option maxRecDepth 100000 in
theorem kc_La_addMeeting : k_La_addMeeting.all (chkE 0 (mtC 177)) = true := by decide +kernel
theorem so_La_addMeeting : SemOK toGI S_La_addMeeting 3 := List.forall_mem_cons.mpr ⟨⟨mt_178, 2, by omega, ok_La_tie⟩, fun _ h => absurd h List.not_mem_nil⟩
set_option maxRecDepth 100000 in
theorem ok_La_addMeeting : ∀ as h z, sF_La_addMeeting as h = some z → Okm toGI 177 3 as h z := by
  intro as h z hz
  unfold sF_La_addMeeting at hz
  split at hz
  · next o0 x1 x2 x3 =>
    exact okm_of (own := 0) (rk := 0) (by decide +kernel) (by decide +kernel) (by omega) rfl (Nat.le_of_ble_eq_true rfl) (exec_E OI_ok kc_La_addMeeting so_La_addMeeting (runF_E OI_ok kc_La_addMeeting so_La_addMeeting (fun _ h => absurd h List.not_mem_nil) 400) ((e_La_addMeeting_0 o0 x1 x2 x3 h).symm.trans hz))
  · cases hz
set_option maxRecDepth 100000 in
theorem kc_Re_takesTime : k_Re_takesTime.all (chkE 3 (mtC 223)) = true := by decide +kernel
theorem so_Re_takesTime : SemOK toGI S_Re_takesTime 4 := List.forall_mem_cons.mpr ⟨⟨mt_177, 3, by omega, ok_La_addMeeting⟩, fun _ h => absurd h List.not_mem_nil⟩
set_option maxRecDepth 100000 in
theorem ok_Re_takesTime : ∀ as h z, sF_Re_takesTime as h = some z → Okm toGI 223 4 as h z := by
  intro as h z hz
  unfold sF_Re_takesTime at hz
  split at hz
  · next f0 x1 =>
    split at hz
    · next hq9 =>
      have hq9 := Nat.eq_of_beq_eq_true hq9
      subst hq9
      exact okm_of (own := 3) (rk := 2) (by decide +kernel) (by decide +kernel) (by omega) rfl (Nat.le_of_ble_eq_true rfl) (exec_E OI_ok kc_Re_takesTime so_Re_takesTime (runF_E OI_ok kc_Re_takesTime so_Re_takesTime (fun _ h => absurd h List.not_mem_nil) 400) ((e_Re_takesTime_0 x1 h).symm.trans hz))
    · cases hz
  · cases hz
set_option maxRecDepth 100000 in
theorem kc_Re_takes : k_Re_takes.all (chkE 3 (mtC 218)) = true := by decide +kernel
theorem so_Re_takes : SemOK toGI S_Re_takes 5 := List.forall_mem_cons.mpr ⟨⟨mt_220, 2, by omega, ok_Re_takesTongue⟩, List.forall_mem_cons.mpr ⟨⟨mt_219, 2, by omega, ok_Re_takesStart⟩, List.forall_mem_cons.mpr ⟨⟨mt_221, 2, by omega, ok_Re_takesOne⟩, List.forall_mem_cons.mpr ⟨⟨mt_222, 2, by omega, ok_Re_takesOther⟩, List.forall_mem_cons.mpr ⟨⟨mt_223, 4, by omega, ok_Re_takesTime⟩, fun _ h => absurd h List.not_mem_nil⟩⟩⟩⟩⟩
set_option maxRecDepth 100000 in
theorem ok_Re_takes : ∀ as h z, sF_Re_takes as h = some z → Okm toGI 218 5 as h z := by
  intro as h z hz
  unfold sF_Re_takes at hz
  split at hz
  · next f0 x1 =>
    split at hz
    · next hq9 =>
      have hq9 := Nat.eq_of_beq_eq_true hq9
      subst hq9
      exact okm_of (own := 3) (rk := 2) (by decide +kernel) (by decide +kernel) (by omega) rfl (Nat.le_of_ble_eq_true rfl) (exec_E OI_ok kc_Re_takes so_Re_takes (runF_E OI_ok kc_Re_takes so_Re_takes (fun _ h => absurd h List.not_mem_nil) 400) ((e_Re_takes_0 x1 h).symm.trans hz))
    · cases hz
  · cases hz
set_option maxRecDepth 100000 in
theorem kc_Re_faultOf : k_Re_faultOf.all (chkE 3 (mtC 217)) = true := by decide +kernel
theorem so_Re_faultOf : SemOK toGI S_Re_faultOf 6 := List.forall_mem_cons.mpr ⟨⟨mt_173, 4, by omega, ok_La_clear⟩, List.forall_mem_cons.mpr ⟨⟨mt_218, 5, by omega, ok_Re_takes⟩, fun _ h => absurd h List.not_mem_nil⟩⟩
set_option maxRecDepth 100000 in
theorem E_Re_faultOf_14 {z : Option Value × Hp} {o1 : Nat} {x2 : Int32} {h : Hp} (hz : loopC (Re_faultOf_14   ) FU (o1, x2, h) = some z) : Ends toGI 3 217 6 1 z 14 (spr (mtM 217) [0, 1, 2] [.ref 63, .ref o1, .int x2]) [] h := by
  refine loop_E (b := Re_faultOf_14   ) (P := fun s => match s with | (o1, x2, h) => Ends toGI 3 217 6 1 z 14 (spr (mtM 217) [0, 1, 2] [.ref 63, .ref o1, .int x2]) [] h) (fun s κ14 hκ hz => ?_) FU (o1, x2, h) hz
  obtain ⟨o1, x2, h⟩ := s
  have hκ14 : ∀ (o1 : Nat) (x2 : Int32) (h : Hp), κ14 (o1, x2, h) = some z → Ends toGI 3 217 6 1 z 14 (spr (mtM 217) [0, 1, 2] [.ref 63, .ref o1, .int x2]) [] h := fun o1 x2 h q => hκ (o1, x2, h) q
  exact exec_E OI_ok kc_Re_faultOf so_Re_faultOf (runF_E OI_ok kc_Re_faultOf so_Re_faultOf (List.forall_mem_cons.mpr ⟨(by
    intro L st h vs hp hf
    dsimp only at hf
    split at hf
    · split at hf
      · next hq9 =>
        have hq9 := Nat.eq_of_beq_eq_true hq9
        subst hq9
        exact Ends.at hp (hκ14 _ _ _ hf)
      · cases hf
    · cases hf), fun _ h => absurd h List.not_mem_nil⟩) 400) ((e_Re_faultOf_14  κ14 o1 x2 h).symm.trans hz)
set_option maxRecDepth 100000 in
theorem ok_Re_faultOf : ∀ as h z, sF_Re_faultOf as h = some z → Okm toGI 217 6 as h z := by
  intro as h z hz
  unfold sF_Re_faultOf at hz
  split at hz
  · next f0 o1 =>
    split at hz
    · next hq9 =>
      have hq9 := Nat.eq_of_beq_eq_true hq9
      subst hq9
      exact okm_of (own := 3) (rk := 1) (by decide +kernel) (by decide +kernel) (by omega) rfl (Nat.le_of_ble_eq_true rfl) (exec_E OI_ok kc_Re_faultOf so_Re_faultOf (runF_E OI_ok kc_Re_faultOf so_Re_faultOf (List.forall_mem_cons.mpr ⟨(by
          intro L st h vs hp hf
          dsimp only at hf
          split at hf
          · split at hf
            · next hq9 =>
              have hq9 := Nat.eq_of_beq_eq_true hq9
              subst hq9
              exact Ends.at hp (E_Re_faultOf_14 hf)
            · cases hf
          · cases hf), fun _ h => absurd h List.not_mem_nil⟩) 400) ((e_Re_faultOf_0 o1 h).symm.trans hz))
    · cases hz
  · cases hz
set_option maxRecDepth 100000 in
theorem kc_Bp_fault : k_Bp_fault.all (chkE 6 (mtC 9)) = true := by decide +kernel
theorem so_Bp_fault : SemOK toGI S_Bp_fault 7 := List.forall_mem_cons.mpr ⟨⟨mt_53, 1, by omega, ok_Bp_noText⟩, List.forall_mem_cons.mpr ⟨⟨mt_225, 1, by omega, ok_Sh_isThere⟩, List.forall_mem_cons.mpr ⟨⟨mt_217, 6, by omega, ok_Re_faultOf⟩, List.forall_mem_cons.mpr ⟨⟨mt_50, 1, by omega, ok_Bp_found⟩, fun _ h => absurd h List.not_mem_nil⟩⟩⟩⟩
set_option maxRecDepth 100000 in
theorem ok_Bp_fault : ∀ as h z, sF_Bp_fault as h = some z → Okm toGI 9 7 as h z := by
  intro as h z hz
  unfold sF_Bp_fault at hz
  split at hz
  · next f0 x1 =>
    split at hz
    · next hq9 =>
      have hq9 := Nat.eq_of_beq_eq_true hq9
      subst hq9
      exact okm_of (own := 6) (rk := 1) (by decide +kernel) (by decide +kernel) (by omega) rfl (Nat.le_of_ble_eq_true rfl) (exec_E OI_ok kc_Bp_fault so_Bp_fault (runF_E OI_ok kc_Bp_fault so_Bp_fault (fun _ h => absurd h List.not_mem_nil) 400) ((e_Bp_fault_0 x1 h).symm.trans hz))
    · cases hz
  · cases hz
set_option maxRecDepth 100000 in
theorem kc_Le_takeFrom : k_Le_takeFrom.all (chkE 1 (mtC 197)) = true := by decide +kernel
theorem so_Le_takeFrom : SemOK toGI S_Le_takeFrom 1 := fun _ h => absurd h List.not_mem_nil
set_option maxRecDepth 100000 in
theorem ok_Le_takeFrom : ∀ as h z, sF_Le_takeFrom as h = some z → Okm toGI 197 1 as h z := by
  intro as h z hz
  unfold sF_Le_takeFrom at hz
  split at hz
  · next o0 o1 =>
    exact okm_of (own := 1) (rk := 0) (by decide +kernel) (by decide +kernel) (by omega) rfl (Nat.le_of_ble_eq_true rfl) (exec_E OI_ok kc_Le_takeFrom so_Le_takeFrom (runF_E OI_ok kc_Le_takeFrom so_Le_takeFrom (fun _ h => absurd h List.not_mem_nil) 400) ((e_Le_takeFrom_0 o0 o1 h).symm.trans hz))
  · cases hz
