/-! THE GIVEN ONE'S LAND: what is asked of it -/
theorem ms_s (n : Nat) (P : Nat → Bool) : ms (n + 1) P = if P n then ms n P ||| 2 ^ n else ms n P := rfl
theorem cnt_s (n : Nat) (P : Nat → Bool) : cnt (n + 1) P = if P n then cnt n P + 1 else cnt n P := rfl
section CL
variable {o : Nat} {v : LV} {h : Hp}
theorem c_lacks (hL : isL o) (w : WF v) (r : CLd o v h) (x : Int32) : F_La_lacks o x h = retI (tf (¬ inR x (v 0 0))) h := by
  have hn := w.1
  unfold F_La_lacks
  rw [la_f8 hL, cond_true, L_n r]
  exact rg_lt (by omega) (nI_toInt (by omega)) h
theorem c_ofKind (hL : isL o) (w : WF v) (r : CLd o v h) {kd : Nat} (hk : kd < 6) : F_La_ofKind o (nI kd) h = retI (nI (ms (v 0 0) (fun x => isO (v 1 x) kd))) h := by
  have hn := w.1
  unfold F_La_ofKind
  refine loop_for (N := v 0 0) (fun i => (o, nI kd, nI (ms i (fun x => isO (v 1 x) kd)), nI i, h)) rfl (by show _ < 4096; omega) (fun i κ hi => ?_) (fun κ => ?_)
  · have hk6 := wf_k w hi
    simp (disch := first | assumption | omega) only [La_ofKind_4, la_O, la_f0, la_f1, la_f2, la_f3, la_f4, la_f5, la_f6, la_f7, la_f8, la_f9, la_f10, la_f11, la_r0, la_r1, la_r2, la_r3, la_r4, la_r5, la_r6, la_r7, la_a1, la_a2, la_a3, la_a4, la_a5, la_a6, la_a15, la_a16, la_m, la_am, le_r, lit_0, lit_1, lit_2, lit_3, lit_4, lit_5, lit_6, lit_7, lit_8, lit_9, lit_10, lit_11, lit_12, lit_16, lit_17, lit_20, lit_31, lit_32, lit_40, lit_47, lit_48, lit_49, lit_57, lit_58, lit_60, lit_64, lit_68, lit_80, lit_97, lit_99, lit_100, lit_101, lit_104, lit_108, lit_109, lit_115, lit_117, lit_121, lit_127, lit_128, lit_140, lit_1000, lit_1000000, lit_1048576, bI_ret, bV_ret, bL_ret, bH_t, cond_true, z_0, z_1, retZ_tf, z_tf0, z_tf1, Decidable.not_not, Classical.not_not, nI_add, nI_clamp, n_le, n_lt, n_eq, nI_or, nI_and, z_sdf, of_nI, L_n r, L_k r, c_isOf, c_bit, ms_s]
    rw [if_neg (by omega)]
    by_cases q : isO (v 1 i) kd = true
    · simp only [q, if_true, not_true, if_false]
    · simp only [q, if_true, not_false_iff, if_false, Bool.false_eq_true]
  · simp (disch := first | assumption | omega) only [La_ofKind_4, la_O, la_f0, la_f1, la_f2, la_f3, la_f4, la_f5, la_f6, la_f7, la_f8, la_f9, la_f10, la_f11, la_r0, la_r1, la_r2, la_r3, la_r4, la_r5, la_r6, la_r7, la_a1, la_a2, la_a3, la_a4, la_a5, la_a6, la_a15, la_a16, la_m, la_am, le_r, lit_0, lit_1, lit_2, lit_3, lit_4, lit_5, lit_6, lit_7, lit_8, lit_9, lit_10, lit_11, lit_12, lit_16, lit_17, lit_20, lit_31, lit_32, lit_40, lit_47, lit_48, lit_49, lit_57, lit_58, lit_60, lit_64, lit_68, lit_80, lit_97, lit_99, lit_100, lit_101, lit_104, lit_108, lit_109, lit_115, lit_117, lit_121, lit_127, lit_128, lit_140, lit_1000, lit_1000000, lit_1048576, bI_ret, bV_ret, bL_ret, bH_t, cond_true, z_0, z_1, retZ_tf, z_tf0, z_tf1, Decidable.not_not, Classical.not_not, nI_add, nI_clamp, n_le, n_lt, n_eq, nI_or, nI_and, z_sdf, of_nI, L_n r, Nat.le_refl, if_true]
theorem c_knowers (hL : isL o) (w : WF v) (r : CLd o v h) {t : Nat} (ht : t < 5) : F_La_knowers o (nI t) h = retI (nI (ms (v 0 0) (fun x => (v 2 x).testBit t))) h := by
  have hn := w.1
  unfold F_La_knowers
  refine loop_for (N := v 0 0) (fun i => (o, nI t, nI (ms i (fun x => (v 2 x).testBit t)), nI i, h)) rfl (by show _ < 4096; omega) (fun i κ hi => ?_) (fun κ => ?_)
  · have hk6 := wf_w w hi
    simp (disch := first | assumption | omega) only [La_knowers_4, la_O, la_f0, la_f1, la_f2, la_f3, la_f4, la_f5, la_f6, la_f7, la_f8, la_f9, la_f10, la_f11, la_r0, la_r1, la_r2, la_r3, la_r4, la_r5, la_r6, la_r7, la_a1, la_a2, la_a3, la_a4, la_a5, la_a6, la_a15, la_a16, la_m, la_am, le_r, lit_0, lit_1, lit_2, lit_3, lit_4, lit_5, lit_6, lit_7, lit_8, lit_9, lit_10, lit_11, lit_12, lit_16, lit_17, lit_20, lit_31, lit_32, lit_40, lit_47, lit_48, lit_49, lit_57, lit_58, lit_60, lit_64, lit_68, lit_80, lit_97, lit_99, lit_100, lit_101, lit_104, lit_108, lit_109, lit_115, lit_117, lit_121, lit_127, lit_128, lit_140, lit_1000, lit_1000000, lit_1048576, bI_ret, bV_ret, bL_ret, bH_t, cond_true, z_0, z_1, retZ_tf, z_tf0, z_tf1, Decidable.not_not, Classical.not_not, nI_add, nI_clamp, n_le, n_lt, n_eq, nI_or, nI_and, z_sdf, of_nI, L_n r, L_w r, c_has, c_bit, ms_s]
    rw [if_neg (by omega)]
    by_cases q : (v 2 i).testBit t = true
    · simp only [q, if_true, not_true, if_false]
    · simp only [q, if_true, not_false_iff, if_false, Bool.false_eq_true]
  · simp (disch := first | assumption | omega) only [La_knowers_4, la_O, la_f0, la_f1, la_f2, la_f3, la_f4, la_f5, la_f6, la_f7, la_f8, la_f9, la_f10, la_f11, la_r0, la_r1, la_r2, la_r3, la_r4, la_r5, la_r6, la_r7, la_a1, la_a2, la_a3, la_a4, la_a5, la_a6, la_a15, la_a16, la_m, la_am, le_r, lit_0, lit_1, lit_2, lit_3, lit_4, lit_5, lit_6, lit_7, lit_8, lit_9, lit_10, lit_11, lit_12, lit_16, lit_17, lit_20, lit_31, lit_32, lit_40, lit_47, lit_48, lit_49, lit_57, lit_58, lit_60, lit_64, lit_68, lit_80, lit_97, lit_99, lit_100, lit_101, lit_104, lit_108, lit_109, lit_115, lit_117, lit_121, lit_127, lit_128, lit_140, lit_1000, lit_1000000, lit_1048576, bI_ret, bV_ret, bL_ret, bH_t, cond_true, z_0, z_1, retZ_tf, z_tf0, z_tf1, Decidable.not_not, Classical.not_not, nI_add, nI_clamp, n_le, n_lt, n_eq, nI_or, nI_and, z_sdf, of_nI, L_n r, Nat.le_refl, if_true]
end CL
