/-! THE GIVEN ONE'S LAND: what is asked of it -/
theorem ms_s (n : Nat) (P : Nat → Bool) : ms (n + 1) P = if P n then ms n P ||| 2 ^ n else ms n P := rfl
theorem cnt_s (n : Nat) (P : Nat → Bool) : cnt (n + 1) P = if P n then cnt n P + 1 else cnt n P := rfl
section CL
variable {o : Nat} {v : LV} {h : Hp}
theorem c_lacks (hL : isL o) (w : WF v) (r : CLd o v h) (x : Int32) : F_La_lacks o x h = retI (tf (¬ inR x (v 0 0))) h := by
  have hn := w.1
  unfold F_La_lacks
  rw [la_f8 hL, cond_true, L_n r]
  exact rg_lt (by omega) (nI_toInt (by omega)) h
theorem c_ofKind (hL : isL o) (w : WF v) (r : CLd o v h) {kd : Nat} (hk : kd < 6) : F_La_ofKind o (nI kd) h = retI (nI (ms (v 0 0) (fun x => isO (v 1 x) kd))) h := by
  have hn := w.1
  unfold F_La_ofKind
  refine loop_for (N := v 0 0) (fun i => (o, nI kd, nI (ms i (fun x => isO (v 1 x) kd)), nI i, h)) rfl (by show _ < 4096; omega) (fun i κ hi => ?_) (fun κ => ?_)
  · have hk6 := wf_k w hi
    simp (disch := first | assumption | omega) only [La_ofKind_4, la_O, la_f0, la_f1, la_f2, la_f3, la_f4, la_f5, la_f6, la_f7, la_f8, la_f9, la_f10, la_f11, la_r0, la_r1, la_r2, la_r3, la_r4, la_r5, la_r6, la_r7, la_a1, la_a2, la_a3, la_a4, la_a5, la_a6, la_a15, la_a16, la_m, la_am, le_r, lit_0, lit_1, lit_2, lit_3, lit_4, lit_5, lit_6, lit_7, lit_8, lit_9, lit_10, lit_11, lit_12, lit_16, lit_17, lit_20, lit_31, lit_32, lit_40, lit_47, lit_48, lit_49, lit_57, lit_58, lit_60, lit_64, lit_68, lit_80, lit_97, lit_99, lit_100, lit_101, lit_104, lit_108, lit_109, lit_115, lit_117, lit_121, lit_127, lit_128, lit_140, lit_1000, lit_1000000, lit_1048576, bI_ret, bV_ret, bL_ret, bH_t, cond_true, z_0, z_1, retZ_tf, z_tf0, z_tf1, Decidable.not_not, Classical.not_not, nI_add, nI_clamp, n_le, n_lt, n_eq, nI_or, nI_and, z_sdf, of_nI, L_n r, L_k r, c_isOf, c_bit, ms_s]
    rw [if_neg (by omega)]
    by_cases q : isO (v 1 i) kd = true
    · simp only [q, if_true, not_true, if_false]
    · simp only [q, if_true, not_false_iff, if_false, Bool.false_eq_true]
  · simp (disch := first | assumption | omega) only [La_ofKind_4, la_O, la_f0, la_f1, la_f2, la_f3, la_f4, la_f5, la_f6, la_f7, la_f8, la_f9, la_f10, la_f11, la_r0, la_r1, la_r2, la_r3, la_r4, la_r5, la_r6, la_r7, la_a1, la_a2, la_a3, la_a4, la_a5, la_a6, la_a15, la_a16, la_m, la_am, le_r, lit_0, lit_1, lit_2, lit_3, lit_4, lit_5, lit_6, lit_7, lit_8, lit_9, lit_10, lit_11, lit_12, lit_16, lit_17, lit_20, lit_31, lit_32, lit_40, lit_47, lit_48, lit_49, lit_57, lit_58, lit_60, lit_64, lit_68, lit_80, lit_97, lit_99, lit_100, lit_101, lit_104, lit_108, lit_109, lit_115, lit_117, lit_121, lit_127, lit_128, lit_140, lit_1000, lit_1000000, lit_1048576, bI_ret, bV_ret, bL_ret, bH_t, cond_true, z_0, z_1, retZ_tf, z_tf0, z_tf1, Decidable.not_not, Classical.not_not, nI_add, nI_clamp, n_le, n_lt, n_eq, nI_or, nI_and, z_sdf, of_nI, L_n r, Nat.le_refl, if_true]
theorem c_knowers (hL : isL o) (w : WF v) (r : CLd o v h) {t : Nat} (ht : t < 5) : F_La_knowers o (nI t) h = retI (nI (ms (v 0 0) (fun x => (v 2 x).testBit t))) h := by
  have hn := w.1
  unfold F_La_knowers
  refine loop_for (N := v 0 0) (fun i => (o, nI t, nI (ms i (fun x => (v 2 x).testBit t)), nI i, h)) rfl (by show _ < 4096; omega) (fun i κ hi => ?_) (fun κ => ?_)
  · have hk6 := wf_w w hi
    simp (disch := first | assumption | omega) only [La_knowers_4, la_O, la_f0, la_f1, la_f2, la_f3, la_f4, la_f5, la_f6, la_f7, la_f8, la_f9, la_f10, la_f11, la_r0, la_r1, la_r2, la_r3, la_r4, la_r5, la_r6, la_r7, la_a1, la_a2, la_a3, la_a4, la_a5, la_a6, la_a15, la_a16, la_m, la_am, le_r, lit_0, lit_1, lit_2, lit_3, lit_4, lit_5, lit_6, lit_7, lit_8, lit_9, lit_10, lit_11, lit_12, lit_16, lit_17, lit_20, lit_31, lit_32, lit_40, lit_47, lit_48, lit_49, lit_57, lit_58, lit_60, lit_64, lit_68, lit_80, lit_97, lit_99, lit_100, lit_101, lit_104, lit_108, lit_109, lit_115, lit_117, lit_121, lit_127, lit_128, lit_140, lit_1000, lit_1000000, lit_1048576, bI_ret, bV_ret, bL_ret, bH_t, cond_true, z_0, z_1, retZ_tf, z_tf0, z_tf1, Decidable.not_not, Classical.not_not, nI_add, nI_clamp, n_le, n_lt, n_eq, nI_or, nI_and, z_sdf, of_nI, L_n r, L_w r, c_has, c_bit, ms_s]
    rw [if_neg (by omega)]
    by_cases q : (v 2 i).testBit t = true
    · simp only [q, if_true, not_true, if_false]
    · simp only [q, if_true, not_false_iff, if_false, Bool.false_eq_true]
  · simp (disch := first | assumption | omega) only [La_knowers_4, la_O, la_f0, la_f1, la_f2, la_f3, la_f4, la_f5, la_f6, la_f7, la_f8, la_f9, la_f10, la_f11, la_r0, la_r1, la_r2, la_r3, la_r4, la_r5, la_r6, la_r7, la_a1, la_a2, la_a3, la_a4, la_a5, la_a6, la_a15, la_a16, la_m, la_am, le_r, lit_0, lit_1, lit_2, lit_3, lit_4, lit_5, lit_6, lit_7, lit_8, lit_9, lit_10, lit_11, lit_12, lit_16, lit_17, lit_20, lit_31, lit_32, lit_40, lit_47, lit_48, lit_49, lit_57, lit_58, lit_60, lit_64, lit_68, lit_80, lit_97, lit_99, lit_100, lit_101, lit_104, lit_108, lit_109, lit_115, lit_117, lit_121, lit_127, lit_128, lit_140, lit_1000, lit_1000000, lit_1048576, bI_ret, bV_ret, bL_ret, bH_t, cond_true, z_0, z_1, retZ_tf, z_tf0, z_tf1, Decidable.not_not, Classical.not_not, nI_add, nI_clamp, n_le, n_lt, n_eq, nI_or, nI_and, z_sdf, of_nI, L_n r, Nat.le_refl, if_true]
theorem nb_lt (a : Nat) : nb a < 32 := Nat.lt_of_le_of_lt Nat.and_le_right (by decide)
theorem c_nb {a : Nat} (ha : a < 32) (h : Hp) : F_Bp_withNeighbours (nI a) h = retI (nI (nb a)) h := by
  unfold F_Bp_withNeighbours nb
  simp (disch := first | assumption | omega) only [lit_0, lit_1, lit_2, lit_3, lit_4, lit_5, lit_6, lit_7, lit_8, lit_9, lit_10, lit_11, lit_12, lit_16, lit_17, lit_20, lit_31, lit_32, lit_40, lit_47, lit_48, lit_49, lit_57, lit_58, lit_60, lit_64, lit_68, lit_80, lit_97, lit_99, lit_100, lit_101, lit_104, lit_108, lit_109, lit_115, lit_117, lit_121, lit_127, lit_128, lit_140, lit_1000, lit_1000000, lit_1048576, bI_ret, bV_ret, bL_ret, bH_t, cond_true, z_0, z_1, retZ_tf, z_tf0, z_tf1, Decidable.not_not, Classical.not_not, nI_add, nI_clamp, n_le, n_lt, n_eq, nI_or, nI_and, z_sdf, of_nI, z_shl, z_shr]
theorem brs_lt (w : WF v) {x : Nat} (hx : x < v 0 0) (T : Nat) : brs v x T < 32 := by
  have h1 := wf_w w hx
  unfold brs
  split
  · decide
  · split <;> exact Nat.lt_of_le_of_lt Nat.and_le_left h1
theorem c_bars (hL : isL o) (w : WF v) (r : CLd o v h) {x T : Nat} (hx : x < v 0 0) (hT : T < 32) : F_La_bars o (nI x) (nI T) h = retI (nI (brs v x T)) h := by
  have hn := w.1
  have hk := wf_k w hx
  unfold F_La_bars brs
  simp (disch := first | assumption | omega) only [la_O, la_f0, la_f1, la_f2, la_f3, la_f4, la_f5, la_f6, la_f7, la_f8, la_f9, la_f10, la_f11, la_r0, la_r1, la_r2, la_r3, la_r4, la_r5, la_r6, la_r7, la_a1, la_a2, la_a3, la_a4, la_a5, la_a6, la_a15, la_a16, la_m, la_am, le_r, lit_0, lit_1, lit_2, lit_3, lit_4, lit_5, lit_6, lit_7, lit_8, lit_9, lit_10, lit_11, lit_12, lit_16, lit_17, lit_20, lit_31, lit_32, lit_40, lit_47, lit_48, lit_49, lit_57, lit_58, lit_60, lit_64, lit_68, lit_80, lit_97, lit_99, lit_100, lit_101, lit_104, lit_108, lit_109, lit_115, lit_117, lit_121, lit_127, lit_128, lit_140, lit_1000, lit_1000000, lit_1048576, bI_ret, bV_ret, bL_ret, bH_t, cond_true, z_0, z_1, retZ_tf, z_tf0, z_tf1, Decidable.not_not, Classical.not_not, nI_add, nI_clamp, n_le, n_lt, n_eq, nI_or, nI_and, z_sdf, of_nI, L_k r, L_w r, c_nb]
  (repeat' split) <;> first | rfl | (exfalso; omega)
theorem c_carries (hL : isL o) (w : WF v) (r : CLd o v h) {x T : Nat} (hx : x < v 0 0) (hT : T < 32) : F_La_carries o (nI x) (nI T) h = retI (tf (mayB v x T = true)) h := by
  have hb := brs_lt w hx T
  unfold F_La_carries mayB
  simp (disch := first | assumption | omega) only [la_O, la_f0, la_f1, la_f2, la_f3, la_f4, la_f5, la_f6, la_f7, la_f8, la_f9, la_f10, la_f11, la_r0, la_r1, la_r2, la_r3, la_r4, la_r5, la_r6, la_r7, la_a1, la_a2, la_a3, la_a4, la_a5, la_a6, la_a15, la_a16, la_m, la_am, le_r, lit_0, lit_1, lit_2, lit_3, lit_4, lit_5, lit_6, lit_7, lit_8, lit_9, lit_10, lit_11, lit_12, lit_16, lit_17, lit_20, lit_31, lit_32, lit_40, lit_47, lit_48, lit_49, lit_57, lit_58, lit_60, lit_64, lit_68, lit_80, lit_97, lit_99, lit_100, lit_101, lit_104, lit_108, lit_109, lit_115, lit_117, lit_121, lit_127, lit_128, lit_140, lit_1000, lit_1000000, lit_1048576, bI_ret, bV_ret, bL_ret, bH_t, cond_true, z_0, z_1, retZ_tf, z_tf0, z_tf1, Decidable.not_not, Classical.not_not, nI_add, nI_clamp, n_le, n_lt, n_eq, nI_or, nI_and, z_sdf, of_nI, c_bars hL w r hx hT, beq_iff_eq]
  exact ite_tf h
end CL
/-! letters -/
def hol (v : LV) (k : Nat) : Nat := v (20 + k) (v 11 k - 1)
def cam (v : LV) (k : Nat) : Nat := v (30 + k) (v 11 k - 1)
def thr (v : LV) (k : Nat) : Bool := hol v k == v 9 k
def LEe (q : Nat) (v : LV) (k : Nat) (h : Hp) : Prop := isE q ∧ CLe q v k h ∧ 1 ≤ v 11 k ∧ v 11 k ≤ 7 ∧ v 9 k < 7 ∧ v 10 k < 32 ∧ ∀ j, j < v 11 k → v (20 + k) j < 7 ∧ v (30 + k) j ≤ 99
theorem le_of {o : Nat} {v : LV} {h : Hp} (hL : isL o) (w : WF v) (r : CLd o v h) {k : Nat} (hk : k < v 8 0) : LEe (o + 17 + 3 * k) v k h := by
  have hn := w.1
  have h4 := wf_l w
  have ht := wf_to w hk
  exact ⟨isE_of hL (by omega), L_e r hk, wf_l1 w hk, wf_l7 w hk, by omega, wf_i2 w hk, fun j hj => ⟨Nat.lt_of_lt_of_le (wf_th w hk hj) hn, wf_ca w hk hj⟩⟩
theorem le_3 {v : LV} {h : Hp} (w : WF v) (r : CLd 3 v h) {k : Nat} (hk : k < v 8 0) : LEe (20 + 3 * k) v k h := le_of isL_3 w r hk
section CE
variable {q k : Nat} {v : LV} {h : Hp}
theorem c_holder (E : LEe q v k h) : F_Le_holder q h = retI (nI (hol v k)) h := by
  obtain ⟨hE, e, l1, l7, t7, i5, hj⟩ := E
  unfold F_Le_holder hol
  simp (disch := first | assumption | omega) only [le_O, le_r0, le_r1, le_a1, le_a2, le_f0, le_f1, le_f2, le_f3, le_f4, lit_0, lit_1, lit_2, lit_3, lit_4, lit_5, lit_6, lit_7, lit_8, lit_9, lit_10, lit_11, lit_12, lit_16, lit_17, lit_20, lit_31, lit_32, lit_40, lit_47, lit_48, lit_49, lit_57, lit_58, lit_60, lit_64, lit_68, lit_80, lit_97, lit_99, lit_100, lit_101, lit_104, lit_108, lit_109, lit_115, lit_117, lit_121, lit_127, lit_128, lit_140, lit_1000, lit_1000000, lit_1048576, bI_ret, bV_ret, bL_ret, bH_t, cond_true, z_0, z_1, retZ_tf, z_tf0, z_tf1, Decidable.not_not, Classical.not_not, nI_add, nI_clamp, n_le, n_lt, n_eq, nI_or, nI_and, z_sdf, of_nI, E_len e, nI_sb, E_th e]
theorem c_cameWhen (E : LEe q v k h) : F_Le_cameWhen q h = retI (nI (cam v k)) h := by
  obtain ⟨hE, e, l1, l7, t7, i5, hj⟩ := E
  unfold F_Le_cameWhen cam
  simp (disch := first | assumption | omega) only [le_O, le_r0, le_r1, le_a1, le_a2, le_f0, le_f1, le_f2, le_f3, le_f4, lit_0, lit_1, lit_2, lit_3, lit_4, lit_5, lit_6, lit_7, lit_8, lit_9, lit_10, lit_11, lit_12, lit_16, lit_17, lit_20, lit_31, lit_32, lit_40, lit_47, lit_48, lit_49, lit_57, lit_58, lit_60, lit_64, lit_68, lit_80, lit_97, lit_99, lit_100, lit_101, lit_104, lit_108, lit_109, lit_115, lit_117, lit_121, lit_127, lit_128, lit_140, lit_1000, lit_1000000, lit_1048576, bI_ret, bV_ret, bL_ret, bH_t, cond_true, z_0, z_1, retZ_tf, z_tf0, z_tf1, Decidable.not_not, Classical.not_not, nI_add, nI_clamp, n_le, n_lt, n_eq, nI_or, nI_and, z_sdf, of_nI, E_len e, nI_sb, E_ca e]
theorem hol_lt (E : LEe q v k h) : hol v k < 7 := (E.2.2.2.2.2.2 _ (by have := E.2.2.1; omega)).1
theorem cam_le (E : LEe q v k h) : cam v k ≤ 99 := (E.2.2.2.2.2.2 _ (by have := E.2.2.1; omega)).2
theorem c_isThere (E : LEe q v k h) : F_Le_isThere q h = retI (tf (thr v k = true)) h := by
  have h1 := hol_lt E
  have h2 := c_holder E
  obtain ⟨hE, e, l1, l7, t7, i5, hj⟩ := E
  unfold F_Le_isThere thr
  simp (disch := first | assumption | omega) only [le_O, le_r0, le_r1, le_a1, le_a2, le_f0, le_f1, le_f2, le_f3, le_f4, lit_0, lit_1, lit_2, lit_3, lit_4, lit_5, lit_6, lit_7, lit_8, lit_9, lit_10, lit_11, lit_12, lit_16, lit_17, lit_20, lit_31, lit_32, lit_40, lit_47, lit_48, lit_49, lit_57, lit_58, lit_60, lit_64, lit_68, lit_80, lit_97, lit_99, lit_100, lit_101, lit_104, lit_108, lit_109, lit_115, lit_117, lit_121, lit_127, lit_128, lit_140, lit_1000, lit_1000000, lit_1048576, bI_ret, bV_ret, bL_ret, bH_t, cond_true, z_0, z_1, retZ_tf, z_tf0, z_tf1, Decidable.not_not, Classical.not_not, nI_add, nI_clamp, n_le, n_lt, n_eq, nI_or, nI_and, z_sdf, of_nI, h2, E_to e, beq_iff_eq]
  exact ite_tf h
theorem c_isWithSender (E : LEe q v k h) : F_Le_isWithSender q h = retI (tf (v 11 k = 1)) h := by
  obtain ⟨hE, e, l1, l7, t7, i5, hj⟩ := E
  unfold F_Le_isWithSender
  simp (disch := first | assumption | omega) only [le_O, le_r0, le_r1, le_a1, le_a2, le_f0, le_f1, le_f2, le_f3, le_f4, lit_0, lit_1, lit_2, lit_3, lit_4, lit_5, lit_6, lit_7, lit_8, lit_9, lit_10, lit_11, lit_12, lit_16, lit_17, lit_20, lit_31, lit_32, lit_40, lit_47, lit_48, lit_49, lit_57, lit_58, lit_60, lit_64, lit_68, lit_80, lit_97, lit_99, lit_100, lit_101, lit_104, lit_108, lit_109, lit_115, lit_117, lit_121, lit_127, lit_128, lit_140, lit_1000, lit_1000000, lit_1048576, bI_ret, bV_ret, bL_ret, bH_t, cond_true, z_0, z_1, retZ_tf, z_tf0, z_tf1, Decidable.not_not, Classical.not_not, nI_add, nI_clamp, n_le, n_lt, n_eq, nI_or, nI_and, z_sdf, of_nI, E_len e]
  exact ite_tf h
theorem c_wasGivenIn (E : LEe q v k h) {t : Nat} (ht : t < 2 ^ 31) : F_Le_wasGivenIn q (nI t) h = retI (tf (v 11 k ≠ 1 ∧ cam v k = t)) h := by
  have h1 := cam_le E
  have h2 := c_isWithSender E
  have h3 := c_cameWhen E
  obtain ⟨hE, e, l1, l7, t7, i5, hj⟩ := E
  unfold F_Le_wasGivenIn
  simp (disch := first | assumption | omega) only [le_O, le_r0, le_r1, le_a1, le_a2, le_f0, le_f1, le_f2, le_f3, le_f4, lit_0, lit_1, lit_2, lit_3, lit_4, lit_5, lit_6, lit_7, lit_8, lit_9, lit_10, lit_11, lit_12, lit_16, lit_17, lit_20, lit_31, lit_32, lit_40, lit_47, lit_48, lit_49, lit_57, lit_58, lit_60, lit_64, lit_68, lit_80, lit_97, lit_99, lit_100, lit_101, lit_104, lit_108, lit_109, lit_115, lit_117, lit_121, lit_127, lit_128, lit_140, lit_1000, lit_1000000, lit_1048576, bI_ret, bV_ret, bL_ret, bH_t, cond_true, z_0, z_1, retZ_tf, z_tf0, z_tf1, Decidable.not_not, Classical.not_not, nI_add, nI_clamp, n_le, n_lt, n_eq, nI_or, nI_and, z_sdf, of_nI, h2, h3]
  by_cases c : v 11 k = 1
  · rw [if_neg (fun z => z c), tf_f (fun z => z.1 c)]
    rfl
  · rw [if_pos c]
    refine (ite_tf h).trans (congrArg (fun x => retI x h) (tf_cong ?_))
    exact ⟨fun z => ⟨c, z⟩, fun z => z.2⟩
theorem c_seen (E : LEe q v k h) : F_Le_seen q h = retI (nI (orb (v 11 k) (v (20 + k)))) h := by
  obtain ⟨hE, e, l1, l7, t7, i5, hj⟩ := E
  unfold F_Le_seen
  refine loop_for (N := v 11 k) (fun i => (q, nI (orb i (v (20 + k))), nI i, h)) rfl (by show _ < 4096; omega) (fun i κ hi => ?_) (fun κ => ?_)
  · have h7 := (hj i hi).1
    simp (disch := first | assumption | omega) only [Le_seen_4, le_O, le_r0, le_r1, le_a1, le_a2, le_f0, le_f1, le_f2, le_f3, le_f4, lit_0, lit_1, lit_2, lit_3, lit_4, lit_5, lit_6, lit_7, lit_8, lit_9, lit_10, lit_11, lit_12, lit_16, lit_17, lit_20, lit_31, lit_32, lit_40, lit_47, lit_48, lit_49, lit_57, lit_58, lit_60, lit_64, lit_68, lit_80, lit_97, lit_99, lit_100, lit_101, lit_104, lit_108, lit_109, lit_115, lit_117, lit_121, lit_127, lit_128, lit_140, lit_1000, lit_1000000, lit_1048576, bI_ret, bV_ret, bL_ret, bH_t, cond_true, z_0, z_1, retZ_tf, z_tf0, z_tf1, Decidable.not_not, Classical.not_not, nI_add, nI_clamp, n_le, n_lt, n_eq, nI_or, nI_and, z_sdf, of_nI, E_len e, E_th e, c_bit, orb_s]
    rw [if_neg (by omega)]
  · simp (disch := first | assumption | omega) only [Le_seen_4, le_O, le_r0, le_r1, le_a1, le_a2, le_f0, le_f1, le_f2, le_f3, le_f4, lit_0, lit_1, lit_2, lit_3, lit_4, lit_5, lit_6, lit_7, lit_8, lit_9, lit_10, lit_11, lit_12, lit_16, lit_17, lit_20, lit_31, lit_32, lit_40, lit_47, lit_48, lit_49, lit_57, lit_58, lit_60, lit_64, lit_68, lit_80, lit_97, lit_99, lit_100, lit_101, lit_104, lit_108, lit_109, lit_115, lit_117, lit_121, lit_127, lit_128, lit_140, lit_1000, lit_1000000, lit_1048576, bI_ret, bV_ret, bL_ret, bH_t, cond_true, z_0, z_1, retZ_tf, z_tf0, z_tf1, Decidable.not_not, Classical.not_not, nI_add, nI_clamp, n_le, n_lt, n_eq, nI_or, nI_and, z_sdf, of_nI, E_len e, Nat.le_refl, if_true]
/-- one gave it on: was neither first nor is last -/
def gon (v : LV) (k x : Nat) : Bool := anyB (v 11 k - 2) (fun j => v (20 + k) (1 + j) == x)
theorem anyB_first {n : Nat} {P : Nat → Bool} (h : anyB n P = true) : ∃ i, i < n ∧ P i = true ∧ ∀ j, j < i → P j = false := by
  induction n with
  | zero => cases h
  | succ n ih =>
    by_cases q : anyB n P = true
    · obtain ⟨i, h1, h2, h3⟩ := ih q
      exact ⟨i, by omega, h2, h3⟩
    · rw [anyB_s, Bool.or_eq_true] at h
      refine ⟨n, by omega, h.resolve_left q, fun j hj => ?_⟩
      cases c : P j with
      | false => rfl
      | true => exact absurd (anyB_iff.mpr ⟨j, hj, c⟩) q
theorem c_wasGivenOnBy (E : LEe q v k h) {x : Nat} (hx : x < 7) : F_Le_wasGivenOnBy q (nI x) h = retI (tf (gon v k x = true)) h := by
  obtain ⟨hE, e, l1, l7, t7, i5, hj⟩ := E
  unfold F_Le_wasGivenOnBy
  by_cases c : gon v k x = true
  · rw [tf_t c]
    obtain ⟨i, h1, h2, h3⟩ := anyB_first c
    rw [beq_iff_eq] at h2
    refine loop_for (N := i) (fun j => (q, nI x, nI (1 + j), h)) rfl (by show _ < 4096; omega) (fun j κ hlt => ?_) (fun κ => ?_)
    · have h7 := (hj (1 + j) (by omega)).1
      have h4 := h3 j hlt
      rw [beq_eq_false_iff_ne] at h4
      simp (disch := first | assumption | omega) only [Le_wasGivenOnBy_2, le_O, le_r0, le_r1, le_a1, le_a2, le_f0, le_f1, le_f2, le_f3, le_f4, lit_0, lit_1, lit_2, lit_3, lit_4, lit_5, lit_6, lit_7, lit_8, lit_9, lit_10, lit_11, lit_12, lit_16, lit_17, lit_20, lit_31, lit_32, lit_40, lit_47, lit_48, lit_49, lit_57, lit_58, lit_60, lit_64, lit_68, lit_80, lit_97, lit_99, lit_100, lit_101, lit_104, lit_108, lit_109, lit_115, lit_117, lit_121, lit_127, lit_128, lit_140, lit_1000, lit_1000000, lit_1048576, bI_ret, bV_ret, bL_ret, bH_t, cond_true, z_0, z_1, retZ_tf, z_tf0, z_tf1, Decidable.not_not, Classical.not_not, nI_add, nI_clamp, n_le, n_lt, n_eq, nI_or, nI_and, z_sdf, of_nI, E_len e, E_th e, nI_sb]
      rw [if_neg (by omega), if_neg h4, Nat.add_assoc]
    · have h7 := (hj (1 + i) (by omega)).1
      simp (disch := first | assumption | omega) only [Le_wasGivenOnBy_2, le_O, le_r0, le_r1, le_a1, le_a2, le_f0, le_f1, le_f2, le_f3, le_f4, lit_0, lit_1, lit_2, lit_3, lit_4, lit_5, lit_6, lit_7, lit_8, lit_9, lit_10, lit_11, lit_12, lit_16, lit_17, lit_20, lit_31, lit_32, lit_40, lit_47, lit_48, lit_49, lit_57, lit_58, lit_60, lit_64, lit_68, lit_80, lit_97, lit_99, lit_100, lit_101, lit_104, lit_108, lit_109, lit_115, lit_117, lit_121, lit_127, lit_128, lit_140, lit_1000, lit_1000000, lit_1048576, bI_ret, bV_ret, bL_ret, bH_t, cond_true, z_0, z_1, retZ_tf, z_tf0, z_tf1, Decidable.not_not, Classical.not_not, nI_add, nI_clamp, n_le, n_lt, n_eq, nI_or, nI_and, z_sdf, of_nI, E_len e, E_th e, nI_sb]
      rw [if_neg (by omega), if_pos h2]
  · rw [tf_f c]
    refine loop_for (N := v 11 k - 2) (fun j => (q, nI x, nI (1 + j), h)) rfl (by show _ < 4096; omega) (fun j κ hlt => ?_) (fun κ => ?_)
    · have h7 := (hj (1 + j) (by omega)).1
      have h4 : v (20 + k) (1 + j) ≠ x := fun z => c (anyB_iff.mpr ⟨j, hlt, beq_iff_eq.mpr z⟩)
      simp (disch := first | assumption | omega) only [Le_wasGivenOnBy_2, le_O, le_r0, le_r1, le_a1, le_a2, le_f0, le_f1, le_f2, le_f3, le_f4, lit_0, lit_1, lit_2, lit_3, lit_4, lit_5, lit_6, lit_7, lit_8, lit_9, lit_10, lit_11, lit_12, lit_16, lit_17, lit_20, lit_31, lit_32, lit_40, lit_47, lit_48, lit_49, lit_57, lit_58, lit_60, lit_64, lit_68, lit_80, lit_97, lit_99, lit_100, lit_101, lit_104, lit_108, lit_109, lit_115, lit_117, lit_121, lit_127, lit_128, lit_140, lit_1000, lit_1000000, lit_1048576, bI_ret, bV_ret, bL_ret, bH_t, cond_true, z_0, z_1, retZ_tf, z_tf0, z_tf1, Decidable.not_not, Classical.not_not, nI_add, nI_clamp, n_le, n_lt, n_eq, nI_or, nI_and, z_sdf, of_nI, E_len e, E_th e, nI_sb]
      rw [if_neg (by omega), if_neg h4, Nat.add_assoc]
    · simp (disch := first | assumption | omega) only [Le_wasGivenOnBy_2, le_O, le_r0, le_r1, le_a1, le_a2, le_f0, le_f1, le_f2, le_f3, le_f4, lit_0, lit_1, lit_2, lit_3, lit_4, lit_5, lit_6, lit_7, lit_8, lit_9, lit_10, lit_11, lit_12, lit_16, lit_17, lit_20, lit_31, lit_32, lit_40, lit_47, lit_48, lit_49, lit_57, lit_58, lit_60, lit_64, lit_68, lit_80, lit_97, lit_99, lit_100, lit_101, lit_104, lit_108, lit_109, lit_115, lit_117, lit_121, lit_127, lit_128, lit_140, lit_1000, lit_1000000, lit_1048576, bI_ret, bV_ret, bL_ret, bH_t, cond_true, z_0, z_1, retZ_tf, z_tf0, z_tf1, Decidable.not_not, Classical.not_not, nI_add, nI_clamp, n_le, n_lt, n_eq, nI_or, nI_and, z_sdf, of_nI, E_len e, nI_sb]
      rw [if_pos (by omega)]
end CE
section CC
variable {o : Nat} {v : LV} {h : Hp}
theorem c_meetingsOf (hL : isL o) (w : WF v) (r : CLd o v h) {x : Nat} (hx : x < v 0 0) : F_La_meetingsOf o (nI x) h = retI (nI (cnt (v 3 0) (fun k => v 4 k == x || v 5 k == x))) h := by
  have hn := w.1
  have hm := wf_m w
  unfold F_La_meetingsOf
  refine loop_for (N := v 3 0) (fun i => (o, nI x, nI (cnt i (fun k => v 4 k == x || v 5 k == x)), nI i, h)) rfl (by show _ < 4096; omega) (fun i κ hi => ?_) (fun κ => ?_)
  · have ha := wf_a w hi
    have hb := wf_b w hi
    have hc := cnt_le i (fun k => v 4 k == x || v 5 k == x)
    simp (disch := first | assumption | omega) only [La_meetingsOf_4, la_O, la_f0, la_f1, la_f2, la_f3, la_f4, la_f5, la_f6, la_f7, la_f8, la_f9, la_f10, la_f11, la_r0, la_r1, la_r2, la_r3, la_r4, la_r5, la_r6, la_r7, la_a1, la_a2, la_a3, la_a4, la_a5, la_a6, la_a15, la_a16, la_m, la_am, le_r, lit_0, lit_1, lit_2, lit_3, lit_4, lit_5, lit_6, lit_7, lit_8, lit_9, lit_10, lit_11, lit_12, lit_16, lit_17, lit_20, lit_31, lit_32, lit_40, lit_47, lit_48, lit_49, lit_57, lit_58, lit_60, lit_64, lit_68, lit_80, lit_97, lit_99, lit_100, lit_101, lit_104, lit_108, lit_109, lit_115, lit_117, lit_121, lit_127, lit_128, lit_140, lit_1000, lit_1000000, lit_1048576, bI_ret, bV_ret, bL_ret, bH_t, cond_true, z_0, z_1, retZ_tf, z_tf0, z_tf1, Decidable.not_not, Classical.not_not, nI_add, nI_clamp, n_le, n_lt, n_eq, nI_or, nI_and, z_sdf, of_nI, L_m r, L_a r, L_b r, cnt_s]
    rw [if_neg (by omega)]
    by_cases q1 : v 4 i = x
    · simp only [q1, if_true, beq_self_eq_true, Bool.true_or]
    · by_cases q2 : v 5 i = x
      · simp only [q1, q2, if_true, if_false, beq_self_eq_true, Bool.or_true]
      · simp only [q1, q2, if_false, beq_eq_false_iff_ne.mpr q1, beq_eq_false_iff_ne.mpr q2, Bool.or_false, Bool.false_eq_true]
  · simp (disch := first | assumption | omega) only [La_meetingsOf_4, la_O, la_f0, la_f1, la_f2, la_f3, la_f4, la_f5, la_f6, la_f7, la_f8, la_f9, la_f10, la_f11, la_r0, la_r1, la_r2, la_r3, la_r4, la_r5, la_r6, la_r7, la_a1, la_a2, la_a3, la_a4, la_a5, la_a6, la_a15, la_a16, la_m, la_am, le_r, lit_0, lit_1, lit_2, lit_3, lit_4, lit_5, lit_6, lit_7, lit_8, lit_9, lit_10, lit_11, lit_12, lit_16, lit_17, lit_20, lit_31, lit_32, lit_40, lit_47, lit_48, lit_49, lit_57, lit_58, lit_60, lit_64, lit_68, lit_80, lit_97, lit_99, lit_100, lit_101, lit_104, lit_108, lit_109, lit_115, lit_117, lit_121, lit_127, lit_128, lit_140, lit_1000, lit_1000000, lit_1048576, bI_ret, bV_ret, bL_ret, bH_t, cond_true, z_0, z_1, retZ_tf, z_tf0, z_tf1, Decidable.not_not, Classical.not_not, nI_add, nI_clamp, n_le, n_lt, n_eq, nI_or, nI_and, z_sdf, of_nI, L_m r, Nat.le_refl, if_true]
theorem c_lettersWith (hL : isL o) (w : WF v) (r : CLd o v h) {x : Nat} (hx : x < v 0 0) : F_La_lettersWith o (nI x) h = retI (nI (cnt (v 8 0) (fun k => hol v k == x && !thr v k))) h := by
  have hn := w.1
  have hm := wf_l w
  unfold F_La_lettersWith
  refine loop_for (N := v 8 0) (fun i => (o, nI x, nI (cnt i (fun k => hol v k == x && !thr v k)), nI i, h)) rfl (by show _ < 4096; omega) (fun i κ hi => ?_) (fun κ => ?_)
  · have E := le_of hL w r hi
    have h7 := hol_lt E
    have hc := cnt_le i (fun k => hol v k == x && !thr v k)
    simp (disch := first | assumption | omega) only [La_lettersWith_4, la_O, la_f0, la_f1, la_f2, la_f3, la_f4, la_f5, la_f6, la_f7, la_f8, la_f9, la_f10, la_f11, la_r0, la_r1, la_r2, la_r3, la_r4, la_r5, la_r6, la_r7, la_a1, la_a2, la_a3, la_a4, la_a5, la_a6, la_a15, la_a16, la_m, la_am, le_r, lit_0, lit_1, lit_2, lit_3, lit_4, lit_5, lit_6, lit_7, lit_8, lit_9, lit_10, lit_11, lit_12, lit_16, lit_17, lit_20, lit_31, lit_32, lit_40, lit_47, lit_48, lit_49, lit_57, lit_58, lit_60, lit_64, lit_68, lit_80, lit_97, lit_99, lit_100, lit_101, lit_104, lit_108, lit_109, lit_115, lit_117, lit_121, lit_127, lit_128, lit_140, lit_1000, lit_1000000, lit_1048576, bI_ret, bV_ret, bL_ret, bH_t, cond_true, z_0, z_1, retZ_tf, z_tf0, z_tf1, Decidable.not_not, Classical.not_not, nI_add, nI_clamp, n_le, n_lt, n_eq, nI_or, nI_and, z_sdf, of_nI, L_l r, le_O E.1, c_holder E, c_isThere E, cnt_s]
    rw [if_neg (by omega)]
    by_cases q1 : hol v i = x
    · by_cases q2 : thr v i = true
      · simp only [q1, q2, if_true, not_true, if_false, beq_self_eq_true, Bool.not_true, Bool.and_false, Bool.false_eq_true]
      · simp only [q1, q2, if_true, if_false, not_false_iff, beq_self_eq_true, Bool.not_false, Bool.and_true, Bool.false_eq_true]
    · simp only [q1, if_false, beq_eq_false_iff_ne.mpr q1, Bool.false_and, Bool.false_eq_true]
  · simp (disch := first | assumption | omega) only [La_lettersWith_4, la_O, la_f0, la_f1, la_f2, la_f3, la_f4, la_f5, la_f6, la_f7, la_f8, la_f9, la_f10, la_f11, la_r0, la_r1, la_r2, la_r3, la_r4, la_r5, la_r6, la_r7, la_a1, la_a2, la_a3, la_a4, la_a5, la_a6, la_a15, la_a16, la_m, la_am, le_r, lit_0, lit_1, lit_2, lit_3, lit_4, lit_5, lit_6, lit_7, lit_8, lit_9, lit_10, lit_11, lit_12, lit_16, lit_17, lit_20, lit_31, lit_32, lit_40, lit_47, lit_48, lit_49, lit_57, lit_58, lit_60, lit_64, lit_68, lit_80, lit_97, lit_99, lit_100, lit_101, lit_104, lit_108, lit_109, lit_115, lit_117, lit_121, lit_127, lit_128, lit_140, lit_1000, lit_1000000, lit_1048576, bI_ret, bV_ret, bL_ret, bH_t, cond_true, z_0, z_1, retZ_tf, z_tf0, z_tf1, Decidable.not_not, Classical.not_not, nI_add, nI_clamp, n_le, n_lt, n_eq, nI_or, nI_and, z_sdf, of_nI, L_l r, Nat.le_refl, if_true]
theorem c_lettersThere (hL : isL o) (w : WF v) (r : CLd o v h) : F_La_lettersThere o h = retI (nI (cnt (v 8 0) (fun k => thr v k))) h := by
  have hn := w.1
  have hm := wf_l w
  unfold F_La_lettersThere
  refine loop_for (N := v 8 0) (fun i => (o, nI (cnt i (fun k => thr v k)), nI i, h)) rfl (by show _ < 4096; omega) (fun i κ hi => ?_) (fun κ => ?_)
  · have E := le_of hL w r hi
    have h7 := hol_lt E
    have hc := cnt_le i (fun k => thr v k)
    simp (disch := first | assumption | omega) only [La_lettersThere_4, la_O, la_f0, la_f1, la_f2, la_f3, la_f4, la_f5, la_f6, la_f7, la_f8, la_f9, la_f10, la_f11, la_r0, la_r1, la_r2, la_r3, la_r4, la_r5, la_r6, la_r7, la_a1, la_a2, la_a3, la_a4, la_a5, la_a6, la_a15, la_a16, la_m, la_am, le_r, lit_0, lit_1, lit_2, lit_3, lit_4, lit_5, lit_6, lit_7, lit_8, lit_9, lit_10, lit_11, lit_12, lit_16, lit_17, lit_20, lit_31, lit_32, lit_40, lit_47, lit_48, lit_49, lit_57, lit_58, lit_60, lit_64, lit_68, lit_80, lit_97, lit_99, lit_100, lit_101, lit_104, lit_108, lit_109, lit_115, lit_117, lit_121, lit_127, lit_128, lit_140, lit_1000, lit_1000000, lit_1048576, bI_ret, bV_ret, bL_ret, bH_t, cond_true, z_0, z_1, retZ_tf, z_tf0, z_tf1, Decidable.not_not, Classical.not_not, nI_add, nI_clamp, n_le, n_lt, n_eq, nI_or, nI_and, z_sdf, of_nI, L_l r, le_O E.1, c_isThere E, cnt_s]
    rw [if_neg (by omega)]
    by_cases q2 : thr v i = true
    · simp only [q2, if_true, not_true, if_false]
    · simp only [q2, if_true, if_false, not_false_iff, Bool.false_eq_true]
  · simp (disch := first | assumption | omega) only [La_lettersThere_4, la_O, la_f0, la_f1, la_f2, la_f3, la_f4, la_f5, la_f6, la_f7, la_f8, la_f9, la_f10, la_f11, la_r0, la_r1, la_r2, la_r3, la_r4, la_r5, la_r6, la_r7, la_a1, la_a2, la_a3, la_a4, la_a5, la_a6, la_a15, la_a16, la_m, la_am, le_r, lit_0, lit_1, lit_2, lit_3, lit_4, lit_5, lit_6, lit_7, lit_8, lit_9, lit_10, lit_11, lit_12, lit_16, lit_17, lit_20, lit_31, lit_32, lit_40, lit_47, lit_48, lit_49, lit_57, lit_58, lit_60, lit_64, lit_68, lit_80, lit_97, lit_99, lit_100, lit_101, lit_104, lit_108, lit_109, lit_115, lit_117, lit_121, lit_127, lit_128, lit_140, lit_1000, lit_1000000, lit_1048576, bI_ret, bV_ret, bL_ret, bH_t, cond_true, z_0, z_1, retZ_tf, z_tf0, z_tf1, Decidable.not_not, Classical.not_not, nI_add, nI_clamp, n_le, n_lt, n_eq, nI_or, nI_and, z_sdf, of_nI, L_l r, Nat.le_refl, if_true]
theorem c_lettersGivenOnBy (hL : isL o) (w : WF v) (r : CLd o v h) {x : Nat} (hx : x < v 0 0) : F_La_lettersGivenOnBy o (nI x) h = retI (nI (cnt (v 8 0) (fun k => gon v k x))) h := by
  have hn := w.1
  have hm := wf_l w
  unfold F_La_lettersGivenOnBy
  refine loop_for (N := v 8 0) (fun i => (o, nI x, nI (cnt i (fun k => gon v k x)), nI i, h)) rfl (by show _ < 4096; omega) (fun i κ hi => ?_) (fun κ => ?_)
  · have E := le_of hL w r hi
    have hc := cnt_le i (fun k => gon v k x)
    have hx7 : x < 7 := by omega
    simp (disch := first | assumption | omega) only [La_lettersGivenOnBy_4, la_O, la_f0, la_f1, la_f2, la_f3, la_f4, la_f5, la_f6, la_f7, la_f8, la_f9, la_f10, la_f11, la_r0, la_r1, la_r2, la_r3, la_r4, la_r5, la_r6, la_r7, la_a1, la_a2, la_a3, la_a4, la_a5, la_a6, la_a15, la_a16, la_m, la_am, le_r, lit_0, lit_1, lit_2, lit_3, lit_4, lit_5, lit_6, lit_7, lit_8, lit_9, lit_10, lit_11, lit_12, lit_16, lit_17, lit_20, lit_31, lit_32, lit_40, lit_47, lit_48, lit_49, lit_57, lit_58, lit_60, lit_64, lit_68, lit_80, lit_97, lit_99, lit_100, lit_101, lit_104, lit_108, lit_109, lit_115, lit_117, lit_121, lit_127, lit_128, lit_140, lit_1000, lit_1000000, lit_1048576, bI_ret, bV_ret, bL_ret, bH_t, cond_true, z_0, z_1, retZ_tf, z_tf0, z_tf1, Decidable.not_not, Classical.not_not, nI_add, nI_clamp, n_le, n_lt, n_eq, nI_or, nI_and, z_sdf, of_nI, L_l r, le_O E.1, c_wasGivenOnBy E hx7, cnt_s]
    rw [if_neg (by omega)]
    by_cases q2 : gon v i x = true
    · simp only [q2, if_true, not_true, if_false]
    · simp only [q2, if_true, if_false, not_false_iff, Bool.false_eq_true]
  · simp (disch := first | assumption | omega) only [La_lettersGivenOnBy_4, la_O, la_f0, la_f1, la_f2, la_f3, la_f4, la_f5, la_f6, la_f7, la_f8, la_f9, la_f10, la_f11, la_r0, la_r1, la_r2, la_r3, la_r4, la_r5, la_r6, la_r7, la_a1, la_a2, la_a3, la_a4, la_a5, la_a6, la_a15, la_a16, la_m, la_am, le_r, lit_0, lit_1, lit_2, lit_3, lit_4, lit_5, lit_6, lit_7, lit_8, lit_9, lit_10, lit_11, lit_12, lit_16, lit_17, lit_20, lit_31, lit_32, lit_40, lit_47, lit_48, lit_49, lit_57, lit_58, lit_60, lit_64, lit_68, lit_80, lit_97, lit_99, lit_100, lit_101, lit_104, lit_108, lit_109, lit_115, lit_117, lit_121, lit_127, lit_128, lit_140, lit_1000, lit_1000000, lit_1048576, bI_ret, bV_ret, bL_ret, bH_t, cond_true, z_0, z_1, retZ_tf, z_tf0, z_tf1, Decidable.not_not, Classical.not_not, nI_add, nI_clamp, n_le, n_lt, n_eq, nI_or, nI_and, z_sdf, of_nI, L_l r, Nat.le_refl, if_true]
/-- what hand tells -/
def fct (v : LV) (x : Nat) : Nat → Nat
  | 0 => v 1 x
  | 1 => v 2 x
  | 2 => cnt (v 3 0) (fun k => v 4 k == x || v 5 k == x)
  | _ => cnt (v 8 0) (fun k => hol v k == x && !thr v k)
theorem c_factOf (hL : isL o) (w : WF v) (r : CLd o v h) {x wh : Nat} (hx : x < v 0 0) (hw : wh < 4) : F_La_factOf o (nI x) (nI wh) h = retI (nI (fct v x wh)) h := by
  have hn := w.1
  unfold F_La_factOf
  simp (disch := first | assumption | omega) only [la_O, la_f0, la_f1, la_f2, la_f3, la_f4, la_f5, la_f6, la_f7, la_f8, la_f9, la_f10, la_f11, la_r0, la_r1, la_r2, la_r3, la_r4, la_r5, la_r6, la_r7, la_a1, la_a2, la_a3, la_a4, la_a5, la_a6, la_a15, la_a16, la_m, la_am, le_r, lit_0, lit_1, lit_2, lit_3, lit_4, lit_5, lit_6, lit_7, lit_8, lit_9, lit_10, lit_11, lit_12, lit_16, lit_17, lit_20, lit_31, lit_32, lit_40, lit_47, lit_48, lit_49, lit_57, lit_58, lit_60, lit_64, lit_68, lit_80, lit_97, lit_99, lit_100, lit_101, lit_104, lit_108, lit_109, lit_115, lit_117, lit_121, lit_127, lit_128, lit_140, lit_1000, lit_1000000, lit_1048576, bI_ret, bV_ret, bL_ret, bH_t, cond_true, z_0, z_1, retZ_tf, z_tf0, z_tf1, Decidable.not_not, Classical.not_not, nI_add, nI_clamp, n_le, n_lt, n_eq, nI_or, nI_and, z_sdf, of_nI, L_k r, L_w r, c_meetingsOf hL w r hx, c_lettersWith hL w r hx]
  match wh, hw with
  | 0, _ => rfl
  | 1, _ => rfl
  | 2, _ => rfl
  | 3, _ => rfl
/-- what mark tells -/
def mrk (v : LV) (x : Nat) : Nat → Nat
  | 1 => pop (v 2 x)
  | 2 => nb (v 2 x)
  | 3 => cnt (v 8 0) (fun k => gon v k x)
  | 4 => cnt 7 (fun y => met v x y)
  | _ => 5 - pop (v 2 x)
theorem pop_ms {n : Nat} (hn : n ≤ 10) (P : Nat → Bool) : pop (ms n P) = cnt n P := by
  have H : ∀ m, m ≤ 10 → cnt m (fun i => (ms n P).testBit i) = cnt (min m n) P := by
    intro m
    induction m with
    | zero => intro _; rw [Nat.zero_min]; rfl
    | succ m ih =>
      intro hm
      rw [cnt_s, ih (by omega), ms_tb]
      by_cases c : m < n
      · rw [Nat.min_eq_left (by omega), Nat.min_eq_left (by omega : m + 1 ≤ n), cnt_s]
        simp [c]
      · rw [Nat.min_eq_right (by omega), Nat.min_eq_right (by omega : n ≤ m + 1)]
        simp [c]
  rw [pop, H 10 (Nat.le_refl _), Nat.min_eq_right hn]
theorem ms_1024 {n : Nat} (hn : n ≤ 10) (P : Nat → Bool) : ms n P < 1024 := Nat.lt_of_lt_of_le (ms_lt n P) (Nat.pow_le_pow_right (by decide) hn)
theorem pop5_dec : ∀ a, a < 32 → pop a ≤ 5 := by decide +kernel
theorem c_markOf (hL : isL o) (w : WF v) (r : CLd o v h) {x kd : Nat} (hx : x < v 0 0) (h1 : 1 ≤ kd) (h6 : kd < 6) : F_La_markOf o (nI x) (nI kd) h = retI (nI (mrk v x kd)) h := by
  have hn := w.1
  have hw := wf_w w hx
  have h5 := pop5_dec _ hw
  have h10 := ms_1024 (n := 7) (by decide) (met v x)
  unfold F_La_markOf
  simp (disch := first | assumption | omega) only [la_O, la_f0, la_f1, la_f2, la_f3, la_f4, la_f5, la_f6, la_f7, la_f8, la_f9, la_f10, la_f11, la_r0, la_r1, la_r2, la_r3, la_r4, la_r5, la_r6, la_r7, la_a1, la_a2, la_a3, la_a4, la_a5, la_a6, la_a15, la_a16, la_m, la_am, le_r, lit_0, lit_1, lit_2, lit_3, lit_4, lit_5, lit_6, lit_7, lit_8, lit_9, lit_10, lit_11, lit_12, lit_16, lit_17, lit_20, lit_31, lit_32, lit_40, lit_47, lit_48, lit_49, lit_57, lit_58, lit_60, lit_64, lit_68, lit_80, lit_97, lit_99, lit_100, lit_101, lit_104, lit_108, lit_109, lit_115, lit_117, lit_121, lit_127, lit_128, lit_140, lit_1000, lit_1000000, lit_1048576, bI_ret, bV_ret, bL_ret, bH_t, cond_true, z_0, z_1, retZ_tf, z_tf0, z_tf1, Decidable.not_not, Classical.not_not, nI_add, nI_clamp, n_le, n_lt, n_eq, nI_or, nI_and, z_sdf, of_nI, L_w r, L_mE r, c_lettersGivenOnBy hL w r hx, c_bits, c_nb, nI_sb, pop_ms]
  match kd, h1, h6 with
  | 1, _, _ => rfl
  | 2, _, _ => rfl
  | 3, _, _ => rfl
  | 4, _, _ => rfl
  | 5, _, _ => rfl
end CC
