/-! OPERATION: count -/
def thB (h : Hp) (s : Nat) : Bool := decide (¬ hg h (71 + 2 * s) 1 = -nI 1)
def kpB (h : Hp) (k : Nat) : Bool := decide (¬ hg h 62 k = nI 0)
def tlV (v : LV) (h : Hp) : Nat → Nat
  | 0 => v 0 0
  | 1 => v 3 0
  | 2 => v 7 0
  | 3 => v 8 0
  | 4 => cnt (v 8 0) (fun k => thr v k)
  | 5 => cnt (v 0 0) (fun x => isO (v 1 x) 1)
  | 6 => cnt 6 (thB h)
  | 7 => cnt 4 (fun t => thB h (6 + t))
  | _ => cnt 3 (kpB h)
theorem cn_t {P : Nat → Bool} {i : Nat} (q : P i = true) : nI (cnt i P) + (1 : Int32) = nI (cnt (i + 1) P) := by
  rw [cnt_s, if_pos q]
  exact nI_add _ 1
theorem cn_f {P : Nat → Bool} {i : Nat} (q : P i = false) : nI (cnt i P) + (0 : Int32) = nI (cnt (i + 1) P) := by
  rw [cnt_s, if_neg (by rw [q]; exact Bool.false_ne_true)]
  exact nI_add _ 0
theorem cn_f' {P : Nat → Bool} {i : Nat} (q : P i = false) : nI (cnt i P) = nI (cnt (i + 1) P) := by
  rw [cnt_s, if_neg (by rw [q]; exact Bool.false_ne_true)]
theorem nI_s (i : Nat) : nI i + (1 : Int32) = nI (i + 1) := nI_add i 1
theorem cnt_ext {P : Nat → Bool} {n : Nat} : ∀ m, n ≤ m → cnt m (fun k => decide (k < n) && P k) = cnt n P := by
  intro m hm
  induction m with
  | zero =>
    have : n = 0 := by omega
    subst this
    rfl
  | succ m ih =>
    by_cases z : n = m + 1
    · subst z
      exact cnt_cong fun i hi => by rw [decide_eq_true hi, Bool.true_and]
    · rw [cnt_s, ih (by omega), decide_eq_false (show ¬ m < n by omega)]
      rfl
section CNTC
variable {v : LV} {h : Hp}
theorem ok12 : okN 1 = true ∧ okN 2 = true ∧ shN 1 = 6 ∧ shN 2 = 4 := by decide +kernel
theorem c_there1 : F_Bp_sheetsThere 1 h = retI (nI (cnt 6 (thB h))) h := by
  unfold F_Bp_sheetsThere
  refine loop_for (N := 6) (fun i => (1, nI (cnt i (thB h)), nI i, h)) rfl (by show _ < 4096; omega) (fun i κ hi => ?_) (fun κ => ?_)
  · have s10 : i < 10 := by omega
    simp (disch := first | assumption | omega) only [Bp_sheetsThere_4, ok12.1, ok12.2.2.1, lit_0, lit_1, lit_2, lit_3, lit_4, lit_5, lit_6, lit_7, lit_8, lit_9, lit_10, lit_11, lit_12, lit_16, lit_17, lit_20, lit_31, lit_32, lit_40, lit_47, lit_48, lit_49, lit_57, lit_58, lit_60, lit_64, lit_68, lit_80, lit_97, lit_99, lit_100, lit_101, lit_104, lit_108, lit_109, lit_115, lit_117, lit_121, lit_127, lit_128, lit_140, lit_1000, lit_1000000, lit_1048576, bI_ret, bV_ret, bL_ret, bH_t, cond_true, z_0, z_1, retZ_tf, z_tf0, z_tf1, Decidable.not_not, Classical.not_not, nI_add, nI_clamp, n_le, n_lt, n_eq, nI_or, nI_and, z_sdf, of_nI, ite_not, m_i3, m_i99, m_i7, m_i1, m_i20, m_i2, m_i8, m_i15, m_i60, oR_1, sR_1, sh_O s10, c_sheetIs s10]
    rw [if_neg (by omega)]
    by_cases q : hg h (71 + 2 * i) 1 = -nI 1
    · rw [if_pos q, ← cn_f' (show thB h i = false from decide_eq_false fun z => z q)]
    · rw [if_neg q, ← cn_t (show thB h i = true from decide_eq_true q), nI_s]
  · simp (disch := first | assumption | omega) only [Bp_sheetsThere_4, ok12.1, ok12.2.2.1, lit_0, lit_1, lit_2, lit_3, lit_4, lit_5, lit_6, lit_7, lit_8, lit_9, lit_10, lit_11, lit_12, lit_16, lit_17, lit_20, lit_31, lit_32, lit_40, lit_47, lit_48, lit_49, lit_57, lit_58, lit_60, lit_64, lit_68, lit_80, lit_97, lit_99, lit_100, lit_101, lit_104, lit_108, lit_109, lit_115, lit_117, lit_121, lit_127, lit_128, lit_140, lit_1000, lit_1000000, lit_1048576, bI_ret, bV_ret, bL_ret, bH_t, cond_true, z_0, z_1, retZ_tf, z_tf0, z_tf1, Decidable.not_not, Classical.not_not, nI_add, nI_clamp, n_le, n_lt, n_eq, nI_or, nI_and, z_sdf, of_nI, ite_not, m_i3, m_i99, m_i7, m_i1, m_i20, m_i2, m_i8, m_i15, m_i60, Nat.le_refl, if_true]
theorem c_there2 : F_Bp_sheetsThere 2 h = retI (nI (cnt 4 (fun t => thB h (6 + t)))) h := by
  unfold F_Bp_sheetsThere
  refine loop_for (N := 4) (fun i => (2, nI (cnt i (fun t => thB h (6 + t))), nI i, h)) rfl (by show _ < 4096; omega) (fun i κ hi => ?_) (fun κ => ?_)
  · have s10 : 6 + i < 10 := by omega
    simp (disch := first | assumption | omega) only [Bp_sheetsThere_4, ok12.2.1, ok12.2.2.2, lit_0, lit_1, lit_2, lit_3, lit_4, lit_5, lit_6, lit_7, lit_8, lit_9, lit_10, lit_11, lit_12, lit_16, lit_17, lit_20, lit_31, lit_32, lit_40, lit_47, lit_48, lit_49, lit_57, lit_58, lit_60, lit_64, lit_68, lit_80, lit_97, lit_99, lit_100, lit_101, lit_104, lit_108, lit_109, lit_115, lit_117, lit_121, lit_127, lit_128, lit_140, lit_1000, lit_1000000, lit_1048576, bI_ret, bV_ret, bL_ret, bH_t, cond_true, z_0, z_1, retZ_tf, z_tf0, z_tf1, Decidable.not_not, Classical.not_not, nI_add, nI_clamp, n_le, n_lt, n_eq, nI_or, nI_and, z_sdf, of_nI, ite_not, m_i3, m_i99, m_i7, m_i1, m_i20, m_i2, m_i8, m_i15, m_i60, oR_2, sR_2, sh_t, sh_O s10, c_sheetIs s10]
    rw [if_neg (by omega)]
    by_cases q : hg h (71 + 2 * (6 + i)) 1 = -nI 1
    · rw [if_pos q, ← cn_f' (P := fun t => thB h (6 + t)) (show thB h (6 + i) = false from decide_eq_false fun z => z q)]
    · rw [if_neg q, ← cn_t (P := fun t => thB h (6 + t)) (show thB h (6 + i) = true from decide_eq_true q), nI_s]
  · simp (disch := first | assumption | omega) only [Bp_sheetsThere_4, ok12.2.1, ok12.2.2.2, lit_0, lit_1, lit_2, lit_3, lit_4, lit_5, lit_6, lit_7, lit_8, lit_9, lit_10, lit_11, lit_12, lit_16, lit_17, lit_20, lit_31, lit_32, lit_40, lit_47, lit_48, lit_49, lit_57, lit_58, lit_60, lit_64, lit_68, lit_80, lit_97, lit_99, lit_100, lit_101, lit_104, lit_108, lit_109, lit_115, lit_117, lit_121, lit_127, lit_128, lit_140, lit_1000, lit_1000000, lit_1048576, bI_ret, bV_ret, bL_ret, bH_t, cond_true, z_0, z_1, retZ_tf, z_tf0, z_tf1, Decidable.not_not, Classical.not_not, nI_add, nI_clamp, n_le, n_lt, n_eq, nI_or, nI_and, z_sdf, of_nI, ite_not, m_i3, m_i99, m_i7, m_i1, m_i20, m_i2, m_i8, m_i15, m_i60, Nat.le_refl, if_true]
theorem c_kept : F_Bp_landsKept h = retI (nI (cnt 3 (kpB h))) h := by
  unfold F_Bp_landsKept
  refine loop_for (N := 3) (fun i => (nI (cnt i (kpB h)), nI i, h)) rfl (by show _ < 4096; omega) (fun i κ hi => ?_) (fun κ => ?_)
  · simp (disch := first | assumption | omega) only [Bp_landsKept_4, lit_0, lit_1, lit_2, lit_3, lit_4, lit_5, lit_6, lit_7, lit_8, lit_9, lit_10, lit_11, lit_12, lit_16, lit_17, lit_20, lit_31, lit_32, lit_40, lit_47, lit_48, lit_49, lit_57, lit_58, lit_60, lit_64, lit_68, lit_80, lit_97, lit_99, lit_100, lit_101, lit_104, lit_108, lit_109, lit_115, lit_117, lit_121, lit_127, lit_128, lit_140, lit_1000, lit_1000000, lit_1048576, bI_ret, bV_ret, bL_ret, bH_t, cond_true, z_0, z_1, retZ_tf, z_tf0, z_tf1, Decidable.not_not, Classical.not_not, nI_add, nI_clamp, n_le, n_lt, n_eq, nI_or, nI_and, z_sdf, of_nI, ite_not, m_i3, m_i99, m_i7, m_i1, m_i20, m_i2, m_i8, m_i15, m_i60, oA_62]
    rw [if_neg (by omega)]
    by_cases q : hg h 62 i = nI 0
    · rw [if_pos q, ← cn_f' (show kpB h i = false from decide_eq_false fun z => z q)]
    · rw [if_neg q, ← cn_t (show kpB h i = true from decide_eq_true q), nI_s]
  · simp (disch := first | assumption | omega) only [Bp_landsKept_4, lit_0, lit_1, lit_2, lit_3, lit_4, lit_5, lit_6, lit_7, lit_8, lit_9, lit_10, lit_11, lit_12, lit_16, lit_17, lit_20, lit_31, lit_32, lit_40, lit_47, lit_48, lit_49, lit_57, lit_58, lit_60, lit_64, lit_68, lit_80, lit_97, lit_99, lit_100, lit_101, lit_104, lit_108, lit_109, lit_115, lit_117, lit_121, lit_127, lit_128, lit_140, lit_1000, lit_1000000, lit_1048576, bI_ret, bV_ret, bL_ret, bH_t, cond_true, z_0, z_1, retZ_tf, z_tf0, z_tf1, Decidable.not_not, Classical.not_not, nI_add, nI_clamp, n_le, n_lt, n_eq, nI_or, nI_and, z_sdf, of_nI, ite_not, m_i3, m_i99, m_i7, m_i1, m_i20, m_i2, m_i8, m_i15, m_i60, Nat.le_refl, if_true]
theorem c_count (w : WF v) (r : CLd 3 v h) {a : Nat} (ha : a < 9) : F_Bp_count (nI a) h = retI (nI (tlV v h a)) h := by
  have hn := w.1
  have e8 : hg h 3 8 = nI (v 0 0) := L_n r
  have e9 : hg h 3 9 = nI (v 3 0) := L_m r
  have e10 : hg h 3 10 = nI (v 8 0) := L_l r
  have e11 : hg h 3 11 = nI (v 7 0) := L_h r
  have b5 := ms_1024 (n := v 0 0) (by omega) (fun x => isO (v 1 x) 1)
  unfold F_Bp_count
  simp (disch := first | assumption | omega) only [lit_0, lit_1, lit_2, lit_3, lit_4, lit_5, lit_6, lit_7, lit_8, lit_9, lit_10, lit_11, lit_12, lit_16, lit_17, lit_20, lit_31, lit_32, lit_40, lit_47, lit_48, lit_49, lit_57, lit_58, lit_60, lit_64, lit_68, lit_80, lit_97, lit_99, lit_100, lit_101, lit_104, lit_108, lit_109, lit_115, lit_117, lit_121, lit_127, lit_128, lit_140, lit_1000, lit_1000000, lit_1048576, bI_ret, bV_ret, bL_ret, bH_t, cond_true, z_0, z_1, retZ_tf, z_tf0, z_tf1, Decidable.not_not, Classical.not_not, nI_add, nI_clamp, n_le, n_lt, n_eq, nI_or, nI_and, z_sdf, of_nI, ite_not, m_i3, m_i99, m_i7, m_i1, m_i20, m_i2, m_i8, m_i15, m_i60, e8, e9, e10, e11, c_lettersThere isL_3 w r, c_ofKind isL_3 w r, c_bits, pop_ms, c_there1, c_there2, c_kept]
  match a, ha with
  | 0, _ => rfl
  | 1, _ => rfl
  | 2, _ => rfl
  | 3, _ => rfl
  | 4, _ => rfl
  | 5, _ => rfl
  | 6, _ => rfl
  | 7, _ => rfl
  | 8, _ => rfl
end CNTC
section CNTM
variable {v : LV} {h : Hp} {κ : (Int32 × Int32 × Int32 × Hp) → Res Hp} {i : Nat}
theorem le_nI {a b : Nat} (ha : a < 2 ^ 31) (hb : b < 2 ^ 31) (q : b ≤ a) : nI b ≤ nI a := (nI_leI hb ha).mpr q
theorem nle_nI {a b : Nat} (ha : a < 2 ^ 31) (hb : b < 2 ^ 31) (q : ¬ b ≤ a) : ¬ nI b ≤ nI a := fun z => q ((nI_leI hb ha).mp z)
theorem t54_n {a x s : Int32} (h6 : ¬ a = 6) (h7 : ¬ a = 7) (h8 : ¬ a = 8) : Mo_tells_54 κ a x s h = κ (a, s + 0, x + 1, h) := by
  unfold Mo_tells_54
  rw [if_neg h6, if_neg h7, if_neg h8]
def p6 (h : Hp) (k : Nat) : Bool := decide (k < 6) && decide (nI 0 ≤ hg h 180 k)
def p7 (h : Hp) (k : Nat) : Bool := decide (k < 4) && decide (nI 0 ≤ hg h 183 k)
def p8 (h : Hp) (k : Nat) : Bool := decide (k < 3) && decide (¬ hg h 192 (140 * k) = -nI 9)
theorem t54_6 (hi : i < 7) : Mo_tells_54 κ 6 (nI i) (nI (cnt i (p6 h))) h = κ (6, nI (cnt (i + 1) (p6 h)), nI (i + 1), h) := by
  unfold Mo_tells_54
  rw [if_pos rfl]
  by_cases q : i < 6
  · rw [if_neg (show ¬ (6 : Int32) ≤ nI i from nle_nI (b := 6) (a := i) (by omega) (by decide) (by omega)), oA_180 q, cond_true, nI_clamp (by omega)]
    by_cases z : nI 0 ≤ hg h 180 i
    · rw [← cn_t (show p6 h i = true by unfold p6; rw [decide_eq_true q, decide_eq_true z]; rfl), ← nI_s]
      exact if_pos z
    · rw [← cn_f (show p6 h i = false by unfold p6; rw [decide_eq_false z, Bool.and_false]), ← nI_s]
      refine (if_neg z).trans ?_
      rw [if_neg (by decide), if_neg (by decide)]
  · rw [if_pos (show (6 : Int32) ≤ nI i from le_nI (b := 6) (a := i) (by omega) (by decide) (by omega)), if_neg (by decide), if_neg (by decide), ← cn_f (show p6 h i = false by unfold p6; rw [decide_eq_false q, Bool.false_and]), ← nI_s]
theorem t54_7 (hi : i < 7) : Mo_tells_54 κ 7 (nI i) (nI (cnt i (p7 h))) h = κ (7, nI (cnt (i + 1) (p7 h)), nI (i + 1), h) := by
  unfold Mo_tells_54
  rw [if_neg (by decide), if_pos rfl]
  by_cases q : i < 4
  · rw [if_neg (show ¬ (4 : Int32) ≤ nI i from nle_nI (b := 4) (a := i) (by omega) (by decide) (by omega)), oA_183 q, cond_true, nI_clamp (by omega)]
    by_cases z : nI 0 ≤ hg h 183 i
    · rw [← cn_t (show p7 h i = true by unfold p7; rw [decide_eq_true q, decide_eq_true z]; rfl), ← nI_s]
      exact if_pos z
    · rw [← cn_f (show p7 h i = false by unfold p7; rw [decide_eq_false z, Bool.and_false]), ← nI_s]
      refine (if_neg z).trans ?_
      rw [if_neg (by decide)]
  · rw [if_pos (show (4 : Int32) ≤ nI i from le_nI (b := 4) (a := i) (by omega) (by decide) (by omega)), if_neg (by decide), ← cn_f (show p7 h i = false by unfold p7; rw [decide_eq_false q, Bool.false_and]), ← nI_s]
theorem t54_8 (hi : i < 7) : Mo_tells_54 κ 8 (nI i) (nI (cnt i (p8 h))) h = κ (8, nI (cnt (i + 1) (p8 h)), nI (i + 1), h) := by
  unfold Mo_tells_54
  rw [if_neg (by decide), if_neg (by decide), if_pos rfl]
  by_cases q : i < 3
  · have o0 := oA_192' q (show 0 < 140 by decide)
    rw [Nat.add_zero] at o0
    rw [if_neg (show ¬ (3 : Int32) ≤ nI i from nle_nI (b := 3) (a := i) (by omega) (by decide) (by omega)), show (140 : Int32) * nI i = nI (140 * i) from nI_mul 140 i, o0, cond_true, nI_clamp (by omega)]
    by_cases z : hg h 192 (140 * i) = -nI 9
    · rw [← cn_f (show p8 h i = false by unfold p8; rw [decide_eq_false (p := ¬ hg h 192 (140 * i) = -nI 9) (fun y => y z), Bool.and_false]), ← nI_s]
      exact if_pos z
    · rw [← cn_t (show p8 h i = true by unfold p8; rw [decide_eq_true q, decide_eq_true z]; rfl), ← nI_s]
      exact if_neg z
  · rw [if_pos (show (3 : Int32) ≤ nI i from le_nI (b := 3) (a := i) (by omega) (by decide) (by omega)), ← cn_f (show p8 h i = false by unfold p8; rw [decide_eq_false q, Bool.false_and]), ← nI_s]
theorem t4_n {a x2 : Int32} (hi : i < 7) (h4 : ¬ a = 4) (h5 : ¬ a = 5) : Mo_tells_4 (a, x2, nI i, h) κ = Mo_tells_54 κ a (nI i) x2 h := by
  unfold Mo_tells_4
  dsimp only
  rw [if_neg (show ¬ (7 : Int32) ≤ nI i from nle_nI (b := 7) (a := i) (by omega) (by decide) (by omega)), if_neg h4]
  unfold Mo_tells_32
  rw [if_neg h5]
theorem t4_e {a x2 : Int32} (h0 : ¬ a = 0) (h1 : ¬ a = 1) (h2 : ¬ a = 2) (h3 : ¬ a = 3) : Mo_tells_4 (a, x2, nI 7, h) κ = retI x2 h := by
  unfold Mo_tells_4
  dsimp only
  rw [if_pos (show (7 : Int32) ≤ nI 7 from le_nI (b := 7) (a := 7) (by decide) (by decide) (by decide)), if_neg h0, if_neg h1, if_neg h2, if_neg h3]
theorem m_tells_n {a : Int32} (h4 : ¬ a = 4) (h5 : ¬ a = 5) (h6 : ¬ a = 6) (h7 : ¬ a = 7) (h8 : ¬ a = 8) : F_Mo_tells a h = if a = 0 then retI (hg h 178 8) h else if a = 1 then retI (hg h 178 11) h else if a = 2 then retI (hg h 178 13) h else if a = 3 then retI (hg h 178 14) h else retI 0 h := by
  unfold F_Mo_tells
  refine loop_for (N := 7) (fun i => (a, nI 0, nI i, h)) rfl (by show _ < 4096; omega) (fun i κ hi => ?_) (fun κ => ?_)
  · rw [t4_n hi h4 h5, t54_n h6 h7 h8, ← nI_s]
    rfl
  · unfold Mo_tells_4
    dsimp only
    rw [if_pos (show (7 : Int32) ≤ nI 7 from le_nI (b := 7) (a := 7) (by decide) (by decide) (by decide))]
    rfl
theorem m_tells_6 : F_Mo_tells 6 h = retI (nI (cnt 7 (p6 h))) h := by
  unfold F_Mo_tells
  refine loop_for (N := 7) (fun i => (6, nI (cnt i (p6 h)), nI i, h)) rfl (by show _ < 4096; omega) (fun i κ hi => ?_) (fun κ => t4_e (by decide) (by decide) (by decide) (by decide))
  rw [t4_n hi (by decide) (by decide), t54_6 hi]
theorem m_tells_7 : F_Mo_tells 7 h = retI (nI (cnt 7 (p7 h))) h := by
  unfold F_Mo_tells
  refine loop_for (N := 7) (fun i => (7, nI (cnt i (p7 h)), nI i, h)) rfl (by show _ < 4096; omega) (fun i κ hi => ?_) (fun κ => t4_e (by decide) (by decide) (by decide) (by decide))
  rw [t4_n hi (by decide) (by decide), t54_7 hi]
theorem m_tells_8 : F_Mo_tells 8 h = retI (nI (cnt 7 (p8 h))) h := by
  unfold F_Mo_tells
  refine loop_for (N := 7) (fun i => (8, nI (cnt i (p8 h)), nI i, h)) rfl (by show _ < 4096; omega) (fun i κ hi => ?_) (fun κ => t4_e (by decide) (by decide) (by decide) (by decide))
  rw [t4_n hi (by decide) (by decide), t54_8 hi]
theorem m_tells_4 (w : WF v) (m : MLd v h) : F_Mo_tells 4 h = retI (nI (cnt (v 8 0) (fun k => thr v k))) h := by
  have hl4 := wf_l w
  rw [← cnt_ext (P := fun k => thr v k) (n := v 8 0) 7 (by omega)]
  unfold F_Mo_tells
  refine loop_for (N := 7) (fun i => (4, nI (cnt i (fun k => decide (k < v 8 0) && thr v k)), nI i, h)) rfl (by show _ < 4096; omega) (fun i κ hi => ?_) (fun κ => t4_e (by decide) (by decide) (by decide) (by decide))
  have e54 : Mo_tells_32 κ 4 (nI i) (nI (cnt i (fun k => decide (k < v 8 0) && thr v k))) h = κ (4, nI (cnt i (fun k => decide (k < v 8 0) && thr v k)) + 0, nI i + 1, h) := by
    unfold Mo_tells_32
    rw [if_neg (by decide), t54_n (by decide) (by decide) (by decide)]
  unfold Mo_tells_4
  dsimp only
  rw [if_neg (show ¬ (7 : Int32) ≤ nI i from nle_nI (b := 7) (a := i) (by omega) (by decide) (by omega)), if_pos rfl, M_l m, ← nI_s]
  by_cases q : i < v 8 0
  · rw [if_neg (nle_nI (a := i) (by omega) (by omega) (by omega)), m_isThere w m q, bI_ret]
    by_cases z : thr v i = true
    · rw [tf_t z, ← cn_t (P := fun k => decide (k < v 8 0) && thr v k) (i := i) (by rw [decide_eq_true q, z]; rfl)]
      exact if_neg (by decide)
    · have z2 : thr v i = false := by simpa using z
      rw [tf_f z, ← cn_f (P := fun k => decide (k < v 8 0) && thr v k) (i := i) (by rw [z2, Bool.and_false])]
      exact (if_pos rfl).trans e54
  · rw [if_pos (le_nI (a := i) (by omega) (by omega) (by omega)), ← cn_f (P := fun k => decide (k < v 8 0) && thr v k) (i := i) (by rw [decide_eq_false q, Bool.false_and])]
    exact e54
theorem isO_isK1 : ∀ a, a < 6 → isO a 1 = isK a 1 := by decide
theorem m_tells_5 (w : WF v) (m : MLd v h) : F_Mo_tells 5 h = retI (nI (cnt (v 0 0) (fun x => isO (v 1 x) 1))) h := by
  have hn := w.1
  rw [← cnt_ext (P := fun x => isO (v 1 x) 1) (n := v 0 0) 7 (by omega)]
  unfold F_Mo_tells
  refine loop_for (N := 7) (fun i => (5, nI (cnt i (fun x => decide (x < v 0 0) && isO (v 1 x) 1)), nI i, h)) rfl (by show _ < 4096; omega) (fun i κ hi => ?_) (fun κ => t4_e (by decide) (by decide) (by decide) (by decide))
  have e54 : Mo_tells_54 κ 5 (nI i) (nI (cnt i (fun x => decide (x < v 0 0) && isO (v 1 x) 1))) h = κ (5, nI (cnt i (fun x => decide (x < v 0 0) && isO (v 1 x) 1)) + 0, nI i + 1, h) := t54_n (by decide) (by decide) (by decide)
  unfold Mo_tells_4
  dsimp only
  rw [if_neg (show ¬ (7 : Int32) ≤ nI i from nle_nI (b := 7) (a := i) (by omega) (by decide) (by omega)), if_neg (by decide)]
  unfold Mo_tells_32
  rw [if_pos rfl, M_n m, ← nI_s]
  by_cases q : i < v 0 0
  · have k6 := wf_k w q
    have eA : F_Mo_isA (nI i) 1 h = retI (tf (isK (v 1 i) 1 = true)) h := m_isA w m q (kd := 1) (by decide)
    rw [if_neg (nle_nI (a := i) (by omega) (by omega) (by omega)), eA, bI_ret, ← isO_isK1 _ k6]
    by_cases z : isO (v 1 i) 1 = true
    · rw [tf_t z, ← cn_t (P := fun x => decide (x < v 0 0) && isO (v 1 x) 1) (i := i) (by rw [decide_eq_true q, z]; rfl)]
      exact if_neg (by decide)
    · have z2 : isO (v 1 i) 1 = false := by simpa using z
      rw [tf_f z, ← cn_f (P := fun x => decide (x < v 0 0) && isO (v 1 x) 1) (i := i) (by rw [z2, Bool.and_false])]
      exact (if_pos rfl).trans e54
  · rw [if_pos (le_nI (a := i) (by omega) (by omega) (by omega)), ← cn_f (P := fun x => decide (x < v 0 0) && isO (v 1 x) 1) (i := i) (by rw [decide_eq_false q, Bool.false_and])]
    exact e54
end CNTM
theorem rowB {h : Hp} (I : Inv h) {s : Nat} (hs9 : s < 6) : decide (nI 0 ≤ hg h 180 s) = thB h s := by
  unfold thB
  rcases row_cases I hs9 with ⟨c1, c2, c3⟩ | ⟨n, hn, c1, c2, c3, c4⟩
  · rw [c1, c2]; decide
  · rw [c1, c2, decide_eq_true (le_nI (by omega) (by decide) (Nat.zero_le n)), decide_eq_true (p := ¬ nI n = -nI 1) (fun z => (n_m1 (show n < 2 ^ 31 by omega)).mp z)]
theorem textB {h : Hp} (I : Inv h) {s : Nat} (hs9 : s < 4) : decide (nI 0 ≤ hg h 183 s) = thB h (6 + s) := by
  unfold thB
  rw [show 71 + 2 * (6 + s) = 83 + 2 * s by omega]
  rcases text_cases I hs9 with ⟨c1, c2, c3⟩ | ⟨n, hn, c1, c2, c3, c4⟩
  · rw [c1, c2]; decide
  · rw [c1, c2, decide_eq_true (le_nI (by omega) (by decide) (Nat.zero_le n)), decide_eq_true (p := ¬ nI n = -nI 1) (fun z => (n_m1 (show n < 2 ^ 31 by omega)).mp z)]
theorem keptB {v : LV} {h : Hp} (ck : CK v h) {k : Nat} (hk : k < 3) : decide (¬ hg h 192 (140 * k) = -nI 9) = kpB h k := by
  unfold kpB
  rcases ck k hk with ⟨c1, c2⟩ | ⟨u, c1, c2, c3, c0, c4, c5, c6⟩
  · rw [c1, c2, decide_eq_false (fun z => z rfl), decide_eq_false (fun z => z rfl)]
  · have hh := wf_h c2
    rw [c1, c6.1, decide_eq_true (p := ¬ nI (u 7 0) = -nI 9) (fun z => (nI_eq9 (show u 7 0 < 2 ^ 31 by omega)).mp z), decide_eq_true (show ¬ nI 1 = nI 0 by decide)]
theorem m_tells {v : LV} {h : Hp} (I : Inv h) (w : WF v) (m : MLd v h) (ck : CK v h) {a : Nat} (ha : a < 9) : F_Mo_tells (nI a) h = retI (nI (tlV v h a)) h := by
  match a, ha with
  | 0, _ => exact (m_tells_n (by decide) (by decide) (by decide) (by decide) (by decide)).trans ((if_pos rfl).trans (by rw [M_n m]; rfl))
  | 1, _ => exact (m_tells_n (by decide) (by decide) (by decide) (by decide) (by decide)).trans ((if_neg (by decide)).trans ((if_pos rfl).trans (by rw [M_m m]; rfl)))
  | 2, _ => exact (m_tells_n (by decide) (by decide) (by decide) (by decide) (by decide)).trans ((if_neg (by decide)).trans ((if_neg (by decide)).trans ((if_pos rfl).trans (by rw [M_h m]; rfl))))
  | 3, _ => exact (m_tells_n (by decide) (by decide) (by decide) (by decide) (by decide)).trans ((if_neg (by decide)).trans ((if_neg (by decide)).trans ((if_neg (by decide)).trans ((if_pos rfl).trans (by rw [M_l m]; rfl)))))
  | 4, _ => exact m_tells_4 w m
  | 5, _ => exact m_tells_5 w m
  | 6, _ =>
    refine m_tells_6.trans ?_
    show _ = retI (nI (cnt 6 (thB h))) h
    rw [← cnt_ext (P := thB h) (n := 6) 7 (by decide), cnt_cong (Q := fun k => decide (k < 6) && thB h k) fun i hi => ?_]
    unfold p6
    by_cases q : i < 6
    · rw [rowB I q]
    · rw [decide_eq_false q]; rfl
  | 7, _ =>
    refine m_tells_7.trans ?_
    show _ = retI (nI (cnt 4 (fun t => thB h (6 + t)))) h
    rw [← cnt_ext (P := fun t => thB h (6 + t)) (n := 4) 7 (by decide), cnt_cong (Q := fun k => decide (k < 4) && thB h (6 + k)) fun i hi => ?_]
    unfold p7
    by_cases q : i < 4
    · rw [textB I q]
    · rw [decide_eq_false q]; rfl
  | 8, _ =>
    refine m_tells_8.trans ?_
    show _ = retI (nI (cnt 3 (kpB h))) h
    rw [← cnt_ext (P := kpB h) (n := 3) 7 (by decide), cnt_cong (Q := fun k => decide (k < 3) && kpB h k) fun i hi => ?_]
    unfold p8
    by_cases q : i < 3
    · rw [keptB ck q]
    · rw [decide_eq_false q]; rfl
theorem g_count (x : Int32) {h : Hp} (I : Inv h) : Ok (F_Bp_count x) (F_Mo_count x) h := by
  obtain ⟨-, -, v, w, r, m, ck⟩ := id I
  by_cases hx : inR x 9
  · obtain ⟨a, ha, rfl⟩ := inR_ex (by decide) hx
    refine fin_q I (h1 := h) (h2 := h) (x := nI (tlV v h a)) (c_count w r ha) (frS_rf h) ?_ (frS_rf h)
    have e2 : F_Mo_in (nI a) 0 8 h = retI (nI 1) h := by
      have e3 := m_i8 (nI a) h
      rw [tf_t hx] at e3
      exact e3
    unfold F_Mo_count
    rw [e2, bI_ret]
    refine (if_neg (by decide)).trans ?_
    rw [m_tells I w m ck ha, bI_ret]
  · have nn : ∀ k, k < 9 → ¬ x = nI k := fun k hk z => hx (by rw [z]; exact (inR_nI (by omega)).mpr hk)
    refine fin_q I (h1 := h) (h2 := h) (x := -nI 1) ?_ (frS_rf h) ?_ (frS_rf h)
    · unfold F_Bp_count
      exact (if_neg (nn 0 (by decide))).trans ((if_neg (nn 1 (by decide))).trans ((if_neg (nn 2 (by decide))).trans ((if_neg (nn 3 (by decide))).trans ((if_neg (nn 4 (by decide))).trans ((if_neg (nn 5 (by decide))).trans ((if_neg (nn 6 (by decide))).trans ((if_neg (nn 7 (by decide))).trans (if_neg (nn 8 (by decide))))))))))
    · have e2 : F_Mo_in x 0 8 h = retI (nI 0) h := by
        have e3 := m_i8 x h
        rw [tf_f hx] at e3
        exact e3
      unfold F_Mo_count
      rw [e2, bI_ret]
      exact if_pos rfl
