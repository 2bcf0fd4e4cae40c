/-! OPERATIONS: keep, on -/
theorem MKp_ag2 {k : Nat} {u : LV} {h h' : Hp} (c : MKp k u h) (w : WF u) (q : ∀ j, 140 * k ≤ j → j < 140 * k + 140 → hg h' 192 j = hg h 192 j) : MKp k u h' := by
  have hn := w.1
  have hm := wf_m w
  have hl4 := wf_l w
  obtain ⟨c1, c2, c3, c4, c5, c6⟩ := c
  refine ⟨(q _ (by omega) (by omega)).trans c1, (q _ (by omega) (by omega)).trans c2, (q _ (by omega) (by omega)).trans c3, fun x hx => (q _ (by omega) (by omega)).trans (c4 x hx), fun m hm1 => ⟨(q _ (by omega) (by omega)).trans (c5 m hm1).1, (q _ (by omega) (by omega)).trans (c5 m hm1).2.1, (q _ (by omega) (by omega)).trans (c5 m hm1).2.2⟩, fun l hl => ?_⟩
  obtain ⟨d1, d2, d3, d4⟩ := c6 l hl
  have l7 := wf_l7 w hl
  exact ⟨(q _ (by omega) (by omega)).trans d1, (q _ (by omega) (by omega)).trans d2, (q _ (by omega) (by omega)).trans d3, fun j hj => ⟨(q _ (by omega) (by omega)).trans (d4 j hj).1, (q _ (by omega) (by omega)).trans (d4 j hj).2⟩⟩
section KEEP
variable {g : Hp} {k : Nat}
theorem m_keep3 (hk : k < 3) : ∃ g', loopC Mo_keep_124 FU (nI (140 * k), nI 0, g) = retI (hg g 178 13) g' ∧ (∀ j, j < 68 → hg g' 192 (140 * k + 58 + j) = hg g 188 j) ∧ ∀ a j, ¬ (a = 192 ∧ 140 * k + 58 ≤ j ∧ j < 140 * k + 126) → hg g' a j = hg g a j := by
  refine loop_inv (N := 68) (R := fun r => ∃ g', r = retI (hg g 178 13) g' ∧ (∀ j, j < 68 → hg g' 192 (140 * k + 58 + j) = hg g 188 j) ∧ ∀ a j, ¬ (a = 192 ∧ 140 * k + 58 ≤ j ∧ j < 140 * k + 126) → hg g' a j = hg g a j) (fun i st => ∃ g1, st = (nI (140 * k), nI i, g1) ∧ (∀ j, j < i → hg g1 192 (140 * k + 58 + j) = hg g 188 j) ∧ ∀ a j, ¬ (a = 192 ∧ 140 * k + 58 ≤ j ∧ j < 140 * k + 126) → hg g1 a j = hg g a j) ⟨g, rfl, fun j hj => absurd hj (Nat.not_lt_zero j), fun _ _ _ => rfl⟩ (by show _ < 4096; omega) ?_ ?_
  · rintro i st hi ⟨g1, rfl, p1, p2⟩
    refine ⟨_, ⟨hs g1 192 (140 * k + 58 + i) (hg g1 188 i), rfl, fun j hj => ?_, fun a j n => ?_⟩, fun κ => ?_⟩
    · by_cases z : j = i
      · rw [z, hg_hs_eq]; exact p2 _ _ (by omega)
      · rw [hg_hs_k (by omega)]; exact p1 j (by omega)
    · rw [hg_hs2, if_neg (by omega)]; exact p2 a j n
    · simp (disch := first | assumption | omega) only [Mo_keep_124, lit_0, lit_1, lit_2, lit_3, lit_4, lit_5, lit_6, lit_7, lit_8, lit_9, lit_10, lit_11, lit_12, lit_16, lit_17, lit_20, lit_31, lit_32, lit_40, lit_47, lit_48, lit_49, lit_57, lit_58, lit_60, lit_64, lit_68, lit_80, lit_97, lit_99, lit_100, lit_101, lit_104, lit_108, lit_109, lit_115, lit_117, lit_121, lit_127, lit_128, lit_140, lit_1000, lit_1000000, lit_1048576, bI_ret, bV_ret, bL_ret, bH_t, cond_true, z_0, z_1, retZ_tf, z_tf0, z_tf1, Decidable.not_not, Classical.not_not, nI_add, nI_clamp, n_le, n_lt, n_eq, nI_or, nI_and, z_sdf, of_nI, oA_188, oA_192]
      rw [if_neg (by omega)]
  · rintro st ⟨g1, rfl, p1, p2⟩ κ
    refine ⟨g1, ?_, p1, p2⟩
    simp (disch := first | assumption | omega) only [Mo_keep_124, lit_0, lit_1, lit_2, lit_3, lit_4, lit_5, lit_6, lit_7, lit_8, lit_9, lit_10, lit_11, lit_12, lit_16, lit_17, lit_20, lit_31, lit_32, lit_40, lit_47, lit_48, lit_49, lit_57, lit_58, lit_60, lit_64, lit_68, lit_80, lit_97, lit_99, lit_100, lit_101, lit_104, lit_108, lit_109, lit_115, lit_117, lit_121, lit_127, lit_128, lit_140, lit_1000, lit_1000000, lit_1048576, bI_ret, bV_ret, bL_ret, bH_t, cond_true, z_0, z_1, retZ_tf, z_tf0, z_tf1, Decidable.not_not, Classical.not_not, nI_add, nI_clamp, n_le, n_lt, n_eq, nI_or, nI_and, z_sdf, of_nI, Nat.le_refl, if_true]
    rw [p2 178 13 (by omega)]
theorem m_keep2 (hk : k < 3) : ∃ g', loopC Mo_keep_93 FU (nI (140 * k), nI 0, g) = retI (hg g 178 13) g' ∧ (∀ j, j < 48 → hg g' 192 (140 * k + 10 + j) = hg g 187 j) ∧ (∀ j, j < 68 → hg g' 192 (140 * k + 58 + j) = hg g 188 j) ∧ ∀ a j, ¬ (a = 192 ∧ 140 * k + 10 ≤ j ∧ j < 140 * k + 126) → hg g' a j = hg g a j := by
  refine loop_inv (N := 48) (R := fun r => ∃ g', r = retI (hg g 178 13) g' ∧ (∀ j, j < 48 → hg g' 192 (140 * k + 10 + j) = hg g 187 j) ∧ (∀ j, j < 68 → hg g' 192 (140 * k + 58 + j) = hg g 188 j) ∧ ∀ a j, ¬ (a = 192 ∧ 140 * k + 10 ≤ j ∧ j < 140 * k + 126) → hg g' a j = hg g a j) (fun i st => ∃ g1, st = (nI (140 * k), nI i, g1) ∧ (∀ j, j < i → hg g1 192 (140 * k + 10 + j) = hg g 187 j) ∧ ∀ a j, ¬ (a = 192 ∧ 140 * k + 10 ≤ j ∧ j < 140 * k + 58) → hg g1 a j = hg g a j) ⟨g, rfl, fun j hj => absurd hj (Nat.not_lt_zero j), fun _ _ _ => rfl⟩ (by show _ < 4096; omega) ?_ ?_
  · rintro i st hi ⟨g1, rfl, p1, p2⟩
    refine ⟨_, ⟨hs g1 192 (140 * k + 10 + i) (hg g1 187 i), rfl, fun j hj => ?_, fun a j n => ?_⟩, fun κ => ?_⟩
    · by_cases z : j = i
      · rw [z, hg_hs_eq]; exact p2 _ _ (by omega)
      · rw [hg_hs_k (by omega)]; exact p1 j (by omega)
    · rw [hg_hs2, if_neg (by omega)]; exact p2 a j n
    · simp (disch := first | assumption | omega) only [Mo_keep_93, lit_0, lit_1, lit_2, lit_3, lit_4, lit_5, lit_6, lit_7, lit_8, lit_9, lit_10, lit_11, lit_12, lit_16, lit_17, lit_20, lit_31, lit_32, lit_40, lit_47, lit_48, lit_49, lit_57, lit_58, lit_60, lit_64, lit_68, lit_80, lit_97, lit_99, lit_100, lit_101, lit_104, lit_108, lit_109, lit_115, lit_117, lit_121, lit_127, lit_128, lit_140, lit_1000, lit_1000000, lit_1048576, bI_ret, bV_ret, bL_ret, bH_t, cond_true, z_0, z_1, retZ_tf, z_tf0, z_tf1, Decidable.not_not, Classical.not_not, nI_add, nI_clamp, n_le, n_lt, n_eq, nI_or, nI_and, z_sdf, of_nI, oA_187, oA_192]
      rw [if_neg (by omega)]
  · rintro st ⟨g1, rfl, p1, p2⟩ κ
    obtain ⟨g2, s1, s2, s3⟩ := m_keep3 (g := g1) hk
    refine ⟨g2, ?_, fun j hj => (s3 _ _ (by omega)).trans (p1 j hj), fun j hj => (s2 j hj).trans (p2 _ _ (by omega)), fun a j n => (s3 a j (by omega)).trans (p2 a j (by omega))⟩
    simp (disch := first | assumption | omega) only [Mo_keep_93, lit_0, lit_1, lit_2, lit_3, lit_4, lit_5, lit_6, lit_7, lit_8, lit_9, lit_10, lit_11, lit_12, lit_16, lit_17, lit_20, lit_31, lit_32, lit_40, lit_47, lit_48, lit_49, lit_57, lit_58, lit_60, lit_64, lit_68, lit_80, lit_97, lit_99, lit_100, lit_101, lit_104, lit_108, lit_109, lit_115, lit_117, lit_121, lit_127, lit_128, lit_140, lit_1000, lit_1000000, lit_1048576, bI_ret, bV_ret, bL_ret, bH_t, cond_true, z_0, z_1, retZ_tf, z_tf0, z_tf1, Decidable.not_not, Classical.not_not, nI_add, nI_clamp, n_le, n_lt, n_eq, nI_or, nI_and, z_sdf, of_nI, Nat.le_refl, if_true, s1]
    rw [p2 178 13 (by omega)]
theorem m_keep1 (hk : k < 3) : ∃ g', loopC Mo_keep_63 FU (nI (140 * k), nI 0, g) = retI (hg g 178 13) g' ∧ (∀ j, j < 7 → hg g' 192 (140 * k + 3 + j) = hg g 186 j) ∧ (∀ j, j < 48 → hg g' 192 (140 * k + 10 + j) = hg g 187 j) ∧ (∀ j, j < 68 → hg g' 192 (140 * k + 58 + j) = hg g 188 j) ∧ ∀ a j, ¬ (a = 192 ∧ 140 * k + 3 ≤ j ∧ j < 140 * k + 126) → hg g' a j = hg g a j := by
  refine loop_inv (N := 7) (R := fun r => ∃ g', r = retI (hg g 178 13) g' ∧ (∀ j, j < 7 → hg g' 192 (140 * k + 3 + j) = hg g 186 j) ∧ (∀ j, j < 48 → hg g' 192 (140 * k + 10 + j) = hg g 187 j) ∧ (∀ j, j < 68 → hg g' 192 (140 * k + 58 + j) = hg g 188 j) ∧ ∀ a j, ¬ (a = 192 ∧ 140 * k + 3 ≤ j ∧ j < 140 * k + 126) → hg g' a j = hg g a j) (fun i st => ∃ g1, st = (nI (140 * k), nI i, g1) ∧ (∀ j, j < i → hg g1 192 (140 * k + 3 + j) = hg g 186 j) ∧ ∀ a j, ¬ (a = 192 ∧ 140 * k + 3 ≤ j ∧ j < 140 * k + 10) → hg g1 a j = hg g a j) ⟨g, rfl, fun j hj => absurd hj (Nat.not_lt_zero j), fun _ _ _ => rfl⟩ (by show _ < 4096; omega) ?_ ?_
  · rintro i st hi ⟨g1, rfl, p1, p2⟩
    refine ⟨_, ⟨hs g1 192 (140 * k + 3 + i) (hg g1 186 i), rfl, fun j hj => ?_, fun a j n => ?_⟩, fun κ => ?_⟩
    · by_cases z : j = i
      · rw [z, hg_hs_eq]; exact p2 _ _ (by omega)
      · rw [hg_hs_k (by omega)]; exact p1 j (by omega)
    · rw [hg_hs2, if_neg (by omega)]; exact p2 a j n
    · simp (disch := first | assumption | omega) only [Mo_keep_63, lit_0, lit_1, lit_2, lit_3, lit_4, lit_5, lit_6, lit_7, lit_8, lit_9, lit_10, lit_11, lit_12, lit_16, lit_17, lit_20, lit_31, lit_32, lit_40, lit_47, lit_48, lit_49, lit_57, lit_58, lit_60, lit_64, lit_68, lit_80, lit_97, lit_99, lit_100, lit_101, lit_104, lit_108, lit_109, lit_115, lit_117, lit_121, lit_127, lit_128, lit_140, lit_1000, lit_1000000, lit_1048576, bI_ret, bV_ret, bL_ret, bH_t, cond_true, z_0, z_1, retZ_tf, z_tf0, z_tf1, Decidable.not_not, Classical.not_not, nI_add, nI_clamp, n_le, n_lt, n_eq, nI_or, nI_and, z_sdf, of_nI, oA_186, oA_192]
      rw [if_neg (by omega)]
  · rintro st ⟨g1, rfl, p1, p2⟩ κ
    obtain ⟨g2, s1, s2, s3, s4⟩ := m_keep2 (g := g1) hk
    refine ⟨g2, ?_, fun j hj => (s4 _ _ (by omega)).trans (p1 j hj), fun j hj => (s2 j hj).trans (p2 _ _ (by omega)), fun j hj => (s3 j hj).trans (p2 _ _ (by omega)), fun a j n => (s4 a j (by omega)).trans (p2 a j (by omega))⟩
    simp (disch := first | assumption | omega) only [Mo_keep_63, lit_0, lit_1, lit_2, lit_3, lit_4, lit_5, lit_6, lit_7, lit_8, lit_9, lit_10, lit_11, lit_12, lit_16, lit_17, lit_20, lit_31, lit_32, lit_40, lit_47, lit_48, lit_49, lit_57, lit_58, lit_60, lit_64, lit_68, lit_80, lit_97, lit_99, lit_100, lit_101, lit_104, lit_108, lit_109, lit_115, lit_117, lit_121, lit_127, lit_128, lit_140, lit_1000, lit_1000000, lit_1048576, bI_ret, bV_ret, bL_ret, bH_t, cond_true, z_0, z_1, retZ_tf, z_tf0, z_tf1, Decidable.not_not, Classical.not_not, nI_add, nI_clamp, n_le, n_lt, n_eq, nI_or, nI_and, z_sdf, of_nI, Nat.le_refl, if_true, s1]
    rw [p2 178 13 (by omega)]
theorem m_on3 (hk : k < 3) : ∃ g', loopC Mo_on_131 FU (nI (140 * k), nI 0, g) = retI (hg g 178 13) g' ∧ (∀ j, j < 68 → hg g' 188 j = hg g 192 (140 * k + 58 + j)) ∧ ∀ a j, a ≠ 188 → hg g' a j = hg g a j := by
  refine loop_inv (N := 68) (R := fun r => ∃ g', r = retI (hg g 178 13) g' ∧ (∀ j, j < 68 → hg g' 188 j = hg g 192 (140 * k + 58 + j)) ∧ ∀ a j, a ≠ 188 → hg g' a j = hg g a j) (fun i st => ∃ g1, st = (nI (140 * k), nI i, g1) ∧ (∀ j, j < i → hg g1 188 j = hg g 192 (140 * k + 58 + j)) ∧ ∀ a j, a ≠ 188 → hg g1 a j = hg g a j) ⟨g, rfl, fun j hj => absurd hj (Nat.not_lt_zero j), fun _ _ _ => rfl⟩ (by show _ < 4096; omega) ?_ ?_
  · rintro i st hi ⟨g1, rfl, p1, p2⟩
    refine ⟨_, ⟨hs g1 188 i (hg g1 192 (140 * k + 58 + i)), rfl, fun j hj => ?_, fun a j n => ?_⟩, fun κ => ?_⟩
    · by_cases z : j = i
      · rw [z, hg_hs_eq]; exact p2 _ _ (by omega)
      · rw [hg_hs_k (by omega)]; exact p1 j (by omega)
    · rw [hg_hs_a n]; exact p2 a j n
    · simp (disch := first | assumption | omega) only [Mo_on_131, lit_0, lit_1, lit_2, lit_3, lit_4, lit_5, lit_6, lit_7, lit_8, lit_9, lit_10, lit_11, lit_12, lit_16, lit_17, lit_20, lit_31, lit_32, lit_40, lit_47, lit_48, lit_49, lit_57, lit_58, lit_60, lit_64, lit_68, lit_80, lit_97, lit_99, lit_100, lit_101, lit_104, lit_108, lit_109, lit_115, lit_117, lit_121, lit_127, lit_128, lit_140, lit_1000, lit_1000000, lit_1048576, bI_ret, bV_ret, bL_ret, bH_t, cond_true, z_0, z_1, retZ_tf, z_tf0, z_tf1, Decidable.not_not, Classical.not_not, nI_add, nI_clamp, n_le, n_lt, n_eq, nI_or, nI_and, z_sdf, of_nI, oA_188, oA_192]
      rw [if_neg (by omega)]
  · rintro st ⟨g1, rfl, p1, p2⟩ κ
    refine ⟨g1, ?_, p1, p2⟩
    simp (disch := first | assumption | omega) only [Mo_on_131, lit_0, lit_1, lit_2, lit_3, lit_4, lit_5, lit_6, lit_7, lit_8, lit_9, lit_10, lit_11, lit_12, lit_16, lit_17, lit_20, lit_31, lit_32, lit_40, lit_47, lit_48, lit_49, lit_57, lit_58, lit_60, lit_64, lit_68, lit_80, lit_97, lit_99, lit_100, lit_101, lit_104, lit_108, lit_109, lit_115, lit_117, lit_121, lit_127, lit_128, lit_140, lit_1000, lit_1000000, lit_1048576, bI_ret, bV_ret, bL_ret, bH_t, cond_true, z_0, z_1, retZ_tf, z_tf0, z_tf1, Decidable.not_not, Classical.not_not, nI_add, nI_clamp, n_le, n_lt, n_eq, nI_or, nI_and, z_sdf, of_nI, Nat.le_refl, if_true]
    rw [p2 178 13 (by omega)]
theorem m_on2 (hk : k < 3) : ∃ g', loopC Mo_on_100 FU (nI (140 * k), nI 0, g) = retI (hg g 178 13) g' ∧ (∀ j, j < 48 → hg g' 187 j = hg g 192 (140 * k + 10 + j)) ∧ (∀ j, j < 68 → hg g' 188 j = hg g 192 (140 * k + 58 + j)) ∧ ∀ a j, a ≠ 187 → a ≠ 188 → hg g' a j = hg g a j := by
  refine loop_inv (N := 48) (R := fun r => ∃ g', r = retI (hg g 178 13) g' ∧ (∀ j, j < 48 → hg g' 187 j = hg g 192 (140 * k + 10 + j)) ∧ (∀ j, j < 68 → hg g' 188 j = hg g 192 (140 * k + 58 + j)) ∧ ∀ a j, a ≠ 187 → a ≠ 188 → hg g' a j = hg g a j) (fun i st => ∃ g1, st = (nI (140 * k), nI i, g1) ∧ (∀ j, j < i → hg g1 187 j = hg g 192 (140 * k + 10 + j)) ∧ ∀ a j, a ≠ 187 → hg g1 a j = hg g a j) ⟨g, rfl, fun j hj => absurd hj (Nat.not_lt_zero j), fun _ _ _ => rfl⟩ (by show _ < 4096; omega) ?_ ?_
  · rintro i st hi ⟨g1, rfl, p1, p2⟩
    refine ⟨_, ⟨hs g1 187 i (hg g1 192 (140 * k + 10 + i)), rfl, fun j hj => ?_, fun a j n => ?_⟩, fun κ => ?_⟩
    · by_cases z : j = i
      · rw [z, hg_hs_eq]; exact p2 _ _ (by omega)
      · rw [hg_hs_k (by omega)]; exact p1 j (by omega)
    · rw [hg_hs_a n]; exact p2 a j n
    · simp (disch := first | assumption | omega) only [Mo_on_100, lit_0, lit_1, lit_2, lit_3, lit_4, lit_5, lit_6, lit_7, lit_8, lit_9, lit_10, lit_11, lit_12, lit_16, lit_17, lit_20, lit_31, lit_32, lit_40, lit_47, lit_48, lit_49, lit_57, lit_58, lit_60, lit_64, lit_68, lit_80, lit_97, lit_99, lit_100, lit_101, lit_104, lit_108, lit_109, lit_115, lit_117, lit_121, lit_127, lit_128, lit_140, lit_1000, lit_1000000, lit_1048576, bI_ret, bV_ret, bL_ret, bH_t, cond_true, z_0, z_1, retZ_tf, z_tf0, z_tf1, Decidable.not_not, Classical.not_not, nI_add, nI_clamp, n_le, n_lt, n_eq, nI_or, nI_and, z_sdf, of_nI, oA_187, oA_192]
      rw [if_neg (by omega)]
  · rintro st ⟨g1, rfl, p1, p2⟩ κ
    obtain ⟨g2, s1, s2, s3⟩ := m_on3 (g := g1) hk
    refine ⟨g2, ?_, fun j hj => (s3 _ _ (by omega)).trans (p1 j hj), fun j hj => (s2 j hj).trans (p2 _ _ (by omega)), fun a j n1 n2 => (s3 a j n2).trans (p2 a j n1)⟩
    simp (disch := first | assumption | omega) only [Mo_on_100, lit_0, lit_1, lit_2, lit_3, lit_4, lit_5, lit_6, lit_7, lit_8, lit_9, lit_10, lit_11, lit_12, lit_16, lit_17, lit_20, lit_31, lit_32, lit_40, lit_47, lit_48, lit_49, lit_57, lit_58, lit_60, lit_64, lit_68, lit_80, lit_97, lit_99, lit_100, lit_101, lit_104, lit_108, lit_109, lit_115, lit_117, lit_121, lit_127, lit_128, lit_140, lit_1000, lit_1000000, lit_1048576, bI_ret, bV_ret, bL_ret, bH_t, cond_true, z_0, z_1, retZ_tf, z_tf0, z_tf1, Decidable.not_not, Classical.not_not, nI_add, nI_clamp, n_le, n_lt, n_eq, nI_or, nI_and, z_sdf, of_nI, Nat.le_refl, if_true, s1]
    rw [p2 178 13 (by omega)]
theorem m_on1 (hk : k < 3) : ∃ g', loopC Mo_on_70 FU (nI (140 * k), nI 0, g) = retI (hg g 178 13) g' ∧ (∀ j, j < 7 → hg g' 186 j = hg g 192 (140 * k + 3 + j)) ∧ (∀ j, j < 48 → hg g' 187 j = hg g 192 (140 * k + 10 + j)) ∧ (∀ j, j < 68 → hg g' 188 j = hg g 192 (140 * k + 58 + j)) ∧ ∀ a j, a ≠ 186 → a ≠ 187 → a ≠ 188 → hg g' a j = hg g a j := by
  refine loop_inv (N := 7) (R := fun r => ∃ g', r = retI (hg g 178 13) g' ∧ (∀ j, j < 7 → hg g' 186 j = hg g 192 (140 * k + 3 + j)) ∧ (∀ j, j < 48 → hg g' 187 j = hg g 192 (140 * k + 10 + j)) ∧ (∀ j, j < 68 → hg g' 188 j = hg g 192 (140 * k + 58 + j)) ∧ ∀ a j, a ≠ 186 → a ≠ 187 → a ≠ 188 → hg g' a j = hg g a j) (fun i st => ∃ g1, st = (nI (140 * k), nI i, g1) ∧ (∀ j, j < i → hg g1 186 j = hg g 192 (140 * k + 3 + j)) ∧ ∀ a j, a ≠ 186 → hg g1 a j = hg g a j) ⟨g, rfl, fun j hj => absurd hj (Nat.not_lt_zero j), fun _ _ _ => rfl⟩ (by show _ < 4096; omega) ?_ ?_
  · rintro i st hi ⟨g1, rfl, p1, p2⟩
    refine ⟨_, ⟨hs g1 186 i (hg g1 192 (140 * k + 3 + i)), rfl, fun j hj => ?_, fun a j n => ?_⟩, fun κ => ?_⟩
    · by_cases z : j = i
      · rw [z, hg_hs_eq]; exact p2 _ _ (by omega)
      · rw [hg_hs_k (by omega)]; exact p1 j (by omega)
    · rw [hg_hs_a n]; exact p2 a j n
    · simp (disch := first | assumption | omega) only [Mo_on_70, lit_0, lit_1, lit_2, lit_3, lit_4, lit_5, lit_6, lit_7, lit_8, lit_9, lit_10, lit_11, lit_12, lit_16, lit_17, lit_20, lit_31, lit_32, lit_40, lit_47, lit_48, lit_49, lit_57, lit_58, lit_60, lit_64, lit_68, lit_80, lit_97, lit_99, lit_100, lit_101, lit_104, lit_108, lit_109, lit_115, lit_117, lit_121, lit_127, lit_128, lit_140, lit_1000, lit_1000000, lit_1048576, bI_ret, bV_ret, bL_ret, bH_t, cond_true, z_0, z_1, retZ_tf, z_tf0, z_tf1, Decidable.not_not, Classical.not_not, nI_add, nI_clamp, n_le, n_lt, n_eq, nI_or, nI_and, z_sdf, of_nI, oA_186, oA_192]
      rw [if_neg (by omega)]
  · rintro st ⟨g1, rfl, p1, p2⟩ κ
    obtain ⟨g2, s1, s2, s3, s4⟩ := m_on2 (g := g1) hk
    refine ⟨g2, ?_, fun j hj => (s4 _ _ (by omega) (by omega)).trans (p1 j hj), fun j hj => (s2 j hj).trans (p2 _ _ (by omega)), fun j hj => (s3 j hj).trans (p2 _ _ (by omega)), fun a j n1 n2 n3 => (s4 a j n2 n3).trans (p2 a j n1)⟩
    simp (disch := first | assumption | omega) only [Mo_on_70, lit_0, lit_1, lit_2, lit_3, lit_4, lit_5, lit_6, lit_7, lit_8, lit_9, lit_10, lit_11, lit_12, lit_16, lit_17, lit_20, lit_31, lit_32, lit_40, lit_47, lit_48, lit_49, lit_57, lit_58, lit_60, lit_64, lit_68, lit_80, lit_97, lit_99, lit_100, lit_101, lit_104, lit_108, lit_109, lit_115, lit_117, lit_121, lit_127, lit_128, lit_140, lit_1000, lit_1000000, lit_1048576, bI_ret, bV_ret, bL_ret, bH_t, cond_true, z_0, z_1, retZ_tf, z_tf0, z_tf1, Decidable.not_not, Classical.not_not, nI_add, nI_clamp, n_le, n_lt, n_eq, nI_or, nI_and, z_sdf, of_nI, Nat.le_refl, if_true, s1]
    rw [p2 178 13 (by omega)]
end KEEP
theorem nar1 : vp_nar .boolean (nI 1) = nI 1 := by decide
theorem nar0 : vp_nar .boolean (nI 0) = nI 0 := by decide
theorem oA_192' {k j : Nat} (h1 : k < 3) (h2 : j < 140) : okA 192 100 (nI (140 * k + j)) = true := okA_t 420 (by decide +kernel) (by decide +kernel) (by omega) (by decide)
theorem g_keep (x : Int32) {h : Hp} (I : Inv h) : Ok (F_Bp_keep x) (F_Mo_keep x) h := by
  obtain ⟨-, -, v, w, r, m, ck⟩ := id I
  have hn := w.1
  have hm := wf_m w
  have h4 := wf_l w
  have e8 : hg h 3 8 = nI (v 0 0) := L_n r
  by_cases hx : inR x 3
  · have hxv : inV x 0 3 := (inV0 _ _).mpr hx
    by_cases z : v 0 0 = 0
    · refine fin_q I (h1 := h) (h2 := h) (x := -nI 4) ?_ (frS_rf h) ?_ (frS_rf h)
      · simp (disch := first | assumption | omega) only [F_Bp_keep, lit_0, lit_1, lit_2, lit_3, lit_4, lit_5, lit_6, lit_7, lit_8, lit_9, lit_10, lit_11, lit_12, lit_16, lit_17, lit_20, lit_31, lit_32, lit_40, lit_47, lit_48, lit_49, lit_57, lit_58, lit_60, lit_64, lit_68, lit_80, lit_97, lit_99, lit_100, lit_101, lit_104, lit_108, lit_109, lit_115, lit_117, lit_121, lit_127, lit_128, lit_140, lit_1000, lit_1000000, lit_1048576, bI_ret, bV_ret, bL_ret, bH_t, cond_true, z_0, z_1, retZ_tf, z_tf0, z_tf1, Decidable.not_not, Classical.not_not, nI_add, nI_clamp, n_le, n_lt, n_eq, nI_or, nI_and, z_sdf, of_nI, ite_not, m_i3, m_i99, m_i7, m_i1, m_i20, m_i2, m_i8, m_i15, m_i60, c_noPlace, if_pos hx, e8]
        rw [if_pos z]
      · simp (disch := first | assumption | omega) only [F_Mo_keep, lit_0, lit_1, lit_2, lit_3, lit_4, lit_5, lit_6, lit_7, lit_8, lit_9, lit_10, lit_11, lit_12, lit_16, lit_17, lit_20, lit_31, lit_32, lit_40, lit_47, lit_48, lit_49, lit_57, lit_58, lit_60, lit_64, lit_68, lit_80, lit_97, lit_99, lit_100, lit_101, lit_104, lit_108, lit_109, lit_115, lit_117, lit_121, lit_127, lit_128, lit_140, lit_1000, lit_1000000, lit_1048576, bI_ret, bV_ret, bL_ret, bH_t, cond_true, z_0, z_1, retZ_tf, z_tf0, z_tf1, Decidable.not_not, Classical.not_not, nI_add, nI_clamp, n_le, n_lt, n_eq, nI_or, nI_and, z_sdf, of_nI, ite_not, m_i3, m_i99, m_i7, m_i1, m_i20, m_i2, m_i8, m_i15, m_i60, if_pos hx, M_n m]
        rw [if_pos z]
    · obtain ⟨k, hk, rfl⟩ := inR_ex (by decide) hx
      obtain ⟨g, t1, t2, t3⟩ := c_takeFrom (isL_k hk) isL_3 (by omega) w r
      have hG : ∃ G, G = hs g 62 k (nI 1) := ⟨_, rfl⟩
      obtain ⟨G, hG⟩ := hG
      have Go : ∀ a j, ¬ (a = 62 ∧ j = k) → ¬ (91 + 29 * k ≤ a ∧ a ≤ 119 + 29 * k) → hg G a j = hg h a j := fun a j n1 n2 => by
        rw [hG, hg_hs2, if_neg n1]; exact t3 a j (by omega)
      have m1 : MLd v G := MLd_ag m fun a j f => Go a j (by unfold fpM at f; omega) (by unfold fpM at f; omega)
      have hK : ∃ K, K = hs (hs (hs G 192 (140 * k) (nI (v 7 0))) 192 (140 * k + 1) (nI (v 3 0))) 192 (140 * k + 2) (nI (v 8 0)) := ⟨_, rfl⟩
      obtain ⟨K, hK⟩ := hK
      have Ko : ∀ a j, ¬ (a = 192 ∧ 140 * k ≤ j ∧ j ≤ 140 * k + 2) → hg K a j = hg G a j := fun a j n => by
        rw [hK, hg_hs2, if_neg (by omega), hg_hs2, if_neg (by omega), hg_hs2, if_neg (by omega)]
      have m2 : MLd v K := MLd_ag m1 fun a j f => Ko a j (by unfold fpM at f; omega)
      obtain ⟨g2, s1, s2, s3, s4, s5⟩ := m_keep1 (g := K) hk
      have fr : ∀ a j, ¬ (a = 62 ∧ j = k) → ¬ (91 + 29 * k ≤ a ∧ a ≤ 119 + 29 * k) → ¬ (a = 192 ∧ 140 * k ≤ j ∧ j < 140 * k + 126) → hg g2 a j = hg h a j := fun a j n1 n2 n3 => by
        rw [s5 a j (by omega), Ko a j (by omega), Go a j n1 n2]
      refine ⟨(nI (v 7 0)), G, g2, ?_, ?_, CA_ag I.1 fun a j f => fr a j (by unfold fpA at f; omega) (by unfold fpA at f; omega) (by unfold fpA at f; omega), CS_ag I.2.1 fun a j f => fr a j (by omega) (by omega) (by omega), v, w, CLd_ag r (fun a j h1 h2 => fr a j (by omega) (by omega) (by omega)) h4, MLd_ag m fun a j f => fr a j (by unfold fpM at f; omega) (by unfold fpM at f; omega) (by unfold fpM at f; omega), fun i hi => ?_⟩
      · have o1 := oR_61 hk
        have o2 := sR_61 hk
        have o3 := la_O (isL_k hk)
        have e11 : hg (hs g 62 k (nI 1)) 3 11 = nI (v 7 0) := by
          rw [hg_hs_a (by decide), t3 _ _ (by omega)]; exact L_h r
        simp (disch := first | assumption | omega) only [F_Bp_keep, lit_0, lit_1, lit_2, lit_3, lit_4, lit_5, lit_6, lit_7, lit_8, lit_9, lit_10, lit_11, lit_12, lit_16, lit_17, lit_20, lit_31, lit_32, lit_40, lit_47, lit_48, lit_49, lit_57, lit_58, lit_60, lit_64, lit_68, lit_80, lit_97, lit_99, lit_100, lit_101, lit_104, lit_108, lit_109, lit_115, lit_117, lit_121, lit_127, lit_128, lit_140, lit_1000, lit_1000000, lit_1048576, bI_ret, bV_ret, bL_ret, bH_t, cond_true, z_0, z_1, retZ_tf, z_tf0, z_tf1, Decidable.not_not, Classical.not_not, nI_add, nI_clamp, n_le, n_lt, n_eq, nI_or, nI_and, z_sdf, of_nI, ite_not, m_i3, m_i99, m_i7, m_i1, m_i20, m_i2, m_i8, m_i15, m_i60, c_noPlace, if_pos hx, e8, o1, o2, o3, t1, oA_62, nar1, e11]
        rw [if_neg z, hG]
        rfl
      · rw [M_h m2] at s1
        have o0 := oA_192' hk (show 0 < 140 by decide)
        have o1 := oA_192' hk (show 1 < 140 by decide)
        have o2 := oA_192' hk (show 2 < 140 by decide)
        rw [Nat.add_zero] at o0
        have a1 : hg (hs G 192 (140 * k) (nI (v 7 0))) 178 11 = nI (v 3 0) := (hg_hs_a (by decide)).trans (M_m m1)
        have a2 : hg (hs (hs G 192 (140 * k) (nI (v 7 0))) 192 (140 * k + 1) (nI (v 3 0))) 178 14 = nI (v 8 0) := (hg_hs_a (by decide)).trans ((hg_hs_a (by decide)).trans (M_l m1))
        rw [hK] at s1
        simp (disch := first | assumption | omega) only [F_Mo_keep, lit_0, lit_1, lit_2, lit_3, lit_4, lit_5, lit_6, lit_7, lit_8, lit_9, lit_10, lit_11, lit_12, lit_16, lit_17, lit_20, lit_31, lit_32, lit_40, lit_47, lit_48, lit_49, lit_57, lit_58, lit_60, lit_64, lit_68, lit_80, lit_97, lit_99, lit_100, lit_101, lit_104, lit_108, lit_109, lit_115, lit_117, lit_121, lit_127, lit_128, lit_140, lit_1000, lit_1000000, lit_1048576, bI_ret, bV_ret, bL_ret, bH_t, cond_true, z_0, z_1, retZ_tf, z_tf0, z_tf1, Decidable.not_not, Classical.not_not, nI_add, nI_clamp, n_le, n_lt, n_eq, nI_or, nI_and, z_sdf, of_nI, ite_not, m_i3, m_i99, m_i7, m_i1, m_i20, m_i2, m_i8, m_i15, m_i60, if_pos hx, M_n m1, nI_mul, o0, o1, o2, M_h m1, a1, a2, s1]
        rw [if_neg z]
        rfl
      · by_cases zi : i = k
        · subst zi
          refine Or.inr ⟨v, ?_, w, rfl, by omega, fun _ _ => rfl, CLd_ag t2 (fun a j h1 h2 => ?_) h4, ?_, ?_, ?_, fun x hx => ?_, fun p hp => ⟨?_, ?_, ?_⟩, fun l hl => ?_⟩
          · rw [s5 _ _ (by omega), Ko _ _ (by omega), hG, hg_hs_eq]
          · rw [s5 _ _ (by omega), Ko _ _ (by omega), hG, hg_hs_a (by omega)]
          · rw [s5 _ _ (by omega), hK, hg_hs_k (by omega), hg_hs_k (by omega), hg_hs_eq]
          · rw [s5 _ _ (by omega), hK, hg_hs_k (by omega), hg_hs_eq]
          · rw [s5 _ _ (by omega), hK, hg_hs_eq]
          · rw [s2 x (by omega)]; exact M_w m2 hx
          · rw [s3 _ (by omega)]; exact M_a m2 hp
          · rw [s3 _ (by omega)]; exact M_b m2 hp
          · rw [s3 _ (by omega)]; exact M_t m2 hp
          · have l7 := wf_l7 w hl
            refine ⟨?_, ?_, ?_, fun j hj => ⟨?_, ?_⟩⟩
            · rw [s4 _ (by omega)]; exact M_to m2 hl
            · rw [s4 _ (by omega)]; exact M_in m2 hl
            · rw [s4 _ (by omega)]; exact M_len m2 hl
            · rw [s4 _ (by omega)]; exact M_th m2 hl hj
            · rw [s4 _ (by omega)]; exact M_ca m2 hl hj
        · rcases ck i hi with c | ⟨u, c1, c2, c3, c0, c4, c5, c6⟩
          · exact Or.inl ⟨(fr _ _ (by omega) (by omega) (by omega)).trans c.1, (fr _ _ (by omega) (by omega) (by omega)).trans c.2⟩
          · exact Or.inr ⟨u, (fr _ _ (by omega) (by omega) (by omega)).trans c1, c2, c3, c0, c4, CLd_ag c5 (fun a j h1 h2 => fr a j (by omega) (by omega) (by omega)) (wf_l c2), MKp_ag2 c6 c2 fun j h1 h2 => fr 192 j (by omega) (by omega) (by omega)⟩
  · have hxv : ¬ inV x 0 3 := fun z => hx ((inV0 _ _).mp z)
    refine fin_q I (h1 := h) (h2 := h) (x := -nI 1) ?_ (frS_rf h) ?_ (frS_rf h)
    · simp (disch := first | assumption | omega) only [F_Bp_keep, lit_0, lit_1, lit_2, lit_3, lit_4, lit_5, lit_6, lit_7, lit_8, lit_9, lit_10, lit_11, lit_12, lit_16, lit_17, lit_20, lit_31, lit_32, lit_40, lit_47, lit_48, lit_49, lit_57, lit_58, lit_60, lit_64, lit_68, lit_80, lit_97, lit_99, lit_100, lit_101, lit_104, lit_108, lit_109, lit_115, lit_117, lit_121, lit_127, lit_128, lit_140, lit_1000, lit_1000000, lit_1048576, bI_ret, bV_ret, bL_ret, bH_t, cond_true, z_0, z_1, retZ_tf, z_tf0, z_tf1, Decidable.not_not, Classical.not_not, nI_add, nI_clamp, n_le, n_lt, n_eq, nI_or, nI_and, z_sdf, of_nI, ite_not, m_i3, m_i99, m_i7, m_i1, m_i20, m_i2, m_i8, m_i15, m_i60, c_noPlace, if_neg hx]
    · simp (disch := first | assumption | omega) only [F_Mo_keep, lit_0, lit_1, lit_2, lit_3, lit_4, lit_5, lit_6, lit_7, lit_8, lit_9, lit_10, lit_11, lit_12, lit_16, lit_17, lit_20, lit_31, lit_32, lit_40, lit_47, lit_48, lit_49, lit_57, lit_58, lit_60, lit_64, lit_68, lit_80, lit_97, lit_99, lit_100, lit_101, lit_104, lit_108, lit_109, lit_115, lit_117, lit_121, lit_127, lit_128, lit_140, lit_1000, lit_1000000, lit_1048576, bI_ret, bV_ret, bL_ret, bH_t, cond_true, z_0, z_1, retZ_tf, z_tf0, z_tf1, Decidable.not_not, Classical.not_not, nI_add, nI_clamp, n_le, n_lt, n_eq, nI_or, nI_and, z_sdf, of_nI, ite_not, m_i3, m_i99, m_i7, m_i1, m_i20, m_i2, m_i8, m_i15, m_i60, if_neg hx]
theorem g_on (x : Int32) {h : Hp} (I : Inv h) : Ok (F_Bp_on x) (F_Mo_on x) h := by
  obtain ⟨-, -, v, w, r, m, ck⟩ := id I
  have hn := w.1
  by_cases hx : inR x 3
  · obtain ⟨k, hk, rfl⟩ := inR_ex (by decide) hx
    have o0 := oA_192' hk (show 0 < 140 by decide)
    have o1 := oA_192' hk (show 1 < 140 by decide)
    have o2 := oA_192' hk (show 2 < 140 by decide)
    rw [Nat.add_zero] at o0
    rcases ck k hk with c | ⟨u, c1, c2, c3, c0, c4, c5, c6⟩
    · refine fin_f I (k := 1) (h1 := h) (by decide) (by decide) ?_ (frS_rf h) fun g1 hg1 => ?_
      · simp (disch := first | assumption | omega) only [F_Bp_on, lit_0, lit_1, lit_2, lit_3, lit_4, lit_5, lit_6, lit_7, lit_8, lit_9, lit_10, lit_11, lit_12, lit_16, lit_17, lit_20, lit_31, lit_32, lit_40, lit_47, lit_48, lit_49, lit_57, lit_58, lit_60, lit_64, lit_68, lit_80, lit_97, lit_99, lit_100, lit_101, lit_104, lit_108, lit_109, lit_115, lit_117, lit_121, lit_127, lit_128, lit_140, lit_1000, lit_1000000, lit_1048576, bI_ret, bV_ret, bL_ret, bH_t, cond_true, z_0, z_1, retZ_tf, z_tf0, z_tf1, Decidable.not_not, Classical.not_not, nI_add, nI_clamp, n_le, n_lt, n_eq, nI_or, nI_and, z_sdf, of_nI, ite_not, m_i3, m_i99, m_i7, m_i1, m_i20, m_i2, m_i8, m_i15, m_i60, c_noPlace, if_pos hx, oA_62, c.1, found_b]
        first | done | rw [if_pos trivial] | rw [if_pos rfl]
      · have k1 : hg g1 192 (140 * k) = -nI 9 := by rw [hg1 _ _ (by unfold scr; omega) (by unfold fpA; omega)]; exact c.2
        have mb := meet_b (k := 1) (by decide) (by decide) g1
        have e2 : F_Mo_in (nI k) 0 2 g1 = retI (nI 1) g1 := by
          have e3 := m_i2 (nI k) g1
          rw [tf_t hx] at e3
          exact e3
        have e4 : hg g1 192 (nI (140 * k)).toNatClampNeg = -nI 9 := by rw [nI_clamp (by omega)]; exact k1
        unfold F_Mo_on
        rw [e2, bI_ret]
        refine (if_neg (by decide)).trans ?_
        rw [show (140 : Int32) * nI k = nI (140 * k) from nI_mul 140 k, o0, cond_true, e4]
        exact (if_pos rfl).trans mb
    · have hn' := c2.1
      have hm' := wf_m c2
      have h4' := wf_l c2
      have hh' := wf_h c2
      obtain ⟨d1, d2, d3, d4, d5, d6⟩ := c6
      obtain ⟨g, t1, t2, t3⟩ := c_takeFrom isL_3 (isL_k hk) (by omega) c2 c5
      have m1 : MLd v g := MLd_ag m fun a j f => t3 a j (by unfold fpM at f; omega)
      have gk : ∀ j, hg g 192 j = hg h 192 j := fun j => t3 _ _ (by omega)
      have hK : ∃ K, K = hs (hs (hs g 178 13 (nI (u 7 0))) 178 11 (nI (u 3 0))) 178 14 (nI (u 8 0)) := ⟨_, rfl⟩
      obtain ⟨K, hK⟩ := hK
      have Ko : ∀ a j, ¬ (a = 178 ∧ (j = 11 ∨ j = 13 ∨ j = 14)) → hg K a j = hg g a j := fun a j n => by
        rw [hK, hg_hs2, if_neg (by omega), hg_hs2, if_neg (by omega), hg_hs2, if_neg (by omega)]
      have Kk : ∀ j, hg K 192 j = hg h 192 j := fun j => (Ko _ _ (by omega)).trans (gk j)
      obtain ⟨g2, s1, s2, s3, s4, s5⟩ := m_on1 (g := K) hk
      have fr : ∀ p j, ¬ fpL p j → hg g2 p j = hg h p j := fun p j n1 => by
        rw [s5 p j (fun z => n1 (by unfold fpL; omega)) (fun z => n1 (by unfold fpL; omega)) (fun z => n1 (by unfold fpL; omega)), Ko p j (fun z => n1 (by unfold fpL; omega)), t3 p j (fun z => n1 (by unfold fpL; omega))]
      have m' : MLd u g2 := by
        refine ⟨⟨?_, ?_, ?_, ?_⟩, fun x hx => ⟨?_, ?_⟩, fun p hp => ⟨?_, ?_, ?_⟩, fun l hl => ?_⟩
        · rw [s5 _ _ (by omega) (by omega) (by omega), Ko _ _ (by omega), c3]; exact M_n m1
        · rw [s5 _ _ (by omega) (by omega) (by omega), hK, hg_hs_k (by omega), hg_hs_eq]
        · rw [s5 _ _ (by omega) (by omega) (by omega), hK, hg_hs_eq]
        · rw [s5 _ _ (by omega) (by omega) (by omega), hK, hg_hs_k (by omega), hg_hs_k (by omega), hg_hs_eq]
        · rw [s5 _ _ (by omega) (by omega) (by omega), Ko _ _ (by omega), c4 x (by omega)]; exact M_k m1 (by omega)
        · rw [s2 x (by omega), Kk]; exact d4 x hx
        · rw [s3 _ (by omega), Kk]; exact (d5 p hp).1
        · rw [s3 _ (by omega), Kk]; exact (d5 p hp).2.1
        · rw [s3 _ (by omega), Kk]; exact (d5 p hp).2.2
        · have l7 := wf_l7 c2 hl
          refine ⟨?_, ?_, ?_, fun j hj => ⟨?_, ?_⟩⟩
          · rw [s4 _ (by omega), Kk]; exact (d6 l hl).1
          · rw [s4 _ (by omega), Kk]; exact (d6 l hl).2.1
          · rw [s4 _ (by omega), Kk]; exact (d6 l hl).2.2.1
          · rw [s4 _ (by omega), Kk]; exact ((d6 l hl).2.2.2 j hj).1
          · rw [s4 _ (by omega), Kk]; exact ((d6 l hl).2.2.2 j hj).2
      refine ⟨(nI (u 7 0)), g, g2, ?_, ?_, Inv_L I (v := v) (CA_L I fun p j _ n1 => fr p j n1) c2 (CLd_ag t2 (fun p j h1 h2 => (s5 p j (by omega) (by omega) (by omega)).trans (Ko p j (by omega))) h4') m' ck c3 (fun x hx => c4 x (by omega)) fun p j _ _ n1 => fr p j n1⟩
      · have p1 := oR_61 hk
        have p2 := sR_61 hk
        have e11 : hg g 3 11 = nI (u 7 0) := L_h t2
        simp (disch := first | assumption | omega) only [F_Bp_on, lit_0, lit_1, lit_2, lit_3, lit_4, lit_5, lit_6, lit_7, lit_8, lit_9, lit_10, lit_11, lit_12, lit_16, lit_17, lit_20, lit_31, lit_32, lit_40, lit_47, lit_48, lit_49, lit_57, lit_58, lit_60, lit_64, lit_68, lit_80, lit_97, lit_99, lit_100, lit_101, lit_104, lit_108, lit_109, lit_115, lit_117, lit_121, lit_127, lit_128, lit_140, lit_1000, lit_1000000, lit_1048576, bI_ret, bV_ret, bL_ret, bH_t, cond_true, z_0, z_1, retZ_tf, z_tf0, z_tf1, Decidable.not_not, Classical.not_not, nI_add, nI_clamp, n_le, n_lt, n_eq, nI_or, nI_and, z_sdf, of_nI, ite_not, m_i3, m_i99, m_i7, m_i1, m_i20, m_i2, m_i8, m_i15, m_i60, c_noPlace, if_pos hx, oA_62, c1, p1, p2, t1, e11]
        first | (rw [if_neg (show ¬ (1 : Nat) = 0 by decide)]; rfl) | exact if_neg (show ¬ (1 : Nat) = 0 by decide)
      · have k1 : hg g 192 (140 * k) = nI (u 7 0) := (gk _).trans d1
        have k2 : hg (hs g 178 13 (nI (u 7 0))) 192 (140 * k + 1) = nI (u 3 0) := (hg_hs_a (by decide)).trans ((gk _).trans d2)
        have k3 : hg (hs (hs g 178 13 (nI (u 7 0))) 178 11 (nI (u 3 0))) 192 (140 * k + 2) = nI (u 8 0) := (hg_hs_a (by decide)).trans ((hg_hs_a (by decide)).trans ((gk _).trans d3))
        have k13 : hg K 178 13 = nI (u 7 0) := by rw [hK, hg_hs_k (by omega), hg_hs_k (by omega), hg_hs_eq]
        rw [k13, hK] at s1
        simp (disch := first | assumption | omega) only [F_Mo_on, lit_0, lit_1, lit_2, lit_3, lit_4, lit_5, lit_6, lit_7, lit_8, lit_9, lit_10, lit_11, lit_12, lit_16, lit_17, lit_20, lit_31, lit_32, lit_40, lit_47, lit_48, lit_49, lit_57, lit_58, lit_60, lit_64, lit_68, lit_80, lit_97, lit_99, lit_100, lit_101, lit_104, lit_108, lit_109, lit_115, lit_117, lit_121, lit_127, lit_128, lit_140, lit_1000, lit_1000000, lit_1048576, bI_ret, bV_ret, bL_ret, bH_t, cond_true, z_0, z_1, retZ_tf, z_tf0, z_tf1, Decidable.not_not, Classical.not_not, nI_add, nI_clamp, n_le, n_lt, n_eq, nI_or, nI_and, z_sdf, of_nI, ite_not, m_i3, m_i99, m_i7, m_i1, m_i20, m_i2, m_i8, m_i15, m_i60, if_pos hx, nI_mul, o0, o1, o2, k1, k2, k3, nI_eq9, if_false, s1]
        rfl
  · refine fin_q I (h1 := h) (h2 := h) (x := -nI 1) ?_ (frS_rf h) ?_ (frS_rf h)
    · simp (disch := first | assumption | omega) only [F_Bp_on, lit_0, lit_1, lit_2, lit_3, lit_4, lit_5, lit_6, lit_7, lit_8, lit_9, lit_10, lit_11, lit_12, lit_16, lit_17, lit_20, lit_31, lit_32, lit_40, lit_47, lit_48, lit_49, lit_57, lit_58, lit_60, lit_64, lit_68, lit_80, lit_97, lit_99, lit_100, lit_101, lit_104, lit_108, lit_109, lit_115, lit_117, lit_121, lit_127, lit_128, lit_140, lit_1000, lit_1000000, lit_1048576, bI_ret, bV_ret, bL_ret, bH_t, cond_true, z_0, z_1, retZ_tf, z_tf0, z_tf1, Decidable.not_not, Classical.not_not, nI_add, nI_clamp, n_le, n_lt, n_eq, nI_or, nI_and, z_sdf, of_nI, ite_not, m_i3, m_i99, m_i7, m_i1, m_i20, m_i2, m_i8, m_i15, m_i60, c_noPlace, if_neg hx]
    · simp (disch := first | assumption | omega) only [F_Mo_on, lit_0, lit_1, lit_2, lit_3, lit_4, lit_5, lit_6, lit_7, lit_8, lit_9, lit_10, lit_11, lit_12, lit_16, lit_17, lit_20, lit_31, lit_32, lit_40, lit_47, lit_48, lit_49, lit_57, lit_58, lit_60, lit_64, lit_68, lit_80, lit_97, lit_99, lit_100, lit_101, lit_104, lit_108, lit_109, lit_115, lit_117, lit_121, lit_127, lit_128, lit_140, lit_1000, lit_1000000, lit_1048576, bI_ret, bV_ret, bL_ret, bH_t, cond_true, z_0, z_1, retZ_tf, z_tf0, z_tf1, Decidable.not_not, Classical.not_not, nI_add, nI_clamp, n_le, n_lt, n_eq, nI_or, nI_and, z_sdf, of_nI, ite_not, m_i3, m_i99, m_i7, m_i1, m_i20, m_i2, m_i8, m_i15, m_i60, if_neg hx]
