/-! OPERATIONS: hands, back -/
theorem m_handsLoop {v : LV} {g : Hp} {s k : Nat} (w : WF v) (mg : MLd v g) (hs9 : s < 6) (hk : k < v 8 0) : ∃ h', loopC Mo_hands_40 FU (nI k, nI s, nI (v 11 k), nI 0, g) = retI (nI (v 11 k)) h' ∧ (∀ j, j < v 11 k → hg h' 181 (40 * s + j) = nI (v (20 + k) j)) ∧ ∀ a j, ¬ (a = 181 ∧ 40 * s ≤ j ∧ j < 40 * s + 40) → hg h' a j = hg g a j := by
  have h7 := wf_l7 w hk
  refine loop_inv (N := v 11 k) (R := fun o => ∃ h', o = retI (nI (v 11 k)) h' ∧ (∀ j, j < v 11 k → hg h' 181 (40 * s + j) = nI (v (20 + k) j)) ∧ ∀ a j, ¬ (a = 181 ∧ 40 * s ≤ j ∧ j < 40 * s + 40) → hg h' a j = hg g a j) (fun i st => ∃ g1, st = (nI k, nI s, nI (v 11 k), nI i, g1) ∧ (∀ j, j < i → hg g1 181 (40 * s + j) = nI (v (20 + k) j)) ∧ ∀ a j, ¬ (a = 181 ∧ 40 * s ≤ j ∧ j < 40 * s + 40) → hg g1 a j = hg g a j) ⟨_, rfl, fun j hj => absurd hj (Nat.not_lt_zero j), fun a j h1 => rfl⟩ (by show _ < 4096; omega) ?_ ?_
  · rintro i st hi ⟨g1, rfl, p2, p3⟩
    have m1 : MLd v g1 := MLd_ag mg fun a j f => p3 a j (by unfold fpM at f; omega)
    refine ⟨_, ⟨hs g1 181 (40 * s + i) (nI (v (20 + k) i)), rfl, fun j hj => ?_, fun a j h1 => by rw [hg_hs2, if_neg (by omega)]; exact p3 a j h1⟩, fun κ => ?_⟩
    · by_cases z : j = i
      · rw [z, hg_hs_eq]
      · rw [hg_hs_k (by omega)]; exact p2 j (by omega)
    · simp (disch := first | assumption | omega) only [Mo_hands_40, lit_0, lit_1, lit_2, lit_3, lit_4, lit_5, lit_6, lit_7, lit_8, lit_9, lit_10, lit_11, lit_12, lit_16, lit_17, lit_20, lit_31, lit_32, lit_40, lit_47, lit_48, lit_49, lit_57, lit_58, lit_60, lit_64, lit_68, lit_80, lit_97, lit_99, lit_100, lit_101, lit_104, lit_108, lit_109, lit_115, lit_117, lit_121, lit_127, lit_128, lit_140, lit_1000, lit_1000000, lit_1048576, bI_ret, bV_ret, bL_ret, bH_t, cond_true, z_0, z_1, retZ_tf, z_tf0, z_tf1, Decidable.not_not, Classical.not_not, nI_add, nI_clamp, n_le, n_lt, n_eq, nI_or, nI_and, z_sdf, of_nI, m_th w m1 hk hi, m_setRow hs9 (show i < 40 by omega)]
      rw [if_neg (by omega)]
  · rintro st ⟨g1, rfl, p2, p3⟩ κ
    refine ⟨g1, ?_, p2, p3⟩
    simp (disch := first | assumption | omega) only [Mo_hands_40, lit_0, lit_1, lit_2, lit_3, lit_4, lit_5, lit_6, lit_7, lit_8, lit_9, lit_10, lit_11, lit_12, lit_16, lit_17, lit_20, lit_31, lit_32, lit_40, lit_47, lit_48, lit_49, lit_57, lit_58, lit_60, lit_64, lit_68, lit_80, lit_97, lit_99, lit_100, lit_101, lit_104, lit_108, lit_109, lit_115, lit_117, lit_121, lit_127, lit_128, lit_140, lit_1000, lit_1000000, lit_1048576, bI_ret, bV_ret, bL_ret, bH_t, cond_true, z_0, z_1, retZ_tf, z_tf0, z_tf1, Decidable.not_not, Classical.not_not, nI_add, nI_clamp, n_le, n_lt, n_eq, nI_or, nI_and, z_sdf, of_nI, Nat.le_refl, if_true]
theorem okN_of {a : Nat} (h : shC a = 100) : okN a = true := by unfold okN; rw [h]; rfl
theorem g_hands (l q : Int32) {h : Hp} (I : Inv h) : Ok (F_Bp_hands l q) (F_Mo_hands l q) h := by
  obtain ⟨-, -, v, w, r, m, -⟩ := id I
  have h4 := wf_l w
  rcases x_neg (x := l) with hl | ⟨k, hk, rfl⟩
  · refine fin_q I (h1 := h) (h2 := h) (x := -nI 1) (if_pos hl) (frS_rf h) ?_ (frS_rf h)
    by_cases hq : inR q 6
    · simp (disch := first | assumption | omega) only [F_Mo_hands, lit_0, lit_1, lit_2, lit_3, lit_4, lit_5, lit_6, lit_7, lit_8, lit_9, lit_10, lit_11, lit_12, lit_16, lit_17, lit_20, lit_31, lit_32, lit_40, lit_47, lit_48, lit_49, lit_57, lit_58, lit_60, lit_64, lit_68, lit_80, lit_97, lit_99, lit_100, lit_101, lit_104, lit_108, lit_109, lit_115, lit_117, lit_121, lit_127, lit_128, lit_140, lit_1000, lit_1000000, lit_1048576, bI_ret, bV_ret, bL_ret, bH_t, cond_true, z_0, z_1, retZ_tf, z_tf0, z_tf1, Decidable.not_not, Classical.not_not, nI_add, nI_clamp, n_le, n_lt, n_eq, nI_or, nI_and, z_sdf, of_nI, ite_not, m_i3, m_i99, m_i7, m_i1, m_i20, m_i2, m_i8, m_i15, m_i60, m_isRow, if_pos hq]
      exact asked1 (m_askLet_b hl)
    · simp (disch := first | assumption | omega) only [F_Mo_hands, lit_0, lit_1, lit_2, lit_3, lit_4, lit_5, lit_6, lit_7, lit_8, lit_9, lit_10, lit_11, lit_12, lit_16, lit_17, lit_20, lit_31, lit_32, lit_40, lit_47, lit_48, lit_49, lit_57, lit_58, lit_60, lit_64, lit_68, lit_80, lit_97, lit_99, lit_100, lit_101, lit_104, lit_108, lit_109, lit_115, lit_117, lit_121, lit_127, lit_128, lit_140, lit_1000, lit_1000000, lit_1048576, bI_ret, bV_ret, bL_ret, bH_t, cond_true, z_0, z_1, retZ_tf, z_tf0, z_tf1, Decidable.not_not, Classical.not_not, nI_add, nI_clamp, n_le, n_lt, n_eq, nI_or, nI_and, z_sdf, of_nI, ite_not, m_i3, m_i99, m_i7, m_i1, m_i20, m_i2, m_i8, m_i15, m_i60, m_isRow, if_neg hq]
  · by_cases hq : inR q 6
    · obtain ⟨s, hs9, rfl⟩ := inR_ex (by decide) hq
      have s10 : s < 10 := by omega
      have hcap : cap s = 40 := if_pos hs9
      by_cases z : k < v 8 0
      · have h7 := wf_l7 w z
        have h1 := wf_l1 w z
        have E := le_3 w r z
        have Eo := okE E.1
        obtain ⟨h2, b1, b2, b3, b4⟩ := c_fill (h := h) (s := s) (k := v 11 k) (q := 20 + 3 * k + 1) (N := 7) s10 Eo.2.2.2.1 Eo.2.2.2.2.1 (okN_of Eo.2.2.2.1) (by omega) (by omega) h7 (by omega) (by decide)
        have fr2 : ∀ c j, ¬ scr c j → ¬ fpS s c j → hg h2 c j = hg h c j := fun c j n1 n2 => b4 c j (fun z => n2 (by unfold fpS; omega)) (fun z => n2 (by unfold fpS; omega))
        have m2 := MLd_R m s10 fr2
        obtain ⟨h3, i1, i2, i3, i4⟩ := m_rowNew (h := h2) (s := s) (n := v 11 k) hs9 (by omega)
        have m3 : MLd v h3 := MLd_ag m2 fun a j f => i4 a j (by unfold fpM at f; omega) (by unfold fpM at f; omega)
        obtain ⟨h5, j1, j2, j3⟩ := m_handsLoop (g := h3) w m3 hs9 z
        have fr5 : ∀ c j, ¬ scr c j → ¬ fpS s c j → hg h5 c j = hg h c j := fun c j n1 n2 => by
          rw [j3 c j (fun z => n2 (by unfold fpS; omega)), i4 c j (fun z => n2 (by unfold fpS; omega)) (fun z => n2 (by unfold fpS; omega)), fr2 c j n1 n2]
        refine ⟨(nI (v 11 k)), h2, h5, ?_, ?_, Inv_R I (s := s) s10 (CA_ag2 (s := s) I fr5 s10) (Or.inr ⟨v 11 k, by omega, ?_, ?_, fun j hj => ?_⟩) fun a j n1 n2 n3 => fr5 a j n1 n3⟩
        · have e5 : hg h2 (20 + 3 * k) 2 = nI (v 11 k) := (b4 _ _ (by omega) (by omega)).trans (E_len E.2.1)
          simp (disch := first | assumption | omega) only [F_Bp_hands, lit_0, lit_1, lit_2, lit_3, lit_4, lit_5, lit_6, lit_7, lit_8, lit_9, lit_10, lit_11, lit_12, lit_16, lit_17, lit_20, lit_31, lit_32, lit_40, lit_47, lit_48, lit_49, lit_57, lit_58, lit_60, lit_64, lit_68, lit_80, lit_97, lit_99, lit_100, lit_101, lit_104, lit_108, lit_109, lit_115, lit_117, lit_121, lit_127, lit_128, lit_140, lit_1000, lit_1000000, lit_1048576, bI_ret, bV_ret, bL_ret, bH_t, cond_true, z_0, z_1, retZ_tf, z_tf0, z_tf1, Decidable.not_not, Classical.not_not, nI_add, nI_clamp, n_le, n_lt, n_eq, nI_or, nI_and, z_sdf, of_nI, ite_not, m_i3, m_i99, m_i7, m_i1, m_i20, m_i2, m_i8, m_i15, m_i60, c_noRow, if_pos hq, L3_l r, oR_1, sR_1, oR_19, sR_19, sh_O s10, le_f0 E.1, le_f2 E.1, le_r0 E.1, E_len E.2.1, b1, e5]
          rw [if_neg (Nat.not_lt_zero _), if_pos z]
          rfl
        · simp (disch := first | assumption | omega) only [F_Mo_hands, lit_0, lit_1, lit_2, lit_3, lit_4, lit_5, lit_6, lit_7, lit_8, lit_9, lit_10, lit_11, lit_12, lit_16, lit_17, lit_20, lit_31, lit_32, lit_40, lit_47, lit_48, lit_49, lit_57, lit_58, lit_60, lit_64, lit_68, lit_80, lit_97, lit_99, lit_100, lit_101, lit_104, lit_108, lit_109, lit_115, lit_117, lit_121, lit_127, lit_128, lit_140, lit_1000, lit_1000000, lit_1048576, bI_ret, bV_ret, bL_ret, bH_t, cond_true, z_0, z_1, retZ_tf, z_tf0, z_tf1, Decidable.not_not, Classical.not_not, nI_add, nI_clamp, n_le, n_lt, n_eq, nI_or, nI_and, z_sdf, of_nI, ite_not, m_i3, m_i99, m_i7, m_i1, m_i20, m_i2, m_i8, m_i15, m_i60, m_isRow, if_pos hq]
          refine (asked0 (by decide) (m_askLet_t m2 w z)).trans ?_
          show (bI (F_Mo_letterOf (nI k) (nI 2) h2) fun v6 h5 => bI (F_Mo_row (nI s) v6 h5) fun v8 h7 => loopC Mo_hands_40 FU (nI k, nI s, v6, nI 0, h7)) = _
          rw [m_len w m2 z, bI_ret, i1, bI_ret]
          exact j1
        · rw [j3 _ _ (by omega), i4 _ _ (by omega) (by omega)]; exact b2
        · unfold mSz
          rw [if_pos hs9, j3 _ _ (by omega)]; exact i2
        · unfold mVl
          rw [if_pos hs9, j2 j hj, j3 _ _ (by omega), i4 _ _ (by omega) (by omega), b3 j hj]
          exact E_th E.2.1 hj
      · refine fin_f I (k := 2) (h1 := h) (by decide) (by decide) ?_ (frS_rf h) fun g1 hg1 => ?_
        · simp (disch := first | assumption | omega) only [F_Bp_hands, lit_0, lit_1, lit_2, lit_3, lit_4, lit_5, lit_6, lit_7, lit_8, lit_9, lit_10, lit_11, lit_12, lit_16, lit_17, lit_20, lit_31, lit_32, lit_40, lit_47, lit_48, lit_49, lit_57, lit_58, lit_60, lit_64, lit_68, lit_80, lit_97, lit_99, lit_100, lit_101, lit_104, lit_108, lit_109, lit_115, lit_117, lit_121, lit_127, lit_128, lit_140, lit_1000, lit_1000000, lit_1048576, bI_ret, bV_ret, bL_ret, bH_t, cond_true, z_0, z_1, retZ_tf, z_tf0, z_tf1, Decidable.not_not, Classical.not_not, nI_add, nI_clamp, n_le, n_lt, n_eq, nI_or, nI_and, z_sdf, of_nI, ite_not, m_i3, m_i99, m_i7, m_i1, m_i20, m_i2, m_i8, m_i15, m_i60, c_noRow, if_pos hq, L3_l r, found_b]
          rw [if_neg (Nat.not_lt_zero _), if_neg z]
        · simp (disch := first | assumption | omega) only [F_Mo_hands, lit_0, lit_1, lit_2, lit_3, lit_4, lit_5, lit_6, lit_7, lit_8, lit_9, lit_10, lit_11, lit_12, lit_16, lit_17, lit_20, lit_31, lit_32, lit_40, lit_47, lit_48, lit_49, lit_57, lit_58, lit_60, lit_64, lit_68, lit_80, lit_97, lit_99, lit_100, lit_101, lit_104, lit_108, lit_109, lit_115, lit_117, lit_121, lit_127, lit_128, lit_140, lit_1000, lit_1000000, lit_1048576, bI_ret, bV_ret, bL_ret, bH_t, cond_true, z_0, z_1, retZ_tf, z_tf0, z_tf1, Decidable.not_not, Classical.not_not, nI_add, nI_clamp, n_le, n_lt, n_eq, nI_or, nI_and, z_sdf, of_nI, ite_not, m_i3, m_i99, m_i7, m_i1, m_i20, m_i2, m_i8, m_i15, m_i60, m_isRow, if_pos hq]
          exact asked3 (by decide) (by decide) (m_askLet_n (MLd_g1 m hg1) w hk z)
    · refine fin_q I (h1 := h) (h2 := h) (x := -nI 1) ?_ (frS_rf h) ?_ (frS_rf h)
      · simp (disch := first | assumption | omega) only [F_Bp_hands, lit_0, lit_1, lit_2, lit_3, lit_4, lit_5, lit_6, lit_7, lit_8, lit_9, lit_10, lit_11, lit_12, lit_16, lit_17, lit_20, lit_31, lit_32, lit_40, lit_47, lit_48, lit_49, lit_57, lit_58, lit_60, lit_64, lit_68, lit_80, lit_97, lit_99, lit_100, lit_101, lit_104, lit_108, lit_109, lit_115, lit_117, lit_121, lit_127, lit_128, lit_140, lit_1000, lit_1000000, lit_1048576, bI_ret, bV_ret, bL_ret, bH_t, cond_true, z_0, z_1, retZ_tf, z_tf0, z_tf1, Decidable.not_not, Classical.not_not, nI_add, nI_clamp, n_le, n_lt, n_eq, nI_or, nI_and, z_sdf, of_nI, ite_not, m_i3, m_i99, m_i7, m_i1, m_i20, m_i2, m_i8, m_i15, m_i60, c_noRow, if_neg hq]
        exact if_neg (Nat.not_lt_zero _)
      · simp (disch := first | assumption | omega) only [F_Mo_hands, lit_0, lit_1, lit_2, lit_3, lit_4, lit_5, lit_6, lit_7, lit_8, lit_9, lit_10, lit_11, lit_12, lit_16, lit_17, lit_20, lit_31, lit_32, lit_40, lit_47, lit_48, lit_49, lit_57, lit_58, lit_60, lit_64, lit_68, lit_80, lit_97, lit_99, lit_100, lit_101, lit_104, lit_108, lit_109, lit_115, lit_117, lit_121, lit_127, lit_128, lit_140, lit_1000, lit_1000000, lit_1048576, bI_ret, bV_ret, bL_ret, bH_t, cond_true, z_0, z_1, retZ_tf, z_tf0, z_tf1, Decidable.not_not, Classical.not_not, nI_add, nI_clamp, n_le, n_lt, n_eq, nI_or, nI_and, z_sdf, of_nI, ite_not, m_i3, m_i99, m_i7, m_i1, m_i20, m_i2, m_i8, m_i15, m_i60, m_isRow, if_neg hq]
