/-! PAIRS of the reference -/
section MP
variable {v : LV} {h : Hp}
theorem wrt_1 {x y t : Nat} : wrt v x y (2 ^ t) = ((v 2 x).testBit t && (v 2 y).testBit t) := by
  unfold wrt
  apply Bool.eq_iff_iff.mpr
  rw [beq_iff_eq, sdf_0]
  constructor
  · intro q
    have := q t (by rw [tb_pow]; exact decide_eq_true rfl)
    rw [Nat.testBit_and] at this
    exact this
  · intro q i hi
    rw [tb_pow, decide_eq_true_eq] at hi
    subst hi
    rw [Nat.testBit_and]
    exact q
theorem m_isWayIn (w : WF v) (r : MLd v h) {x y t : Nat} (hx : x < v 0 0) (hy : y < v 0 0) (hxy : x ≠ y) (ht : t < 5) : ∃ h', F_Mo_isWayIn (nI x) (nI y) (nI t) h = retI (tf (wayB v x y t = true)) h' ∧ frW h h' ∧ (wayB v x y t = true → hg h' 178 28 = nI (eachOf (aw v x y (2 ^ t) 0))) := by
  have hn := w.1
  have h5 := pow5 ht
  have hwr := m_writes w r hx hy h5
  obtain ⟨g, k1, k2, k3⟩ := m_setWays (fg := 0) w r hx hy hxy h5 (by decide)
  have hlen := aw_len w x y (2 ^ t) 0
  have e0 : wrB v x y t = wrt v x y (2 ^ t) := by
    rw [wrt_1]
    unfold wrB
    rw [bne_iff_ne.mpr (fun z : y = x => hxy z.symm), Bool.true_and]
  unfold F_Mo_isWayIn wayB
  rw [e0]
  simp (disch := first | assumption | omega) only [lit_0, lit_1, lit_2, lit_3, lit_4, lit_5, lit_6, lit_7, lit_8, lit_9, lit_10, lit_11, lit_12, lit_16, lit_17, lit_20, lit_31, lit_32, lit_40, lit_47, lit_48, lit_49, lit_57, lit_58, lit_60, lit_64, lit_68, lit_80, lit_97, lit_99, lit_100, lit_101, lit_104, lit_108, lit_109, lit_115, lit_117, lit_121, lit_127, lit_128, lit_140, lit_1000, lit_1000000, lit_1048576, bI_ret, bV_ret, bL_ret, bH_t, cond_true, z_0, z_1, retZ_tf, z_tf0, z_tf1, Decidable.not_not, Classical.not_not, nI_add, nI_clamp, n_le, n_lt, n_eq, nI_or, nI_and, z_sdf, of_nI, z_bit, hwr]
  by_cases q : wrt v x y (2 ^ t) = true
  · rw [if_neg (fun z => z q), k1, bV_ret, k2.1, q]
    simp (disch := first | assumption | omega) only [n_le]
    by_cases q2 : (aw v x y (2 ^ t) 0).length ≤ 0
    · have : aw v x y (2 ^ t) 0 = [] := List.eq_nil_of_length_eq_zero (by omega)
      refine ⟨g, ?_, k3, fun z => absurd z (by rw [this]; simp)⟩
      rw [if_pos q2, tf_f (by rw [this]; simp)]
      rfl
    · refine ⟨g, ?_, k3, fun _ => k2.2.1⟩
      have : aw v x y (2 ^ t) 0 ≠ [] := fun e => q2 (by rw [e]; exact Nat.le_refl _)
      rw [if_neg q2, tf_t (by rw [Bool.true_and]; exact emp_iff.mpr this)]
      rfl
  · refine ⟨h, ?_, frW_rf h, fun z => absurd z (by simp only [Bool.not_eq_true] at q; rw [q]; simp)⟩
    rw [if_pos q, tf_f (by simp only [Bool.not_eq_true] at q; rw [q]; simp)]
    rfl
theorem m_tonguesOf (w : WF v) (r : MLd v h) {x y : Nat} (hx : x < v 0 0) (hy : y < v 0 0) (hxy : x ≠ y) : ∃ h', F_Mo_tonguesOf (nI x) (nI y) h = retI (nI (tgs v x y)) h' ∧ frW h h' := by
  unfold F_Mo_tonguesOf
  refine Exists.elim (loop_all (K := Unit) (b := fun _ => Mo_tonguesOf_5) (N := 5) (n := FU) (s0 := (nI x, nI y, nI 0, nI 0, h)) (fun i s => ∃ g, s = (nI x, nI y, nI (ms i (fun t => wayB v x y t)), nI i, g) ∧ frW h g) ⟨h, rfl, frW_rf h⟩ (by show _ < 4096; omega) ?_) ?_
  · rintro i s hi ⟨g, rfl, p1⟩
    have rg := MLd_W r p1
    obtain ⟨g2, k1, k2, -⟩ := m_isWayIn w rg hx hy hxy hi
    refine ⟨(nI x, nI y, nI (ms (i + 1) (fun t => wayB v x y t)), nI (i + 1), g2), ⟨g2, rfl, frW_tr p1 k2⟩, fun k κ => ?_⟩
    simp (disch := first | assumption | omega) only [Mo_tonguesOf_5, lit_0, lit_1, lit_2, lit_3, lit_4, lit_5, lit_6, lit_7, lit_8, lit_9, lit_10, lit_11, lit_12, lit_16, lit_17, lit_20, lit_31, lit_32, lit_40, lit_47, lit_48, lit_49, lit_57, lit_58, lit_60, lit_64, lit_68, lit_80, lit_97, lit_99, lit_100, lit_101, lit_104, lit_108, lit_109, lit_115, lit_117, lit_121, lit_127, lit_128, lit_140, lit_1000, lit_1000000, lit_1048576, bI_ret, bV_ret, bL_ret, bH_t, cond_true, z_0, z_1, retZ_tf, z_tf0, z_tf1, Decidable.not_not, Classical.not_not, nI_add, nI_clamp, n_le, n_lt, n_eq, nI_or, nI_and, z_sdf, of_nI, k1, z_bit, or_0, ms_s i]
    rw [if_neg (by omega)]
    by_cases q : wayB v x y i = true
    · simp only [q, not_true, if_false, if_true]
    · simp only [q, not_false_iff, if_true, if_false, Bool.false_eq_true]
  · rintro s ⟨⟨g, rfl, p1⟩, q⟩
    refine ⟨g, q () _ fun κ => ?_, p1⟩
    simp (disch := first | assumption | omega) only [Mo_tonguesOf_5, lit_0, lit_1, lit_2, lit_3, lit_4, lit_5, lit_6, lit_7, lit_8, lit_9, lit_10, lit_11, lit_12, lit_16, lit_17, lit_20, lit_31, lit_32, lit_40, lit_47, lit_48, lit_49, lit_57, lit_58, lit_60, lit_64, lit_68, lit_80, lit_97, lit_99, lit_100, lit_101, lit_104, lit_108, lit_109, lit_115, lit_117, lit_121, lit_127, lit_128, lit_140, lit_1000, lit_1000000, lit_1048576, bI_ret, bV_ret, bL_ret, bH_t, cond_true, z_0, z_1, retZ_tf, z_tf0, z_tf1, Decidable.not_not, Classical.not_not, nI_add, nI_clamp, n_le, n_lt, n_eq, nI_or, nI_and, z_sdf, of_nI, Nat.le_refl, if_true]
    rfl
theorem com_iff {x y : Nat} (w : WF v) (hx : x < v 0 0) (hxy : x ≠ y) : comB v x y = true ↔ v 2 x &&& v 2 y ≠ 0 := by
  unfold comB
  rw [anyB_iff]
  constructor
  · rintro ⟨t, -, h2⟩ e
    unfold wrB at h2
    rw [Bool.and_eq_true] at h2
    have := h2.2
    rw [← Nat.testBit_and, e, Nat.zero_testBit] at this
    cases this
  · intro q
    have : ∃ i, (v 2 x &&& v 2 y).testBit i = true := ex_bit (Nat.pos_of_ne_zero q)
    obtain ⟨i, hi⟩ := this
    rw [Nat.testBit_and] at hi
    refine ⟨i, Classical.byContradiction fun z => ?_, by unfold wrB; rw [hi, bne_iff_ne.mpr (fun z : y = x => hxy z.symm)]; rfl⟩
    rw [tb_small (show v 2 x < 2 ^ 5 from wf_w w hx) (by omega), Bool.false_and] at hi
    cases hi
theorem com_self (x : Nat) : comB v x x = false := anyB_false fun t _ => by unfold wrB; simp
theorem cof_iff {x y : Nat} : cofB v x y = (comB v x y && tgs v x y == 0) := by
  unfold cofB
  congr 1
  apply Bool.eq_iff_iff.mpr
  rw [beq_iff_eq, Bool.not_eq_true']
  unfold tgs
  rw [ms_0]
  constructor
  · intro q i hi
    cases d : wayB v x y i with
    | false => rfl
    | true =>
      have := (anyB_iff (P := fun t => wayB v x y t)).mpr ⟨i, hi, d⟩
      rw [q] at this
      cases this
  · exact fun q => anyB_false q
theorem m_cutNow (w : WF v) (r : MLd v h) : ∃ h', F_Mo_cutNow h = retI (nI (cutP v)) h' ∧ hg h' 178 30 = nI (allP v) ∧ frS h h' := by
  have hn := w.1
  unfold F_Mo_cutNow
  simp (disch := first | assumption | omega) only [lit_0, lit_1, lit_2, lit_3, lit_4, lit_5, lit_6, lit_7, lit_8, lit_9, lit_10, lit_11, lit_12, lit_16, lit_17, lit_20, lit_31, lit_32, lit_40, lit_47, lit_48, lit_49, lit_57, lit_58, lit_60, lit_64, lit_68, lit_80, lit_97, lit_99, lit_100, lit_101, lit_104, lit_108, lit_109, lit_115, lit_117, lit_121, lit_127, lit_128, lit_140, lit_1000, lit_1000000, lit_1048576, bI_ret, bV_ret, bL_ret, bH_t, cond_true, z_0, z_1, retZ_tf, z_tf0, z_tf1, Decidable.not_not, Classical.not_not, nI_add, nI_clamp, n_le, n_lt, n_eq, nI_or, nI_and, z_sdf, of_nI]
  refine Exists.elim (loop_all (K := Unit) (b := fun _ => Mo_cutNow_9) (N := v 0 0) (n := FU) (s0 := (nI 0, nI 0, hs h 178 30 (nI 0))) (fun i s => ∃ g, s = (nI (sumN i (fun x => cnt (v 0 0) (cofB v x))), nI i, g) ∧ hg g 178 30 = nI (sumN i (fun x => cnt (v 0 0) (comB v x))) ∧ frS h g) ⟨_, rfl, hg_hs_eq _ _ _ _, frS_hs (by unfold scr; omega)⟩ (by show _ < 4096; omega) ?_) ?_
  · rintro i s hi ⟨g, rfl, p1, p2⟩
    obtain ⟨g2, q1, q2, q3⟩ : ∃ g2, hg g2 178 30 = nI (sumN (i + 1) (fun x => cnt (v 0 0) (comB v x))) ∧ frS h g2 ∧ ∀ κ, loopC (Mo_cutNow_19 κ) FU (nI (sumN i (fun x => cnt (v 0 0) (cofB v x))), nI i, nI 0, g) = κ (nI (sumN (i + 1) (fun x => cnt (v 0 0) (cofB v x))), nI (i + 1), g2) := by
      refine Exists.elim (loop_all (K := (Int32 × Int32 × Hp) → Res Hp) (b := fun κ => Mo_cutNow_19 κ) (N := v 0 0) (n := FU) (s0 := (nI (sumN i (fun x => cnt (v 0 0) (cofB v x))), nI i, nI 0, g)) (fun j s => ∃ g2, s = (nI (sumN i (fun x => cnt (v 0 0) (cofB v x)) + cnt j (cofB v i)), nI i, nI j, g2) ∧ hg g2 178 30 = nI (sumN i (fun x => cnt (v 0 0) (comB v x)) + cnt j (comB v i)) ∧ frS h g2) ⟨g, rfl, p1, p2⟩ (by show _ < 4096; omega) ?_) ?_
      · rintro j s hj ⟨g2, rfl, a1, a2⟩
        have rg := MLd_S r a2
        by_cases e : i = j
        · subst e
          refine ⟨(nI (sumN i (fun x => cnt (v 0 0) (cofB v x)) + cnt (i + 1) (cofB v i)), nI i, nI (i + 1), g2), ⟨g2, rfl, ?_, a2⟩, fun k κ => ?_⟩
          · rw [cnt_s, com_self]; exact a1
          · simp (disch := first | assumption | omega) only [Mo_cutNow_19, lit_0, lit_1, lit_2, lit_3, lit_4, lit_5, lit_6, lit_7, lit_8, lit_9, lit_10, lit_11, lit_12, lit_16, lit_17, lit_20, lit_31, lit_32, lit_40, lit_47, lit_48, lit_49, lit_57, lit_58, lit_60, lit_64, lit_68, lit_80, lit_97, lit_99, lit_100, lit_101, lit_104, lit_108, lit_109, lit_115, lit_117, lit_121, lit_127, lit_128, lit_140, lit_1000, lit_1000000, lit_1048576, bI_ret, bV_ret, bL_ret, bH_t, cond_true, z_0, z_1, retZ_tf, z_tf0, z_tf1, Decidable.not_not, Classical.not_not, nI_add, nI_clamp, n_le, n_lt, n_eq, nI_or, nI_and, z_sdf, of_nI, M_n rg]
            rw [if_neg (by omega), if_pos trivial, cnt_s, cof_iff, com_self]
            rfl
        · have hw1 := wf_w w hi
          have hand : v 2 i &&& v 2 j < 2 ^ 31 := Nat.lt_of_le_of_lt Nat.and_le_left (by omega)
          have hcom := com_iff w hi e
          by_cases c : v 2 i &&& v 2 j = 0
          · have hcf : comB v i j = false := by
              cases d : comB v i j with
              | false => rfl
              | true => exact absurd c (hcom.mp d)
            refine ⟨(nI (sumN i (fun x => cnt (v 0 0) (cofB v x)) + cnt (j + 1) (cofB v i)), nI i, nI (j + 1), g2), ⟨g2, rfl, ?_, a2⟩, fun k κ => ?_⟩
            · rw [cnt_s, hcf]; exact a1
            · simp (disch := first | assumption | omega) only [Mo_cutNow_19, oA_185, oA_186, oA_187, oA_188, oA_180, oA_183, oA_179, lit_0, lit_1, lit_2, lit_3, lit_4, lit_5, lit_6, lit_7, lit_8, lit_9, lit_10, lit_11, lit_12, lit_16, lit_17, lit_20, lit_31, lit_32, lit_40, lit_47, lit_48, lit_49, lit_57, lit_58, lit_60, lit_64, lit_68, lit_80, lit_97, lit_99, lit_100, lit_101, lit_104, lit_108, lit_109, lit_115, lit_117, lit_121, lit_127, lit_128, lit_140, lit_1000, lit_1000000, lit_1048576, bI_ret, bV_ret, bL_ret, bH_t, cond_true, z_0, z_1, retZ_tf, z_tf0, z_tf1, Decidable.not_not, Classical.not_not, nI_add, nI_clamp, n_le, n_lt, n_eq, nI_or, nI_and, z_sdf, of_nI, M_n rg, M_w rg]
              rw [if_neg (by omega), if_neg e, if_pos c, cnt_s, cof_iff, hcf]
              rfl
          · have hct : comB v i j = true := hcom.mpr c
            have f3 : frS h (hs g2 178 30 (nI (sumN i (fun x => cnt (v 0 0) (comB v x)) + cnt j (comB v i) + 1))) := frS_tr a2 (frS_hs (by unfold scr; omega))
            obtain ⟨g3, k1, k2⟩ := m_tonguesOf w (MLd_S r f3) hi hj e
            have hT := tgs_lt v i j
            refine ⟨(nI (sumN i (fun x => cnt (v 0 0) (cofB v x)) + cnt (j + 1) (cofB v i)), nI i, nI (j + 1), g3), ⟨g3, rfl, ?_, frS_tr f3 (frS_W k2)⟩, fun k κ => ?_⟩
            · rw [k2 178 30 (by unfold wW; omega), hg_hs_eq, cnt_s, hct]
              rfl
            · simp (disch := first | assumption | omega) only [Mo_cutNow_19, oA_185, oA_186, oA_187, oA_188, oA_180, oA_183, oA_179, lit_0, lit_1, lit_2, lit_3, lit_4, lit_5, lit_6, lit_7, lit_8, lit_9, lit_10, lit_11, lit_12, lit_16, lit_17, lit_20, lit_31, lit_32, lit_40, lit_47, lit_48, lit_49, lit_57, lit_58, lit_60, lit_64, lit_68, lit_80, lit_97, lit_99, lit_100, lit_101, lit_104, lit_108, lit_109, lit_115, lit_117, lit_121, lit_127, lit_128, lit_140, lit_1000, lit_1000000, lit_1048576, bI_ret, bV_ret, bL_ret, bH_t, cond_true, z_0, z_1, retZ_tf, z_tf0, z_tf1, Decidable.not_not, Classical.not_not, nI_add, nI_clamp, n_le, n_lt, n_eq, nI_or, nI_and, z_sdf, of_nI, M_n rg, M_w rg, a1, k1]
              rw [if_neg (by omega), if_neg e, if_neg c, cnt_s, cof_iff, hct]
              by_cases d : tgs v i j = 0
              · simp only [d, if_true, beq_self_eq_true, Bool.and_true, Nat.add_assoc]
              · simp only [d, if_false, beq_eq_false_iff_ne.mpr d, Bool.and_false, Nat.add_zero, Bool.false_eq_true]
      · rintro s ⟨⟨g2, rfl, a1, a2⟩, q⟩
        refine ⟨g2, a1, a2, fun κ => q κ _ fun κ2 => ?_⟩
        have rg := MLd_S r a2
        simp (disch := first | assumption | omega) only [Mo_cutNow_19, lit_0, lit_1, lit_2, lit_3, lit_4, lit_5, lit_6, lit_7, lit_8, lit_9, lit_10, lit_11, lit_12, lit_16, lit_17, lit_20, lit_31, lit_32, lit_40, lit_47, lit_48, lit_49, lit_57, lit_58, lit_60, lit_64, lit_68, lit_80, lit_97, lit_99, lit_100, lit_101, lit_104, lit_108, lit_109, lit_115, lit_117, lit_121, lit_127, lit_128, lit_140, lit_1000, lit_1000000, lit_1048576, bI_ret, bV_ret, bL_ret, bH_t, cond_true, z_0, z_1, retZ_tf, z_tf0, z_tf1, Decidable.not_not, Classical.not_not, nI_add, nI_clamp, n_le, n_lt, n_eq, nI_or, nI_and, z_sdf, of_nI, M_n rg, Nat.le_refl, if_true]
        rfl
    have rg := MLd_S r p2
    refine ⟨(nI (sumN (i + 1) (fun x => cnt (v 0 0) (cofB v x))), nI (i + 1), g2), ⟨g2, rfl, q1, q2⟩, fun k κ => ?_⟩
    simp (disch := first | assumption | omega) only [Mo_cutNow_9, lit_0, lit_1, lit_2, lit_3, lit_4, lit_5, lit_6, lit_7, lit_8, lit_9, lit_10, lit_11, lit_12, lit_16, lit_17, lit_20, lit_31, lit_32, lit_40, lit_47, lit_48, lit_49, lit_57, lit_58, lit_60, lit_64, lit_68, lit_80, lit_97, lit_99, lit_100, lit_101, lit_104, lit_108, lit_109, lit_115, lit_117, lit_121, lit_127, lit_128, lit_140, lit_1000, lit_1000000, lit_1048576, bI_ret, bV_ret, bL_ret, bH_t, cond_true, z_0, z_1, retZ_tf, z_tf0, z_tf1, Decidable.not_not, Classical.not_not, nI_add, nI_clamp, n_le, n_lt, n_eq, nI_or, nI_and, z_sdf, of_nI, M_n rg, q3]
    rw [if_neg (by omega)]
  · rintro s ⟨⟨g, rfl, p1, p2⟩, q⟩
    have rg := MLd_S r p2
    refine ⟨g, q () _ fun κ => ?_, p1, p2⟩
    simp (disch := first | assumption | omega) only [Mo_cutNow_9, lit_0, lit_1, lit_2, lit_3, lit_4, lit_5, lit_6, lit_7, lit_8, lit_9, lit_10, lit_11, lit_12, lit_16, lit_17, lit_20, lit_31, lit_32, lit_40, lit_47, lit_48, lit_49, lit_57, lit_58, lit_60, lit_64, lit_68, lit_80, lit_97, lit_99, lit_100, lit_101, lit_104, lit_108, lit_109, lit_115, lit_117, lit_121, lit_127, lit_128, lit_140, lit_1000, lit_1000000, lit_1048576, bI_ret, bV_ret, bL_ret, bH_t, cond_true, z_0, z_1, retZ_tf, z_tf0, z_tf1, Decidable.not_not, Classical.not_not, nI_add, nI_clamp, n_le, n_lt, n_eq, nI_or, nI_and, z_sdf, of_nI, M_n rg, Nat.le_refl, if_true]
    rfl
theorem m_cutIf (w : WF v) (r : MLd v h) {x t : Nat} (hx : x < v 0 0) (ht : t < 5) : ∃ h', F_Mo_cutIf (nI x) (nI t) h = retI (nI (cutP (learns v x t))) h' ∧ frS h h' := by
  have hn := w.1
  have hlt := learns_lt w hx ht
  unfold F_Mo_cutIf
  simp (disch := first | assumption | omega) only [oA_185, oA_186, oA_187, oA_188, oA_180, oA_183, oA_179, lit_0, lit_1, lit_2, lit_3, lit_4, lit_5, lit_6, lit_7, lit_8, lit_9, lit_10, lit_11, lit_12, lit_16, lit_17, lit_20, lit_31, lit_32, lit_40, lit_47, lit_48, lit_49, lit_57, lit_58, lit_60, lit_64, lit_68, lit_80, lit_97, lit_99, lit_100, lit_101, lit_104, lit_108, lit_109, lit_115, lit_117, lit_121, lit_127, lit_128, lit_140, lit_1000, lit_1000000, lit_1048576, bI_ret, bV_ret, bL_ret, bH_t, cond_true, z_0, z_1, retZ_tf, z_tf0, z_tf1, Decidable.not_not, Classical.not_not, nI_add, nI_clamp, n_le, n_lt, n_eq, nI_or, nI_and, z_sdf, of_nI, M_w r, z_bit]
  have w' : WF (learns v x t) := wf_vs2 w hlt
  have r' : MLd (learns v x t) (hs h 186 x (nI (v 2 x ||| 2 ^ t))) := MLd_vs2 r
  obtain ⟨g, k1, k2, k3⟩ := m_cutNow w' r'
  refine ⟨hs g 186 x (nI (v 2 x)), ?_, fun a j n => ?_⟩
  · rw [k1, bI_ret]
  · by_cases e : a = 186 ∧ j = x
    · rw [e.1, e.2, hg_hs_eq, M_w r hx]
    · rw [hg_hs2, if_neg e, k3 a j n, hg_hs2, if_neg e]
theorem allP_le (w : WF v) : allP v ≤ 49 := by
  have hn := w.1
  have := sumN_le (n := v 0 0) (b := 7) (f := fun x => cnt (v 0 0) (comB v x)) (fun i _ => Nat.le_trans (cnt_le _ _) hn)
  have h2 : v 0 0 * 7 ≤ 7 * 7 := Nat.mul_le_mul_right 7 hn
  unfold allP
  omega
theorem sumN_mono {n : Nat} {f g : Nat → Nat} (q : ∀ i, i < n → f i ≤ g i) : sumN n f ≤ sumN n g := by
  induction n with
  | zero => exact Nat.le_refl _
  | succ n ih =>
    have h1 := ih (fun i hi => q i (by omega))
    have h2 := q n (Nat.lt_succ_self n)
    rw [sumN_s, sumN_s]
    omega
theorem cutP_le : cutP v ≤ allP v := sumN_mono fun i _ => cnt_mono fun j _ q => by
  unfold cofB at q
  rw [Bool.and_eq_true] at q
  exact q.1
end MP
