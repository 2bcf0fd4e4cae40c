/-! OPERATION: send, the answers -/
theorem wrt_dec : ∀ c, c < 32 → ∀ T, T < 32 → ((c &&& T = T) ↔ sdf T c = 0) := by decide +kernel
theorem c_start {q x y T : Nat} {hr : Int32} {g : Hp} (E : isE q) : F_Le_start q (nI x) (nI y) (nI T) hr g = retV (hs (hs (hs (hs (hs g (q + 1) 0 (nI x)) (q + 2) 0 hr) q 2 (nI 1)) q 3 (nI y)) q 4 (nI T)) := by
  unfold F_Le_start
  simp (disch := first | assumption | omega) only [lit_0, lit_1, lit_2, lit_3, lit_4, lit_5, lit_6, lit_7, lit_8, lit_9, lit_10, lit_11, lit_12, lit_16, lit_17, lit_20, lit_31, lit_32, lit_40, lit_47, lit_48, lit_49, lit_57, lit_58, lit_60, lit_64, lit_68, lit_80, lit_97, lit_99, lit_100, lit_101, lit_104, lit_108, lit_109, lit_115, lit_117, lit_121, lit_127, lit_128, lit_140, lit_1000, lit_1000000, lit_1048576, bI_ret, bV_ret, bL_ret, bH_t, cond_true, z_0, z_1, retZ_tf, z_tf0, z_tf1, Decidable.not_not, Classical.not_not, nI_add, nI_clamp, n_le, n_lt, n_eq, nI_or, nI_and, z_sdf, of_nI, le_f0 E, le_f1 E, le_f2 E, le_f3 E, le_f4 E, le_r0 E, le_r1 E, le_a1 E (show 0 < 7 by decide), le_a2 E (show 0 < 7 by decide)]
theorem g_send (x y T : Int32) {h : Hp} (I : Inv h) : Ok (F_Bp_send x y T) (F_Mo_send x y T) h := by
  obtain ⟨-, -, v, w, r, m, ck⟩ := id I
  have hn := w.1
  have h4 := wf_l w
  by_cases hx : inR x (v 0 0) ∧ inR y (v 0 0) ∧ x ≠ y
  · by_cases hT : inV T 1 32
    · obtain ⟨a, b, ha, hb, hab, rfl, rfl⟩ := two_ex hn hx
      obtain ⟨T, hT1, hT2, rfl⟩ := inV_ex (by decide) hT
      have hwa := wf_w w ha
      have hwb := wf_w w hb
      have hand : v 2 a &&& v 2 b < 32 := Nat.lt_of_le_of_lt Nat.and_le_left hwa
      have hand2 : v 2 a &&& v 2 b &&& T < 32 := Nat.lt_of_le_of_lt Nat.and_le_left hand
      have hwd := wrt_dec _ hand T hT2
      have hwr : wrt v a b T = true ↔ v 2 a &&& v 2 b &&& T = T := by
        unfold wrt
        rw [beq_iff_eq]
        exact hwd.symm
      by_cases q : v 2 a &&& v 2 b &&& T = T
      · have qt := hwr.mpr q
        by_cases k4 : v 8 0 < 4
        · have w' := wf_snd (x := a) (y := b) (T := T) w k4 ha hb hT1 hT2
          have r' := CLd_snd (x := a) (y := b) (T := T) r k4
          have m1 : MLd v (sndC h (v 8 0) a b T (v 7 0)) := MLd_ag m fun p j f => sndC_e p j (by unfold fpM at f; omega) (by unfold fpM at f; omega) (by unfold fpM at f; omega) (by unfold fpM at f; omega)
          have m' := MLd_snd (x := a) (y := b) (T := T) w m1 k4
          have fr : ∀ p j, ¬ fpL p j → hg (sndM (sndC h (v 8 0) a b T (v 7 0)) (v 8 0) a b T (v 7 0)) p j = hg h p j := fun p j n1 => by
            rw [sndM_e p j (fun z => n1 (by unfold fpL; omega)) (fun z => n1 (by unfold fpL; omega)), sndC_e p j (fun z => n1 (by unfold fpL; omega)) (fun z => n1 (by unfold fpL; omega)) (fun z => n1 (by unfold fpL; omega)) (fun z => n1 (by unfold fpL; omega))]
          have E := isE_20 k4
          have e0 : snd v a b T 0 0 = v 0 0 := sd_lt (by decide)
          have e8 : snd v a b T 8 0 = v 8 0 + 1 := sd_8
          refine ⟨(nI (v 8 0)), sndC h (v 8 0) a b T (v 7 0), sndM (sndC h (v 8 0) a b T (v 7 0)) (v 8 0) a b T (v 7 0), ?_, ?_, Inv_L I (v := v) (CA_L I fun p j _ n1 => fr p j n1) w' (CLd_ag r' (fun p j h1 h2 => sndM_e p j (by omega) (by omega)) (by omega)) m' ck e0 (fun z _ => sd_lt (by decide)) fun p j _ _ n1 => fr p j n1⟩
          · simp (disch := first | assumption | omega) only [F_Bp_send, lit_0, lit_1, lit_2, lit_3, lit_4, lit_5, lit_6, lit_7, lit_8, lit_9, lit_10, lit_11, lit_12, lit_16, lit_17, lit_20, lit_31, lit_32, lit_40, lit_47, lit_48, lit_49, lit_57, lit_58, lit_60, lit_64, lit_68, lit_80, lit_97, lit_99, lit_100, lit_101, lit_104, lit_108, lit_109, lit_115, lit_117, lit_121, lit_127, lit_128, lit_140, lit_1000, lit_1000000, lit_1048576, bI_ret, bV_ret, bL_ret, bH_t, cond_true, z_0, z_1, retZ_tf, z_tf0, z_tf1, Decidable.not_not, Classical.not_not, nI_add, nI_clamp, n_le, n_lt, n_eq, nI_or, nI_and, z_sdf, of_nI, ite_not, m_i3, m_i99, m_i7, m_i1, m_i20, m_i2, m_i8, m_i15, m_i60, oA_18, oA_65, oA_66, oA_67, oA_69, oA_4, oA_5, c_noPair w r, c_noTongues, if_pos hx, if_pos hT, L3_w r, L3_l r, L3_h r, oR_19, sR_19, le_O E, c_start E, hg_hs_a, hg_hs_k, hg_hs_eq, nI_sb, Nat.add_sub_cancel]
            rw [if_pos q, if_pos k4]
            rfl
          · have o0 := oA_188' k4 (show 0 < 17 by decide)
            have o1 := oA_188' k4 (show 1 < 17 by decide)
            have o2 := oA_188' k4 (show 2 < 17 by decide)
            have o3 := oA_188' k4 (show 3 < 17 by decide)
            have o10 := oA_188' k4 (show 10 < 17 by decide)
            simp (disch := first | assumption | omega) only [F_Mo_send, lit_0, lit_1, lit_2, lit_3, lit_4, lit_5, lit_6, lit_7, lit_8, lit_9, lit_10, lit_11, lit_12, lit_16, lit_17, lit_20, lit_31, lit_32, lit_40, lit_47, lit_48, lit_49, lit_57, lit_58, lit_60, lit_64, lit_68, lit_80, lit_97, lit_99, lit_100, lit_101, lit_104, lit_108, lit_109, lit_115, lit_117, lit_121, lit_127, lit_128, lit_140, lit_1000, lit_1000000, lit_1048576, bI_ret, bV_ret, bL_ret, bH_t, cond_true, z_0, z_1, retZ_tf, z_tf0, z_tf1, Decidable.not_not, Classical.not_not, nI_add, nI_clamp, n_le, n_lt, n_eq, nI_or, nI_and, z_sdf, of_nI, ite_not, m_i3, m_i99, m_i7, m_i1, m_i20, m_i2, m_i8, m_i15, m_i60, m_areTwo w m1, m_isSet, if_pos hx, if_pos hT, m_writes w m1, if_pos qt, M_l m1, M_h m1, nI_mul, o0, o1, o2, o3, o10, hg_hs_a, hg_hs_k, hg_hs_eq, nI_sb, Nat.add_sub_cancel]
            rw [if_neg (by omega)]
            rfl
        · have k4' : v 8 0 = 4 := by omega
          refine fin_q I (h1 := h) (h2 := h) (x := -nI 2) ?_ (frS_rf h) ?_ (frS_rf h)
          · simp (disch := first | assumption | omega) only [F_Bp_send, lit_0, lit_1, lit_2, lit_3, lit_4, lit_5, lit_6, lit_7, lit_8, lit_9, lit_10, lit_11, lit_12, lit_16, lit_17, lit_20, lit_31, lit_32, lit_40, lit_47, lit_48, lit_49, lit_57, lit_58, lit_60, lit_64, lit_68, lit_80, lit_97, lit_99, lit_100, lit_101, lit_104, lit_108, lit_109, lit_115, lit_117, lit_121, lit_127, lit_128, lit_140, lit_1000, lit_1000000, lit_1048576, bI_ret, bV_ret, bL_ret, bH_t, cond_true, z_0, z_1, retZ_tf, z_tf0, z_tf1, Decidable.not_not, Classical.not_not, nI_add, nI_clamp, n_le, n_lt, n_eq, nI_or, nI_and, z_sdf, of_nI, ite_not, m_i3, m_i99, m_i7, m_i1, m_i20, m_i2, m_i8, m_i15, m_i60, oA_18, oA_65, oA_66, oA_67, oA_69, oA_4, oA_5, c_noPair w r, c_noTongues, if_pos hx, if_pos hT, L3_w r, L3_l r]
            rw [if_pos q, if_neg k4]
          · simp (disch := first | assumption | omega) only [F_Mo_send, lit_0, lit_1, lit_2, lit_3, lit_4, lit_5, lit_6, lit_7, lit_8, lit_9, lit_10, lit_11, lit_12, lit_16, lit_17, lit_20, lit_31, lit_32, lit_40, lit_47, lit_48, lit_49, lit_57, lit_58, lit_60, lit_64, lit_68, lit_80, lit_97, lit_99, lit_100, lit_101, lit_104, lit_108, lit_109, lit_115, lit_117, lit_121, lit_127, lit_128, lit_140, lit_1000, lit_1000000, lit_1048576, bI_ret, bV_ret, bL_ret, bH_t, cond_true, z_0, z_1, retZ_tf, z_tf0, z_tf1, Decidable.not_not, Classical.not_not, nI_add, nI_clamp, n_le, n_lt, n_eq, nI_or, nI_and, z_sdf, of_nI, ite_not, m_i3, m_i99, m_i7, m_i1, m_i20, m_i2, m_i8, m_i15, m_i60, m_areTwo w m, m_isSet, if_pos hx, if_pos hT, m_writes w m, if_pos qt, M_l m]
            rw [if_pos k4']
      · have qt : ¬ wrt v a b T = true := fun z => q (hwr.mp z)
        refine fin_q I (h1 := h) (h2 := h) (x := -nI 4) ?_ (frS_rf h) ?_ (frS_rf h)
        · simp (disch := first | assumption | omega) only [F_Bp_send, lit_0, lit_1, lit_2, lit_3, lit_4, lit_5, lit_6, lit_7, lit_8, lit_9, lit_10, lit_11, lit_12, lit_16, lit_17, lit_20, lit_31, lit_32, lit_40, lit_47, lit_48, lit_49, lit_57, lit_58, lit_60, lit_64, lit_68, lit_80, lit_97, lit_99, lit_100, lit_101, lit_104, lit_108, lit_109, lit_115, lit_117, lit_121, lit_127, lit_128, lit_140, lit_1000, lit_1000000, lit_1048576, bI_ret, bV_ret, bL_ret, bH_t, cond_true, z_0, z_1, retZ_tf, z_tf0, z_tf1, Decidable.not_not, Classical.not_not, nI_add, nI_clamp, n_le, n_lt, n_eq, nI_or, nI_and, z_sdf, of_nI, ite_not, m_i3, m_i99, m_i7, m_i1, m_i20, m_i2, m_i8, m_i15, m_i60, oA_18, oA_65, oA_66, oA_67, oA_69, oA_4, oA_5, c_noPair w r, c_noTongues, if_pos hx, if_pos hT, L3_w r, L3_l r]
          rw [if_neg q]
        · simp (disch := first | assumption | omega) only [F_Mo_send, lit_0, lit_1, lit_2, lit_3, lit_4, lit_5, lit_6, lit_7, lit_8, lit_9, lit_10, lit_11, lit_12, lit_16, lit_17, lit_20, lit_31, lit_32, lit_40, lit_47, lit_48, lit_49, lit_57, lit_58, lit_60, lit_64, lit_68, lit_80, lit_97, lit_99, lit_100, lit_101, lit_104, lit_108, lit_109, lit_115, lit_117, lit_121, lit_127, lit_128, lit_140, lit_1000, lit_1000000, lit_1048576, bI_ret, bV_ret, bL_ret, bH_t, cond_true, z_0, z_1, retZ_tf, z_tf0, z_tf1, Decidable.not_not, Classical.not_not, nI_add, nI_clamp, n_le, n_lt, n_eq, nI_or, nI_and, z_sdf, of_nI, ite_not, m_i3, m_i99, m_i7, m_i1, m_i20, m_i2, m_i8, m_i15, m_i60, m_areTwo w m, m_isSet, if_pos hx, if_pos hT, m_writes w m, if_neg qt]
    · refine fin_q I (h1 := h) (h2 := h) (x := -nI 1) ?_ (frS_rf h) ?_ (frS_rf h)
      · simp (disch := first | assumption | omega) only [F_Bp_send, lit_0, lit_1, lit_2, lit_3, lit_4, lit_5, lit_6, lit_7, lit_8, lit_9, lit_10, lit_11, lit_12, lit_16, lit_17, lit_20, lit_31, lit_32, lit_40, lit_47, lit_48, lit_49, lit_57, lit_58, lit_60, lit_64, lit_68, lit_80, lit_97, lit_99, lit_100, lit_101, lit_104, lit_108, lit_109, lit_115, lit_117, lit_121, lit_127, lit_128, lit_140, lit_1000, lit_1000000, lit_1048576, bI_ret, bV_ret, bL_ret, bH_t, cond_true, z_0, z_1, retZ_tf, z_tf0, z_tf1, Decidable.not_not, Classical.not_not, nI_add, nI_clamp, n_le, n_lt, n_eq, nI_or, nI_and, z_sdf, of_nI, ite_not, m_i3, m_i99, m_i7, m_i1, m_i20, m_i2, m_i8, m_i15, m_i60, c_noPair w r, c_noTongues, if_pos hx, if_neg hT]
      · simp (disch := first | assumption | omega) only [F_Mo_send, lit_0, lit_1, lit_2, lit_3, lit_4, lit_5, lit_6, lit_7, lit_8, lit_9, lit_10, lit_11, lit_12, lit_16, lit_17, lit_20, lit_31, lit_32, lit_40, lit_47, lit_48, lit_49, lit_57, lit_58, lit_60, lit_64, lit_68, lit_80, lit_97, lit_99, lit_100, lit_101, lit_104, lit_108, lit_109, lit_115, lit_117, lit_121, lit_127, lit_128, lit_140, lit_1000, lit_1000000, lit_1048576, bI_ret, bV_ret, bL_ret, bH_t, cond_true, z_0, z_1, retZ_tf, z_tf0, z_tf1, Decidable.not_not, Classical.not_not, nI_add, nI_clamp, n_le, n_lt, n_eq, nI_or, nI_and, z_sdf, of_nI, ite_not, m_i3, m_i99, m_i7, m_i1, m_i20, m_i2, m_i8, m_i15, m_i60, m_areTwo w m, m_isSet, if_pos hx, if_neg hT]
  · refine fin_q I (h1 := h) (h2 := h) (x := -nI 1) ?_ (frS_rf h) ?_ (frS_rf h)
    · simp (disch := first | assumption | omega) only [F_Bp_send, lit_0, lit_1, lit_2, lit_3, lit_4, lit_5, lit_6, lit_7, lit_8, lit_9, lit_10, lit_11, lit_12, lit_16, lit_17, lit_20, lit_31, lit_32, lit_40, lit_47, lit_48, lit_49, lit_57, lit_58, lit_60, lit_64, lit_68, lit_80, lit_97, lit_99, lit_100, lit_101, lit_104, lit_108, lit_109, lit_115, lit_117, lit_121, lit_127, lit_128, lit_140, lit_1000, lit_1000000, lit_1048576, bI_ret, bV_ret, bL_ret, bH_t, cond_true, z_0, z_1, retZ_tf, z_tf0, z_tf1, Decidable.not_not, Classical.not_not, nI_add, nI_clamp, n_le, n_lt, n_eq, nI_or, nI_and, z_sdf, of_nI, ite_not, m_i3, m_i99, m_i7, m_i1, m_i20, m_i2, m_i8, m_i15, m_i60, c_noPair w r, if_neg hx]
    · simp (disch := first | assumption | omega) only [F_Mo_send, lit_0, lit_1, lit_2, lit_3, lit_4, lit_5, lit_6, lit_7, lit_8, lit_9, lit_10, lit_11, lit_12, lit_16, lit_17, lit_20, lit_31, lit_32, lit_40, lit_47, lit_48, lit_49, lit_57, lit_58, lit_60, lit_64, lit_68, lit_80, lit_97, lit_99, lit_100, lit_101, lit_104, lit_108, lit_109, lit_115, lit_117, lit_121, lit_127, lit_128, lit_140, lit_1000, lit_1000000, lit_1048576, bI_ret, bV_ret, bL_ret, bH_t, cond_true, z_0, z_1, retZ_tf, z_tf0, z_tf1, Decidable.not_not, Classical.not_not, nI_add, nI_clamp, n_le, n_lt, n_eq, nI_or, nI_and, z_sdf, of_nI, ite_not, m_i3, m_i99, m_i7, m_i1, m_i20, m_i2, m_i8, m_i15, m_i60, m_areTwo w m, if_neg hx]
