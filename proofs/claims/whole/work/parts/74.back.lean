/-! OPERATION: back -/
section BACK
variable {v : LV} {h : Hp} {k a : Nat}
theorem wf_vs11 (w : WF v) (h1 : 1 ≤ a) (h2 : a ≤ v 11 k) : WF (vs v 11 k a) := by
  obtain ⟨a1, a2, a3, a4, a5, a6, a7⟩ := w
  refine ⟨a1, a2, a3, a4, a5, a6, fun l hl => ?_⟩
  have e1 : ∀ k' j, vs v 11 k a (20 + k') j = v (20 + k') j := fun k' j => vs_ne (by omega)
  have e2 : ∀ k' j, vs v 11 k a (30 + k') j = v (30 + k') j := fun k' j => vs_ne (by omega)
  obtain ⟨b1, b2, b3, b4, b5, b6, b7⟩ := a7 l hl
  simp only [e1, e2]
  by_cases e : l = k
  · subst e
    rw [vs_eq]
    exact ⟨b1, b2, b3, h1, Nat.le_trans h2 b5, fun j hj => b6 j (by omega), fun i j hij hj => b7 i j hij (by omega)⟩
  · have e5 : vs v 11 k a 11 l = v 11 l := vs_k e
    rw [e5]
    exact ⟨b1, b2, b3, b4, b5, b6, b7⟩
theorem CLd_vs11 (r : CLd 3 v h) (h4 : v 8 0 ≤ 4) (h2 : a ≤ v 11 k) : CLd 3 (vs v 11 k a) (hs h (20 + 3 * k) 2 (nI a)) := by
  have e : ∀ b j, ¬ (b = 20 + 3 * k ∧ j = 2) → hg (hs h (20 + 3 * k) 2 (nI a)) b j = hg h b j := fun b j q => by rw [hg_hs2, if_neg q]
  obtain ⟨⟨a1, a2, a3, a4⟩, b, c, d, e5, f⟩ := r
  refine ⟨⟨?_, ?_, ?_, ?_⟩, fun y hy => ⟨?_, ?_⟩, fun k hk => ⟨?_, ?_, ?_⟩, fun t y ht hy => ?_, fun y hy => ?_, fun l hl => ?_⟩
  · rw [e _ _ (by omega)]; exact a1
  · rw [e _ _ (by omega)]; exact a2
  · rw [e _ _ (by omega)]; exact a3
  · rw [e _ _ (by omega)]; exact a4
  · rw [e _ _ (by omega)]; exact (b y hy).1
  · rw [e _ _ (by omega)]; exact (b y hy).2
  · rw [e _ _ (by omega)]; exact (c k hk).1
  · rw [e _ _ (by omega)]; exact (c k hk).2.1
  · rw [e _ _ (by omega)]; exact (c k hk).2.2
  · rw [e _ _ (by omega)]; exact d t y ht hy
  · rw [e _ _ (by omega)]; exact e5 y hy
  · have hl : l < v 8 0 := hl
    obtain ⟨g1, g2, g3, g4⟩ := f l hl
    have hle : vs v 11 k a 11 l ≤ v 11 l := by
      by_cases z : l = k
      · subst z; rw [vs_eq]; exact h2
      · rw [vs_k z]; exact Nat.le_refl _
    refine ⟨?_, ?_, ?_, fun j hj => ⟨?_, ?_⟩⟩
    · by_cases z : l = k
      · subst z
        rw [vs_eq]
        exact hg_hs_eq h (20 + 3 * l) 2 (nI a)
      · rw [vs_k z, e _ _ (by omega)]; exact g1
    · rw [e _ _ (by omega)]; exact g2
    · rw [e _ _ (by omega)]; exact g3
    · rw [e _ _ (by omega)]
      exact (g4 j (by omega)).1.trans (by rw [vs_ne (by omega)])
    · rw [e _ _ (by omega)]
      exact (g4 j (by omega)).2.trans (by rw [vs_ne (by omega)])
theorem MLd_vs11 (r : MLd v h) (h2 : a ≤ v 11 k) (w : WF v) (hk : k < v 8 0) : MLd (vs v 11 k a) (hs h 188 (17 * k + 2) (nI a)) := by
  have e : ∀ b j, ¬ (b = 188 ∧ j = 17 * k + 2) → hg (hs h 188 (17 * k + 2) (nI a)) b j = hg h b j := fun b j q => by rw [hg_hs2, if_neg q]
  obtain ⟨⟨a1, a2, a3, a4⟩, b, c, f⟩ := r
  refine ⟨⟨?_, ?_, ?_, ?_⟩, fun y hy => ⟨?_, ?_⟩, fun k hk => ⟨?_, ?_, ?_⟩, fun l hl => ?_⟩
  · rw [e _ _ (by omega)]; exact a1
  · rw [e _ _ (by omega)]; exact a2
  · rw [e _ _ (by omega)]; exact a3
  · rw [e _ _ (by omega)]; exact a4
  · rw [e _ _ (by omega)]; exact (b y hy).1
  · rw [e _ _ (by omega)]; exact (b y hy).2
  · rw [e _ _ (by omega)]; exact (c k hk).1
  · rw [e _ _ (by omega)]; exact (c k hk).2.1
  · rw [e _ _ (by omega)]; exact (c k hk).2.2
  · have hl : l < v 8 0 := hl
    obtain ⟨g1, g2, g3, g4⟩ := f l hl
    have h7 := wf_l7 w hl
    have hle : vs v 11 k a 11 l ≤ v 11 l := by
      by_cases z : l = k
      · subst z; rw [vs_eq]; exact h2
      · rw [vs_k z]; exact Nat.le_refl _
    refine ⟨?_, ?_, ?_, fun j hj => ⟨?_, ?_⟩⟩
    · rw [e _ _ (by omega)]; exact g1
    · rw [e _ _ (by omega)]; exact g2
    · by_cases z : l = k
      · subst z
        rw [vs_eq, hg_hs_eq]
      · rw [vs_k z, e _ _ (by omega)]; exact g3
    · rw [e _ _ (by omega)]
      exact (g4 j (by omega)).1.trans (by rw [vs_ne (by omega)])
    · rw [e _ _ (by omega)]
      exact (g4 j (by omega)).2.trans (by rw [vs_ne (by omega)])
end BACK
theorem oA_188' {k j : Nat} (h1 : k < 4) (h2 : j < 17) : okA 188 100 (nI (17 * k + j)) = true := okA_t 68 (by decide +kernel) (by decide +kernel) (by omega) (by decide)
theorem g_back (l : Int32) {h : Hp} (I : Inv h) : Ok (F_Bp_back l) (F_Mo_back l) h := by
  obtain ⟨-, -, v, w, r, m, ck⟩ := id I
  have h4 := wf_l w
  rcases x_neg (x := l) with hl | ⟨k, hk, rfl⟩
  · refine fin_q I (h1 := h) (h2 := h) (x := -nI 1) ?_ (frS_rf h) (asked1 (m_askLet_b hl)) (frS_rf h)
    simp (disch := first | assumption | omega) only [F_Bp_back, lit_0, lit_1, lit_2, lit_3, lit_4, lit_5, lit_6, lit_7, lit_8, lit_9, lit_10, lit_11, lit_12, lit_16, lit_17, lit_20, lit_31, lit_32, lit_40, lit_47, lit_48, lit_49, lit_57, lit_58, lit_60, lit_64, lit_68, lit_80, lit_97, lit_99, lit_100, lit_101, lit_104, lit_108, lit_109, lit_115, lit_117, lit_121, lit_127, lit_128, lit_140, lit_1000, lit_1000000, lit_1048576, bI_ret, bV_ret, bL_ret, bH_t, cond_true, z_0, z_1, retZ_tf, z_tf0, z_tf1, Decidable.not_not, Classical.not_not, nI_add, nI_clamp, n_le, n_lt, n_eq, nI_or, nI_and, z_sdf, of_nI, ite_not, m_i3, m_i99, m_i7, m_i1, m_i20, m_i2, m_i8, m_i15, m_i60, le0_f hl, if_false]
  · by_cases z : k < v 8 0
    · have h7 := wf_l7 w z
      have h1 := wf_l1 w z
      have E := le_3 w r z
      by_cases q : 2 ≤ v 11 k
      · have w' : WF (vs v 11 k (v 11 k - 1)) := wf_vs11 w (by omega) (by omega)
        have r' := CLd_vs11 (k := k) (a := v 11 k - 1) r h4 (by omega)
        have m1 : MLd v (hs h (20 + 3 * k) 2 (nI (v 11 k - 1))) := MLd_ag m fun p j f => hg_hs_a (by unfold fpM at f; omega)
        have m' := MLd_vs11 (a := v 11 k - 1) m1 (by omega) w z
        have fr : ∀ p j, ¬ fpL p j → hg (hs (hs h (20 + 3 * k) 2 (nI (v 11 k - 1))) 188 (17 * k + 2) (nI (v 11 k - 1))) p j = hg h p j := fun p j n1 => by
          rw [hg_hs2, if_neg (fun z => n1 (by unfold fpL; omega)), hg_hs2, if_neg (fun z => n1 (by unfold fpL; omega))]
        refine ⟨(nI (hol (vs v 11 k (v 11 k - 1)) k)), hs h (20 + 3 * k) 2 (nI (v 11 k - 1)), hs (hs h (20 + 3 * k) 2 (nI (v 11 k - 1))) 188 (17 * k + 2) (nI (v 11 k - 1)), ?_, (asked0 (by decide) (m_askLet_t m1 w z)).trans ?_, Inv_L I (v := v) (CA_L I fun p j _ n1 => fr p j n1) w' (CLd_ag r' (fun p j h1 h2 => hg_hs_a (by omega)) h4) m' ck rfl (fun _ _ => rfl) fun p j _ _ n1 => fr p j n1⟩
        · have E2 := le_3 (k := k) w' r' z
          simp (disch := first | assumption | omega) only [F_Bp_back, lit_0, lit_1, lit_2, lit_3, lit_4, lit_5, lit_6, lit_7, lit_8, lit_9, lit_10, lit_11, lit_12, lit_16, lit_17, lit_20, lit_31, lit_32, lit_40, lit_47, lit_48, lit_49, lit_57, lit_58, lit_60, lit_64, lit_68, lit_80, lit_97, lit_99, lit_100, lit_101, lit_104, lit_108, lit_109, lit_115, lit_117, lit_121, lit_127, lit_128, lit_140, lit_1000, lit_1000000, lit_1048576, bI_ret, bV_ret, bL_ret, bH_t, cond_true, z_0, z_1, retZ_tf, z_tf0, z_tf1, Decidable.not_not, Classical.not_not, nI_add, nI_clamp, n_le, n_lt, n_eq, nI_or, nI_and, z_sdf, of_nI, ite_not, m_i3, m_i99, m_i7, m_i1, m_i20, m_i2, m_i8, m_i15, m_i60, L3_l r, oR_19, sR_19, le_O E.1, le_f2 E.1, E_len E.2.1, nI_sb, c_holder E2]
          rw [if_pos (Nat.zero_le _), if_pos z, if_pos q]
          rfl
        · have hL : hg (hs h (20 + 3 * k) 2 (nI (v 11 k - 1))) 188 (17 * k + 2) = nI (v 11 k) := M_len m1 z
          have q1 : (v 11 k = 1) = False := propext ⟨fun y => by omega, fun y => y.elim⟩
          simp (disch := first | assumption | omega) only [lit_0, lit_1, lit_2, lit_3, lit_4, lit_5, lit_6, lit_7, lit_8, lit_9, lit_10, lit_11, lit_12, lit_16, lit_17, lit_20, lit_31, lit_32, lit_40, lit_47, lit_48, lit_49, lit_57, lit_58, lit_60, lit_64, lit_68, lit_80, lit_97, lit_99, lit_100, lit_101, lit_104, lit_108, lit_109, lit_115, lit_117, lit_121, lit_127, lit_128, lit_140, lit_1000, lit_1000000, lit_1048576, bI_ret, bV_ret, bL_ret, bH_t, cond_true, z_0, z_1, retZ_tf, z_tf0, z_tf1, Decidable.not_not, Classical.not_not, nI_add, nI_clamp, n_le, n_lt, n_eq, nI_or, nI_and, z_sdf, of_nI, ite_not, m_i3, m_i99, m_i7, m_i1, m_i20, m_i2, m_i8, m_i15, m_i60, m_len w m1 z, nI_mul, oA_188' (show k < 4 by omega) (show 2 < 17 by omega), hL, nI_sb, q1, if_false, m_holderOf w' m' (show k < vs v 11 k (v 11 k - 1) 8 0 from z)]
          rfl
      · have q1 : v 11 k = 1 := by omega
        refine fin_q I (h1 := h) (h2 := h) (x := -nI 4) ?_ (frS_rf h) ((asked0 (by decide) (m_askLet_t m w z)).trans ?_) (frS_rf h)
        · simp (disch := first | assumption | omega) only [F_Bp_back, lit_0, lit_1, lit_2, lit_3, lit_4, lit_5, lit_6, lit_7, lit_8, lit_9, lit_10, lit_11, lit_12, lit_16, lit_17, lit_20, lit_31, lit_32, lit_40, lit_47, lit_48, lit_49, lit_57, lit_58, lit_60, lit_64, lit_68, lit_80, lit_97, lit_99, lit_100, lit_101, lit_104, lit_108, lit_109, lit_115, lit_117, lit_121, lit_127, lit_128, lit_140, lit_1000, lit_1000000, lit_1048576, bI_ret, bV_ret, bL_ret, bH_t, cond_true, z_0, z_1, retZ_tf, z_tf0, z_tf1, Decidable.not_not, Classical.not_not, nI_add, nI_clamp, n_le, n_lt, n_eq, nI_or, nI_and, z_sdf, of_nI, ite_not, m_i3, m_i99, m_i7, m_i1, m_i20, m_i2, m_i8, m_i15, m_i60, L3_l r, oR_19, sR_19, le_O E.1, le_f2 E.1, E_len E.2.1]
          rw [if_pos (Nat.zero_le _), if_pos z, if_neg q]
        · simp (disch := first | assumption | omega) only [lit_0, lit_1, lit_2, lit_3, lit_4, lit_5, lit_6, lit_7, lit_8, lit_9, lit_10, lit_11, lit_12, lit_16, lit_17, lit_20, lit_31, lit_32, lit_40, lit_47, lit_48, lit_49, lit_57, lit_58, lit_60, lit_64, lit_68, lit_80, lit_97, lit_99, lit_100, lit_101, lit_104, lit_108, lit_109, lit_115, lit_117, lit_121, lit_127, lit_128, lit_140, lit_1000, lit_1000000, lit_1048576, bI_ret, bV_ret, bL_ret, bH_t, cond_true, z_0, z_1, retZ_tf, z_tf0, z_tf1, Decidable.not_not, Classical.not_not, nI_add, nI_clamp, n_le, n_lt, n_eq, nI_or, nI_and, z_sdf, of_nI, ite_not, m_i3, m_i99, m_i7, m_i1, m_i20, m_i2, m_i8, m_i15, m_i60, m_len w m z, q1, if_true]
    · refine fin_f I (k := 2) (h1 := h) (by decide) (by decide) ?_ (frS_rf h) fun g1 hg1 => asked3 (by decide) (by decide) (m_askLet_n (MLd_g1 m hg1) w hk z)
      simp (disch := first | assumption | omega) only [F_Bp_back, lit_0, lit_1, lit_2, lit_3, lit_4, lit_5, lit_6, lit_7, lit_8, lit_9, lit_10, lit_11, lit_12, lit_16, lit_17, lit_20, lit_31, lit_32, lit_40, lit_47, lit_48, lit_49, lit_57, lit_58, lit_60, lit_64, lit_68, lit_80, lit_97, lit_99, lit_100, lit_101, lit_104, lit_108, lit_109, lit_115, lit_117, lit_121, lit_127, lit_128, lit_140, lit_1000, lit_1000000, lit_1048576, bI_ret, bV_ret, bL_ret, bH_t, cond_true, z_0, z_1, retZ_tf, z_tf0, z_tf1, Decidable.not_not, Classical.not_not, nI_add, nI_clamp, n_le, n_lt, n_eq, nI_or, nI_and, z_sdf, of_nI, ite_not, m_i3, m_i99, m_i7, m_i1, m_i20, m_i2, m_i8, m_i15, m_i60, L3_l r, found_b]
      rw [if_pos (Nat.zero_le _), if_neg z]
