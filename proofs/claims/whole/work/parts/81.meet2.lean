/-! OPERATION: meet, the answers -/
theorem oA_187' {k j : Nat} (h1 : k < 16) (h2 : j < 3) : okA 187 100 (nI (3 * k + j)) = true := okA_t 48 (by decide +kernel) (by decide +kernel) (by omega) (by decide)
theorem c_addMeeting {v : LV} {h : Hp} (w : WF v) (r : CLd 3 v h) {a b t : Nat} (hm : v 3 0 < 16) (ha : a < v 0 0) (hb : b < v 0 0) (hab : a ≠ b) (ht : t < 8) : ∃ g, F_La_addMeeting 3 (nI a) (nI b) (nI t) h = retV g ∧ CLd 3 (mtg v a b t) g ∧ hg g 3 9 = nI (v 3 0 + 1) ∧ ∀ p j, ¬ (3 ≤ p ∧ p ≤ 31) → hg g p j = hg h p j := by
  have hn := w.1
  have h4 := wf_l w
  have e9 : hg h 3 9 = nI (v 3 0) := L_m r
  have q4 : mtg v a b t 4 (v 3 0) = a := mtg_4
  have q5 : mtg v a b t 5 (v 3 0) = b := mtg_5
  have q6 : mtg v a b t 6 (v 3 0) = t := mtg_6
  have T0 : TieN (mtg v a b t) (v 3 0) 3 (hs (hs (hs h 6 (v 3 0) (nI a)) 7 (v 3 0) (nI b)) 8 (v 3 0) (nI t)) := tie_mtg r fun p j h1 h2 => by
    rw [hg_hs_a (by omega), hg_hs_a (by omega), hg_hs_a (by omega)]
  obtain ⟨g, t1, t2, t3⟩ := c_tie isL_3 (by rw [q4]; omega) (by rw [q5]; omega) (by rw [q4, q5]; exact hab) (by rw [q6]; exact ht) T0
  rw [q4, q5, q6] at t1
  have f9 : hg g 3 9 = nI (v 3 0) := by
    rw [t3 _ _ (by omega), hg_hs_a (by decide), hg_hs_a (by decide), hg_hs_a (by decide)]
    exact e9
  have T1 : TieN (mtg v a b t) (v 3 0 + 1) 3 (hs g 3 9 (nI (v 3 0 + 1))) := ⟨fun s x h1 h2 => by rw [hg_hs_a (by omega)]; exact t2.1 s x h1 h2, fun x hx => by rw [hg_hs_a (by omega)]; exact t2.2 x hx⟩
  refine ⟨hs g 3 9 (nI (v 3 0 + 1)), ?_, CLd_mtg r h4 T1 (hg_hs_eq _ _ _ _) ?_ ?_ ?_ (fun p j n1 n2 n3 => ?_), hg_hs_eq _ _ _ _, fun p j n1 => ?_⟩
  · have a3 := la_a3 isL_3 hm
    have a4 := la_a4 isL_3 hm
    have a5 := la_a5 isL_3 hm
    unfold F_La_addMeeting
    simp (disch := first | assumption | omega) only [la_O isL_3, la_f2 isL_3, la_f3 isL_3, la_f4 isL_3, la_f9 isL_3, la_r2 isL_3, la_r3 isL_3, la_r4 isL_3, lit_0, lit_1, lit_2, lit_3, lit_4, lit_5, lit_6, lit_7, lit_8, lit_9, lit_10, lit_11, lit_12, lit_16, lit_17, lit_20, lit_31, lit_32, lit_40, lit_47, lit_48, lit_49, lit_57, lit_58, lit_60, lit_64, lit_68, lit_80, lit_97, lit_99, lit_100, lit_101, lit_104, lit_108, lit_109, lit_115, lit_117, lit_121, lit_127, lit_128, lit_140, lit_1000, lit_1000000, lit_1048576, bI_ret, bV_ret, bL_ret, bH_t, cond_true, z_0, z_1, retZ_tf, z_tf0, z_tf1, Decidable.not_not, Classical.not_not, nI_add, nI_clamp, n_le, n_lt, n_eq, nI_or, nI_and, z_sdf, of_nI, a3, a4, a5, e9, hg_hs_a, t1, f9]
    rw [if_neg (by omega)]
  · rw [hg_hs_a (by decide), t3 _ _ (by omega), hg_hs_a (by decide), hg_hs_a (by decide), hg_hs_eq]
  · rw [hg_hs_a (by decide), t3 _ _ (by omega), hg_hs_a (by decide), hg_hs_eq]
  · rw [hg_hs_a (by decide), t3 _ _ (by omega), hg_hs_eq]
  · rw [hg_hs2, if_neg n1, t3 _ _ (by omega), hg_hs2, if_neg (by omega), hg_hs2, if_neg (by omega), hg_hs2, if_neg (by omega)]
  · rw [hg_hs_a (by omega), t3 _ _ (by omega), hg_hs_a (by omega), hg_hs_a (by omega), hg_hs_a (by omega)]
theorem g_meet (x y t : Int32) {h : Hp} (I : Inv h) : Ok (F_Bp_meet x y t) (F_Mo_meet x y t) h := by
  obtain ⟨-, -, v, w, r, m, ck⟩ := id I
  have h4 := wf_l w
  have hm16 := wf_m w
  have hn := w.1
  have e9 : hg h 3 9 = nI (v 3 0) := L_m r
  by_cases hx : inR x (v 0 0) ∧ inR y (v 0 0) ∧ x ≠ y
  · by_cases ht : inR t 8
    · have htv : inV t 0 8 := (inV0 _ _).mpr ht
      obtain ⟨a, b, ha, hb, hab, rfl, rfl⟩ := two_ex hn hx
      obtain ⟨t, ht8, rfl⟩ := inR_ex (by decide) ht
      by_cases hm : v 3 0 < 16
      · obtain ⟨g, c1, c2, c3, c4⟩ := c_addMeeting w r hm ha hb hab ht8
        have m1 : MLd v g := MLd_ag m fun p j f => c4 p j (by unfold fpM at f; omega)
        have hM : ∃ g2, g2 = hs (hs (hs (hs g 187 (3 * v 3 0) (nI a)) 187 (3 * v 3 0 + 1) (nI b)) 187 (3 * v 3 0 + 2) (nI t)) 178 11 (nI (v 3 0 + 1)) := ⟨_, rfl⟩
        obtain ⟨g2, hg2⟩ := hM
        have m' : MLd (mtg v a b t) g2 := by
          rw [hg2]
          refine MLd_mtg m1 (hg_hs_eq _ _ _ _) ?_ ?_ ?_ fun p j n1 n2 => ?_
          · rw [hg_hs_a (by decide), hg_hs_k (by omega), hg_hs_k (by omega), hg_hs_eq]
          · rw [hg_hs_a (by decide), hg_hs_k (by omega), hg_hs_eq]
          · rw [hg_hs_a (by decide), hg_hs_eq]
          · rw [hg_hs2, if_neg n1, hg_hs2, if_neg (by omega), hg_hs2, if_neg (by omega), hg_hs2, if_neg (by omega)]
        have e2 : ∀ p j, ¬ (p = 187) → ¬ (p = 178 ∧ j = 11) → hg g2 p j = hg g p j := fun p j n1 n2 => by
          rw [hg2, hg_hs2, if_neg n2, hg_hs_a n1, hg_hs_a n1, hg_hs_a n1]
        have fr : ∀ p j, ¬ fpL p j → hg g2 p j = hg h p j := fun p j n1 => by
          rw [e2 p j (fun z => n1 (by unfold fpL; omega)) (fun z => n1 (by unfold fpL; omega)), c4 p j (fun z => n1 (by unfold fpL; omega))]
        have e0 : mtg v a b t 0 0 = v 0 0 := mtg_o (by omega)
        have e8 : mtg v a b t 8 0 = v 8 0 := mtg_o (by omega)
        refine ⟨(nI (v 3 0)), g, g2, ?_, ?_, Inv_L I (v := v) (CA_L I fun p j _ n1 => fr p j n1) (wf_mtg w hm ha hb hab ht8) (CLd_ag c2 (fun p j h1 h2 => e2 p j (by omega) (by omega)) (by omega)) m' ck e0 (fun z _ => mtg_o (by omega)) fun p j _ _ n1 => fr p j n1⟩
        · simp (disch := first | assumption | omega) only [F_Bp_meet, lit_0, lit_1, lit_2, lit_3, lit_4, lit_5, lit_6, lit_7, lit_8, lit_9, lit_10, lit_11, lit_12, lit_16, lit_17, lit_20, lit_31, lit_32, lit_40, lit_47, lit_48, lit_49, lit_57, lit_58, lit_60, lit_64, lit_68, lit_80, lit_97, lit_99, lit_100, lit_101, lit_104, lit_108, lit_109, lit_115, lit_117, lit_121, lit_127, lit_128, lit_140, lit_1000, lit_1000000, lit_1048576, bI_ret, bV_ret, bL_ret, bH_t, cond_true, z_0, z_1, retZ_tf, z_tf0, z_tf1, Decidable.not_not, Classical.not_not, nI_add, nI_clamp, n_le, n_lt, n_eq, nI_or, nI_and, z_sdf, of_nI, ite_not, m_i3, m_i99, m_i7, m_i1, m_i20, m_i2, m_i8, m_i15, m_i60, c_noPair w r, if_pos hx, e9, c1, c3, nI_sb, Nat.add_sub_cancel]
          rw [if_neg (Nat.not_lt_zero _), if_pos ht8, if_pos hm]
          rfl
        · rw [hg2]
          have o0 := oA_187' hm (show 0 < 3 by decide)
          have o1 := oA_187' hm (show 1 < 3 by decide)
          have o2 := oA_187' hm (show 2 < 3 by decide)
          rw [Nat.add_zero] at o0
          simp (disch := first | assumption | omega) only [F_Mo_meet, lit_0, lit_1, lit_2, lit_3, lit_4, lit_5, lit_6, lit_7, lit_8, lit_9, lit_10, lit_11, lit_12, lit_16, lit_17, lit_20, lit_31, lit_32, lit_40, lit_47, lit_48, lit_49, lit_57, lit_58, lit_60, lit_64, lit_68, lit_80, lit_97, lit_99, lit_100, lit_101, lit_104, lit_108, lit_109, lit_115, lit_117, lit_121, lit_127, lit_128, lit_140, lit_1000, lit_1000000, lit_1048576, bI_ret, bV_ret, bL_ret, bH_t, cond_true, z_0, z_1, retZ_tf, z_tf0, z_tf1, Decidable.not_not, Classical.not_not, nI_add, nI_clamp, n_le, n_lt, n_eq, nI_or, nI_and, z_sdf, of_nI, ite_not, m_i3, m_i99, m_i7, m_i1, m_i20, m_i2, m_i8, m_i15, m_i60, m_areTwo w m1, if_pos hx, if_pos ht, if_pos htv, M_m m1, nI_mul, o0, o1, o2, hg_hs_a, hg_hs_eq, nI_sb, Nat.add_sub_cancel]
          first
            | (rw [if_neg (by omega)]; rfl)
            | (rw [if_pos ht, if_neg (by omega)]; rfl)
      · have hm' : v 3 0 = 16 := by omega
        refine fin_q I (h1 := h) (h2 := h) (x := -nI 2) ?_ (frS_rf h) ?_ (frS_rf h)
        · simp (disch := first | assumption | omega) only [F_Bp_meet, lit_0, lit_1, lit_2, lit_3, lit_4, lit_5, lit_6, lit_7, lit_8, lit_9, lit_10, lit_11, lit_12, lit_16, lit_17, lit_20, lit_31, lit_32, lit_40, lit_47, lit_48, lit_49, lit_57, lit_58, lit_60, lit_64, lit_68, lit_80, lit_97, lit_99, lit_100, lit_101, lit_104, lit_108, lit_109, lit_115, lit_117, lit_121, lit_127, lit_128, lit_140, lit_1000, lit_1000000, lit_1048576, bI_ret, bV_ret, bL_ret, bH_t, cond_true, z_0, z_1, retZ_tf, z_tf0, z_tf1, Decidable.not_not, Classical.not_not, nI_add, nI_clamp, n_le, n_lt, n_eq, nI_or, nI_and, z_sdf, of_nI, ite_not, m_i3, m_i99, m_i7, m_i1, m_i20, m_i2, m_i8, m_i15, m_i60, c_noPair w r, if_pos hx, e9]
          rw [if_neg (Nat.not_lt_zero _), if_pos ht8, if_neg hm]
        · simp (disch := first | assumption | omega) only [F_Mo_meet, lit_0, lit_1, lit_2, lit_3, lit_4, lit_5, lit_6, lit_7, lit_8, lit_9, lit_10, lit_11, lit_12, lit_16, lit_17, lit_20, lit_31, lit_32, lit_40, lit_47, lit_48, lit_49, lit_57, lit_58, lit_60, lit_64, lit_68, lit_80, lit_97, lit_99, lit_100, lit_101, lit_104, lit_108, lit_109, lit_115, lit_117, lit_121, lit_127, lit_128, lit_140, lit_1000, lit_1000000, lit_1048576, bI_ret, bV_ret, bL_ret, bH_t, cond_true, z_0, z_1, retZ_tf, z_tf0, z_tf1, Decidable.not_not, Classical.not_not, nI_add, nI_clamp, n_le, n_lt, n_eq, nI_or, nI_and, z_sdf, of_nI, ite_not, m_i3, m_i99, m_i7, m_i1, m_i20, m_i2, m_i8, m_i15, m_i60, m_areTwo w m, if_pos hx, if_pos ht, if_pos htv, M_m m]
          first
            | rw [if_pos hm']
            | rw [if_pos ht, if_pos hm']
    · have htv : ¬ inV t 0 8 := fun z => ht ((inV0 _ _).mp z)
      refine fin_q I (h1 := h) (h2 := h) (x := -nI 1) ?_ (frS_rf h) ?_ (frS_rf h)
      · simp (disch := first | assumption | omega) only [F_Bp_meet, lit_0, lit_1, lit_2, lit_3, lit_4, lit_5, lit_6, lit_7, lit_8, lit_9, lit_10, lit_11, lit_12, lit_16, lit_17, lit_20, lit_31, lit_32, lit_40, lit_47, lit_48, lit_49, lit_57, lit_58, lit_60, lit_64, lit_68, lit_80, lit_97, lit_99, lit_100, lit_101, lit_104, lit_108, lit_109, lit_115, lit_117, lit_121, lit_127, lit_128, lit_140, lit_1000, lit_1000000, lit_1048576, bI_ret, bV_ret, bL_ret, bH_t, cond_true, z_0, z_1, retZ_tf, z_tf0, z_tf1, Decidable.not_not, Classical.not_not, nI_add, nI_clamp, n_le, n_lt, n_eq, nI_or, nI_and, z_sdf, of_nI, ite_not, m_i3, m_i99, m_i7, m_i1, m_i20, m_i2, m_i8, m_i15, m_i60, c_noPair w r, if_pos hx]
        exact (ite_lt (k := 8) (by decide)).trans (if_neg ht)
      · simp (disch := first | assumption | omega) only [F_Mo_meet, lit_0, lit_1, lit_2, lit_3, lit_4, lit_5, lit_6, lit_7, lit_8, lit_9, lit_10, lit_11, lit_12, lit_16, lit_17, lit_20, lit_31, lit_32, lit_40, lit_47, lit_48, lit_49, lit_57, lit_58, lit_60, lit_64, lit_68, lit_80, lit_97, lit_99, lit_100, lit_101, lit_104, lit_108, lit_109, lit_115, lit_117, lit_121, lit_127, lit_128, lit_140, lit_1000, lit_1000000, lit_1048576, bI_ret, bV_ret, bL_ret, bH_t, cond_true, z_0, z_1, retZ_tf, z_tf0, z_tf1, Decidable.not_not, Classical.not_not, nI_add, nI_clamp, n_le, n_lt, n_eq, nI_or, nI_and, z_sdf, of_nI, ite_not, m_i3, m_i99, m_i7, m_i1, m_i20, m_i2, m_i8, m_i15, m_i60, m_areTwo w m, if_pos hx, if_neg ht, if_neg htv]
  · refine fin_q I (h1 := h) (h2 := h) (x := -nI 1) ?_ (frS_rf h) ?_ (frS_rf h)
    · simp (disch := first | assumption | omega) only [F_Bp_meet, lit_0, lit_1, lit_2, lit_3, lit_4, lit_5, lit_6, lit_7, lit_8, lit_9, lit_10, lit_11, lit_12, lit_16, lit_17, lit_20, lit_31, lit_32, lit_40, lit_47, lit_48, lit_49, lit_57, lit_58, lit_60, lit_64, lit_68, lit_80, lit_97, lit_99, lit_100, lit_101, lit_104, lit_108, lit_109, lit_115, lit_117, lit_121, lit_127, lit_128, lit_140, lit_1000, lit_1000000, lit_1048576, bI_ret, bV_ret, bL_ret, bH_t, cond_true, z_0, z_1, retZ_tf, z_tf0, z_tf1, Decidable.not_not, Classical.not_not, nI_add, nI_clamp, n_le, n_lt, n_eq, nI_or, nI_and, z_sdf, of_nI, ite_not, m_i3, m_i99, m_i7, m_i1, m_i20, m_i2, m_i8, m_i15, m_i60, c_noPair w r, if_neg hx]
    · simp (disch := first | assumption | omega) only [F_Mo_meet, lit_0, lit_1, lit_2, lit_3, lit_4, lit_5, lit_6, lit_7, lit_8, lit_9, lit_10, lit_11, lit_12, lit_16, lit_17, lit_20, lit_31, lit_32, lit_40, lit_47, lit_48, lit_49, lit_57, lit_58, lit_60, lit_64, lit_68, lit_80, lit_97, lit_99, lit_100, lit_101, lit_104, lit_108, lit_109, lit_115, lit_117, lit_121, lit_127, lit_128, lit_140, lit_1000, lit_1000000, lit_1048576, bI_ret, bV_ret, bL_ret, bH_t, cond_true, z_0, z_1, retZ_tf, z_tf0, z_tf1, Decidable.not_not, Classical.not_not, nI_add, nI_clamp, n_le, n_lt, n_eq, nI_or, nI_and, z_sdf, of_nI, ite_not, m_i3, m_i99, m_i7, m_i1, m_i20, m_i2, m_i8, m_i15, m_i60, m_areTwo w m, if_neg hx]
