/-! OPERATION: give, the answers -/
section PASS
variable {v : LV} {k x : Nat} {h : Hp}
theorem c_tail (w : WF v) (r : CLd 3 v h) (hk : k < v 8 0) (hx : x < v 0 0) (hno : ∀ j, j < v 11 k → v (20 + k) j ≠ x) : F_Le_add (20 + 3 * k) (nI x) (nI (v 7 0)) h = retV (adC h k (v 11 k) x (v 7 0)) ∧ F_Le_isThere (20 + 3 * k) (adC h k (v 11 k) x (v 7 0)) = retI (tf (x = v 9 k)) (adC h k (v 11 k) x (v 7 0)) := by
  have hn := w.1
  have h4 := wf_l w
  have hlen := few_len w hk hx hno
  have E := le_3 w r hk
  have hk' : k < adh v k x 8 0 := by rw [adh_o (by decide)]; exact hk
  constructor
  · have a1 := le_a1 E.1 (show v 11 k < 7 by omega)
    have a2 := le_a2 E.1 (show v 11 k < 7 by omega)
    have e2 := E_len E.2.1
    unfold F_Le_add
    simp (disch := first | assumption | omega) only [lit_0, lit_1, lit_2, lit_3, lit_4, lit_5, lit_6, lit_7, lit_8, lit_9, lit_10, lit_11, lit_12, lit_16, lit_17, lit_20, lit_31, lit_32, lit_40, lit_47, lit_48, lit_49, lit_57, lit_58, lit_60, lit_64, lit_68, lit_80, lit_97, lit_99, lit_100, lit_101, lit_104, lit_108, lit_109, lit_115, lit_117, lit_121, lit_127, lit_128, lit_140, lit_1000, lit_1000000, lit_1048576, bI_ret, bV_ret, bL_ret, bH_t, cond_true, z_0, z_1, retZ_tf, z_tf0, z_tf1, Decidable.not_not, Classical.not_not, nI_add, nI_clamp, n_le, n_lt, n_eq, nI_or, nI_and, z_sdf, of_nI, le_f0 E.1, le_f1 E.1, le_f2 E.1, le_r0 E.1, le_r1 E.1, a1, a2, e2, hg_hs_a]
    rw [if_neg (by omega)]
    rfl
  · rw [c_isThere (le_3 (wf_adh w hk hx hno) (CLd_adh w r hk) hk')]
    congr 1
    refine tf_cong ?_
    unfold thr hol
    rw [adh_11, adh_o (f := 9) (by decide), Nat.add_sub_cancel, adh_20 (by omega), if_pos rfl, beq_iff_eq]
theorem c_pass (w : WF v) (r : CLd 3 v h) (hk : k < v 8 0) (hx : x < v 0 0) (hno : ∀ j, j < v 11 k → v (20 + k) j ≠ x) : ∃ h', F_La_pass 3 (20 + 3 * k) (nI x) h = retI (tf (x = v 9 k)) h' ∧ CLd 3 (pas v k x) h' ∧ ∀ a j, ¬ (3 ≤ a ∧ a ≤ 31) → hg h' a j = hg h a j := by
  have hn := w.1
  have h4 := wf_l w
  have E := le_3 w r hk
  have ho := hol_n w hk
  have hk6 := wf_k w ho
  have wu := wf_lrn w hk
  have u11 : lrn v k 11 k = v 11 k := lrn_o (by decide)
  have u8 : lrn v k 8 0 = v 8 0 := lrn_o (by decide)
  have u0 : lrn v k 0 0 = v 0 0 := lrn_o (by decide)
  have u9 : lrn v k 9 k = v 9 k := lrn_o (by decide)
  have hno' : ∀ j, j < lrn v k 11 k → lrn v k (20 + k) j ≠ x := fun j hj => by rw [lrn_o (by omega)]; exact hno j (by omega)
  have ek := L_k r ho
  have ew := L_w r ho
  have ei := E_in E.2.1
  have hO := le_O E.1
  have f4 := le_f4 E.1
  have hH := c_holder E
  by_cases q : isO (v 1 (hol v k)) 3 = true
  · have ru : CLd 3 (lrn v k) (hs h (3 + 2) (hol v k) (nI (v 2 (hol v k) ||| v 10 k))) := by
      unfold lrn
      rw [if_pos q]
      exact CLd_vs2 r h4
    obtain ⟨t1, t2⟩ := c_tail (x := x) wu ru (by omega) (by omega) hno'
    have e11 : hg (hs h (3 + 2) (hol v k) (nI (v 2 (hol v k) ||| v 10 k))) 3 11 = nI (lrn v k 7 0) := L_h ru
    rw [u9] at t2
    refine ⟨adC (hs h (3 + 2) (hol v k) (nI (v 2 (hol v k) ||| v 10 k))) k (lrn v k 11 k) x (lrn v k 7 0), ?_, CLd_adh wu ru (by omega), fun a j n => ?_⟩
    · unfold F_La_pass
      simp (disch := first | assumption | omega) only [la_f0 isL_3, la_f1 isL_3, la_f11 isL_3, la_r0 isL_3, la_r1 isL_3, la_a1 isL_3, la_a2 isL_3, lit_0, lit_1, lit_2, lit_3, lit_4, lit_5, lit_6, lit_7, lit_8, lit_9, lit_10, lit_11, lit_12, lit_16, lit_17, lit_20, lit_31, lit_32, lit_40, lit_47, lit_48, lit_49, lit_57, lit_58, lit_60, lit_64, lit_68, lit_80, lit_97, lit_99, lit_100, lit_101, lit_104, lit_108, lit_109, lit_115, lit_117, lit_121, lit_127, lit_128, lit_140, lit_1000, lit_1000000, lit_1048576, bI_ret, bV_ret, bL_ret, bH_t, cond_true, z_0, z_1, retZ_tf, z_tf0, z_tf1, Decidable.not_not, Classical.not_not, nI_add, nI_clamp, n_le, n_lt, n_eq, nI_or, nI_and, z_sdf, of_nI, ite_not, m_i3, m_i99, m_i7, m_i1, m_i20, m_i2, m_i8, m_i15, m_i60, hO, f4, hH, ek, ew, ei, c_isOf, e11, t1, t2]
      rw [if_pos q]
    · rw [adC_e _ _ (by omega), hg_hs_a (by omega)]
  · have ru : CLd 3 (lrn v k) h := by
      unfold lrn
      rw [if_neg q]
      exact r
    obtain ⟨t1, t2⟩ := c_tail (x := x) wu ru (by omega) (by omega) hno'
    have e11 : hg h 3 11 = nI (lrn v k 7 0) := L_h ru
    rw [u9] at t2
    refine ⟨adC h k (lrn v k 11 k) x (lrn v k 7 0), ?_, CLd_adh wu ru (by omega), fun a j n => ?_⟩
    · unfold F_La_pass
      simp (disch := first | assumption | omega) only [la_f0 isL_3, la_f1 isL_3, la_f11 isL_3, la_r0 isL_3, la_r1 isL_3, la_a1 isL_3, la_a2 isL_3, lit_0, lit_1, lit_2, lit_3, lit_4, lit_5, lit_6, lit_7, lit_8, lit_9, lit_10, lit_11, lit_12, lit_16, lit_17, lit_20, lit_31, lit_32, lit_40, lit_47, lit_48, lit_49, lit_57, lit_58, lit_60, lit_64, lit_68, lit_80, lit_97, lit_99, lit_100, lit_101, lit_104, lit_108, lit_109, lit_115, lit_117, lit_121, lit_127, lit_128, lit_140, lit_1000, lit_1000000, lit_1048576, bI_ret, bV_ret, bL_ret, bH_t, cond_true, z_0, z_1, retZ_tf, z_tf0, z_tf1, Decidable.not_not, Classical.not_not, nI_add, nI_clamp, n_le, n_lt, n_eq, nI_or, nI_and, z_sdf, of_nI, ite_not, m_i3, m_i99, m_i7, m_i1, m_i20, m_i2, m_i8, m_i15, m_i60, hO, f4, hH, ek, ew, ei, c_isOf, e11, t1, t2]
      rw [if_neg q]
    · rw [adC_e _ _ (by omega)]
theorem isO_isK : ∀ a, a < 6 → isO a 3 = isK a 3 := by decide
theorem m_giveTo (w : WF v) (r : MLd v h) (hk : k < v 8 0) (hx : x < v 0 0) (hno : ∀ j, j < v 11 k → v (20 + k) j ≠ x) : ∃ h', F_Mo_giveTo (nI k) (nI x) h = retI (if x = v 9 k then nI 1 else nI 0) h' ∧ MLd (pas v k x) h' ∧ ∀ a j, a ≠ 186 → a ≠ 188 → hg h' a j = hg h a j := by
  have hn := w.1
  have h4 := wf_l w
  have h7 := wf_l7 w hk
  have hlen := few_len w hk hx hno
  have ho := hol_n w hk
  have hk6 := wf_k w ho
  have wu := wf_lrn w hk
  have u11 : lrn v k 11 k = v 11 k := lrn_o (by decide)
  have u8 : lrn v k 8 0 = v 8 0 := lrn_o (by decide)
  have u0 : lrn v k 0 0 = v 0 0 := lrn_o (by decide)
  have u9 : lrn v k 9 k = v 9 k := lrn_o (by decide)
  have u7 : lrn v k 7 0 = v 7 0 := lrn_o (by decide)
  have hto := wf_to w hk
  have hno' : ∀ j, j < lrn v k 11 k → lrn v k (20 + k) j ≠ x := fun j hj => by rw [lrn_o (by omega)]; exact hno j (by omega)
  have wp := wf_adh (x := x) wu (k := k) (by omega) (by omega) hno'
  have p8 : k < adh (lrn v k) k x 8 0 := by rw [adh_o (by decide), u8]; exact hk
  have p9 : adh (lrn v k) k x 9 k = v 9 k := by rw [adh_o (by decide), u9]
  have eK := m_isA w r ho (kd := 3) (by decide)
  have eL := m_len w r hk
  have eH := m_holderOf w r hk
  have eT := m_tin w r hk
  have e13 : hg h 178 13 = nI (v 7 0) := M_h r
  have ew := M_w r ho
  by_cases q : isK (v 1 (hol v k)) 3 = true
  · have q2 : isO (v 1 (hol v k)) 3 = true := (isO_isK _ hk6).trans q
    have ru : MLd (lrn v k) (hs h 186 (hol v k) (nI (v 2 (hol v k) ||| v 10 k))) := by
      unfold lrn
      rw [if_pos q2]
      exact MLd_vs2 r
    have rp := MLd_adh (x := x) wu ru (k := k) (by omega) (by omega)
    have t0 := m_to wp rp p8
    rw [p9, u11, u7] at t0
    unfold adM at t0
    refine ⟨adM (hs h 186 (hol v k) (nI (v 2 (hol v k) ||| v 10 k))) k (lrn v k 11 k) x (lrn v k 7 0), ?_, rp, fun a j n1 n2 => ?_⟩
    · unfold F_Mo_giveTo
      simp (disch := first | assumption | omega) only [lit_0, lit_1, lit_2, lit_3, lit_4, lit_5, lit_6, lit_7, lit_8, lit_9, lit_10, lit_11, lit_12, lit_16, lit_17, lit_20, lit_31, lit_32, lit_40, lit_47, lit_48, lit_49, lit_57, lit_58, lit_60, lit_64, lit_68, lit_80, lit_97, lit_99, lit_100, lit_101, lit_104, lit_108, lit_109, lit_115, lit_117, lit_121, lit_127, lit_128, lit_140, lit_1000, lit_1000000, lit_1048576, bI_ret, bV_ret, bL_ret, bH_t, cond_true, z_0, z_1, retZ_tf, z_tf0, z_tf1, Decidable.not_not, Classical.not_not, nI_add, nI_clamp, n_le, n_lt, n_eq, nI_or, nI_and, z_sdf, of_nI, ite_not, m_i3, m_i99, m_i7, m_i1, m_i20, m_i2, m_i8, m_i15, m_i60, oA_185, oA_186, oA_187, oA_188, oA_180, oA_183, oA_179, nI_mul, eL, eH, eK, eT, ew, hg_hs_a, e13, t0]
      rw [if_pos q, u11, u7]
      unfold adM
      split <;> rfl
    · rw [adM_e _ _ n2, hg_hs_a n1]
  · have q2 : ¬ isO (v 1 (hol v k)) 3 = true := fun z => q ((isO_isK _ hk6).symm.trans z)
    have ru : MLd (lrn v k) h := by
      unfold lrn
      rw [if_neg q2]
      exact r
    have rp := MLd_adh (x := x) wu ru (k := k) (by omega) (by omega)
    have t0 := m_to wp rp p8
    rw [p9, u11, u7] at t0
    unfold adM at t0
    refine ⟨adM h k (lrn v k 11 k) x (lrn v k 7 0), ?_, rp, fun a j n1 n2 => ?_⟩
    · unfold F_Mo_giveTo
      simp (disch := first | assumption | omega) only [lit_0, lit_1, lit_2, lit_3, lit_4, lit_5, lit_6, lit_7, lit_8, lit_9, lit_10, lit_11, lit_12, lit_16, lit_17, lit_20, lit_31, lit_32, lit_40, lit_47, lit_48, lit_49, lit_57, lit_58, lit_60, lit_64, lit_68, lit_80, lit_97, lit_99, lit_100, lit_101, lit_104, lit_108, lit_109, lit_115, lit_117, lit_121, lit_127, lit_128, lit_140, lit_1000, lit_1000000, lit_1048576, bI_ret, bV_ret, bL_ret, bH_t, cond_true, z_0, z_1, retZ_tf, z_tf0, z_tf1, Decidable.not_not, Classical.not_not, nI_add, nI_clamp, n_le, n_lt, n_eq, nI_or, nI_and, z_sdf, of_nI, ite_not, m_i3, m_i99, m_i7, m_i1, m_i20, m_i2, m_i8, m_i15, m_i60, oA_185, oA_186, oA_187, oA_188, oA_180, oA_183, oA_179, nI_mul, eL, eH, eK, eT, ew, hg_hs_a, e13, t0]
      rw [if_neg q, u11, u7]
      unfold adM
      split <;> rfl
    · rw [adM_e _ _ n2]
theorem wf_pas (w : WF v) (hk : k < v 8 0) (hx : x < v 0 0) (hno : ∀ j, j < v 11 k → v (20 + k) j ≠ x) : WF (pas v k x) := by
  have u8 : lrn v k 8 0 = v 8 0 := lrn_o (by decide)
  have u0 : lrn v k 0 0 = v 0 0 := lrn_o (by decide)
  have u11 : lrn v k 11 k = v 11 k := lrn_o (by decide)
  have h4 := wf_l w
  exact wf_adh (wf_lrn w hk) (by omega) (by omega) fun j hj => by rw [lrn_o (by omega)]; exact hno j (by omega)
theorem pas_o {f i : Nat} (q : f < 11) (q2 : f ≠ 2) : pas v k x f i = v f i := by
  unfold pas
  rw [adh_o q, lrn_o q2]
theorem tkr_lt (w : WF v) : tkr v k < 2 ^ 7 := by
  have hn := w.1
  unfold tkr
  split
  · decide
  · exact Nat.lt_of_lt_of_le (ms_lt _ _) (Nat.pow_le_pow_right (by decide) hn)
theorem tkr_tb (q : (tkr v k).testBit x = true) : x < v 0 0 ∧ ∀ j, j < v 11 k → v (20 + k) j ≠ x := by
  unfold tkr at q
  split at q
  · rw [Nat.zero_testBit] at q; cases q
  · rw [ms_tb, Bool.and_eq_true, decide_eq_true_eq] at q
    refine ⟨q.1, fun j hj e => ?_⟩
    have q2 := q.2
    unfold tkB nr at q2
    rw [Bool.and_eq_true, Bool.and_eq_true] at q2
    have q3 := q2.1.2
    rw [Bool.not_eq_true'] at q3
    have : anyB (v 11 k) (fun j => v (20 + k) j == x) = true := anyB_iff.mpr ⟨j, hj, beq_iff_eq.mpr e⟩
    rw [this] at q3
    cases q3
end PASS
theorem g_give (l x : Int32) {h : Hp} (I : Inv h) : Ok (F_Bp_give l x) (F_Mo_give l x) h := by
  obtain ⟨-, -, v, w, r, m, ck⟩ := id I
  have h4 := wf_l w
  have hn := w.1
  have e10 : hg h 3 10 = nI (v 8 0) := L_l r
  rcases x_neg (x := l) with hl | ⟨k, hk, rfl⟩
  · refine fin_q I (h1 := h) (h2 := h) (x := -nI 1) (if_pos hl) (frS_rf h) ?_ (frS_rf h)
    exact (if_pos hl).trans (asked1 (m_askLet_b hl))
  · by_cases hx : inR x (v 0 0)
    · obtain ⟨a, ha, rfl⟩ := inR_ex (by omega) hx
      by_cases z : k < v 8 0
      · have E := le_3 w r z
        have eT := c_takers isL_3 w r E z
        have T7 := tkr_lt (k := k) w
        have o1 := oR_19 (show k < 4 by omega)
        have o2 := sR_19 (show k < 4 by omega)
        have hh := c_has (show tkr v k < 2 ^ 31 by omega) (show a < 32 by omega) h
        have mh := m_has (show tkr v k < 2 ^ 31 by omega) (show a < 32 by omega)
        by_cases q : (tkr v k).testBit a = true
        · obtain ⟨q1, q2⟩ := tkr_tb q
          obtain ⟨g, t1, t2, t3⟩ := c_pass w r z ha q2
          have m1 : MLd v g := MLd_ag m fun p j f => t3 p j (by unfold fpM at f; omega)
          obtain ⟨g2, s1, s2, s3⟩ := m_giveTo w m1 z ha q2
          have fr : ∀ p j, ¬ fpL p j → hg g2 p j = hg h p j := fun p j n1 => by
            rw [s3 p j (fun z => n1 (by unfold fpL; omega)) (fun z => n1 (by unfold fpL; omega)), t3 p j (fun z => n1 (by unfold fpL; omega))]
          have e8 : pas v k a 8 0 = v 8 0 := pas_o (by decide) (by decide)
          refine ⟨(if a = v 9 k then nI 1 else nI 0), g, g2, ?_, ?_, Inv_L I (v := v) (CA_L I fun p j _ n1 => fr p j n1) (wf_pas w z ha q2) (CLd_ag t2 (fun p j h1 h2 => s3 p j (by omega) (by omega)) (by omega)) s2 ck (pas_o (by decide) (by decide)) (fun _ _ => pas_o (by decide) (by decide)) fun p j _ _ n1 => fr p j n1⟩
          · simp (disch := first | assumption | omega) only [F_Bp_give, lit_0, lit_1, lit_2, lit_3, lit_4, lit_5, lit_6, lit_7, lit_8, lit_9, lit_10, lit_11, lit_12, lit_16, lit_17, lit_20, lit_31, lit_32, lit_40, lit_47, lit_48, lit_49, lit_57, lit_58, lit_60, lit_64, lit_68, lit_80, lit_97, lit_99, lit_100, lit_101, lit_104, lit_108, lit_109, lit_115, lit_117, lit_121, lit_127, lit_128, lit_140, lit_1000, lit_1000000, lit_1048576, bI_ret, bV_ret, bL_ret, bH_t, cond_true, z_0, z_1, retZ_tf, z_tf0, z_tf1, Decidable.not_not, Classical.not_not, nI_add, nI_clamp, n_le, n_lt, n_eq, nI_or, nI_and, z_sdf, of_nI, ite_not, m_i3, m_i99, m_i7, m_i1, m_i20, m_i2, m_i8, m_i15, m_i60, c_lacks isL_3 w r, if_pos hx, e10, o1, o2, eT, hh, t1]
            rw [if_neg (Nat.not_lt_zero _), if_pos z, if_pos q]
            split <;> rfl
          · have eG := m_givable w m1 z
            have eA := m_askLet_t m1 w z
            have eO := m_isOne w m1 (nI a)
            have eh := mh g
            have n1 : ¬ nI k < (0 : Int32) := by show ¬ nI k < nI 0; rw [nI_ltI (by omega) (by decide)]; omega
            unfold F_Mo_give
            rw [if_neg n1, eO, bI_ret, tf_t hx]
            refine (if_neg (by decide)).trans ((asked0 (by decide) eA).trans ?_)
            rw [eG, bI_ret, eh, bI_ret, tf_t q]
            refine (if_neg (by decide)).trans ?_
            rw [s1, bI_ret]
            rfl
        · refine fin_q I (h1 := h) (h2 := h) (x := -nI 4) ?_ (frS_rf h) ?_ (frS_rf h)
          · simp (disch := first | assumption | omega) only [F_Bp_give, lit_0, lit_1, lit_2, lit_3, lit_4, lit_5, lit_6, lit_7, lit_8, lit_9, lit_10, lit_11, lit_12, lit_16, lit_17, lit_20, lit_31, lit_32, lit_40, lit_47, lit_48, lit_49, lit_57, lit_58, lit_60, lit_64, lit_68, lit_80, lit_97, lit_99, lit_100, lit_101, lit_104, lit_108, lit_109, lit_115, lit_117, lit_121, lit_127, lit_128, lit_140, lit_1000, lit_1000000, lit_1048576, bI_ret, bV_ret, bL_ret, bH_t, cond_true, z_0, z_1, retZ_tf, z_tf0, z_tf1, Decidable.not_not, Classical.not_not, nI_add, nI_clamp, n_le, n_lt, n_eq, nI_or, nI_and, z_sdf, of_nI, ite_not, m_i3, m_i99, m_i7, m_i1, m_i20, m_i2, m_i8, m_i15, m_i60, c_lacks isL_3 w r, if_pos hx, e10, o1, o2, eT, hh]
            rw [if_neg (Nat.not_lt_zero _), if_pos z, if_neg q]
          · have eG := m_givable w m z
            have eA := m_askLet_t m w z
            have eO := m_isOne w m (nI a)
            have eh := mh h
            have n1 : ¬ nI k < (0 : Int32) := by show ¬ nI k < nI 0; rw [nI_ltI (by omega) (by decide)]; omega
            unfold F_Mo_give
            rw [if_neg n1, eO, bI_ret, tf_t hx]
            refine (if_neg (by decide)).trans ((asked0 (by decide) eA).trans ?_)
            rw [eG, bI_ret, eh, bI_ret, tf_f q]
            exact if_pos rfl
      · refine fin_f I (k := 2) (h1 := h) (by decide) (by decide) ?_ (frS_rf h) fun g1 hg1 => ?_
        · simp (disch := first | assumption | omega) only [F_Bp_give, lit_0, lit_1, lit_2, lit_3, lit_4, lit_5, lit_6, lit_7, lit_8, lit_9, lit_10, lit_11, lit_12, lit_16, lit_17, lit_20, lit_31, lit_32, lit_40, lit_47, lit_48, lit_49, lit_57, lit_58, lit_60, lit_64, lit_68, lit_80, lit_97, lit_99, lit_100, lit_101, lit_104, lit_108, lit_109, lit_115, lit_117, lit_121, lit_127, lit_128, lit_140, lit_1000, lit_1000000, lit_1048576, bI_ret, bV_ret, bL_ret, bH_t, cond_true, z_0, z_1, retZ_tf, z_tf0, z_tf1, Decidable.not_not, Classical.not_not, nI_add, nI_clamp, n_le, n_lt, n_eq, nI_or, nI_and, z_sdf, of_nI, ite_not, m_i3, m_i99, m_i7, m_i1, m_i20, m_i2, m_i8, m_i15, m_i60, c_lacks isL_3 w r, if_pos hx, e10, found_b]
          rw [if_neg (Nat.not_lt_zero _), if_neg z]
        · have m1 := MLd_g1 m hg1
          have eO := m_isOne w m1 (nI a)
          have n1 : ¬ nI k < (0 : Int32) := by show ¬ nI k < nI 0; rw [nI_ltI (by omega) (by decide)]; omega
          unfold F_Mo_give
          rw [if_neg n1, eO, bI_ret, tf_t hx]
          exact (if_neg (by decide)).trans (asked3 (by decide) (by decide) (m_askLet_n m1 w hk z))
    · refine fin_q I (h1 := h) (h2 := h) (x := -nI 1) ?_ (frS_rf h) ?_ (frS_rf h)
      · simp (disch := first | assumption | omega) only [F_Bp_give, lit_0, lit_1, lit_2, lit_3, lit_4, lit_5, lit_6, lit_7, lit_8, lit_9, lit_10, lit_11, lit_12, lit_16, lit_17, lit_20, lit_31, lit_32, lit_40, lit_47, lit_48, lit_49, lit_57, lit_58, lit_60, lit_64, lit_68, lit_80, lit_97, lit_99, lit_100, lit_101, lit_104, lit_108, lit_109, lit_115, lit_117, lit_121, lit_127, lit_128, lit_140, lit_1000, lit_1000000, lit_1048576, bI_ret, bV_ret, bL_ret, bH_t, cond_true, z_0, z_1, retZ_tf, z_tf0, z_tf1, Decidable.not_not, Classical.not_not, nI_add, nI_clamp, n_le, n_lt, n_eq, nI_or, nI_and, z_sdf, of_nI, ite_not, m_i3, m_i99, m_i7, m_i1, m_i20, m_i2, m_i8, m_i15, m_i60, c_lacks isL_3 w r, if_neg hx]
        exact if_neg (Nat.not_lt_zero _)
      · have eO := m_isOne w m x
        have n1 : ¬ nI k < (0 : Int32) := by show ¬ nI k < nI 0; rw [nI_ltI (by omega) (by decide)]; omega
        unfold F_Mo_give
        rw [if_neg n1, eO, bI_ret, tf_f hx]
        exact if_pos rfl
