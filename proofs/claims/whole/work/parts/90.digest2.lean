/-! OPERATION: digest, the reference's -/
section DGR
variable {v : LV} {h : Hp}
theorem hg_hsl (y : Int64) (a j : Nat) : hg (hsl h y) a j = hg h a j := rfl
theorem m_mix (x : Int32) (y : Int64) : F_Mo_mix x (hsl h y) = retV (hsl h (mx y x)) := by
  unfold F_Mo_mix
  rw [bH_t]
  rfl
theorem MLd_hsl (m : MLd v h) (y : Int64) : MLd v (hsl h y) := MLd_ag m fun _ _ _ => rfl
theorem CK_hsl (c : CK v h) (y : Int64) : CK v (hsl h y) := CK_ag c fun _ _ _ => rfl
theorem Inv_hsl (I : Inv h) (y : Int64) : Inv (hsl h y) := Inv_S I fun _ _ _ => rfl
theorem tlV_hsl (y : Int64) (a : Nat) : tlV v (hsl h y) a = tlV v h a := by
  match a with
  | 0 => rfl
  | 1 => rfl
  | 2 => rfl
  | 3 => rfl
  | 4 => rfl
  | 5 => rfl
  | 6 => rfl
  | 7 => rfl
  | n + 8 => rfl
theorem m_dg135 (ck : CK v h) (y : Int64) : loopC Mo_mixLand_135 FU (nI 0, hsl h y) = retV (hsl h (mxs y (kpV h) 3)) := by
  refine loop_for (N := 3) (fun i => (nI i, hsl h (mxs y (kpV h) i))) rfl (by show _ < 4096; omega) (fun i κ hi => ?_) (fun κ => ?_)
  · have o0 := oA_192' hi (show 0 < 140 by decide)
    rw [Nat.add_zero] at o0
    show Mo_mixLand_135 (nI i, hsl h (mxs y (kpV h) i)) κ = κ (nI (i + 1), hsl h (mx (mxs y (kpV h) i) (kpV h i)))
    unfold Mo_mixLand_135
    dsimp only
    rw [if_neg (show ¬ (3 : Int32) ≤ nI i from nle_nI (b := 3) (a := i) (by omega) (by decide) (by omega)), show (140 : Int32) * nI i = nI (140 * i) from nI_mul 140 i, o0, cond_true, nI_clamp (by omega)]
    rcases ck i hi with ⟨c1, c2⟩ | ⟨u, c1, c2, c3, c0, c4, c5, c6⟩
    · have e : kpV h i = -nI 1 := if_pos c1
      have c2' : hg (hsl h (mxs y (kpV h) i)) 192 (140 * i) = -9 := c2
      rw [if_pos c2', m_mix, bV_ret, e, nI_s]
      rfl
    · have hh := wf_h c2
      have e : kpV h i = nI (u 7 0) := (if_neg (by rw [c1]; decide)).trans (L_h c5)
      have c2' : ¬ hg (hsl h (mxs y (kpV h) i)) 192 (140 * i) = -9 := fun z => (nI_eq9 (show u 7 0 < 2 ^ 31 by omega)).mp (c6.1.symm.trans z)
      have c3' : hg (hsl h (mxs y (kpV h) i)) 192 (140 * i) = nI (u 7 0) := c6.1
      rw [if_neg c2', cond_true, m_mix, bV_ret, c3', e, nI_s]
  · unfold Mo_mixLand_135
    dsimp only
    exact if_pos (le_nI (by decide) (by decide) (by decide))
theorem m_dgE (w : WF v) (m : MLd v h) (ck : CK v h) (y : Int64) : loopC Mo_mixLand_69 FU (nI 0, hsl h y) = retV (hsl h (mxs (itN (dgE v) (v 8 0) y) (kpV h) 3)) := by
  have h4 := wf_l w
  refine loop_for (N := v 8 0) (fun i => (nI i, hsl h (itN (dgE v) i y))) rfl (by show _ < 4096; omega) (fun i κ hi => ?_) (fun κ => ?_)
  · have h7 := wf_l7 w hi
    have eT : ∀ z, F_Mo_letterOf (nI i) (nI 0) (hsl h z) = retI (nI (v 9 i)) (hsl h z) := fun z => m_to w (MLd_hsl m z) hi
    have eI : ∀ z, F_Mo_letterOf (nI i) (nI 1) (hsl h z) = retI (nI (v 10 i)) (hsl h z) := fun z => m_tin w (MLd_hsl m z) hi
    have eL : ∀ z, F_Mo_letterOf (nI i) (nI 2) (hsl h z) = retI (nI (v 11 i)) (hsl h z) := fun z => m_len w (MLd_hsl m z) hi
    have H : ∀ z, loopC (Mo_mixLand_99 κ) FU (nI i, nI 0, hsl h z) = κ (nI (i + 1), hsl h (mxs z (fun j => nI (v (20 + i) j)) (v 11 i))) := fun z => by
      refine loop_for (N := v 11 i) (fun j => (nI i, nI j, hsl h (mxs z (fun j => nI (v (20 + i) j)) j))) rfl (by show _ < 4096; omega) (fun j κ2 hj => ?_) (fun κ2 => ?_)
      · have eJ : ∀ z, F_Mo_letterOf (nI i) (nI (3 + j)) (hsl h z) = retI (nI (v (20 + i) j)) (hsl h z) := fun z => m_th w (MLd_hsl m z) hi hj
        simp (disch := first | assumption | omega) only [Mo_mixLand_99, lit_0, lit_1, lit_2, lit_3, lit_4, lit_5, lit_6, lit_7, lit_8, lit_9, lit_10, lit_11, lit_12, lit_16, lit_17, lit_20, lit_31, lit_32, lit_40, lit_47, lit_48, lit_49, lit_57, lit_58, lit_60, lit_64, lit_68, lit_80, lit_97, lit_99, lit_100, lit_101, lit_104, lit_108, lit_109, lit_115, lit_117, lit_121, lit_127, lit_128, lit_140, lit_1000, lit_1000000, lit_1048576, bI_ret, bV_ret, bL_ret, bH_t, cond_true, z_0, z_1, retZ_tf, z_tf0, z_tf1, Decidable.not_not, Classical.not_not, nI_add, nI_clamp, n_le, n_lt, n_eq, nI_or, nI_and, z_sdf, of_nI, eL, eJ, m_mix]
        rw [if_neg (by omega)]
        rfl
      · simp (disch := first | assumption | omega) only [Mo_mixLand_99, lit_0, lit_1, lit_2, lit_3, lit_4, lit_5, lit_6, lit_7, lit_8, lit_9, lit_10, lit_11, lit_12, lit_16, lit_17, lit_20, lit_31, lit_32, lit_40, lit_47, lit_48, lit_49, lit_57, lit_58, lit_60, lit_64, lit_68, lit_80, lit_97, lit_99, lit_100, lit_101, lit_104, lit_108, lit_109, lit_115, lit_117, lit_121, lit_127, lit_128, lit_140, lit_1000, lit_1000000, lit_1048576, bI_ret, bV_ret, bL_ret, bH_t, cond_true, z_0, z_1, retZ_tf, z_tf0, z_tf1, Decidable.not_not, Classical.not_not, nI_add, nI_clamp, n_le, n_lt, n_eq, nI_or, nI_and, z_sdf, of_nI, eL]
        exact if_pos (Nat.le_refl _)
    simp (disch := first | assumption | omega) only [Mo_mixLand_69, lit_0, lit_1, lit_2, lit_3, lit_4, lit_5, lit_6, lit_7, lit_8, lit_9, lit_10, lit_11, lit_12, lit_16, lit_17, lit_20, lit_31, lit_32, lit_40, lit_47, lit_48, lit_49, lit_57, lit_58, lit_60, lit_64, lit_68, lit_80, lit_97, lit_99, lit_100, lit_101, lit_104, lit_108, lit_109, lit_115, lit_117, lit_121, lit_127, lit_128, lit_140, lit_1000, lit_1000000, lit_1048576, bI_ret, bV_ret, bL_ret, bH_t, cond_true, z_0, z_1, retZ_tf, z_tf0, z_tf1, Decidable.not_not, Classical.not_not, nI_add, nI_clamp, n_le, n_lt, n_eq, nI_or, nI_and, z_sdf, of_nI, hg_hsl, M_l m, eT, eI, m_mix, H]
    rw [if_neg (by omega)]
    rfl
  · simp (disch := first | assumption | omega) only [Mo_mixLand_69, lit_0, lit_1, lit_2, lit_3, lit_4, lit_5, lit_6, lit_7, lit_8, lit_9, lit_10, lit_11, lit_12, lit_16, lit_17, lit_20, lit_31, lit_32, lit_40, lit_47, lit_48, lit_49, lit_57, lit_58, lit_60, lit_64, lit_68, lit_80, lit_97, lit_99, lit_100, lit_101, lit_104, lit_108, lit_109, lit_115, lit_117, lit_121, lit_127, lit_128, lit_140, lit_1000, lit_1000000, lit_1048576, bI_ret, bV_ret, bL_ret, bH_t, cond_true, z_0, z_1, retZ_tf, z_tf0, z_tf1, Decidable.not_not, Classical.not_not, nI_add, nI_clamp, n_le, n_lt, n_eq, nI_or, nI_and, z_sdf, of_nI, hg_hsl, M_l m, m_dg135 ck]
    exact if_pos (Nat.le_refl _)
theorem m_dgM (w : WF v) (m : MLd v h) (ck : CK v h) (y : Int64) : loopC Mo_mixLand_41 FU (nI 0, hsl h y) = retV (hsl h (mxs (itN (dgE v) (v 8 0) (itN (dgM v) (v 3 0) y)) (kpV h) 3)) := by
  have hm := wf_m w
  have e : itN (dgM v) (v 3 0) y = mxs y (fun j => hg h 187 j) (3 * v 3 0) := by
    rw [mxs3]
    refine itN_cong fun i z hi => ?_
    rw [M_a m hi, M_b m hi, M_t m hi]
    rfl
  rw [e]
  refine loop_for (N := 3 * v 3 0) (fun i => (nI i, hsl h (mxs y (fun j => hg h 187 j) i))) rfl (by show _ < 4096; omega) (fun i κ hi => ?_) (fun κ => ?_)
  · simp (disch := first | assumption | omega) only [Mo_mixLand_41, lit_0, lit_1, lit_2, lit_3, lit_4, lit_5, lit_6, lit_7, lit_8, lit_9, lit_10, lit_11, lit_12, lit_16, lit_17, lit_20, lit_31, lit_32, lit_40, lit_47, lit_48, lit_49, lit_57, lit_58, lit_60, lit_64, lit_68, lit_80, lit_97, lit_99, lit_100, lit_101, lit_104, lit_108, lit_109, lit_115, lit_117, lit_121, lit_127, lit_128, lit_140, lit_1000, lit_1000000, lit_1048576, bI_ret, bV_ret, bL_ret, bH_t, cond_true, z_0, z_1, retZ_tf, z_tf0, z_tf1, Decidable.not_not, Classical.not_not, nI_add, nI_clamp, n_le, n_lt, n_eq, nI_or, nI_and, z_sdf, of_nI, hg_hsl, M_m m, nI_mul, oA_187, m_mix]
    rw [if_neg (by omega)]
    rfl
  · simp (disch := first | assumption | omega) only [Mo_mixLand_41, lit_0, lit_1, lit_2, lit_3, lit_4, lit_5, lit_6, lit_7, lit_8, lit_9, lit_10, lit_11, lit_12, lit_16, lit_17, lit_20, lit_31, lit_32, lit_40, lit_47, lit_48, lit_49, lit_57, lit_58, lit_60, lit_64, lit_68, lit_80, lit_97, lit_99, lit_100, lit_101, lit_104, lit_108, lit_109, lit_115, lit_117, lit_121, lit_127, lit_128, lit_140, lit_1000, lit_1000000, lit_1048576, bI_ret, bV_ret, bL_ret, bH_t, cond_true, z_0, z_1, retZ_tf, z_tf0, z_tf1, Decidable.not_not, Classical.not_not, nI_add, nI_clamp, n_le, n_lt, n_eq, nI_or, nI_and, z_sdf, of_nI, hg_hsl, M_m m, nI_mul, m_dgE w m ck]
    exact if_pos (Nat.le_refl _)
theorem m_mixLand (w : WF v) (m : MLd v h) (ck : CK v h) (y : Int64) : F_Mo_mixLand (hsl h y) = retV (hsl h (mxs (dgL v y) (kpV h) 3)) := by
  have hn := w.1
  unfold F_Mo_mixLand dgL
  refine loop_for (N := v 0 0) (fun i => (nI i, hsl h (itN (dgH v) i y))) rfl (by show _ < 4096; omega) (fun i κ hi => ?_) (fun κ => ?_)
  · have H : ∀ z, loopC (Mo_mixLand_12 κ) FU (nI i, nI 0, hsl h z) = κ (nI (i + 1), hsl h (mxs z (fun a => nI (fct v i a)) 4)) := fun z => by
      refine loop_for (N := 4) (fun j => (nI i, nI j, hsl h (mxs z (fun a => nI (fct v i a)) j))) rfl (by show _ < 4096; omega) (fun j κ2 hj => ?_) (fun κ2 => ?_)
      · have eF : ∀ z, F_Mo_handOf (nI i) (nI j) (hsl h z) = retI (nI (fct v i j)) (hsl h z) := fun z => m_handOf w (MLd_hsl m z) hi hj
        simp (disch := first | assumption | omega) only [Mo_mixLand_12, lit_0, lit_1, lit_2, lit_3, lit_4, lit_5, lit_6, lit_7, lit_8, lit_9, lit_10, lit_11, lit_12, lit_16, lit_17, lit_20, lit_31, lit_32, lit_40, lit_47, lit_48, lit_49, lit_57, lit_58, lit_60, lit_64, lit_68, lit_80, lit_97, lit_99, lit_100, lit_101, lit_104, lit_108, lit_109, lit_115, lit_117, lit_121, lit_127, lit_128, lit_140, lit_1000, lit_1000000, lit_1048576, bI_ret, bV_ret, bL_ret, bH_t, cond_true, z_0, z_1, retZ_tf, z_tf0, z_tf1, Decidable.not_not, Classical.not_not, nI_add, nI_clamp, n_le, n_lt, n_eq, nI_or, nI_and, z_sdf, of_nI, eF, m_mix]
        rw [if_neg (by omega)]
        rfl
      · simp (disch := first | assumption | omega) only [Mo_mixLand_12, lit_0, lit_1, lit_2, lit_3, lit_4, lit_5, lit_6, lit_7, lit_8, lit_9, lit_10, lit_11, lit_12, lit_16, lit_17, lit_20, lit_31, lit_32, lit_40, lit_47, lit_48, lit_49, lit_57, lit_58, lit_60, lit_64, lit_68, lit_80, lit_97, lit_99, lit_100, lit_101, lit_104, lit_108, lit_109, lit_115, lit_117, lit_121, lit_127, lit_128, lit_140, lit_1000, lit_1000000, lit_1048576, bI_ret, bV_ret, bL_ret, bH_t, cond_true, z_0, z_1, retZ_tf, z_tf0, z_tf1, Decidable.not_not, Classical.not_not, nI_add, nI_clamp, n_le, n_lt, n_eq, nI_or, nI_and, z_sdf, of_nI]
        exact if_pos (by decide)
    simp (disch := first | assumption | omega) only [Mo_mixLand_2, lit_0, lit_1, lit_2, lit_3, lit_4, lit_5, lit_6, lit_7, lit_8, lit_9, lit_10, lit_11, lit_12, lit_16, lit_17, lit_20, lit_31, lit_32, lit_40, lit_47, lit_48, lit_49, lit_57, lit_58, lit_60, lit_64, lit_68, lit_80, lit_97, lit_99, lit_100, lit_101, lit_104, lit_108, lit_109, lit_115, lit_117, lit_121, lit_127, lit_128, lit_140, lit_1000, lit_1000000, lit_1048576, bI_ret, bV_ret, bL_ret, bH_t, cond_true, z_0, z_1, retZ_tf, z_tf0, z_tf1, Decidable.not_not, Classical.not_not, nI_add, nI_clamp, n_le, n_lt, n_eq, nI_or, nI_and, z_sdf, of_nI, hg_hsl, M_n m, H]
    rw [if_neg (by omega)]
    rfl
  · simp (disch := first | assumption | omega) only [Mo_mixLand_2, lit_0, lit_1, lit_2, lit_3, lit_4, lit_5, lit_6, lit_7, lit_8, lit_9, lit_10, lit_11, lit_12, lit_16, lit_17, lit_20, lit_31, lit_32, lit_40, lit_47, lit_48, lit_49, lit_57, lit_58, lit_60, lit_64, lit_68, lit_80, lit_97, lit_99, lit_100, lit_101, lit_104, lit_108, lit_109, lit_115, lit_117, lit_121, lit_127, lit_128, lit_140, lit_1000, lit_1000000, lit_1048576, bI_ret, bV_ret, bL_ret, bH_t, cond_true, z_0, z_1, retZ_tf, z_tf0, z_tf1, Decidable.not_not, Classical.not_not, nI_add, nI_clamp, n_le, n_lt, n_eq, nI_or, nI_and, z_sdf, of_nI, hg_hsl, M_n m, m_dgM w m ck]
    exact if_pos (Nat.le_refl _)
theorem m_rowDig (I : Inv h) {s : Nat} (hs9 : s < 6) (y : Int64) (κ : (Int32 × Hp) → Res Hp) : Mo_digest_36 (nI s, hsl h y) κ = κ (nI (s + 1), hsl h (dgS h s y)) := by
  unfold dgS
  rcases row_cases I hs9 with ⟨c1, c2, c3⟩ | ⟨n, hn, c1, c2, c3, c4⟩
  · have H : ∀ z, loopC (Mo_digest_67 κ) FU (nI s, nI 0, hsl h z) = κ (nI (s + 1), hsl h z) := fun z => by
      refine loop_for (N := 0) (fun _ => (nI s, nI 0, hsl h z)) rfl (by show _ < 4096; omega) (fun i κ hi => absurd hi (Nat.not_lt_zero i)) (fun κ => ?_)
      simp (disch := first | assumption | omega) only [Mo_digest_67, lit_0, lit_1, lit_2, lit_3, lit_4, lit_5, lit_6, lit_7, lit_8, lit_9, lit_10, lit_11, lit_12, lit_16, lit_17, lit_20, lit_31, lit_32, lit_40, lit_47, lit_48, lit_49, lit_57, lit_58, lit_60, lit_64, lit_68, lit_80, lit_97, lit_99, lit_100, lit_101, lit_104, lit_108, lit_109, lit_115, lit_117, lit_121, lit_127, lit_128, lit_140, lit_1000, lit_1000000, lit_1048576, bI_ret, bV_ret, bL_ret, bH_t, cond_true, z_0, z_1, retZ_tf, z_tf0, z_tf1, Decidable.not_not, Classical.not_not, nI_add, nI_clamp, n_le, n_lt, n_eq, nI_or, nI_and, z_sdf, of_nI, hg_hsl, oA_180, c2]
      exact if_pos (by decide)
    rw [c1, show (-nI 1).toNatClampNeg = 0 by decide]
    simp (disch := first | assumption | omega) only [Mo_digest_36, lit_0, lit_1, lit_2, lit_3, lit_4, lit_5, lit_6, lit_7, lit_8, lit_9, lit_10, lit_11, lit_12, lit_16, lit_17, lit_20, lit_31, lit_32, lit_40, lit_47, lit_48, lit_49, lit_57, lit_58, lit_60, lit_64, lit_68, lit_80, lit_97, lit_99, lit_100, lit_101, lit_104, lit_108, lit_109, lit_115, lit_117, lit_121, lit_127, lit_128, lit_140, lit_1000, lit_1000000, lit_1048576, bI_ret, bV_ret, bL_ret, bH_t, cond_true, z_0, z_1, retZ_tf, z_tf0, z_tf1, Decidable.not_not, Classical.not_not, nI_add, nI_clamp, n_le, n_lt, n_eq, nI_or, nI_and, z_sdf, of_nI, hg_hsl, oA_180, c2, m_mix, H]
    rw [if_neg (by omega)]
    exact if_neg (by decide)
  · have H : ∀ z, loopC (Mo_digest_67 κ) FU (nI s, nI 0, hsl h z) = κ (nI (s + 1), hsl h (mxs z (fun j => hg h (72 + 2 * s) j) n)) := fun z => by
      rw [mxs_cong c4]
      refine loop_for (N := n) (fun i => (nI s, nI i, hsl h (mxs z (fun j => hg h 181 (40 * s + j)) i))) rfl (by show _ < 4096; omega) (fun i κ hi => ?_) (fun κ => ?_)
      · simp (disch := first | assumption | omega) only [Mo_digest_67, lit_0, lit_1, lit_2, lit_3, lit_4, lit_5, lit_6, lit_7, lit_8, lit_9, lit_10, lit_11, lit_12, lit_16, lit_17, lit_20, lit_31, lit_32, lit_40, lit_47, lit_48, lit_49, lit_57, lit_58, lit_60, lit_64, lit_68, lit_80, lit_97, lit_99, lit_100, lit_101, lit_104, lit_108, lit_109, lit_115, lit_117, lit_121, lit_127, lit_128, lit_140, lit_1000, lit_1000000, lit_1048576, bI_ret, bV_ret, bL_ret, bH_t, cond_true, z_0, z_1, retZ_tf, z_tf0, z_tf1, Decidable.not_not, Classical.not_not, nI_add, nI_clamp, n_le, n_lt, n_eq, nI_or, nI_and, z_sdf, of_nI, hg_hsl, oA_180, c2, m_rowAt hs9 (show i < 40 by omega), m_mix]
        rw [if_neg (by omega)]
        rfl
      · simp (disch := first | assumption | omega) only [Mo_digest_67, lit_0, lit_1, lit_2, lit_3, lit_4, lit_5, lit_6, lit_7, lit_8, lit_9, lit_10, lit_11, lit_12, lit_16, lit_17, lit_20, lit_31, lit_32, lit_40, lit_47, lit_48, lit_49, lit_57, lit_58, lit_60, lit_64, lit_68, lit_80, lit_97, lit_99, lit_100, lit_101, lit_104, lit_108, lit_109, lit_115, lit_117, lit_121, lit_127, lit_128, lit_140, lit_1000, lit_1000000, lit_1048576, bI_ret, bV_ret, bL_ret, bH_t, cond_true, z_0, z_1, retZ_tf, z_tf0, z_tf1, Decidable.not_not, Classical.not_not, nI_add, nI_clamp, n_le, n_lt, n_eq, nI_or, nI_and, z_sdf, of_nI, hg_hsl, oA_180, c2]
        exact if_pos (Nat.le_refl _)
    rw [c1, nI_clamp (by omega)]
    simp (disch := first | assumption | omega) only [Mo_digest_36, lit_0, lit_1, lit_2, lit_3, lit_4, lit_5, lit_6, lit_7, lit_8, lit_9, lit_10, lit_11, lit_12, lit_16, lit_17, lit_20, lit_31, lit_32, lit_40, lit_47, lit_48, lit_49, lit_57, lit_58, lit_60, lit_64, lit_68, lit_80, lit_97, lit_99, lit_100, lit_101, lit_104, lit_108, lit_109, lit_115, lit_117, lit_121, lit_127, lit_128, lit_140, lit_1000, lit_1000000, lit_1048576, bI_ret, bV_ret, bL_ret, bH_t, cond_true, z_0, z_1, retZ_tf, z_tf0, z_tf1, Decidable.not_not, Classical.not_not, nI_add, nI_clamp, n_le, n_lt, n_eq, nI_or, nI_and, z_sdf, of_nI, hg_hsl, oA_180, c2, m_mix, H]
    rw [if_neg (by omega)]
    exact if_pos (Nat.zero_le _)
theorem m_textDig (I : Inv h) {s : Nat} (hs9 : s < 4) (y : Int64) (κ : (Int32 × Hp) → Res Hp) : Mo_digest_101 (nI s, hsl h y) κ = κ (nI (s + 1), hsl h (dgS h (6 + s) y)) := by
  unfold dgS
  rw [show 71 + 2 * (6 + s) = 83 + 2 * s by omega, show 72 + 2 * (6 + s) = 84 + 2 * s by omega]
  rcases text_cases I hs9 with ⟨c1, c2, c3⟩ | ⟨n, hn, c1, c2, c3, c4⟩
  · have H : ∀ z, loopC (Mo_digest_131 κ) FU (nI s, nI 0, hsl h z) = κ (nI (s + 1), hsl h z) := fun z => by
      refine loop_for (N := 0) (fun _ => (nI s, nI 0, hsl h z)) rfl (by show _ < 4096; omega) (fun i κ hi => absurd hi (Nat.not_lt_zero i)) (fun κ => ?_)
      simp (disch := first | assumption | omega) only [Mo_digest_131, lit_0, lit_1, lit_2, lit_3, lit_4, lit_5, lit_6, lit_7, lit_8, lit_9, lit_10, lit_11, lit_12, lit_16, lit_17, lit_20, lit_31, lit_32, lit_40, lit_47, lit_48, lit_49, lit_57, lit_58, lit_60, lit_64, lit_68, lit_80, lit_97, lit_99, lit_100, lit_101, lit_104, lit_108, lit_109, lit_115, lit_117, lit_121, lit_127, lit_128, lit_140, lit_1000, lit_1000000, lit_1048576, bI_ret, bV_ret, bL_ret, bH_t, cond_true, z_0, z_1, retZ_tf, z_tf0, z_tf1, Decidable.not_not, Classical.not_not, nI_add, nI_clamp, n_le, n_lt, n_eq, nI_or, nI_and, z_sdf, of_nI, hg_hsl, oA_183, c2]
      exact if_pos (by decide)
    rw [c1, show (-nI 1).toNatClampNeg = 0 by decide]
    simp (disch := first | assumption | omega) only [Mo_digest_101, lit_0, lit_1, lit_2, lit_3, lit_4, lit_5, lit_6, lit_7, lit_8, lit_9, lit_10, lit_11, lit_12, lit_16, lit_17, lit_20, lit_31, lit_32, lit_40, lit_47, lit_48, lit_49, lit_57, lit_58, lit_60, lit_64, lit_68, lit_80, lit_97, lit_99, lit_100, lit_101, lit_104, lit_108, lit_109, lit_115, lit_117, lit_121, lit_127, lit_128, lit_140, lit_1000, lit_1000000, lit_1048576, bI_ret, bV_ret, bL_ret, bH_t, cond_true, z_0, z_1, retZ_tf, z_tf0, z_tf1, Decidable.not_not, Classical.not_not, nI_add, nI_clamp, n_le, n_lt, n_eq, nI_or, nI_and, z_sdf, of_nI, hg_hsl, oA_183, c2, m_mix, H]
    rw [if_neg (by omega)]
    exact if_neg (by decide)
  · have H : ∀ z, loopC (Mo_digest_131 κ) FU (nI s, nI 0, hsl h z) = κ (nI (s + 1), hsl h (mxs z (fun j => hg h (84 + 2 * s) j) n)) := fun z => by
      rw [mxs_cong c4]
      refine loop_for (N := n) (fun i => (nI s, nI i, hsl h (mxs z (fun j => hg h 184 (80 * s + j)) i))) rfl (by show _ < 4096; omega) (fun i κ hi => ?_) (fun κ => ?_)
      · simp (disch := first | assumption | omega) only [Mo_digest_131, lit_0, lit_1, lit_2, lit_3, lit_4, lit_5, lit_6, lit_7, lit_8, lit_9, lit_10, lit_11, lit_12, lit_16, lit_17, lit_20, lit_31, lit_32, lit_40, lit_47, lit_48, lit_49, lit_57, lit_58, lit_60, lit_64, lit_68, lit_80, lit_97, lit_99, lit_100, lit_101, lit_104, lit_108, lit_109, lit_115, lit_117, lit_121, lit_127, lit_128, lit_140, lit_1000, lit_1000000, lit_1048576, bI_ret, bV_ret, bL_ret, bH_t, cond_true, z_0, z_1, retZ_tf, z_tf0, z_tf1, Decidable.not_not, Classical.not_not, nI_add, nI_clamp, n_le, n_lt, n_eq, nI_or, nI_and, z_sdf, of_nI, hg_hsl, oA_183, c2, nI_mul, oA_184' hs9 (show i < 80 by omega), m_mix]
        rw [if_neg (by omega)]
        rfl
      · simp (disch := first | assumption | omega) only [Mo_digest_131, lit_0, lit_1, lit_2, lit_3, lit_4, lit_5, lit_6, lit_7, lit_8, lit_9, lit_10, lit_11, lit_12, lit_16, lit_17, lit_20, lit_31, lit_32, lit_40, lit_47, lit_48, lit_49, lit_57, lit_58, lit_60, lit_64, lit_68, lit_80, lit_97, lit_99, lit_100, lit_101, lit_104, lit_108, lit_109, lit_115, lit_117, lit_121, lit_127, lit_128, lit_140, lit_1000, lit_1000000, lit_1048576, bI_ret, bV_ret, bL_ret, bH_t, cond_true, z_0, z_1, retZ_tf, z_tf0, z_tf1, Decidable.not_not, Classical.not_not, nI_add, nI_clamp, n_le, n_lt, n_eq, nI_or, nI_and, z_sdf, of_nI, hg_hsl, oA_183, c2]
        exact if_pos (Nat.le_refl _)
    rw [c1, nI_clamp (by omega)]
    simp (disch := first | assumption | omega) only [Mo_digest_101, lit_0, lit_1, lit_2, lit_3, lit_4, lit_5, lit_6, lit_7, lit_8, lit_9, lit_10, lit_11, lit_12, lit_16, lit_17, lit_20, lit_31, lit_32, lit_40, lit_47, lit_48, lit_49, lit_57, lit_58, lit_60, lit_64, lit_68, lit_80, lit_97, lit_99, lit_100, lit_101, lit_104, lit_108, lit_109, lit_115, lit_117, lit_121, lit_127, lit_128, lit_140, lit_1000, lit_1000000, lit_1048576, bI_ret, bV_ret, bL_ret, bH_t, cond_true, z_0, z_1, retZ_tf, z_tf0, z_tf1, Decidable.not_not, Classical.not_not, nI_add, nI_clamp, n_le, n_lt, n_eq, nI_or, nI_and, z_sdf, of_nI, hg_hsl, oA_183, c2, m_mix, H]
    rw [if_neg (by omega)]
    exact if_pos (Nat.zero_le _)
theorem m_dg4 (I : Inv h) (y : Int64) : loopC Mo_digest_101 FU (nI 0, hsl h y) = retL (itN (fun t => dgS h (6 + t)) 4 y) (hsl h (itN (fun t => dgS h (6 + t)) 4 y)) := by
  refine loop_for (N := 4) (fun i => (nI i, hsl h (itN (fun t => dgS h (6 + t)) i y))) rfl (by show _ < 4096; omega) (fun i κ hi => m_textDig I hi _ κ) (fun κ => ?_)
  unfold Mo_digest_101
  dsimp only
  exact if_pos (le_nI (by decide) (by decide) (by decide))
theorem m_dg3 (I : Inv h) (y : Int64) : loopC Mo_digest_36 FU (nI 0, hsl h y) = retL (itN (fun t => dgS h (6 + t)) 4 (itN (dgS h) 6 y)) (hsl h (itN (fun t => dgS h (6 + t)) 4 (itN (dgS h) 6 y))) := by
  refine loop_for (N := 6) (fun i => (nI i, hsl h (itN (dgS h) i y))) rfl (by show _ < 4096; omega) (fun i κ hi => m_rowDig I hi _ κ) (fun κ => ?_)
  unfold Mo_digest_36
  dsimp only
  exact (if_pos (le_nI (by decide) (by decide) (by decide))).trans (m_dg4 I _)
theorem m_digest (I : Inv h) (w : WF v) (m : MLd v h) (ck : CK v h) : F_Mo_digest h = retL (dgA v h) (hsl h (dgA v h)) := by
  unfold F_Mo_digest
  rw [bH_t]
  refine loop_for (N := 9) (fun i => (nI i, hsl h (mxs 17 (fun a => nI (tlV v h a)) i))) rfl (by show _ < 4096; omega) (fun i κ hi => ?_) (fun κ => ?_)
  · have eT : ∀ z, F_Mo_tells (nI i) (hsl h z) = retI (nI (tlV v h i)) (hsl h z) := fun z => by
      rw [m_tells (Inv_hsl I z) w (MLd_hsl m z) (CK_hsl ck z) hi, tlV_hsl]
    simp (disch := first | assumption | omega) only [Mo_digest_9, lit_0, lit_1, lit_2, lit_3, lit_4, lit_5, lit_6, lit_7, lit_8, lit_9, lit_10, lit_11, lit_12, lit_16, lit_17, lit_20, lit_31, lit_32, lit_40, lit_47, lit_48, lit_49, lit_57, lit_58, lit_60, lit_64, lit_68, lit_80, lit_97, lit_99, lit_100, lit_101, lit_104, lit_108, lit_109, lit_115, lit_117, lit_121, lit_127, lit_128, lit_140, lit_1000, lit_1000000, lit_1048576, bI_ret, bV_ret, bL_ret, bH_t, cond_true, z_0, z_1, retZ_tf, z_tf0, z_tf1, Decidable.not_not, Classical.not_not, nI_add, nI_clamp, n_le, n_lt, n_eq, nI_or, nI_and, z_sdf, of_nI, eT, m_mix]
    rw [if_neg (by omega)]
    rfl
  · simp (disch := first | assumption | omega) only [Mo_digest_9, lit_0, lit_1, lit_2, lit_3, lit_4, lit_5, lit_6, lit_7, lit_8, lit_9, lit_10, lit_11, lit_12, lit_16, lit_17, lit_20, lit_31, lit_32, lit_40, lit_47, lit_48, lit_49, lit_57, lit_58, lit_60, lit_64, lit_68, lit_80, lit_97, lit_99, lit_100, lit_101, lit_104, lit_108, lit_109, lit_115, lit_117, lit_121, lit_127, lit_128, lit_140, lit_1000, lit_1000000, lit_1048576, bI_ret, bV_ret, bL_ret, bH_t, cond_true, z_0, z_1, retZ_tf, z_tf0, z_tf1, Decidable.not_not, Classical.not_not, nI_add, nI_clamp, n_le, n_lt, n_eq, nI_or, nI_and, z_sdf, of_nI, m_mixLand w m ck]
    refine (if_pos (by decide)).trans ?_
    exact m_dg3 I _
end DGR
theorem g_digest {h : Hp} (I : Inv h) : OkL F_Bp_digest F_Mo_digest h := by
  obtain ⟨-, cs, v, w, r, m, ck⟩ := id I
  exact fin_l I (h1 := h) (h2 := hsl h (dgA v h)) (x := dgA v h) (c_digest w r cs) (frS_rf h) (m_digest I w m ck) fun _ _ _ => rfl
