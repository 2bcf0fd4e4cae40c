/-! OPERATIONS: way, copy -/
theorem MLd_R {v : LV} {h h' : Hp} {s : Nat} (r : MLd v h) (hs9 : s < 10) (q : ∀ a j, ¬ scr a j → ¬ fpS s a j → hg h' a j = hg h a j) : MLd v h' := MLd_ag r fun a j f => q a j (by unfold fpM at f; unfold scr; omega) (by unfold fpM at f; unfold fpS; omega)
theorem c_fill {h : Hp} {s k q N : Nat} (hs9 : s < 10) (qC : shC q = 100) (qN : shN q = N) (qL : okN q = true) (q1 : q ≠ 71 + 2 * s) (q2 : q ≠ 72 + 2 * s) (hk : k ≤ N) (hk2 : k ≤ cap s) (hN : N < 2 ^ 31) : ∃ h', F_Sh_fill (71 + 2 * s) q (nI k) h = retV h' ∧ hg h' (71 + 2 * s) 1 = nI k ∧ (∀ j, j < k → hg h' (72 + 2 * s) j = hg h q j) ∧ ∀ a j, a ≠ 71 + 2 * s → a ≠ 72 + 2 * s → hg h' a j = hg h a j := by
  have hc := cap_le s
  unfold F_Sh_fill
  rw [qL, cond_true, sh_F0 hs9, cond_true, sh_R hs9, sh_L hs9, cond_true, sh_F1 hs9, cond_true, sh_N hs9, qN, bH_t]
  have e0 : (if (if Int32.ofNat (cap s) < Int32.ofNat N then Int32.ofNat (cap s) else Int32.ofNat N) < nI k then (if Int32.ofNat (cap s) < Int32.ofNat N then Int32.ofNat (cap s) else Int32.ofNat N) else nI k) = nI k := by
    refine if_neg ?_
    split
    · show ¬ nI (cap s) < nI k
      rw [nI_ltI (by omega) (by omega)]; omega
    · show ¬ nI N < nI k
      rw [nI_ltI (by omega) (by omega)]; omega
  rw [e0]
  refine loop_inv (N := k) (R := fun o => ∃ h', o = retV h' ∧ hg h' (71 + 2 * s) 1 = nI k ∧ (∀ j, j < k → hg h' (72 + 2 * s) j = hg h q j) ∧ ∀ a j, a ≠ 71 + 2 * s → a ≠ 72 + 2 * s → hg h' a j = hg h a j) (fun i st => ∃ g, st = (71 + 2 * s, q, nI i, g) ∧ hg g (71 + 2 * s) 1 = nI k ∧ (∀ j, j < i → hg g (72 + 2 * s) j = hg h q j) ∧ ∀ a j, a ≠ 71 + 2 * s → a ≠ 72 + 2 * s → hg g a j = hg h a j) ⟨_, rfl, hg_hs_eq _ _ _ _, fun j hj => absurd hj (Nat.not_lt_zero j), fun a j h1 h2 => hg_hs_a h1⟩ (by show _ < 4096; omega) ?_ ?_
  · rintro i st hi ⟨g, rfl, p1, p2, p3⟩
    have qA : okA q 100 (nI i) = true := okA_t N qC qN (by omega) hN
    refine ⟨_, ⟨hs g (72 + 2 * s) i (hg g q i), rfl, (hg_hs_a (by omega)).trans p1, fun j hj => ?_, fun a j h1 h2 => (hg_hs_a h2).trans (p3 a j h1 h2)⟩, fun κ => ?_⟩
    · by_cases e : j = i
      · rw [e, hg_hs_eq, p3 q i q1 q2]
      · rw [hg_hs_k e]; exact p2 j (by omega)
    · simp (disch := first | assumption | omega) only [Sh_fill_20, lit_0, lit_1, lit_2, lit_3, lit_4, lit_5, lit_6, lit_7, lit_8, lit_9, lit_10, lit_11, lit_12, lit_16, lit_17, lit_20, lit_31, lit_32, lit_40, lit_47, lit_48, lit_49, lit_57, lit_58, lit_60, lit_64, lit_68, lit_80, lit_97, lit_99, lit_100, lit_101, lit_104, lit_108, lit_109, lit_115, lit_117, lit_121, lit_127, lit_128, lit_140, lit_1000, lit_1000000, lit_1048576, bI_ret, bV_ret, bL_ret, bH_t, cond_true, z_0, z_1, retZ_tf, z_tf0, z_tf1, Decidable.not_not, Classical.not_not, nI_add, nI_clamp, n_le, n_lt, n_eq, nI_or, nI_and, z_sdf, of_nI, sh_F1 hs9, sh_F0 hs9, sh_R hs9, p1, qA, sh_A hs9 (show i < cap s by omega)]
      rw [if_neg (by omega)]
  · rintro st ⟨g, rfl, p1, p2, p3⟩ κ
    refine ⟨g, ?_, p1, p2, p3⟩
    simp (disch := first | assumption | omega) only [Sh_fill_20, lit_0, lit_1, lit_2, lit_3, lit_4, lit_5, lit_6, lit_7, lit_8, lit_9, lit_10, lit_11, lit_12, lit_16, lit_17, lit_20, lit_31, lit_32, lit_40, lit_47, lit_48, lit_49, lit_57, lit_58, lit_60, lit_64, lit_68, lit_80, lit_97, lit_99, lit_100, lit_101, lit_104, lit_108, lit_109, lit_115, lit_117, lit_121, lit_127, lit_128, lit_140, lit_1000, lit_1000000, lit_1048576, bI_ret, bV_ret, bL_ret, bH_t, cond_true, z_0, z_1, retZ_tf, z_tf0, z_tf1, Decidable.not_not, Classical.not_not, nI_add, nI_clamp, n_le, n_lt, n_eq, nI_or, nI_and, z_sdf, of_nI, sh_F1 hs9, p1, Nat.le_refl, if_true]
theorem m_wayLoop {g : Hp} {s k : Nat} (hs9 : s < 6) (hk : k ≤ 7) (e : hg g 178 25 = nI k) : ∃ h', loopC Mo_way_52 FU (nI s, nI 0, g) = retI (nI k - nI 2) h' ∧ (∀ j, j < k → hg h' 181 (40 * s + j) = hg g 194 j) ∧ ∀ a j, ¬ (a = 181 ∧ 40 * s ≤ j ∧ j < 40 * s + 40) → hg h' a j = hg g a j := by
  refine loop_inv (N := k) (R := fun o => ∃ h', o = retI (nI k - nI 2) h' ∧ (∀ j, j < k → hg h' 181 (40 * s + j) = hg g 194 j) ∧ ∀ a j, ¬ (a = 181 ∧ 40 * s ≤ j ∧ j < 40 * s + 40) → hg h' a j = hg g a j) (fun i st => ∃ g1, st = (nI s, nI i, g1) ∧ (∀ j, j < i → hg g1 181 (40 * s + j) = hg g 194 j) ∧ ∀ a j, ¬ (a = 181 ∧ 40 * s ≤ j ∧ j < 40 * s + 40) → hg g1 a j = hg g a j) ⟨_, rfl, fun j hj => absurd hj (Nat.not_lt_zero j), fun a j h1 => rfl⟩ (by show _ < 4096; omega) ?_ ?_
  · rintro i st hi ⟨g1, rfl, p2, p3⟩
    have e1 : hg g1 178 25 = nI k := (p3 178 25 (by omega)).trans e
    refine ⟨_, ⟨hs g1 181 (40 * s + i) (hg g1 194 i), rfl, fun j hj => ?_, fun a j h1 => by rw [hg_hs2, if_neg (by omega)]; exact p3 a j h1⟩, fun κ => ?_⟩
    · by_cases z : j = i
      · rw [z, hg_hs_eq, p3 194 i (by omega)]
      · rw [hg_hs_k (by omega)]; exact p2 j (by omega)
    · simp (disch := first | assumption | omega) only [Mo_way_52, lit_0, lit_1, lit_2, lit_3, lit_4, lit_5, lit_6, lit_7, lit_8, lit_9, lit_10, lit_11, lit_12, lit_16, lit_17, lit_20, lit_31, lit_32, lit_40, lit_47, lit_48, lit_49, lit_57, lit_58, lit_60, lit_64, lit_68, lit_80, lit_97, lit_99, lit_100, lit_101, lit_104, lit_108, lit_109, lit_115, lit_117, lit_121, lit_127, lit_128, lit_140, lit_1000, lit_1000000, lit_1048576, bI_ret, bV_ret, bL_ret, bH_t, cond_true, z_0, z_1, retZ_tf, z_tf0, z_tf1, Decidable.not_not, Classical.not_not, nI_add, nI_clamp, n_le, n_lt, n_eq, nI_or, nI_and, z_sdf, of_nI, oA_194, m_setRow hs9 (show i < 40 by omega), e1]
      rw [if_neg (by omega)]
  · rintro st ⟨g1, rfl, p2, p3⟩ κ
    have e1 : hg g1 178 25 = nI k := (p3 178 25 (by omega)).trans e
    refine ⟨g1, ?_, p2, p3⟩
    simp (disch := first | assumption | omega) only [Mo_way_52, lit_0, lit_1, lit_2, lit_3, lit_4, lit_5, lit_6, lit_7, lit_8, lit_9, lit_10, lit_11, lit_12, lit_16, lit_17, lit_20, lit_31, lit_32, lit_40, lit_47, lit_48, lit_49, lit_57, lit_58, lit_60, lit_64, lit_68, lit_80, lit_97, lit_99, lit_100, lit_101, lit_104, lit_108, lit_109, lit_115, lit_117, lit_121, lit_127, lit_128, lit_140, lit_1000, lit_1000000, lit_1048576, bI_ret, bV_ret, bL_ret, bH_t, cond_true, z_0, z_1, retZ_tf, z_tf0, z_tf1, Decidable.not_not, Classical.not_not, nI_add, nI_clamp, n_le, n_lt, n_eq, nI_or, nI_and, z_sdf, of_nI, e1, Nat.le_refl, if_true]
theorem g_way (x y T q : Int32) {h : Hp} (I : Inv h) : Ok (F_Bp_way x y T q) (F_Mo_way x y T q) h := by
  obtain ⟨-, -, v, w, r, m, -⟩ := id I
  have hn := w.1
  by_cases hx : inR x (v 0 0) ∧ inR y (v 0 0) ∧ x ≠ y
  · by_cases hT : inV T 1 32
    · by_cases hq : inR q 6
      · obtain ⟨a, b, ha, hb, hab, rfl, rfl⟩ := two_ex hn hx
        obtain ⟨T, hT1, hT2, rfl⟩ := inV_ex (by decide) hT
        obtain ⟨s, hs9, rfl⟩ := inR_ex (by decide) hq
        have s10 : s < 10 := by omega
        have hcap : cap s = 40 := if_pos hs9
        obtain ⟨h1, c1, c2, c3⟩ := c_price0 w r hT2
        obtain ⟨h2, d1, d2, d3, d4⟩ := c_find w (CLd_C w r c3) c2 ha hb hab
        have f2 : frC h h2 := frC_tr c3 d2
        have hlen := aw_len w a b T 0
        by_cases c : aw v a b T 0 = []
        · obtain ⟨h3, e1, e2, e3⟩ := m_setWays (fg := 0) w (MLd_S m (frS_C f2)) ha hb hab hT2 (by decide)
          have e1 : F_Mo_setWays (nI a) (nI b) (nI T) (nI 0) h2 = retV h3 := e1
          have m2 := MLd_S m (frS_C f2)
          refine fin_q I (h1 := h2) (h2 := h3) (x := -nI 9) ?_ (frS_C f2) ?_ (frS_W e3)
          · rw [tf_f (fun z => z c)] at d1
            simp (disch := first | assumption | omega) only [F_Bp_way, lit_0, lit_1, lit_2, lit_3, lit_4, lit_5, lit_6, lit_7, lit_8, lit_9, lit_10, lit_11, lit_12, lit_16, lit_17, lit_20, lit_31, lit_32, lit_40, lit_47, lit_48, lit_49, lit_57, lit_58, lit_60, lit_64, lit_68, lit_80, lit_97, lit_99, lit_100, lit_101, lit_104, lit_108, lit_109, lit_115, lit_117, lit_121, lit_127, lit_128, lit_140, lit_1000, lit_1000000, lit_1048576, bI_ret, bV_ret, bL_ret, bH_t, cond_true, z_0, z_1, retZ_tf, z_tf0, z_tf1, Decidable.not_not, Classical.not_not, nI_add, nI_clamp, n_le, n_lt, n_eq, nI_or, nI_and, z_sdf, of_nI, ite_not, m_i3, m_i99, m_i7, m_i1, m_i20, m_i2, m_i8, m_i15, m_i60, c_noPair w r, c_noTongues, c_noRow, if_pos hx, if_pos hT, if_pos hq, c1, d1, if_true]
          · have h27 : hg h3 178 27 = nI 0 := by rw [e2.1, c]; rfl
            simp (disch := first | assumption | omega) only [F_Mo_way, lit_0, lit_1, lit_2, lit_3, lit_4, lit_5, lit_6, lit_7, lit_8, lit_9, lit_10, lit_11, lit_12, lit_16, lit_17, lit_20, lit_31, lit_32, lit_40, lit_47, lit_48, lit_49, lit_57, lit_58, lit_60, lit_64, lit_68, lit_80, lit_97, lit_99, lit_100, lit_101, lit_104, lit_108, lit_109, lit_115, lit_117, lit_121, lit_127, lit_128, lit_140, lit_1000, lit_1000000, lit_1048576, bI_ret, bV_ret, bL_ret, bH_t, cond_true, z_0, z_1, retZ_tf, z_tf0, z_tf1, Decidable.not_not, Classical.not_not, nI_add, nI_clamp, n_le, n_lt, n_eq, nI_or, nI_and, z_sdf, of_nI, ite_not, m_i3, m_i99, m_i7, m_i1, m_i20, m_i2, m_i8, m_i15, m_i60, m_isAsk w m2, m_isRow, if_pos (And.intro hx hT), if_pos hq, e1, h27, if_true]
        · obtain ⟨p, p1, p2, p3⟩ := d4 c
          obtain ⟨sx, hsx, g1, g2, g3, g4, g5⟩ := aw_facts w ha hb hab p2
          obtain ⟨h4, b1, b2, b3, b4⟩ := c_fill (h := h2) (s := s) (k := p.length + 1) (q := 67) (N := 7) s10 (by decide +kernel) (by decide +kernel) (by decide +kernel) (by omega) (by omega) (by omega) (by omega) (by decide)
          have fr4 : ∀ c j, ¬ scr c j → ¬ fpS s c j → hg h4 c j = hg h c j := fun c j n1 n2 => by
            rw [b4 c j (fun z => n2 (by unfold fpS; omega)) (fun z => n2 (by unfold fpS; omega)), frS_C f2 c j n1]
          have m4 := MLd_R m s10 fr4
          obtain ⟨h5, e1, e2, e3⟩ := m_setWays (fg := 0) w m4 ha hb hab hT2 (by decide)
          have e1 : F_Mo_setWays (nI a) (nI b) (nI T) (nI 0) h4 = retV h5 := e1
          have hB := e2.2.2.2
          rw [p1] at hB
          obtain ⟨k1, k2, k3, k4, k5⟩ := hB
          have h0 : (aw v a b T 0).length ≠ 0 := fun e => c (List.eq_nil_of_length_eq_zero e)
          obtain ⟨h6, i1, i2, i3, i4⟩ := m_rowNew (h := h5) (s := s) (n := p.length + 1) hs9 (by omega)
          have e25 : hg h6 178 25 = nI (p.length + 1) := (i4 178 25 (by omega) (by omega)).trans k4
          obtain ⟨h7, j1, j2, j3⟩ := m_wayLoop (g := h6) hs9 (show p.length + 1 ≤ 7 by omega) e25
          have fr7 : ∀ c j, ¬ scr c j → ¬ fpS s c j → hg h7 c j = hg h c j := fun c j n1 n2 => by
            rw [j3 c j (fun z => n2 (by unfold fpS; omega)), i4 c j (fun z => n2 (by unfold fpS; omega)) (fun z => n2 (by unfold fpS; omega)), frS_W e3 c j n1, fr4 c j n1 n2]
          refine ⟨(nI (p.length + 1) - nI 2), h4, h7, ?_, ?_, Inv_R I (s := s) s10 (CA_ag2 (s := s) I fr7 s10) (Or.inr ⟨p.length + 1, by omega, ?_, ?_, fun j hj => ?_⟩) fun a j n1 n2 n3 => fr7 a j n1 n3⟩
          · rw [tf_t c] at d1
            have e5 : hg h4 64 5 = nI (p.length + 1) := (b4 64 5 (by omega) (by omega)).trans p3.1
            simp (disch := first | assumption | omega) only [F_Bp_way, lit_0, lit_1, lit_2, lit_3, lit_4, lit_5, lit_6, lit_7, lit_8, lit_9, lit_10, lit_11, lit_12, lit_16, lit_17, lit_20, lit_31, lit_32, lit_40, lit_47, lit_48, lit_49, lit_57, lit_58, lit_60, lit_64, lit_68, lit_80, lit_97, lit_99, lit_100, lit_101, lit_104, lit_108, lit_109, lit_115, lit_117, lit_121, lit_127, lit_128, lit_140, lit_1000, lit_1000000, lit_1048576, bI_ret, bV_ret, bL_ret, bH_t, cond_true, z_0, z_1, retZ_tf, z_tf0, z_tf1, Decidable.not_not, Classical.not_not, nI_add, nI_clamp, n_le, n_lt, n_eq, nI_or, nI_and, z_sdf, of_nI, ite_not, m_i3, m_i99, m_i7, m_i1, m_i20, m_i2, m_i8, m_i15, m_i60, c_noPair w r, c_noTongues, c_noRow, if_pos hx, if_pos hT, if_pos hq, c1, d1, oR_1, sR_1, sh_O s10, p3.1, b1, e5]
            rw [if_neg (by decide)]
            rfl
          · simp (disch := first | assumption | omega) only [F_Mo_way, lit_0, lit_1, lit_2, lit_3, lit_4, lit_5, lit_6, lit_7, lit_8, lit_9, lit_10, lit_11, lit_12, lit_16, lit_17, lit_20, lit_31, lit_32, lit_40, lit_47, lit_48, lit_49, lit_57, lit_58, lit_60, lit_64, lit_68, lit_80, lit_97, lit_99, lit_100, lit_101, lit_104, lit_108, lit_109, lit_115, lit_117, lit_121, lit_127, lit_128, lit_140, lit_1000, lit_1000000, lit_1048576, bI_ret, bV_ret, bL_ret, bH_t, cond_true, z_0, z_1, retZ_tf, z_tf0, z_tf1, Decidable.not_not, Classical.not_not, nI_add, nI_clamp, n_le, n_lt, n_eq, nI_or, nI_and, z_sdf, of_nI, ite_not, m_i3, m_i99, m_i7, m_i1, m_i20, m_i2, m_i8, m_i15, m_i60, m_isAsk w m4, m_isRow, if_pos (And.intro hx hT), if_pos hq, e1, e2.1, k4, i1, if_neg h0]
            exact j1
          · rw [j3 _ _ (by omega), i4 _ _ (by omega) (by omega), e3 _ _ (by unfold wW; omega)]; exact b2
          · unfold mSz
            rw [if_pos hs9, j3 _ _ (by omega)]; exact i2
          · unfold mVl
            rw [if_pos hs9, j2 j hj, i4 194 j (by omega) (by omega), k5 j hj, j3 _ _ (by omega), i4 _ _ (by omega) (by omega), e3 _ _ (by unfold wW; omega), b3 j hj]
            exact p3.2 j hj
      · refine fin_q I (h1 := h) (h2 := h) (x := -nI 1) ?_ (frS_rf h) ?_ (frS_rf h)
        · simp (disch := first | assumption | omega) only [F_Bp_way, lit_0, lit_1, lit_2, lit_3, lit_4, lit_5, lit_6, lit_7, lit_8, lit_9, lit_10, lit_11, lit_12, lit_16, lit_17, lit_20, lit_31, lit_32, lit_40, lit_47, lit_48, lit_49, lit_57, lit_58, lit_60, lit_64, lit_68, lit_80, lit_97, lit_99, lit_100, lit_101, lit_104, lit_108, lit_109, lit_115, lit_117, lit_121, lit_127, lit_128, lit_140, lit_1000, lit_1000000, lit_1048576, bI_ret, bV_ret, bL_ret, bH_t, cond_true, z_0, z_1, retZ_tf, z_tf0, z_tf1, Decidable.not_not, Classical.not_not, nI_add, nI_clamp, n_le, n_lt, n_eq, nI_or, nI_and, z_sdf, of_nI, ite_not, m_i3, m_i99, m_i7, m_i1, m_i20, m_i2, m_i8, m_i15, m_i60, c_noPair w r, c_noTongues, c_noRow, if_pos hx, if_pos hT, if_neg hq]
        · simp (disch := first | assumption | omega) only [F_Mo_way, lit_0, lit_1, lit_2, lit_3, lit_4, lit_5, lit_6, lit_7, lit_8, lit_9, lit_10, lit_11, lit_12, lit_16, lit_17, lit_20, lit_31, lit_32, lit_40, lit_47, lit_48, lit_49, lit_57, lit_58, lit_60, lit_64, lit_68, lit_80, lit_97, lit_99, lit_100, lit_101, lit_104, lit_108, lit_109, lit_115, lit_117, lit_121, lit_127, lit_128, lit_140, lit_1000, lit_1000000, lit_1048576, bI_ret, bV_ret, bL_ret, bH_t, cond_true, z_0, z_1, retZ_tf, z_tf0, z_tf1, Decidable.not_not, Classical.not_not, nI_add, nI_clamp, n_le, n_lt, n_eq, nI_or, nI_and, z_sdf, of_nI, ite_not, m_i3, m_i99, m_i7, m_i1, m_i20, m_i2, m_i8, m_i15, m_i60, m_isAsk w m, m_isRow, if_pos (And.intro hx hT), if_neg hq]
    · have hno : ¬ ((inR x (v 0 0) ∧ inR y (v 0 0) ∧ x ≠ y) ∧ inV T 1 32) := fun z => hT z.2
      refine fin_q I (h1 := h) (h2 := h) (x := -nI 1) ?_ (frS_rf h) ?_ (frS_rf h)
      · simp (disch := first | assumption | omega) only [F_Bp_way, lit_0, lit_1, lit_2, lit_3, lit_4, lit_5, lit_6, lit_7, lit_8, lit_9, lit_10, lit_11, lit_12, lit_16, lit_17, lit_20, lit_31, lit_32, lit_40, lit_47, lit_48, lit_49, lit_57, lit_58, lit_60, lit_64, lit_68, lit_80, lit_97, lit_99, lit_100, lit_101, lit_104, lit_108, lit_109, lit_115, lit_117, lit_121, lit_127, lit_128, lit_140, lit_1000, lit_1000000, lit_1048576, bI_ret, bV_ret, bL_ret, bH_t, cond_true, z_0, z_1, retZ_tf, z_tf0, z_tf1, Decidable.not_not, Classical.not_not, nI_add, nI_clamp, n_le, n_lt, n_eq, nI_or, nI_and, z_sdf, of_nI, ite_not, m_i3, m_i99, m_i7, m_i1, m_i20, m_i2, m_i8, m_i15, m_i60, c_noPair w r, c_noTongues, if_pos hx, if_neg hT]
      · simp (disch := first | assumption | omega) only [F_Mo_way, lit_0, lit_1, lit_2, lit_3, lit_4, lit_5, lit_6, lit_7, lit_8, lit_9, lit_10, lit_11, lit_12, lit_16, lit_17, lit_20, lit_31, lit_32, lit_40, lit_47, lit_48, lit_49, lit_57, lit_58, lit_60, lit_64, lit_68, lit_80, lit_97, lit_99, lit_100, lit_101, lit_104, lit_108, lit_109, lit_115, lit_117, lit_121, lit_127, lit_128, lit_140, lit_1000, lit_1000000, lit_1048576, bI_ret, bV_ret, bL_ret, bH_t, cond_true, z_0, z_1, retZ_tf, z_tf0, z_tf1, Decidable.not_not, Classical.not_not, nI_add, nI_clamp, n_le, n_lt, n_eq, nI_or, nI_and, z_sdf, of_nI, ite_not, m_i3, m_i99, m_i7, m_i1, m_i20, m_i2, m_i8, m_i15, m_i60, m_isAsk w m, if_neg hno]
  · have hno : ¬ ((inR x (v 0 0) ∧ inR y (v 0 0) ∧ x ≠ y) ∧ inV T 1 32) := fun z => hx z.1
    refine fin_q I (h1 := h) (h2 := h) (x := -nI 1) ?_ (frS_rf h) ?_ (frS_rf h)
    · simp (disch := first | assumption | omega) only [F_Bp_way, lit_0, lit_1, lit_2, lit_3, lit_4, lit_5, lit_6, lit_7, lit_8, lit_9, lit_10, lit_11, lit_12, lit_16, lit_17, lit_20, lit_31, lit_32, lit_40, lit_47, lit_48, lit_49, lit_57, lit_58, lit_60, lit_64, lit_68, lit_80, lit_97, lit_99, lit_100, lit_101, lit_104, lit_108, lit_109, lit_115, lit_117, lit_121, lit_127, lit_128, lit_140, lit_1000, lit_1000000, lit_1048576, bI_ret, bV_ret, bL_ret, bH_t, cond_true, z_0, z_1, retZ_tf, z_tf0, z_tf1, Decidable.not_not, Classical.not_not, nI_add, nI_clamp, n_le, n_lt, n_eq, nI_or, nI_and, z_sdf, of_nI, ite_not, m_i3, m_i99, m_i7, m_i1, m_i20, m_i2, m_i8, m_i15, m_i60, c_noPair w r, if_neg hx]
    · simp (disch := first | assumption | omega) only [F_Mo_way, lit_0, lit_1, lit_2, lit_3, lit_4, lit_5, lit_6, lit_7, lit_8, lit_9, lit_10, lit_11, lit_12, lit_16, lit_17, lit_20, lit_31, lit_32, lit_40, lit_47, lit_48, lit_49, lit_57, lit_58, lit_60, lit_64, lit_68, lit_80, lit_97, lit_99, lit_100, lit_101, lit_104, lit_108, lit_109, lit_115, lit_117, lit_121, lit_127, lit_128, lit_140, lit_1000, lit_1000000, lit_1048576, bI_ret, bV_ret, bL_ret, bH_t, cond_true, z_0, z_1, retZ_tf, z_tf0, z_tf1, Decidable.not_not, Classical.not_not, nI_add, nI_clamp, n_le, n_lt, n_eq, nI_or, nI_and, z_sdf, of_nI, ite_not, m_i3, m_i99, m_i7, m_i1, m_i20, m_i2, m_i8, m_i15, m_i60, m_isAsk w m, if_neg hno]
