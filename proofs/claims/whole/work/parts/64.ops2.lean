/-! OPERATIONS: needs, reach, cutOff, taught, worth, forget -/
theorem each_mid {v : LV} (w : WF v) {a b T z : Nat} (ha : a < v 0 0) (hb : b < v 0 0) (hab : a ≠ b) (hne : aw v a b T 0 ≠ []) (hz : (eachOf (aw v a b T 0)).testBit z = true) : z < v 0 0 ∧ z ≠ a ∧ z ≠ b := by
  obtain ⟨l, hl⟩ := List.exists_mem_of_ne_nil _ hne
  have hw := ((mem_aw w ha hb hab).mp hl).1
  obtain ⟨h1, h2⟩ := (mset_way hw).mp (((each_tb _).mp hz).2 l hl)
  refine ⟨wayF_lt (fun a b q => (met_lt w q).2.1) l a hw z h1, ?_, h2⟩
  rcases wayF_mem hw z h1 with e | e
  · exact absurd e h2
  · exact e.2.1
theorem c_needsLoop {v : LV} {h : Hp} (w : WF v) (r : CLd 3 v h) {a b T : Nat} (ha : a < v 0 0) (hb : b < v 0 0) (hab : a ≠ b) (hne : aw v a b T 0 ≠ []) : loopC Bp_needs_53 FU (nI a, nI b, nI (car v T), nI 0, nI 0, h) = retI (nI (eachOf (aw v a b T 0))) h := by
  have hn := w.1
  have he : eachOf (aw v a b T 0) = ms (v 0 0) (fun z => (eachOf (aw v a b T 0)).testBit z) := by
    refine ms_of ?_ (fun _ _ => rfl)
    apply Nat.lt_pow_two_of_testBit
    intro i hi
    cases c : (eachOf (aw v a b T 0)).testBit i with
    | false => rfl
    | true => have := (each_mid w ha hb hab hne c).1; omega
  rw [he]
  refine loop_for (N := v 0 0) (fun i => (nI a, nI b, nI (car v T), nI (ms i (fun z => (eachOf (aw v a b T 0)).testBit z)), nI i, h)) rfl (by show _ < 4096; omega) (fun i κ hi => ?_) (fun κ => ?_)
  · have hsl := sdf_lt (b := 2 ^ i) (car_lt w T)
    have hel : ends v a (sdf (car v T) (2 ^ i)) < 2 ^ 31 := Nat.lt_trans (ends_lt w a _) (by decide)
    simp (disch := first | assumption | omega) only [Bp_needs_53, lit_0, lit_1, lit_2, lit_3, lit_4, lit_5, lit_6, lit_7, lit_8, lit_9, lit_10, lit_11, lit_12, lit_16, lit_17, lit_20, lit_31, lit_32, lit_40, lit_47, lit_48, lit_49, lit_57, lit_58, lit_60, lit_64, lit_68, lit_80, lit_97, lit_99, lit_100, lit_101, lit_104, lit_108, lit_109, lit_115, lit_117, lit_121, lit_127, lit_128, lit_140, lit_1000, lit_1000000, lit_1048576, bI_ret, bV_ret, bL_ret, bH_t, cond_true, z_0, z_1, retZ_tf, z_tf0, z_tf1, Decidable.not_not, Classical.not_not, nI_add, nI_clamp, n_le, n_lt, n_eq, nI_or, nI_and, z_sdf, of_nI, L_n r, c_bit, c_endsFrom w r ha hsl, c_has, ms_s i]
    rw [if_neg (by omega)]
    by_cases e1 : i = a
    · rw [if_pos e1, if_neg (fun q => (each_mid w ha hb hab hne q).2.1 e1)]
    · rw [if_neg e1]
      by_cases e2 : i = b
      · rw [if_pos e2, if_neg (fun q => (each_mid w ha hb hab hne q).2.2 e2)]
      · rw [if_neg e2]
        have hl := ends_less (T := T) w ha hb hab e2
        by_cases q : (ends v a (sdf (car v T) (2 ^ i))).testBit b = true
        · obtain ⟨l, l1, l2⟩ := hl.mp q
          rw [if_neg (fun z => z q), if_neg (fun z => by
            rw [((each_tb _).mp z).2 l l1] at l2
            cases l2)]
        · rw [if_pos q, if_pos ((each_tb _).mpr ⟨by omega, fun l hm => by
            cases d : (mset l).testBit i with
            | true => rfl
            | false => exact absurd (hl.mpr ⟨l, hm, d⟩) q⟩)]
  · simp (disch := first | assumption | omega) only [Bp_needs_53, lit_0, lit_1, lit_2, lit_3, lit_4, lit_5, lit_6, lit_7, lit_8, lit_9, lit_10, lit_11, lit_12, lit_16, lit_17, lit_20, lit_31, lit_32, lit_40, lit_47, lit_48, lit_49, lit_57, lit_58, lit_60, lit_64, lit_68, lit_80, lit_97, lit_99, lit_100, lit_101, lit_104, lit_108, lit_109, lit_115, lit_117, lit_121, lit_127, lit_128, lit_140, lit_1000, lit_1000000, lit_1048576, bI_ret, bV_ret, bL_ret, bH_t, cond_true, z_0, z_1, retZ_tf, z_tf0, z_tf1, Decidable.not_not, Classical.not_not, nI_add, nI_clamp, n_le, n_lt, n_eq, nI_or, nI_and, z_sdf, of_nI, L_n r, Nat.le_refl, if_true]
theorem g_needs (x y T : Int32) {h : Hp} (I : Inv h) : Ok (F_Bp_needs x y T) (F_Mo_needs x y T) h := by
  obtain ⟨-, -, v, w, r, m, -⟩ := id I
  have hn := w.1
  by_cases hx : inR x (v 0 0) ∧ inR y (v 0 0) ∧ x ≠ y
  · by_cases hT : inV T 1 32
    · obtain ⟨a, b, ha, hb, hab, rfl, rfl⟩ := two_ex hn hx
      obtain ⟨T, hT1, hT2, rfl⟩ := inV_ex (by decide) hT
      obtain ⟨h2, d1, d2, d3⟩ := m_setWays (fg := 0) w m ha hb hab hT2 (by decide)
      have d1 : F_Mo_setWays (nI a) (nI b) (nI T) (nI 0) h = retV h2 := d1
      have hlen := aw_len w a b T 0
      have hcr : F_Wa_carriers (nI T) h = retI (nI (car v T)) h := c_carriers w r hT2
      have hel : ends v a (car v T) < 2 ^ 31 := Nat.lt_trans (ends_lt w a _) (by decide)
      have hea := ends_aw (T := T) w ha hb hab
      by_cases c : aw v a b T 0 = []
      · have hq : ¬ (ends v a (car v T)).testBit b = true := fun z => hea.mp z c
        refine fin_q I (h1 := h) (h2 := h2) (x := nI 0) ?_ (frS_rf h) ?_ (frS_W d3)
        · simp (disch := first | assumption | omega) only [F_Bp_needs, lit_0, lit_1, lit_2, lit_3, lit_4, lit_5, lit_6, lit_7, lit_8, lit_9, lit_10, lit_11, lit_12, lit_16, lit_17, lit_20, lit_31, lit_32, lit_40, lit_47, lit_48, lit_49, lit_57, lit_58, lit_60, lit_64, lit_68, lit_80, lit_97, lit_99, lit_100, lit_101, lit_104, lit_108, lit_109, lit_115, lit_117, lit_121, lit_127, lit_128, lit_140, lit_1000, lit_1000000, lit_1048576, bI_ret, bV_ret, bL_ret, bH_t, cond_true, z_0, z_1, retZ_tf, z_tf0, z_tf1, Decidable.not_not, Classical.not_not, nI_add, nI_clamp, n_le, n_lt, n_eq, nI_or, nI_and, z_sdf, of_nI, ite_not, m_i3, m_i99, m_i7, m_i1, m_i20, m_i2, m_i8, m_i15, m_i60, c_noPair w r, c_noTongues, if_pos hx, if_pos hT, hcr, c_endsFrom w r ha (car_lt w T), c_has, if_neg hq]
        · have h27 : hg h2 178 27 = nI 0 := by rw [d2.1, c]; rfl
          simp (disch := first | assumption | omega) only [F_Mo_needs, lit_0, lit_1, lit_2, lit_3, lit_4, lit_5, lit_6, lit_7, lit_8, lit_9, lit_10, lit_11, lit_12, lit_16, lit_17, lit_20, lit_31, lit_32, lit_40, lit_47, lit_48, lit_49, lit_57, lit_58, lit_60, lit_64, lit_68, lit_80, lit_97, lit_99, lit_100, lit_101, lit_104, lit_108, lit_109, lit_115, lit_117, lit_121, lit_127, lit_128, lit_140, lit_1000, lit_1000000, lit_1048576, bI_ret, bV_ret, bL_ret, bH_t, cond_true, z_0, z_1, retZ_tf, z_tf0, z_tf1, Decidable.not_not, Classical.not_not, nI_add, nI_clamp, n_le, n_lt, n_eq, nI_or, nI_and, z_sdf, of_nI, ite_not, m_i3, m_i99, m_i7, m_i1, m_i20, m_i2, m_i8, m_i15, m_i60, m_isAsk w m, if_pos (And.intro hx hT), d1, h27, if_true]
      · have hq : (ends v a (car v T)).testBit b = true := hea.mpr c
        refine fin_q I (h1 := h) (h2 := h2) (x := nI (eachOf (aw v a b T 0))) ?_ (frS_rf h) ?_ (frS_W d3)
        · simp (disch := first | assumption | omega) only [F_Bp_needs, lit_0, lit_1, lit_2, lit_3, lit_4, lit_5, lit_6, lit_7, lit_8, lit_9, lit_10, lit_11, lit_12, lit_16, lit_17, lit_20, lit_31, lit_32, lit_40, lit_47, lit_48, lit_49, lit_57, lit_58, lit_60, lit_64, lit_68, lit_80, lit_97, lit_99, lit_100, lit_101, lit_104, lit_108, lit_109, lit_115, lit_117, lit_121, lit_127, lit_128, lit_140, lit_1000, lit_1000000, lit_1048576, bI_ret, bV_ret, bL_ret, bH_t, cond_true, z_0, z_1, retZ_tf, z_tf0, z_tf1, Decidable.not_not, Classical.not_not, nI_add, nI_clamp, n_le, n_lt, n_eq, nI_or, nI_and, z_sdf, of_nI, ite_not, m_i3, m_i99, m_i7, m_i1, m_i20, m_i2, m_i8, m_i15, m_i60, c_noPair w r, c_noTongues, if_pos hx, if_pos hT, hcr, c_endsFrom w r ha (car_lt w T), c_has, if_pos hq, c_needsLoop w r ha hb hab c]
        · have h0 : (aw v a b T 0).length ≠ 0 := fun e => c (List.eq_nil_of_length_eq_zero e)
          simp (disch := first | assumption | omega) only [F_Mo_needs, lit_0, lit_1, lit_2, lit_3, lit_4, lit_5, lit_6, lit_7, lit_8, lit_9, lit_10, lit_11, lit_12, lit_16, lit_17, lit_20, lit_31, lit_32, lit_40, lit_47, lit_48, lit_49, lit_57, lit_58, lit_60, lit_64, lit_68, lit_80, lit_97, lit_99, lit_100, lit_101, lit_104, lit_108, lit_109, lit_115, lit_117, lit_121, lit_127, lit_128, lit_140, lit_1000, lit_1000000, lit_1048576, bI_ret, bV_ret, bL_ret, bH_t, cond_true, z_0, z_1, retZ_tf, z_tf0, z_tf1, Decidable.not_not, Classical.not_not, nI_add, nI_clamp, n_le, n_lt, n_eq, nI_or, nI_and, z_sdf, of_nI, ite_not, m_i3, m_i99, m_i7, m_i1, m_i20, m_i2, m_i8, m_i15, m_i60, m_isAsk w m, if_pos (And.intro hx hT), d1, d2.1, if_neg h0, d2.2.1]
    · have hno : ¬ ((inR x (v 0 0) ∧ inR y (v 0 0) ∧ x ≠ y) ∧ inV T 1 32) := fun z => hT z.2
      refine fin_q I (h1 := h) (h2 := h) (x := -nI 1) ?_ (frS_rf h) ?_ (frS_rf h)
      · simp (disch := first | assumption | omega) only [F_Bp_needs, lit_0, lit_1, lit_2, lit_3, lit_4, lit_5, lit_6, lit_7, lit_8, lit_9, lit_10, lit_11, lit_12, lit_16, lit_17, lit_20, lit_31, lit_32, lit_40, lit_47, lit_48, lit_49, lit_57, lit_58, lit_60, lit_64, lit_68, lit_80, lit_97, lit_99, lit_100, lit_101, lit_104, lit_108, lit_109, lit_115, lit_117, lit_121, lit_127, lit_128, lit_140, lit_1000, lit_1000000, lit_1048576, bI_ret, bV_ret, bL_ret, bH_t, cond_true, z_0, z_1, retZ_tf, z_tf0, z_tf1, Decidable.not_not, Classical.not_not, nI_add, nI_clamp, n_le, n_lt, n_eq, nI_or, nI_and, z_sdf, of_nI, ite_not, m_i3, m_i99, m_i7, m_i1, m_i20, m_i2, m_i8, m_i15, m_i60, c_noPair w r, c_noTongues, if_pos hx, if_neg hT]
      · simp (disch := first | assumption | omega) only [F_Mo_needs, lit_0, lit_1, lit_2, lit_3, lit_4, lit_5, lit_6, lit_7, lit_8, lit_9, lit_10, lit_11, lit_12, lit_16, lit_17, lit_20, lit_31, lit_32, lit_40, lit_47, lit_48, lit_49, lit_57, lit_58, lit_60, lit_64, lit_68, lit_80, lit_97, lit_99, lit_100, lit_101, lit_104, lit_108, lit_109, lit_115, lit_117, lit_121, lit_127, lit_128, lit_140, lit_1000, lit_1000000, lit_1048576, bI_ret, bV_ret, bL_ret, bH_t, cond_true, z_0, z_1, retZ_tf, z_tf0, z_tf1, Decidable.not_not, Classical.not_not, nI_add, nI_clamp, n_le, n_lt, n_eq, nI_or, nI_and, z_sdf, of_nI, ite_not, m_i3, m_i99, m_i7, m_i1, m_i20, m_i2, m_i8, m_i15, m_i60, m_isAsk w m, if_neg hno]
  · have hno : ¬ ((inR x (v 0 0) ∧ inR y (v 0 0) ∧ x ≠ y) ∧ inV T 1 32) := fun z => hx z.1
    refine fin_q I (h1 := h) (h2 := h) (x := -nI 1) ?_ (frS_rf h) ?_ (frS_rf h)
    · simp (disch := first | assumption | omega) only [F_Bp_needs, lit_0, lit_1, lit_2, lit_3, lit_4, lit_5, lit_6, lit_7, lit_8, lit_9, lit_10, lit_11, lit_12, lit_16, lit_17, lit_20, lit_31, lit_32, lit_40, lit_47, lit_48, lit_49, lit_57, lit_58, lit_60, lit_64, lit_68, lit_80, lit_97, lit_99, lit_100, lit_101, lit_104, lit_108, lit_109, lit_115, lit_117, lit_121, lit_127, lit_128, lit_140, lit_1000, lit_1000000, lit_1048576, bI_ret, bV_ret, bL_ret, bH_t, cond_true, z_0, z_1, retZ_tf, z_tf0, z_tf1, Decidable.not_not, Classical.not_not, nI_add, nI_clamp, n_le, n_lt, n_eq, nI_or, nI_and, z_sdf, of_nI, ite_not, m_i3, m_i99, m_i7, m_i1, m_i20, m_i2, m_i8, m_i15, m_i60, c_noPair w r, if_neg hx]
    · simp (disch := first | assumption | omega) only [F_Mo_needs, lit_0, lit_1, lit_2, lit_3, lit_4, lit_5, lit_6, lit_7, lit_8, lit_9, lit_10, lit_11, lit_12, lit_16, lit_17, lit_20, lit_31, lit_32, lit_40, lit_47, lit_48, lit_49, lit_57, lit_58, lit_60, lit_64, lit_68, lit_80, lit_97, lit_99, lit_100, lit_101, lit_104, lit_108, lit_109, lit_115, lit_117, lit_121, lit_127, lit_128, lit_140, lit_1000, lit_1000000, lit_1048576, bI_ret, bV_ret, bL_ret, bH_t, cond_true, z_0, z_1, retZ_tf, z_tf0, z_tf1, Decidable.not_not, Classical.not_not, nI_add, nI_clamp, n_le, n_lt, n_eq, nI_or, nI_and, z_sdf, of_nI, ite_not, m_i3, m_i99, m_i7, m_i1, m_i20, m_i2, m_i8, m_i15, m_i60, m_isAsk w m, if_neg hno]
theorem m_reachLoop {v : LV} {h : Hp} (w : WF v) (m : MLd v h) {a t : Nat} (ha : a < v 0 0) (ht : t < 5) : ∃ h', loopC Mo_reach_22 FU (nI a, nI t, nI 0, nI 0, h) = retI (nI (ms (v 0 0) (fun y => wayB v a y t))) h' ∧ frW h h' := by
  have hn := w.1
  refine Exists.elim (loop_all (K := Unit) (b := fun _ => Mo_reach_22) (N := v 0 0) (n := FU) (s0 := (nI a, nI t, nI 0, nI 0, h)) (fun i s => ∃ g, s = (nI a, nI t, nI (ms i (fun y => wayB v a y t)), nI i, g) ∧ frW h g) ⟨h, rfl, frW_rf h⟩ (by show _ < 4096; omega) ?_) ?_
  · rintro i s hi ⟨g, rfl, p1⟩
    have rg := MLd_W m p1
    by_cases e : i = a
    · have e0 : wayB v a i t = false := by unfold wayB wrB; rw [e]; simp
      refine ⟨(nI a, nI t, nI (ms (i + 1) (fun y => wayB v a y t)), nI (i + 1), g), ⟨g, rfl, p1⟩, fun k κ => ?_⟩
      simp (disch := first | assumption | omega) only [Mo_reach_22, lit_0, lit_1, lit_2, lit_3, lit_4, lit_5, lit_6, lit_7, lit_8, lit_9, lit_10, lit_11, lit_12, lit_16, lit_17, lit_20, lit_31, lit_32, lit_40, lit_47, lit_48, lit_49, lit_57, lit_58, lit_60, lit_64, lit_68, lit_80, lit_97, lit_99, lit_100, lit_101, lit_104, lit_108, lit_109, lit_115, lit_117, lit_121, lit_127, lit_128, lit_140, lit_1000, lit_1000000, lit_1048576, bI_ret, bV_ret, bL_ret, bH_t, cond_true, z_0, z_1, retZ_tf, z_tf0, z_tf1, Decidable.not_not, Classical.not_not, nI_add, nI_clamp, n_le, n_lt, n_eq, nI_or, nI_and, z_sdf, of_nI, M_n rg, or_0, ms_s i, e0]
      rw [if_neg (by omega), if_pos e]
      rfl
    · obtain ⟨g2, k1, k2, -⟩ := m_isWayIn w rg ha hi (fun z => e z.symm) ht
      refine ⟨(nI a, nI t, nI (ms (i + 1) (fun y => wayB v a y t)), nI (i + 1), g2), ⟨g2, rfl, frW_tr p1 k2⟩, fun k κ => ?_⟩
      simp (disch := first | assumption | omega) only [Mo_reach_22, lit_0, lit_1, lit_2, lit_3, lit_4, lit_5, lit_6, lit_7, lit_8, lit_9, lit_10, lit_11, lit_12, lit_16, lit_17, lit_20, lit_31, lit_32, lit_40, lit_47, lit_48, lit_49, lit_57, lit_58, lit_60, lit_64, lit_68, lit_80, lit_97, lit_99, lit_100, lit_101, lit_104, lit_108, lit_109, lit_115, lit_117, lit_121, lit_127, lit_128, lit_140, lit_1000, lit_1000000, lit_1048576, bI_ret, bV_ret, bL_ret, bH_t, cond_true, z_0, z_1, retZ_tf, z_tf0, z_tf1, Decidable.not_not, Classical.not_not, nI_add, nI_clamp, n_le, n_lt, n_eq, nI_or, nI_and, z_sdf, of_nI, M_n rg, k1, z_bit, or_0, ms_s i]
      rw [if_neg (by omega), if_neg e]
      by_cases q : wayB v a i t = true
      · simp only [q, not_true, if_false, if_true]
      · simp only [q, not_false_iff, if_true, if_false, Bool.false_eq_true]
  · rintro s ⟨⟨g, rfl, p1⟩, q⟩
    have rg := MLd_W m p1
    refine ⟨g, q () _ fun κ => ?_, p1⟩
    simp (disch := first | assumption | omega) only [Mo_reach_22, lit_0, lit_1, lit_2, lit_3, lit_4, lit_5, lit_6, lit_7, lit_8, lit_9, lit_10, lit_11, lit_12, lit_16, lit_17, lit_20, lit_31, lit_32, lit_40, lit_47, lit_48, lit_49, lit_57, lit_58, lit_60, lit_64, lit_68, lit_80, lit_97, lit_99, lit_100, lit_101, lit_104, lit_108, lit_109, lit_115, lit_117, lit_121, lit_127, lit_128, lit_140, lit_1000, lit_1000000, lit_1048576, bI_ret, bV_ret, bL_ret, bH_t, cond_true, z_0, z_1, retZ_tf, z_tf0, z_tf1, Decidable.not_not, Classical.not_not, nI_add, nI_clamp, n_le, n_lt, n_eq, nI_or, nI_and, z_sdf, of_nI, M_n rg, Nat.le_refl, if_true]
theorem g_reach (x t : Int32) {h : Hp} (I : Inv h) : Ok (F_Bp_reach x t) (F_Mo_reach x t) h := by
  obtain ⟨-, -, v, w, r, m, -⟩ := id I
  have hn := w.1
  by_cases hx : inR x (v 0 0)
  · by_cases ht : inR t 5
    · obtain ⟨a, ha, rfl⟩ := inR_ex (by omega) hx
      obtain ⟨t, ht2, rfl⟩ := inR_ex (by decide) ht
      obtain ⟨h2, k1, k2⟩ := m_reachLoop w m ha ht2
      refine fin_q I (h1 := h) (h2 := h2) (x := nI (ms (v 0 0) (fun y => wayB v a y t))) ?_ (frS_rf h) ?_ (frS_W k2)
      · simp (disch := first | assumption | omega) only [F_Bp_reach, lit_0, lit_1, lit_2, lit_3, lit_4, lit_5, lit_6, lit_7, lit_8, lit_9, lit_10, lit_11, lit_12, lit_16, lit_17, lit_20, lit_31, lit_32, lit_40, lit_47, lit_48, lit_49, lit_57, lit_58, lit_60, lit_64, lit_68, lit_80, lit_97, lit_99, lit_100, lit_101, lit_104, lit_108, lit_109, lit_115, lit_117, lit_121, lit_127, lit_128, lit_140, lit_1000, lit_1000000, lit_1048576, bI_ret, bV_ret, bL_ret, bH_t, cond_true, z_0, z_1, retZ_tf, z_tf0, z_tf1, Decidable.not_not, Classical.not_not, nI_add, nI_clamp, n_le, n_lt, n_eq, nI_or, nI_and, z_sdf, of_nI, ite_not, m_i3, m_i99, m_i7, m_i1, m_i20, m_i2, m_i8, m_i15, m_i60, c_lacks isL_3 w r, c_noTongue, if_pos hx, if_pos ht, c_reachedBy w r ha ht2]
      · simp (disch := first | assumption | omega) only [F_Mo_reach, lit_0, lit_1, lit_2, lit_3, lit_4, lit_5, lit_6, lit_7, lit_8, lit_9, lit_10, lit_11, lit_12, lit_16, lit_17, lit_20, lit_31, lit_32, lit_40, lit_47, lit_48, lit_49, lit_57, lit_58, lit_60, lit_64, lit_68, lit_80, lit_97, lit_99, lit_100, lit_101, lit_104, lit_108, lit_109, lit_115, lit_117, lit_121, lit_127, lit_128, lit_140, lit_1000, lit_1000000, lit_1048576, bI_ret, bV_ret, bL_ret, bH_t, cond_true, z_0, z_1, retZ_tf, z_tf0, z_tf1, Decidable.not_not, Classical.not_not, nI_add, nI_clamp, n_le, n_lt, n_eq, nI_or, nI_and, z_sdf, of_nI, ite_not, m_i3, m_i99, m_i7, m_i1, m_i20, m_i2, m_i8, m_i15, m_i60, m_isOne w m, m_isTongue, if_pos hx, if_pos ht, k1]
    · refine fin_q I (h1 := h) (h2 := h) (x := -nI 1) ?_ (frS_rf h) ?_ (frS_rf h)
      · simp (disch := first | assumption | omega) only [F_Bp_reach, lit_0, lit_1, lit_2, lit_3, lit_4, lit_5, lit_6, lit_7, lit_8, lit_9, lit_10, lit_11, lit_12, lit_16, lit_17, lit_20, lit_31, lit_32, lit_40, lit_47, lit_48, lit_49, lit_57, lit_58, lit_60, lit_64, lit_68, lit_80, lit_97, lit_99, lit_100, lit_101, lit_104, lit_108, lit_109, lit_115, lit_117, lit_121, lit_127, lit_128, lit_140, lit_1000, lit_1000000, lit_1048576, bI_ret, bV_ret, bL_ret, bH_t, cond_true, z_0, z_1, retZ_tf, z_tf0, z_tf1, Decidable.not_not, Classical.not_not, nI_add, nI_clamp, n_le, n_lt, n_eq, nI_or, nI_and, z_sdf, of_nI, ite_not, m_i3, m_i99, m_i7, m_i1, m_i20, m_i2, m_i8, m_i15, m_i60, c_lacks isL_3 w r, c_noTongue, if_pos hx, if_neg ht]
      · simp (disch := first | assumption | omega) only [F_Mo_reach, lit_0, lit_1, lit_2, lit_3, lit_4, lit_5, lit_6, lit_7, lit_8, lit_9, lit_10, lit_11, lit_12, lit_16, lit_17, lit_20, lit_31, lit_32, lit_40, lit_47, lit_48, lit_49, lit_57, lit_58, lit_60, lit_64, lit_68, lit_80, lit_97, lit_99, lit_100, lit_101, lit_104, lit_108, lit_109, lit_115, lit_117, lit_121, lit_127, lit_128, lit_140, lit_1000, lit_1000000, lit_1048576, bI_ret, bV_ret, bL_ret, bH_t, cond_true, z_0, z_1, retZ_tf, z_tf0, z_tf1, Decidable.not_not, Classical.not_not, nI_add, nI_clamp, n_le, n_lt, n_eq, nI_or, nI_and, z_sdf, of_nI, ite_not, m_i3, m_i99, m_i7, m_i1, m_i20, m_i2, m_i8, m_i15, m_i60, m_isOne w m, m_isTongue, if_pos hx, if_neg ht]
  · refine fin_q I (h1 := h) (h2 := h) (x := -nI 1) ?_ (frS_rf h) ?_ (frS_rf h)
    · simp (disch := first | assumption | omega) only [F_Bp_reach, lit_0, lit_1, lit_2, lit_3, lit_4, lit_5, lit_6, lit_7, lit_8, lit_9, lit_10, lit_11, lit_12, lit_16, lit_17, lit_20, lit_31, lit_32, lit_40, lit_47, lit_48, lit_49, lit_57, lit_58, lit_60, lit_64, lit_68, lit_80, lit_97, lit_99, lit_100, lit_101, lit_104, lit_108, lit_109, lit_115, lit_117, lit_121, lit_127, lit_128, lit_140, lit_1000, lit_1000000, lit_1048576, bI_ret, bV_ret, bL_ret, bH_t, cond_true, z_0, z_1, retZ_tf, z_tf0, z_tf1, Decidable.not_not, Classical.not_not, nI_add, nI_clamp, n_le, n_lt, n_eq, nI_or, nI_and, z_sdf, of_nI, ite_not, m_i3, m_i99, m_i7, m_i1, m_i20, m_i2, m_i8, m_i15, m_i60, c_lacks isL_3 w r, if_neg hx]
    · simp (disch := first | assumption | omega) only [F_Mo_reach, lit_0, lit_1, lit_2, lit_3, lit_4, lit_5, lit_6, lit_7, lit_8, lit_9, lit_10, lit_11, lit_12, lit_16, lit_17, lit_20, lit_31, lit_32, lit_40, lit_47, lit_48, lit_49, lit_57, lit_58, lit_60, lit_64, lit_68, lit_80, lit_97, lit_99, lit_100, lit_101, lit_104, lit_108, lit_109, lit_115, lit_117, lit_121, lit_127, lit_128, lit_140, lit_1000, lit_1000000, lit_1048576, bI_ret, bV_ret, bL_ret, bH_t, cond_true, z_0, z_1, retZ_tf, z_tf0, z_tf1, Decidable.not_not, Classical.not_not, nI_add, nI_clamp, n_le, n_lt, n_eq, nI_or, nI_and, z_sdf, of_nI, ite_not, m_i3, m_i99, m_i7, m_i1, m_i20, m_i2, m_i8, m_i15, m_i60, m_isOne w m, if_neg hx]
theorem g_cutOff {h : Hp} (I : Inv h) : Ok F_Bp_cutOff F_Mo_cutOff h := by
  obtain ⟨-, -, v, w, r, m, -⟩ := id I
  obtain ⟨h1, k1, k2, k3, k4⟩ := c_tally w r
  have m1 : MLd v (hs h1 0 11 (nI (allP v))) := MLd_0 (MLd_S m (frS_C k4))
  obtain ⟨h2, e1, e2, e3⟩ := m_cutNow w m1
  refine fin_t I (h1 := h1) (h2 := h2) (x := nI (cutP v)) (a := nI (allP v)) ?_ (frS_C k4) ?_ e3
  · simp (disch := first | assumption | omega) only [F_Bp_cutOff, lit_0, lit_1, lit_2, lit_3, lit_4, lit_5, lit_6, lit_7, lit_8, lit_9, lit_10, lit_11, lit_12, lit_16, lit_17, lit_20, lit_31, lit_32, lit_40, lit_47, lit_48, lit_49, lit_57, lit_58, lit_60, lit_64, lit_68, lit_80, lit_97, lit_99, lit_100, lit_101, lit_104, lit_108, lit_109, lit_115, lit_117, lit_121, lit_127, lit_128, lit_140, lit_1000, lit_1000000, lit_1048576, bI_ret, bV_ret, bL_ret, bH_t, cond_true, z_0, z_1, retZ_tf, z_tf0, z_tf1, Decidable.not_not, Classical.not_not, nI_add, nI_clamp, n_le, n_lt, n_eq, nI_or, nI_and, z_sdf, of_nI, ite_not, m_i3, m_i99, m_i7, m_i1, m_i20, m_i2, m_i8, m_i15, m_i60, k1, k2, k3, hg_hs_a]
  · simp (disch := first | assumption | omega) only [F_Mo_cutOff, F_Mo_ask, lit_0, lit_1, lit_2, lit_3, lit_4, lit_5, lit_6, lit_7, lit_8, lit_9, lit_10, lit_11, lit_12, lit_16, lit_17, lit_20, lit_31, lit_32, lit_40, lit_47, lit_48, lit_49, lit_57, lit_58, lit_60, lit_64, lit_68, lit_80, lit_97, lit_99, lit_100, lit_101, lit_104, lit_108, lit_109, lit_115, lit_117, lit_121, lit_127, lit_128, lit_140, lit_1000, lit_1000000, lit_1048576, bI_ret, bV_ret, bL_ret, bH_t, cond_true, z_0, z_1, retZ_tf, z_tf0, z_tf1, Decidable.not_not, Classical.not_not, nI_add, nI_clamp, n_le, n_lt, n_eq, nI_or, nI_and, z_sdf, of_nI, ite_not, m_i3, m_i99, m_i7, m_i1, m_i20, m_i2, m_i8, m_i15, m_i60, e1, e2]
theorem g_taught (x t : Int32) {h : Hp} (I : Inv h) : Ok (F_Bp_taught x t) (F_Mo_taught x t) h := by
  obtain ⟨-, -, v, w, r, m, -⟩ := id I
  have hn := w.1
  by_cases hx : inR x (v 0 0)
  · by_cases ht : inR t 5
    · obtain ⟨a, ha, rfl⟩ := inR_ex (by omega) hx
      obtain ⟨t, ht2, rfl⟩ := inR_ex (by decide) ht
      obtain ⟨h1, k1, k2, k3, k4⟩ := c_tally w r
      obtain ⟨h1', j1, j2⟩ := c_cutIf w (CLd_C w r k4) ha ht2
      have m1 : MLd v (hs h1' 0 11 (nI (cutP (learns v a t)) - nI (cutP v))) := MLd_0 (MLd_S m (frS_C (frC_tr k4 j2)))
      obtain ⟨h2, e1, e2, e3⟩ := m_cutNow w m1
      obtain ⟨h3, f1, f2⟩ := m_cutIf w (MLd_S m1 e3) ha ht2
      refine fin_t I (h1 := h1') (h2 := h3) (x := nI 1) (a := nI (cutP (learns v a t)) - nI (cutP v)) ?_ (frS_C (frC_tr k4 j2)) ?_ (frS_tr e3 f2)
      · simp (disch := first | assumption | omega) only [F_Bp_taught, F_Bp_tell, lit_0, lit_1, lit_2, lit_3, lit_4, lit_5, lit_6, lit_7, lit_8, lit_9, lit_10, lit_11, lit_12, lit_16, lit_17, lit_20, lit_31, lit_32, lit_40, lit_47, lit_48, lit_49, lit_57, lit_58, lit_60, lit_64, lit_68, lit_80, lit_97, lit_99, lit_100, lit_101, lit_104, lit_108, lit_109, lit_115, lit_117, lit_121, lit_127, lit_128, lit_140, lit_1000, lit_1000000, lit_1048576, bI_ret, bV_ret, bL_ret, bH_t, cond_true, z_0, z_1, retZ_tf, z_tf0, z_tf1, Decidable.not_not, Classical.not_not, nI_add, nI_clamp, n_le, n_lt, n_eq, nI_or, nI_and, z_sdf, of_nI, ite_not, m_i3, m_i99, m_i7, m_i1, m_i20, m_i2, m_i8, m_i15, m_i60, c_lacks isL_3 w r, c_noTongue, if_pos hx, if_pos ht, k1, j1, k3]
      · simp (disch := first | assumption | omega) only [F_Mo_taught, F_Mo_ask, lit_0, lit_1, lit_2, lit_3, lit_4, lit_5, lit_6, lit_7, lit_8, lit_9, lit_10, lit_11, lit_12, lit_16, lit_17, lit_20, lit_31, lit_32, lit_40, lit_47, lit_48, lit_49, lit_57, lit_58, lit_60, lit_64, lit_68, lit_80, lit_97, lit_99, lit_100, lit_101, lit_104, lit_108, lit_109, lit_115, lit_117, lit_121, lit_127, lit_128, lit_140, lit_1000, lit_1000000, lit_1048576, bI_ret, bV_ret, bL_ret, bH_t, cond_true, z_0, z_1, retZ_tf, z_tf0, z_tf1, Decidable.not_not, Classical.not_not, nI_add, nI_clamp, n_le, n_lt, n_eq, nI_or, nI_and, z_sdf, of_nI, ite_not, m_i3, m_i99, m_i7, m_i1, m_i20, m_i2, m_i8, m_i15, m_i60, m_isOne w m1, m_isTongue, if_pos hx, if_pos ht, e1, f1]
    · refine fin_q I (h1 := h) (h2 := h) (x := -nI 1) ?_ (frS_rf h) ?_ (frS_rf h)
      · simp (disch := first | assumption | omega) only [F_Bp_taught, lit_0, lit_1, lit_2, lit_3, lit_4, lit_5, lit_6, lit_7, lit_8, lit_9, lit_10, lit_11, lit_12, lit_16, lit_17, lit_20, lit_31, lit_32, lit_40, lit_47, lit_48, lit_49, lit_57, lit_58, lit_60, lit_64, lit_68, lit_80, lit_97, lit_99, lit_100, lit_101, lit_104, lit_108, lit_109, lit_115, lit_117, lit_121, lit_127, lit_128, lit_140, lit_1000, lit_1000000, lit_1048576, bI_ret, bV_ret, bL_ret, bH_t, cond_true, z_0, z_1, retZ_tf, z_tf0, z_tf1, Decidable.not_not, Classical.not_not, nI_add, nI_clamp, n_le, n_lt, n_eq, nI_or, nI_and, z_sdf, of_nI, ite_not, m_i3, m_i99, m_i7, m_i1, m_i20, m_i2, m_i8, m_i15, m_i60, c_lacks isL_3 w r, c_noTongue, if_pos hx, if_neg ht]
      · simp (disch := first | assumption | omega) only [F_Mo_taught, lit_0, lit_1, lit_2, lit_3, lit_4, lit_5, lit_6, lit_7, lit_8, lit_9, lit_10, lit_11, lit_12, lit_16, lit_17, lit_20, lit_31, lit_32, lit_40, lit_47, lit_48, lit_49, lit_57, lit_58, lit_60, lit_64, lit_68, lit_80, lit_97, lit_99, lit_100, lit_101, lit_104, lit_108, lit_109, lit_115, lit_117, lit_121, lit_127, lit_128, lit_140, lit_1000, lit_1000000, lit_1048576, bI_ret, bV_ret, bL_ret, bH_t, cond_true, z_0, z_1, retZ_tf, z_tf0, z_tf1, Decidable.not_not, Classical.not_not, nI_add, nI_clamp, n_le, n_lt, n_eq, nI_or, nI_and, z_sdf, of_nI, ite_not, m_i3, m_i99, m_i7, m_i1, m_i20, m_i2, m_i8, m_i15, m_i60, m_isOne w m, m_isTongue, if_pos hx, if_neg ht]
  · refine fin_q I (h1 := h) (h2 := h) (x := -nI 1) ?_ (frS_rf h) ?_ (frS_rf h)
    · simp (disch := first | assumption | omega) only [F_Bp_taught, lit_0, lit_1, lit_2, lit_3, lit_4, lit_5, lit_6, lit_7, lit_8, lit_9, lit_10, lit_11, lit_12, lit_16, lit_17, lit_20, lit_31, lit_32, lit_40, lit_47, lit_48, lit_49, lit_57, lit_58, lit_60, lit_64, lit_68, lit_80, lit_97, lit_99, lit_100, lit_101, lit_104, lit_108, lit_109, lit_115, lit_117, lit_121, lit_127, lit_128, lit_140, lit_1000, lit_1000000, lit_1048576, bI_ret, bV_ret, bL_ret, bH_t, cond_true, z_0, z_1, retZ_tf, z_tf0, z_tf1, Decidable.not_not, Classical.not_not, nI_add, nI_clamp, n_le, n_lt, n_eq, nI_or, nI_and, z_sdf, of_nI, ite_not, m_i3, m_i99, m_i7, m_i1, m_i20, m_i2, m_i8, m_i15, m_i60, c_lacks isL_3 w r, if_neg hx]
    · simp (disch := first | assumption | omega) only [F_Mo_taught, lit_0, lit_1, lit_2, lit_3, lit_4, lit_5, lit_6, lit_7, lit_8, lit_9, lit_10, lit_11, lit_12, lit_16, lit_17, lit_20, lit_31, lit_32, lit_40, lit_47, lit_48, lit_49, lit_57, lit_58, lit_60, lit_64, lit_68, lit_80, lit_97, lit_99, lit_100, lit_101, lit_104, lit_108, lit_109, lit_115, lit_117, lit_121, lit_127, lit_128, lit_140, lit_1000, lit_1000000, lit_1048576, bI_ret, bV_ret, bL_ret, bH_t, cond_true, z_0, z_1, retZ_tf, z_tf0, z_tf1, Decidable.not_not, Classical.not_not, nI_add, nI_clamp, n_le, n_lt, n_eq, nI_or, nI_and, z_sdf, of_nI, ite_not, m_i3, m_i99, m_i7, m_i1, m_i20, m_i2, m_i8, m_i15, m_i60, m_isOne w m, if_neg hx]
/-- the reference's worth, in its own order -/
def lostM (v : LV) (c : Nat) : Nat := sumN (v 0 0) (fun a => sumN (v 0 0) (fun b => cnt 5 (fun t => lostB v c a b t)))
theorem lost_eq (v : LV) (c : Nat) : lostP v c = lostM v c := by
  unfold lostP lostM
  rw [sumN_swap]
  refine sumN_cong fun a _ => ?_
  rw [sumN_cong (f := fun t => cnt (v 0 0) (fun b => lostB v c a b t)) (g := fun t => sumN (v 0 0) (fun b => b2n (lostB v c a b t))) (fun t _ => cnt_sum _ _), sumN_swap]
  exact sumN_cong fun b _ => (cnt_sum _ _).symm
theorem m_worthLoop {v : LV} {h : Hp} (w : WF v) (m : MLd v h) {c : Nat} (hc : c < v 0 0) : ∃ h', loopC Mo_worth_14 FU (nI c, nI 0, nI 0, h) = retI (nI (lostM v c)) h' ∧ frW h h' := by
  have hn := w.1
  refine Exists.elim (loop_all (K := Unit) (b := fun _ => Mo_worth_14) (N := v 0 0) (n := FU) (s0 := (nI c, nI 0, nI 0, h)) (fun i s => ∃ g, s = (nI c, nI (sumN i (fun a => sumN (v 0 0) (fun b => cnt 5 (fun t => lostB v c a b t)))), nI i, g) ∧ frW h g) ⟨h, rfl, frW_rf h⟩ (by show _ < 4096; omega) ?_) ?_
  · rintro a s ha ⟨g, rfl, p1⟩
    generalize hS0 : sumN a (fun a => sumN (v 0 0) (fun b => cnt 5 (fun t => lostB v c a b t))) = S0
    obtain ⟨g2, q1, q2⟩ : ∃ g2, frW h g2 ∧ ∀ κ, loopC (Mo_worth_25 κ) FU (nI c, nI S0, nI a, nI 0, g) = κ (nI c, nI (S0 + sumN (v 0 0) (fun b => cnt 5 (fun t => lostB v c a b t))), nI (a + 1), g2) := by
      refine Exists.elim (loop_all (K := (Int32 × Int32 × Int32 × Hp) → Res Hp) (b := fun κ => Mo_worth_25 κ) (N := v 0 0) (n := FU) (s0 := (nI c, nI S0, nI a, nI 0, g)) (fun j s => ∃ g2, s = (nI c, nI (S0 + sumN j (fun b => cnt 5 (fun t => lostB v c a b t))), nI a, nI j, g2) ∧ frW h g2) ⟨g, rfl, p1⟩ (by show _ < 4096; omega) ?_) ?_
      · rintro b s hb ⟨g2, rfl, a1⟩
        have rg2 := MLd_W m a1
        generalize hS1 : S0 + sumN b (fun b => cnt 5 (fun t => lostB v c a b t)) = S1
        obtain ⟨g3, b1, b2⟩ : ∃ g3, frW h g3 ∧ ∀ κ14 κ, loopC (Mo_worth_37 κ14 κ) FU (nI c, nI S1, nI a, nI b, nI 0, g2) = κ (nI c, nI (S1 + cnt 5 (fun t => lostB v c a b t)), nI a, nI (b + 1), g3) := by
          refine Exists.elim (loop_all (K := ((Int32 × Int32 × Int32 × Hp) → Res Hp) × ((Int32 × Int32 × Int32 × Int32 × Hp) → Res Hp)) (b := fun k => Mo_worth_37 k.1 k.2) (N := 5) (n := FU) (s0 := (nI c, nI S1, nI a, nI b, nI 0, g2)) (fun t s => ∃ g3, s = (nI c, nI (S1 + cnt t (fun t => lostB v c a b t)), nI a, nI b, nI t, g3) ∧ frW h g3) ⟨g2, rfl, a1⟩ (by show _ < 4096; omega) ?_) ?_
          · rintro t s ht ⟨g3, rfl, c1⟩
            have rg3 := MLd_W m c1
            by_cases e : a = b
            · have e0 : lostB v c a b t = false := by unfold lostB wayB wrB; rw [e]; simp
              refine ⟨(nI c, nI (S1 + cnt (t + 1) (fun t => lostB v c a b t)), nI a, nI b, nI (t + 1), g3), ⟨g3, rfl, c1⟩, fun k κ => ?_⟩
              simp (disch := first | assumption | omega) only [Mo_worth_37, lit_0, lit_1, lit_2, lit_3, lit_4, lit_5, lit_6, lit_7, lit_8, lit_9, lit_10, lit_11, lit_12, lit_16, lit_17, lit_20, lit_31, lit_32, lit_40, lit_47, lit_48, lit_49, lit_57, lit_58, lit_60, lit_64, lit_68, lit_80, lit_97, lit_99, lit_100, lit_101, lit_104, lit_108, lit_109, lit_115, lit_117, lit_121, lit_127, lit_128, lit_140, lit_1000, lit_1000000, lit_1048576, bI_ret, bV_ret, bL_ret, bH_t, cond_true, z_0, z_1, retZ_tf, z_tf0, z_tf1, Decidable.not_not, Classical.not_not, nI_add, nI_clamp, n_le, n_lt, n_eq, nI_or, nI_and, z_sdf, of_nI, cnt_s t, e0]
              rw [if_neg (by omega), if_pos e]
              rfl
            · obtain ⟨g4, d1, d2, d3⟩ := m_isWayIn w rg3 ha hb e ht
              refine ⟨(nI c, nI (S1 + cnt (t + 1) (fun t => lostB v c a b t)), nI a, nI b, nI (t + 1), g4), ⟨g4, rfl, frW_tr c1 d2⟩, fun k κ => ?_⟩
              have heach : eachOf (aw v a b (2 ^ t) 0) < 2 ^ 31 := Nat.lt_trans (each_lt _) (by decide)
              by_cases q : wayB v a b t = true
              · simp (disch := first | assumption | omega) only [Mo_worth_37, lit_0, lit_1, lit_2, lit_3, lit_4, lit_5, lit_6, lit_7, lit_8, lit_9, lit_10, lit_11, lit_12, lit_16, lit_17, lit_20, lit_31, lit_32, lit_40, lit_47, lit_48, lit_49, lit_57, lit_58, lit_60, lit_64, lit_68, lit_80, lit_97, lit_99, lit_100, lit_101, lit_104, lit_108, lit_109, lit_115, lit_117, lit_121, lit_127, lit_128, lit_140, lit_1000, lit_1000000, lit_1048576, bI_ret, bV_ret, bL_ret, bH_t, cond_true, z_0, z_1, retZ_tf, z_tf0, z_tf1, Decidable.not_not, Classical.not_not, nI_add, nI_clamp, n_le, n_lt, n_eq, nI_or, nI_and, z_sdf, of_nI, d1, d3 q, m_has, cnt_s t]
                rw [if_neg (by omega), if_neg e, if_neg (fun z => z q)]
                unfold lostB
                rw [q, Bool.true_and]
                by_cases q2 : (eachOf (aw v a b (2 ^ t) 0)).testBit c = true
                · rw [if_neg (fun z => z q2), if_pos q2, Nat.add_assoc]
                · rw [if_pos q2, if_neg q2]
                  rfl
              · simp (disch := first | assumption | omega) only [Mo_worth_37, lit_0, lit_1, lit_2, lit_3, lit_4, lit_5, lit_6, lit_7, lit_8, lit_9, lit_10, lit_11, lit_12, lit_16, lit_17, lit_20, lit_31, lit_32, lit_40, lit_47, lit_48, lit_49, lit_57, lit_58, lit_60, lit_64, lit_68, lit_80, lit_97, lit_99, lit_100, lit_101, lit_104, lit_108, lit_109, lit_115, lit_117, lit_121, lit_127, lit_128, lit_140, lit_1000, lit_1000000, lit_1048576, bI_ret, bV_ret, bL_ret, bH_t, cond_true, z_0, z_1, retZ_tf, z_tf0, z_tf1, Decidable.not_not, Classical.not_not, nI_add, nI_clamp, n_le, n_lt, n_eq, nI_or, nI_and, z_sdf, of_nI, d1, cnt_s t]
                rw [if_neg (by omega), if_neg e, if_pos q]
                unfold lostB
                simp only [Bool.not_eq_true] at q
                rw [q]
                rfl
          · rintro s ⟨⟨g3, rfl, c1⟩, q⟩
            refine ⟨g3, c1, fun κ14 κ => q (κ14, κ) _ fun κ2 => ?_⟩
            simp (disch := first | assumption | omega) only [Mo_worth_37, lit_0, lit_1, lit_2, lit_3, lit_4, lit_5, lit_6, lit_7, lit_8, lit_9, lit_10, lit_11, lit_12, lit_16, lit_17, lit_20, lit_31, lit_32, lit_40, lit_47, lit_48, lit_49, lit_57, lit_58, lit_60, lit_64, lit_68, lit_80, lit_97, lit_99, lit_100, lit_101, lit_104, lit_108, lit_109, lit_115, lit_117, lit_121, lit_127, lit_128, lit_140, lit_1000, lit_1000000, lit_1048576, bI_ret, bV_ret, bL_ret, bH_t, cond_true, z_0, z_1, retZ_tf, z_tf0, z_tf1, Decidable.not_not, Classical.not_not, nI_add, nI_clamp, n_le, n_lt, n_eq, nI_or, nI_and, z_sdf, of_nI, Nat.le_refl, if_true]
        refine ⟨(nI c, nI (S1 + cnt 5 (fun t => lostB v c a b t)), nI a, nI (b + 1), g3), ⟨g3, ?_, b1⟩, fun k κ => ?_⟩
        · rw [sumN_s b, ← hS1, Nat.add_assoc]
        · simp (disch := first | assumption | omega) only [Mo_worth_25, lit_0, lit_1, lit_2, lit_3, lit_4, lit_5, lit_6, lit_7, lit_8, lit_9, lit_10, lit_11, lit_12, lit_16, lit_17, lit_20, lit_31, lit_32, lit_40, lit_47, lit_48, lit_49, lit_57, lit_58, lit_60, lit_64, lit_68, lit_80, lit_97, lit_99, lit_100, lit_101, lit_104, lit_108, lit_109, lit_115, lit_117, lit_121, lit_127, lit_128, lit_140, lit_1000, lit_1000000, lit_1048576, bI_ret, bV_ret, bL_ret, bH_t, cond_true, z_0, z_1, retZ_tf, z_tf0, z_tf1, Decidable.not_not, Classical.not_not, nI_add, nI_clamp, n_le, n_lt, n_eq, nI_or, nI_and, z_sdf, of_nI, M_n rg2, b2]
          rw [if_neg (by omega)]
      · rintro s ⟨⟨g2, rfl, a1⟩, q⟩
        have rg2 := MLd_W m a1
        refine ⟨g2, a1, fun κ => q κ _ fun κ2 => ?_⟩
        simp (disch := first | assumption | omega) only [Mo_worth_25, lit_0, lit_1, lit_2, lit_3, lit_4, lit_5, lit_6, lit_7, lit_8, lit_9, lit_10, lit_11, lit_12, lit_16, lit_17, lit_20, lit_31, lit_32, lit_40, lit_47, lit_48, lit_49, lit_57, lit_58, lit_60, lit_64, lit_68, lit_80, lit_97, lit_99, lit_100, lit_101, lit_104, lit_108, lit_109, lit_115, lit_117, lit_121, lit_127, lit_128, lit_140, lit_1000, lit_1000000, lit_1048576, bI_ret, bV_ret, bL_ret, bH_t, cond_true, z_0, z_1, retZ_tf, z_tf0, z_tf1, Decidable.not_not, Classical.not_not, nI_add, nI_clamp, n_le, n_lt, n_eq, nI_or, nI_and, z_sdf, of_nI, M_n rg2, Nat.le_refl, if_true]
    have rg := MLd_W m p1
    refine ⟨(nI c, nI (S0 + sumN (v 0 0) (fun b => cnt 5 (fun t => lostB v c a b t))), nI (a + 1), g2), ⟨g2, ?_, q1⟩, fun k κ => ?_⟩
    · rw [sumN_s a, hS0]
    · simp (disch := first | assumption | omega) only [Mo_worth_14, lit_0, lit_1, lit_2, lit_3, lit_4, lit_5, lit_6, lit_7, lit_8, lit_9, lit_10, lit_11, lit_12, lit_16, lit_17, lit_20, lit_31, lit_32, lit_40, lit_47, lit_48, lit_49, lit_57, lit_58, lit_60, lit_64, lit_68, lit_80, lit_97, lit_99, lit_100, lit_101, lit_104, lit_108, lit_109, lit_115, lit_117, lit_121, lit_127, lit_128, lit_140, lit_1000, lit_1000000, lit_1048576, bI_ret, bV_ret, bL_ret, bH_t, cond_true, z_0, z_1, retZ_tf, z_tf0, z_tf1, Decidable.not_not, Classical.not_not, nI_add, nI_clamp, n_le, n_lt, n_eq, nI_or, nI_and, z_sdf, of_nI, M_n rg, q2]
      rw [if_neg (by omega)]
  · rintro s ⟨⟨g, rfl, p1⟩, q⟩
    have rg := MLd_W m p1
    refine ⟨g, q () _ fun κ => ?_, p1⟩
    simp (disch := first | assumption | omega) only [Mo_worth_14, lit_0, lit_1, lit_2, lit_3, lit_4, lit_5, lit_6, lit_7, lit_8, lit_9, lit_10, lit_11, lit_12, lit_16, lit_17, lit_20, lit_31, lit_32, lit_40, lit_47, lit_48, lit_49, lit_57, lit_58, lit_60, lit_64, lit_68, lit_80, lit_97, lit_99, lit_100, lit_101, lit_104, lit_108, lit_109, lit_115, lit_117, lit_121, lit_127, lit_128, lit_140, lit_1000, lit_1000000, lit_1048576, bI_ret, bV_ret, bL_ret, bH_t, cond_true, z_0, z_1, retZ_tf, z_tf0, z_tf1, Decidable.not_not, Classical.not_not, nI_add, nI_clamp, n_le, n_lt, n_eq, nI_or, nI_and, z_sdf, of_nI, M_n rg, Nat.le_refl, if_true]
    rfl
theorem g_worth (x : Int32) {h : Hp} (I : Inv h) : Ok (F_Bp_worth x) (F_Mo_worth x) h := by
  obtain ⟨-, -, v, w, r, m, -⟩ := id I
  have hn := w.1
  by_cases hx : inR x (v 0 0)
  · obtain ⟨a, ha, rfl⟩ := inR_ex (by omega) hx
    obtain ⟨h2, k1, k2⟩ := m_worthLoop w m ha
    refine fin_q I (h1 := h) (h2 := h2) (x := nI (lostP v a)) ?_ (frS_rf h) ?_ (frS_W k2)
    · simp (disch := first | assumption | omega) only [F_Bp_worth, lit_0, lit_1, lit_2, lit_3, lit_4, lit_5, lit_6, lit_7, lit_8, lit_9, lit_10, lit_11, lit_12, lit_16, lit_17, lit_20, lit_31, lit_32, lit_40, lit_47, lit_48, lit_49, lit_57, lit_58, lit_60, lit_64, lit_68, lit_80, lit_97, lit_99, lit_100, lit_101, lit_104, lit_108, lit_109, lit_115, lit_117, lit_121, lit_127, lit_128, lit_140, lit_1000, lit_1000000, lit_1048576, bI_ret, bV_ret, bL_ret, bH_t, cond_true, z_0, z_1, retZ_tf, z_tf0, z_tf1, Decidable.not_not, Classical.not_not, nI_add, nI_clamp, n_le, n_lt, n_eq, nI_or, nI_and, z_sdf, of_nI, ite_not, m_i3, m_i99, m_i7, m_i1, m_i20, m_i2, m_i8, m_i15, m_i60, c_lacks isL_3 w r, if_pos hx, c_lostWithout w r ha]
    · rw [lost_eq]
      simp (disch := first | assumption | omega) only [F_Mo_worth, lit_0, lit_1, lit_2, lit_3, lit_4, lit_5, lit_6, lit_7, lit_8, lit_9, lit_10, lit_11, lit_12, lit_16, lit_17, lit_20, lit_31, lit_32, lit_40, lit_47, lit_48, lit_49, lit_57, lit_58, lit_60, lit_64, lit_68, lit_80, lit_97, lit_99, lit_100, lit_101, lit_104, lit_108, lit_109, lit_115, lit_117, lit_121, lit_127, lit_128, lit_140, lit_1000, lit_1000000, lit_1048576, bI_ret, bV_ret, bL_ret, bH_t, cond_true, z_0, z_1, retZ_tf, z_tf0, z_tf1, Decidable.not_not, Classical.not_not, nI_add, nI_clamp, n_le, n_lt, n_eq, nI_or, nI_and, z_sdf, of_nI, ite_not, m_i3, m_i99, m_i7, m_i1, m_i20, m_i2, m_i8, m_i15, m_i60, m_isOne w m, if_pos hx, k1]
  · refine fin_q I (h1 := h) (h2 := h) (x := -nI 1) ?_ (frS_rf h) ?_ (frS_rf h)
    · simp (disch := first | assumption | omega) only [F_Bp_worth, lit_0, lit_1, lit_2, lit_3, lit_4, lit_5, lit_6, lit_7, lit_8, lit_9, lit_10, lit_11, lit_12, lit_16, lit_17, lit_20, lit_31, lit_32, lit_40, lit_47, lit_48, lit_49, lit_57, lit_58, lit_60, lit_64, lit_68, lit_80, lit_97, lit_99, lit_100, lit_101, lit_104, lit_108, lit_109, lit_115, lit_117, lit_121, lit_127, lit_128, lit_140, lit_1000, lit_1000000, lit_1048576, bI_ret, bV_ret, bL_ret, bH_t, cond_true, z_0, z_1, retZ_tf, z_tf0, z_tf1, Decidable.not_not, Classical.not_not, nI_add, nI_clamp, n_le, n_lt, n_eq, nI_or, nI_and, z_sdf, of_nI, ite_not, m_i3, m_i99, m_i7, m_i1, m_i20, m_i2, m_i8, m_i15, m_i60, c_lacks isL_3 w r, if_neg hx]
    · simp (disch := first | assumption | omega) only [F_Mo_worth, lit_0, lit_1, lit_2, lit_3, lit_4, lit_5, lit_6, lit_7, lit_8, lit_9, lit_10, lit_11, lit_12, lit_16, lit_17, lit_20, lit_31, lit_32, lit_40, lit_47, lit_48, lit_49, lit_57, lit_58, lit_60, lit_64, lit_68, lit_80, lit_97, lit_99, lit_100, lit_101, lit_104, lit_108, lit_109, lit_115, lit_117, lit_121, lit_127, lit_128, lit_140, lit_1000, lit_1000000, lit_1048576, bI_ret, bV_ret, bL_ret, bH_t, cond_true, z_0, z_1, retZ_tf, z_tf0, z_tf1, Decidable.not_not, Classical.not_not, nI_add, nI_clamp, n_le, n_lt, n_eq, nI_or, nI_and, z_sdf, of_nI, ite_not, m_i3, m_i99, m_i7, m_i1, m_i20, m_i2, m_i8, m_i15, m_i60, m_isOne w m, if_neg hx]
