/-! OPERATION: days, the answers -/
section DAY2
variable {s : LV × Nat × Nat} {N : Nat} {g : Hp}
theorem c_dyIn {n d : Nat} (w : WF s.1) (r : CLd 3 s.1 g) (hN : s.1 8 0 = N) (ha : s.2.1 < 2147483647) (hh : s.1 7 0 < 99) : ∃ t : Nat × Int32 × Int64 × Int32 × Int32 × Hp, (∃ g', t = (3, nI n, Int64.ofNat (dyH (dyK s N)).2.1, nI (dyH (dyK s N)).2.2, nI (d + 1), g') ∧ CLd 3 (dyH (dyK s N)).1 g' ∧ ∀ a j, ¬ (3 ≤ a ∧ a ≤ 31) → hg g' a j = hg g a j) ∧ ∀ K, loopC (La_goBy_18 K) FU (3, nI n, Int64.ofNat s.2.1, nI s.2.2, nI d, nI 0, g) = K t := by
  have h4 := wf_l w
  have hL := isL_3
  refine loop_invU (N := N) (fun i st => ∃ g1, st = (3, nI n, Int64.ofNat (dyK s i).2.1, nI (dyK s i).2.2, nI d, nI i, g1) ∧ CLd 3 (dyK s i).1 g1 ∧ ∀ a j, ¬ (3 ≤ a ∧ a ≤ 31) → hg g1 a j = hg g a j) ⟨g, rfl, r, fun _ _ _ => rfl⟩ (by show _ < 4096; omega) ?_ ?_
  · rintro i st hi ⟨g1, rfl, p1, p2⟩
    obtain ⟨a1, a2, a3⟩ := dyK_ok w ha i (by omega)
    have e8 := a2 8 0 (by decide) (by decide)
    obtain ⟨g', q1, q2, q3⟩ := c_dyStep (n := n) (d := d) (k := i) a1 p1 (by omega) a3
    exact ⟨_, ⟨g', rfl, q2, fun a j z => (q3 a j z).trans (p2 a j z)⟩, q1⟩
  · rintro st ⟨g1, rfl, p1, p2⟩
    obtain ⟨a1, a2, a3⟩ := dyK_ok w ha N (by omega)
    have e8 := a2 8 0 (by decide) (by decide)
    have e7 := a2 7 0 (by decide) (by decide)
    have f10 : hg g1 3 10 = nI ((dyK s N).1 8 0) := L_l p1
    have f11 : hg g1 3 11 = nI ((dyK s N).1 7 0) := L_h p1
    refine ⟨_, ⟨hs g1 3 11 (nI ((dyK s N).1 7 0 + 1)), rfl, CLd_vs7 p1 (by omega), fun a j z => (hg_hs_a (by omega)).trans (p2 a j z)⟩, fun K κ => ?_⟩
    simp (disch := first | assumption | omega) only [La_goBy_18, la_O, la_f0, la_f1, la_f2, la_f3, la_f4, la_f5, la_f6, la_f7, la_f8, la_f9, la_f10, la_f11, la_r0, la_r1, la_r2, la_r3, la_r4, la_r5, la_r6, la_r7, la_a1, la_a2, la_a3, la_a4, la_a5, la_a6, la_a15, la_a16, la_m, la_am, le_r, lit_0, lit_1, lit_2, lit_3, lit_4, lit_5, lit_6, lit_7, lit_8, lit_9, lit_10, lit_11, lit_12, lit_16, lit_17, lit_20, lit_31, lit_32, lit_40, lit_47, lit_48, lit_49, lit_57, lit_58, lit_60, lit_64, lit_68, lit_80, lit_97, lit_99, lit_100, lit_101, lit_104, lit_108, lit_109, lit_115, lit_117, lit_121, lit_127, lit_128, lit_140, lit_1000, lit_1000000, lit_1048576, bI_ret, bV_ret, bL_ret, bH_t, cond_true, z_0, z_1, retZ_tf, z_tf0, z_tf1, Decidable.not_not, Classical.not_not, nI_add, nI_clamp, n_le, n_lt, n_eq, nI_or, nI_and, z_sdf, of_nI, f10, f11]
    rw [if_pos (by omega)]
    rfl
theorem m_dyIn {n d : Nat} (w : WF s.1) (r : MLd s.1 g) (hN : s.1 8 0 = N) (ha : s.2.1 < 2147483647) (hh : s.1 7 0 < 99) : ∃ t : Int32 × Int64 × Int32 × Int32 × Hp, (∃ g', t = (nI n, Int64.ofNat (dyH (dyK s N)).2.1, nI (dyH (dyK s N)).2.2, nI (d + 1), g') ∧ MLd (dyH (dyK s N)).1 g' ∧ ∀ a j, a ≠ 186 → a ≠ 188 → ¬ (a = 178 ∧ j = 13) → hg g' a j = hg g a j) ∧ ∀ K, loopC (Mo_days_65 K) FU (nI n, Int64.ofNat s.2.1, nI s.2.2, nI d, nI 0, g) = K t := by
  have h4 := wf_l w
  refine loop_invU (N := N) (fun i st => ∃ g1, st = (nI n, Int64.ofNat (dyK s i).2.1, nI (dyK s i).2.2, nI d, nI i, g1) ∧ MLd (dyK s i).1 g1 ∧ ∀ a j, a ≠ 186 → a ≠ 188 → hg g1 a j = hg g a j) ⟨g, rfl, r, fun _ _ _ _ => rfl⟩ (by show _ < 4096; omega) ?_ ?_
  · rintro i st hi ⟨g1, rfl, p1, p2⟩
    obtain ⟨a1, a2, a3⟩ := dyK_ok w ha i (by omega)
    have e8 := a2 8 0 (by decide) (by decide)
    obtain ⟨g', q1, q2, q3⟩ := m_dyStep (n := n) (d := d) (k := i) a1 p1 (by omega) a3
    exact ⟨_, ⟨g', rfl, q2, fun a j z1 z2 => (q3 a j z1 z2).trans (p2 a j z1 z2)⟩, q1⟩
  · rintro st ⟨g1, rfl, p1, p2⟩
    obtain ⟨a1, a2, a3⟩ := dyK_ok w ha N (by omega)
    have e8 := a2 8 0 (by decide) (by decide)
    have e7 := a2 7 0 (by decide) (by decide)
    have f10 : hg g1 178 14 = nI ((dyK s N).1 8 0) := M_l p1
    have f11 : hg g1 178 13 = nI ((dyK s N).1 7 0) := M_h p1
    refine ⟨_, ⟨hs g1 178 13 (nI ((dyK s N).1 7 0 + 1)), rfl, MLd_vs7 p1, fun a j z1 z2 z3 => by rw [hg_hs2, if_neg z3]; exact p2 a j z1 z2⟩, fun K κ => ?_⟩
    simp (disch := first | assumption | omega) only [Mo_days_65, lit_0, lit_1, lit_2, lit_3, lit_4, lit_5, lit_6, lit_7, lit_8, lit_9, lit_10, lit_11, lit_12, lit_16, lit_17, lit_20, lit_31, lit_32, lit_40, lit_47, lit_48, lit_49, lit_57, lit_58, lit_60, lit_64, lit_68, lit_80, lit_97, lit_99, lit_100, lit_101, lit_104, lit_108, lit_109, lit_115, lit_117, lit_121, lit_127, lit_128, lit_140, lit_1000, lit_1000000, lit_1048576, bI_ret, bV_ret, bL_ret, bH_t, cond_true, z_0, z_1, retZ_tf, z_tf0, z_tf1, Decidable.not_not, Classical.not_not, nI_add, nI_clamp, n_le, n_lt, n_eq, nI_or, nI_and, z_sdf, of_nI, f10, f11]
    rw [if_pos (by omega)]
    rfl
theorem c_dyD {n : Nat} (w : WF s.1) (r : CLd 3 s.1 g) (hN : s.1 8 0 = N) (ha : s.2.1 < 2147483647) (hn : n ≤ 60) (hh : s.1 7 0 + n ≤ 99) : ∃ g', loopC La_goBy_9 FU (3, nI n, Int64.ofNat s.2.1, nI s.2.2, nI 0, g) = retI (nI (dyD s N n).2.2) g' ∧ CLd 3 (dyD s N n).1 g' ∧ ∀ a j, ¬ (3 ≤ a ∧ a ≤ 31) → hg g' a j = hg g a j := by
  refine loop_inv (N := n) (R := fun r => ∃ g', r = retI (nI (dyD s N n).2.2) g' ∧ CLd 3 (dyD s N n).1 g' ∧ ∀ a j, ¬ (3 ≤ a ∧ a ≤ 31) → hg g' a j = hg g a j) (fun i st => ∃ g1, st = (3, nI n, Int64.ofNat (dyD s N i).2.1, nI (dyD s N i).2.2, nI i, g1) ∧ CLd 3 (dyD s N i).1 g1 ∧ ∀ a j, ¬ (3 ≤ a ∧ a ≤ 31) → hg g1 a j = hg g a j) ⟨g, rfl, r, fun _ _ _ => rfl⟩ (by show _ < 4096; omega) ?_ ?_
  · rintro i st hi ⟨g1, rfl, p1, p2⟩
    obtain ⟨a1, a2, a3, a4⟩ := dyD_ok w ha hN i (by omega)
    obtain ⟨t, ⟨g', q1, q2, q3⟩, q4⟩ := c_dyIn (n := n) (d := i) (N := N) a1 p1 (by rw [a2 8 0 (by decide) (by decide) (by decide)]; exact hN) a4 (by omega)
    refine ⟨t, ⟨g', q1, q2, fun a j z => (q3 a j z).trans (p2 a j z)⟩, fun κ => ?_⟩
    simp (disch := first | assumption | omega) only [La_goBy_9, lit_0, lit_1, lit_2, lit_3, lit_4, lit_5, lit_6, lit_7, lit_8, lit_9, lit_10, lit_11, lit_12, lit_16, lit_17, lit_20, lit_31, lit_32, lit_40, lit_47, lit_48, lit_49, lit_57, lit_58, lit_60, lit_64, lit_68, lit_80, lit_97, lit_99, lit_100, lit_101, lit_104, lit_108, lit_109, lit_115, lit_117, lit_121, lit_127, lit_128, lit_140, lit_1000, lit_1000000, lit_1048576, bI_ret, bV_ret, bL_ret, bH_t, cond_true, z_0, z_1, retZ_tf, z_tf0, z_tf1, Decidable.not_not, Classical.not_not, nI_add, nI_clamp, n_le, n_lt, n_eq, nI_or, nI_and, z_sdf, of_nI, q4]
    rw [if_neg (by omega)]
  · rintro st ⟨g1, rfl, p1, p2⟩ κ
    refine ⟨g1, ?_, p1, p2⟩
    simp (disch := first | assumption | omega) only [La_goBy_9, lit_0, lit_1, lit_2, lit_3, lit_4, lit_5, lit_6, lit_7, lit_8, lit_9, lit_10, lit_11, lit_12, lit_16, lit_17, lit_20, lit_31, lit_32, lit_40, lit_47, lit_48, lit_49, lit_57, lit_58, lit_60, lit_64, lit_68, lit_80, lit_97, lit_99, lit_100, lit_101, lit_104, lit_108, lit_109, lit_115, lit_117, lit_121, lit_127, lit_128, lit_140, lit_1000, lit_1000000, lit_1048576, bI_ret, bV_ret, bL_ret, bH_t, cond_true, z_0, z_1, retZ_tf, z_tf0, z_tf1, Decidable.not_not, Classical.not_not, nI_add, nI_clamp, n_le, n_lt, n_eq, nI_or, nI_and, z_sdf, of_nI, Nat.le_refl, if_true]
theorem m_dyD {n : Nat} (w : WF s.1) (r : MLd s.1 g) (hN : s.1 8 0 = N) (ha : s.2.1 < 2147483647) (hn : n ≤ 60) (hh : s.1 7 0 + n ≤ 99) : ∃ g', loopC Mo_days_56 FU (nI n, Int64.ofNat s.2.1, nI s.2.2, nI 0, g) = retI (nI (dyD s N n).2.2) g' ∧ MLd (dyD s N n).1 g' ∧ ∀ a j, a ≠ 186 → a ≠ 188 → ¬ (a = 178 ∧ j = 13) → hg g' a j = hg g a j := by
  refine loop_inv (N := n) (R := fun r => ∃ g', r = retI (nI (dyD s N n).2.2) g' ∧ MLd (dyD s N n).1 g' ∧ ∀ a j, a ≠ 186 → a ≠ 188 → ¬ (a = 178 ∧ j = 13) → hg g' a j = hg g a j) (fun i st => ∃ g1, st = (nI n, Int64.ofNat (dyD s N i).2.1, nI (dyD s N i).2.2, nI i, g1) ∧ MLd (dyD s N i).1 g1 ∧ ∀ a j, a ≠ 186 → a ≠ 188 → ¬ (a = 178 ∧ j = 13) → hg g1 a j = hg g a j) ⟨g, rfl, r, fun _ _ _ _ _ => rfl⟩ (by show _ < 4096; omega) ?_ ?_
  · rintro i st hi ⟨g1, rfl, p1, p2⟩
    obtain ⟨a1, a2, a3, a4⟩ := dyD_ok w ha hN i (by omega)
    obtain ⟨t, ⟨g', q1, q2, q3⟩, q4⟩ := m_dyIn (n := n) (d := i) (N := N) a1 p1 (by rw [a2 8 0 (by decide) (by decide) (by decide)]; exact hN) a4 (by omega)
    refine ⟨t, ⟨g', q1, q2, fun a j z1 z2 z3 => (q3 a j z1 z2 z3).trans (p2 a j z1 z2 z3)⟩, fun κ => ?_⟩
    simp (disch := first | assumption | omega) only [Mo_days_56, lit_0, lit_1, lit_2, lit_3, lit_4, lit_5, lit_6, lit_7, lit_8, lit_9, lit_10, lit_11, lit_12, lit_16, lit_17, lit_20, lit_31, lit_32, lit_40, lit_47, lit_48, lit_49, lit_57, lit_58, lit_60, lit_64, lit_68, lit_80, lit_97, lit_99, lit_100, lit_101, lit_104, lit_108, lit_109, lit_115, lit_117, lit_121, lit_127, lit_128, lit_140, lit_1000, lit_1000000, lit_1048576, bI_ret, bV_ret, bL_ret, bH_t, cond_true, z_0, z_1, retZ_tf, z_tf0, z_tf1, Decidable.not_not, Classical.not_not, nI_add, nI_clamp, n_le, n_lt, n_eq, nI_or, nI_and, z_sdf, of_nI, q4]
    rw [if_neg (by omega)]
  · rintro st ⟨g1, rfl, p1, p2⟩ κ
    refine ⟨g1, ?_, p1, p2⟩
    simp (disch := first | assumption | omega) only [Mo_days_56, lit_0, lit_1, lit_2, lit_3, lit_4, lit_5, lit_6, lit_7, lit_8, lit_9, lit_10, lit_11, lit_12, lit_16, lit_17, lit_20, lit_31, lit_32, lit_40, lit_47, lit_48, lit_49, lit_57, lit_58, lit_60, lit_64, lit_68, lit_80, lit_97, lit_99, lit_100, lit_101, lit_104, lit_108, lit_109, lit_115, lit_117, lit_121, lit_127, lit_128, lit_140, lit_1000, lit_1000000, lit_1048576, bI_ret, bV_ret, bL_ret, bH_t, cond_true, z_0, z_1, retZ_tf, z_tf0, z_tf1, Decidable.not_not, Classical.not_not, nI_add, nI_clamp, n_le, n_lt, n_eq, nI_or, nI_and, z_sdf, of_nI, Nat.le_refl, if_true]
end DAY2
theorem inV_no {x : Int32} {lo hi : Nat} (q : ¬ inV x lo hi) : x.toInt < (lo : Int) ∨ (hi : Int) ≤ x.toInt := by
  rw [inV_iff] at q
  omega
theorem m_iseed (x : Int32) (h : Hp) : F_Mo_in x 1 2147483646 h = retI (tf (inV x 1 2147483647)) h := m_in (lo := 1) (n := 2147483647) (by decide) (by decide) (by decide) h
theorem g_days (x y : Int32) {h : Hp} (I : Inv h) : Ok (F_Bp_days x y) (F_Mo_days x y) h := by
  obtain ⟨-, -, v, w, r, m, ck⟩ := id I
  have h4 := wf_l w
  have hn := w.1
  have hh := wf_h w
  have e8 : hg h 3 8 = nI (v 0 0) := L_n r
  have e11 : hg h 3 11 = nI (v 7 0) := L_h r
  have m60 := m_i60 x h
  have mse := m_iseed y h
  have ltO : ∀ z : Int32, (z < 1) ↔ z.toInt < 1 := fun z => lt_toInt
  have lt60 : ∀ z : Int32, (60 < z) ↔ 60 < z.toInt := fun z => lt_toInt
  have ltP : ∀ z : Int32, (z < 2147483647) ↔ z.toInt < 2147483647 := fun z => lt_toInt
  by_cases hx : inV x 1 61
  · have hxi := inV_iff.mp hx
    have c1 : ¬ x < 1 := by rw [ltO]; omega
    have c2 : ¬ 60 < x := by rw [lt60]; omega
    by_cases hy : inV y 1 2147483647
    · have hyi := inV_iff.mp hy
      have c3 : ¬ y < 1 := by rw [ltO]; omega
      have c4 : y < 2147483647 := by rw [ltP]; omega
      have eC : F_Bp_days x y h = if (hg h 3 8) = (0 : Int32) then retI (-4 : Int32) h else if ((hg h 3 11) + x) ≤ (99 : Int32) then (bI (F_La_goBy 3 x y h) fun v2 h1 => retI v2 h1) else retI (-2 : Int32) h := by
        unfold F_Bp_days
        rw [if_neg c1, if_neg c2, if_neg c3, if_pos c4]
      have eM : ∀ g, F_Mo_days x y g = if (hg g 178 8) = (0 : Int32) then retI (-4 : Int32) g else if ((hg g 178 13) + x) ≤ (99 : Int32) then loopC Mo_days_56 FU (x, y.toInt64, (0 : Int32), (0 : Int32), g) else retI (-2 : Int32) g := fun g => by
        have a1 : F_Mo_in x 1 60 g = retI (tf (inV x 1 61)) g := m_i60 x g
        have a2 := m_iseed y g
        unfold F_Mo_days
        rw [a1, bI_ret, tf_t hx]
        refine (if_neg (by decide)).trans ?_
        rw [a2, bI_ret, tf_t hy]
        exact if_neg (by decide)
      obtain ⟨n, hn1, hn2, rfl⟩ := inV_ex (by decide) hx
      obtain ⟨a, ha1, ha2, rfl⟩ := inV_ex (by decide) hy
      by_cases z : v 0 0 = 0
      · refine fin_q I (h1 := h) (h2 := h) (x := -nI 4) ?_ (frS_rf h) ?_ (frS_rf h)
        · rw [eC, e8, z]
          exact if_pos rfl
        · rw [eM, M_n m, z]
          exact if_pos rfl
      · have z0 : ¬ nI (v 0 0) = (0 : Int32) := fun q => z ((nI_eq (show v 0 0 < 2 ^ 31 by omega) (by decide)).mp q)
        by_cases q : v 7 0 + n ≤ 99
        · have eI : (nI a).toInt64 = Int64.ofNat a := i64_of (by omega)
          obtain ⟨g, t1, t2, t3⟩ := c_dyD (s := (v, a, 0)) (N := v 8 0) (n := n) w r rfl ha2 (by omega) q
          have m1 : MLd v g := MLd_ag m fun p j f => t3 p j (by unfold fpM at f; omega)
          obtain ⟨g2, s1, s2, s3⟩ := m_dyD (s := (v, a, 0)) (N := v 8 0) (n := n) w m1 rfl ha2 (by omega) q
          obtain ⟨b1, b2, b3, b4⟩ := dyD_ok (s := (v, a, 0)) (N := v 8 0) w ha2 rfl n q
          have fr : ∀ p j, ¬ fpL p j → hg g2 p j = hg h p j := fun p j n1 => by
            rw [s3 p j (fun z => n1 (by unfold fpL; omega)) (fun z => n1 (by unfold fpL; omega)) (fun z => n1 (by unfold fpL; omega)), t3 p j (fun z => n1 (by unfold fpL; omega))]
          have e8' : (dyD (v, a, 0) (v 8 0) n).1 8 0 = v 8 0 := b2 8 0 (by decide) (by decide) (by decide)
          have cnd : nI (v 7 0) + nI n ≤ (99 : Int32) := by
            rw [nI_add]
            exact le_nI (a := 99) (by decide) (by omega) q
          refine ⟨(nI (dyD (v, a, 0) (v 8 0) n).2.2), g, g2, ?_, ?_, Inv_L I (v := v) (CA_L I fun p j _ n1 => fr p j n1) b1 (CLd_ag t2 (fun p j h1 h2 => s3 p j (by omega) (by omega) (by omega)) (by omega)) s2 ck (b2 0 0 (by decide) (by decide) (by decide)) (fun _ _ => b2 1 _ (by decide) (by decide) (by decide)) fun p j _ _ n1 => fr p j n1⟩
          · rw [eC, e8, if_neg z0, e11, if_pos cnd]
            unfold F_La_goBy
            rw [eI]
            have t1' : loopC La_goBy_9 FU (3, nI n, Int64.ofNat a, 0, 0, h) = _ := t1
            rw [t1', bI_ret]
            rfl
          · rw [eM, M_n m1, if_neg z0, M_h m1, if_pos cnd, eI]
            exact s1
        · have cnd : ¬ nI (v 7 0) + nI n ≤ (99 : Int32) := by
            rw [nI_add]
            exact nle_nI (a := 99) (by decide) (by omega) q
          refine fin_q I (h1 := h) (h2 := h) (x := -nI 2) ?_ (frS_rf h) ?_ (frS_rf h)
          · rw [eC, e8, if_neg z0, e11, if_neg cnd]
            rfl
          · rw [eM, M_n m, if_neg z0, M_h m, if_neg cnd]
            rfl
    · refine fin_q I (h1 := h) (h2 := h) (x := -nI 1) ?_ (frS_rf h) ?_ (frS_rf h)
      · unfold F_Bp_days
        rw [if_neg c1, if_neg c2]
        by_cases q : y < 1
        · exact if_pos q
        · refine (if_neg q).trans (if_neg fun z => ?_)
          rw [ltO] at q
          rw [ltP] at z
          have := inV_no hy
          omega
      · have a1 : F_Mo_in x 1 60 h = retI (tf (inV x 1 61)) h := m60
        unfold F_Mo_days
        rw [a1, bI_ret, tf_t hx]
        refine (if_neg (by decide)).trans ?_
        rw [mse, bI_ret, tf_f hy]
        exact if_pos rfl
  · refine fin_q I (h1 := h) (h2 := h) (x := -nI 1) ?_ (frS_rf h) ?_ (frS_rf h)
    · unfold F_Bp_days
      by_cases q : x < 1
      · exact if_pos q
      · refine (if_neg q).trans (if_pos ?_)
        rw [ltO] at q
        rw [lt60]
        have := inV_no hx
        omega
    · have a1 : F_Mo_in x 1 60 h = retI (tf (inV x 1 61)) h := m60
      unfold F_Mo_days
      rw [a1, bI_ret, tf_f hx]
      exact if_pos rfl
