/-! OPERATIONS: upper, lower, fewest -/
theorem m_gcd {h : Hp} : ∀ n a b, b < n → a < 2 ^ 31 → b < 2 ^ 31 → loopC Mo_divisor_4 n (nI a, nI b, h) = retI (nI (Nat.gcd a b)) h
  | 0, a, b, q, _, _ => absurd q (Nat.not_lt_zero b)
  | n + 1, a, b, q, ha, hb => by
    show Mo_divisor_4 (nI a, nI b, h) (loopC Mo_divisor_4 n) = _
    by_cases z : b = 0
    · subst z
      simp (disch := first | assumption | omega) only [Mo_divisor_4, lit_0, lit_1, lit_2, lit_3, lit_4, lit_5, lit_6, lit_7, lit_8, lit_9, lit_10, lit_11, lit_12, lit_16, lit_17, lit_20, lit_31, lit_32, lit_40, lit_47, lit_48, lit_49, lit_57, lit_58, lit_60, lit_64, lit_68, lit_80, lit_97, lit_99, lit_100, lit_101, lit_104, lit_108, lit_109, lit_115, lit_117, lit_121, lit_127, lit_128, lit_140, lit_1000, lit_1000000, lit_1048576, bI_ret, bV_ret, bL_ret, bH_t, cond_true, z_0, z_1, retZ_tf, z_tf0, z_tf1, Decidable.not_not, Classical.not_not, nI_add, nI_clamp, n_le, n_lt, n_eq, nI_or, nI_and, z_sdf, of_nI, if_true, Nat.gcd_zero_right]
    · have hm : a % b < b := Nat.mod_lt _ (by omega)
      simp (disch := first | assumption | omega) only [Mo_divisor_4, lit_0, lit_1, lit_2, lit_3, lit_4, lit_5, lit_6, lit_7, lit_8, lit_9, lit_10, lit_11, lit_12, lit_16, lit_17, lit_20, lit_31, lit_32, lit_40, lit_47, lit_48, lit_49, lit_57, lit_58, lit_60, lit_64, lit_68, lit_80, lit_97, lit_99, lit_100, lit_101, lit_104, lit_108, lit_109, lit_115, lit_117, lit_121, lit_127, lit_128, lit_140, lit_1000, lit_1000000, lit_1048576, bI_ret, bV_ret, bL_ret, bH_t, cond_true, z_0, z_1, retZ_tf, z_tf0, z_tf1, Decidable.not_not, Classical.not_not, nI_add, nI_clamp, n_le, n_lt, n_eq, nI_or, nI_and, z_sdf, of_nI, if_neg z, z_rem]
      rw [m_gcd n b (a % b) (by omega) hb (by omega), Nat.gcd_comm b, ← Nat.gcd_rec, Nat.gcd_comm]
theorem c_gcd {h : Hp} : ∀ n a b k, b < n → a < 2 ^ 31 → k + b ≤ 64 → loopC Bp_commonDivisor_7 n (nI a, nI b, nI k, h) = retI (if nI 1 < nI (Nat.gcd a b) then nI (Nat.gcd a b) else nI 1) h
  | 0, a, b, k, q, _, _ => absurd q (Nat.not_lt_zero b)
  | n + 1, a, b, k, q, ha, hb => by
    show Bp_commonDivisor_7 (nI a, nI b, nI k, h) (loopC Bp_commonDivisor_7 n) = _
    by_cases z : b = 0
    · subst z
      simp (disch := first | assumption | omega) only [Bp_commonDivisor_7, lit_0, lit_1, lit_2, lit_3, lit_4, lit_5, lit_6, lit_7, lit_8, lit_9, lit_10, lit_11, lit_12, lit_16, lit_17, lit_20, lit_31, lit_32, lit_40, lit_47, lit_48, lit_49, lit_57, lit_58, lit_60, lit_64, lit_68, lit_80, lit_97, lit_99, lit_100, lit_101, lit_104, lit_108, lit_109, lit_115, lit_117, lit_121, lit_127, lit_128, lit_140, lit_1000, lit_1000000, lit_1048576, nI_add, if_true, Nat.gcd_zero_right, ite_self]
      rfl
    · have hm : a % b < b := Nat.mod_lt _ (by omega)
      have h64 : (nI 64 ≤ nI k) = False := propext ⟨fun z => by rw [nI_leI (by decide) (by omega)] at z; omega, fun z => z.elim⟩
      have hb0 : (nI b = nI 0) = False := propext ⟨fun y => z ((nI_eq (by omega) (by decide)).mp y), fun z => z.elim⟩
      simp (disch := first | assumption | omega) only [Bp_commonDivisor_7, lit_0, lit_1, lit_2, lit_3, lit_4, lit_5, lit_6, lit_7, lit_8, lit_9, lit_10, lit_11, lit_12, lit_16, lit_17, lit_20, lit_31, lit_32, lit_40, lit_47, lit_48, lit_49, lit_57, lit_58, lit_60, lit_64, lit_68, lit_80, lit_97, lit_99, lit_100, lit_101, lit_104, lit_108, lit_109, lit_115, lit_117, lit_121, lit_127, lit_128, lit_140, lit_1000, lit_1000000, lit_1048576, nI_add, h64, hb0, if_false, z_rem]
      rw [c_gcd n b (a % b) (k + 1) (by omega) (by omega) (by omega), Nat.gcd_comm b, ← Nat.gcd_rec, Nat.gcd_comm]
theorem g_fr {h : Hp} (I : Inv h) (up : Bool) : ∃ h1 h2 p, frS h h1 ∧ frS h1 h2 ∧ (if up then F_Bp_upper else F_Bp_lower) h = retL p h1 ∧ (if up then F_Mo_upper else F_Mo_lower) h1 = retL p h2 := by
  obtain ⟨-, -, v, w, r, m, -⟩ := id I
  obtain ⟨h1, c1, c2, c3, c4⟩ := c_tally w r
  obtain ⟨h2, d1, d2, d3⟩ := m_cutNow w (MLd_S m (frS_C c4))
  have hA := allP_42 w
  have hC : cutP v ≤ allP v := cutP_le
  by_cases z : allP v = 0
  · refine ⟨h1, h2, if up then 0 else 1, frS_C c4, d3, ?_, ?_⟩
    · cases up
      · show F_Bp_lower h = _
        unfold F_Bp_lower
        rw [c1, bV_ret, c2, if_pos (by rw [z]; rfl)]
        rfl
      · show F_Bp_upper h = _
        unfold F_Bp_upper
        rw [c1, bV_ret, c2, if_pos (by rw [z]; rfl)]
        rfl
    · cases up
      · show F_Mo_lower h1 = _
        unfold F_Mo_lower
        rw [d1, bI_ret, d2, if_pos (by rw [z]; rfl)]
        rfl
      · show F_Mo_upper h1 = _
        unfold F_Mo_upper
        rw [d1, bI_ret, d2, if_pos (by rw [z]; rfl)]
        rfl
  · have hg0 : 0 < Nat.gcd (allP v) (allP v - cutP v) := Nat.gcd_pos_of_pos_left _ (by omega)
    have hgl : Nat.gcd (allP v) (allP v - cutP v) ≤ allP v := Nat.gcd_le_left _ (by omega)
    have k1 : ∀ g, F_Bp_commonDivisor (nI (allP v)) (nI (allP v - cutP v)) g = retI (nI (Nat.gcd (allP v) (allP v - cutP v))) g := fun g => by
      unfold F_Bp_commonDivisor
      refine (c_gcd FU (allP v) (allP v - cutP v) 0 (by show _ < 4096; omega) (by omega) (by omega)).trans ?_
      by_cases y : Nat.gcd (allP v) (allP v - cutP v) = 1
      · rw [y]; rfl
      · rw [if_pos (by rw [nI_ltI (by decide) (by omega)]; omega)]
    have k2 : ∀ g, F_Mo_divisor (nI (allP v - cutP v)) (nI (allP v)) g = retI (nI (Nat.gcd (allP v) (allP v - cutP v))) g := fun g => by
      unfold F_Mo_divisor
      rw [m_gcd FU (allP v - cutP v) (allP v) (by show _ < 4096; omega) (by omega) (by omega), Nat.gcd_comm]
    have e0 : ¬ nI (Nat.gcd (allP v) (allP v - cutP v)) = 0 := fun y => by
      have := (nI_eq (a := Nat.gcd (allP v) (allP v - cutP v)) (b := 0) (by omega) (by decide)).mp y
      omega
    have e1 : ¬ nI (allP v) = 0 := fun y => z ((nI_eq (a := allP v) (b := 0) (by omega) (by decide)).mp y)
    refine ⟨h1, h2, if up then (nI (allP v - cutP v) / nI (Nat.gcd (allP v) (allP v - cutP v))).toInt64 else (nI (allP v) / nI (Nat.gcd (allP v) (allP v - cutP v))).toInt64, frS_C c4, d3, ?_, ?_⟩
    · cases up
      · show F_Bp_lower h = _
        unfold F_Bp_lower
        rw [c1, bV_ret, c2, c3, if_neg e1, nI_sb hC, k1, bI_ret, if_neg e0]
        rfl
      · show F_Bp_upper h = _
        unfold F_Bp_upper
        rw [c1, bV_ret, c2, c3, if_neg e1, nI_sb hC, k1, bI_ret, if_neg e0]
        rfl
    · cases up
      · show F_Mo_lower h1 = _
        unfold F_Mo_lower
        rw [d1, bI_ret, d2, if_neg e1, nI_sb hC, k2, bI_ret, if_neg e0]
        rfl
      · show F_Mo_upper h1 = _
        unfold F_Mo_upper
        rw [d1, bI_ret, d2, if_neg e1, nI_sb hC, k2, bI_ret, if_neg e0]
        rfl
theorem g_upper {h : Hp} (I : Inv h) : OkL F_Bp_upper F_Mo_upper h := by
  obtain ⟨h1, h2, p, s1, s2, e1, e2⟩ := g_fr I true
  exact fin_l I (f := F_Bp_upper) (g := F_Mo_upper) e1 s1 e2 s2
theorem g_lower {h : Hp} (I : Inv h) : OkL F_Bp_lower F_Mo_lower h := by
  obtain ⟨h1, h2, p, s1, s2, e1, e2⟩ := g_fr I false
  exact fin_l I (f := F_Bp_lower) (g := F_Mo_lower) e1 s1 e2 s2
/-! fewest -/
theorem tgs_self (v : LV) (x : Nat) : tgs v x x = 0 := by
  unfold tgs
  rw [ms_0]
  intro i hi
  unfold wayB wrB
  simp
/-- the table of the tongues of the pairs -/
def TgC (v : LV) (h : Hp) : Prop := ∀ a b, a < v 0 0 → b < v 0 0 → hg h 196 (7 * a + b) = nI (tgs v a b)
theorem m_fewTab {v : LV} {h : Hp} (w : WF v) (r : MLd v h) : ∃ g, frS h g ∧ TgC v g ∧ F_Mo_fewest h = loopC Mo_fewest_64 FU (nI 31, nI 31, g) := by
  have hn := w.1
  unfold F_Mo_fewest
  simp (disch := first | assumption | omega) only [lit_0, lit_1, lit_2, lit_3, lit_4, lit_5, lit_6, lit_7, lit_8, lit_9, lit_10, lit_11, lit_12, lit_16, lit_17, lit_20, lit_31, lit_32, lit_40, lit_47, lit_48, lit_49, lit_57, lit_58, lit_60, lit_64, lit_68, lit_80, lit_97, lit_99, lit_100, lit_101, lit_104, lit_108, lit_109, lit_115, lit_117, lit_121, lit_127, lit_128, lit_140, lit_1000, lit_1000000, lit_1048576]
  refine Exists.elim (loop_all (K := Unit) (b := fun _ => Mo_fewest_2) (N := v 0 0) (n := FU) (s0 := (nI 0, h)) (fun i s => ∃ g, s = (nI i, g) ∧ frS h g ∧ ∀ a b, a < i → b < v 0 0 → hg g 196 (7 * a + b) = nI (tgs v a b)) ⟨_, rfl, frS_rf h, fun a b q => absurd q (Nat.not_lt_zero a)⟩ (by show _ < 4096; omega) ?_) ?_
  · rintro i s hi ⟨g, rfl, p1, p2⟩
    obtain ⟨g2, q1, q2, q3⟩ : ∃ g2, frS h g2 ∧ (∀ a b, a < i + 1 → b < v 0 0 → hg g2 196 (7 * a + b) = nI (tgs v a b)) ∧ ∀ κ, loopC (Mo_fewest_12 κ) FU (nI i, nI 0, g) = κ (nI (i + 1), g2) := by
      refine Exists.elim (loop_all (K := (Int32 × Hp) → Res Hp) (b := fun κ => Mo_fewest_12 κ) (N := v 0 0) (n := FU) (s0 := (nI i, nI 0, g)) (fun j s => ∃ g2, s = (nI i, nI j, g2) ∧ frS h g2 ∧ (∀ a b, a < i → b < v 0 0 → hg g2 196 (7 * a + b) = nI (tgs v a b)) ∧ ∀ b, b < j → hg g2 196 (7 * i + b) = nI (tgs v i b)) ⟨g, rfl, p1, p2, fun b q => absurd q (Nat.not_lt_zero b)⟩ (by show _ < 4096; omega) ?_) ?_
      · rintro j s hj ⟨g2, rfl, a2, a3, a4⟩
        have rg := MLd_S r a2
        have put : ∀ g3, (∀ k, hg g3 196 k = hg g2 196 k) → frS h g3 → ∃ g4, g4 = hs g3 196 (7 * i + j) (nI (tgs v i j)) ∧ frS h g4 ∧ (∀ a b, a < i → b < v 0 0 → hg g4 196 (7 * a + b) = nI (tgs v a b)) ∧ ∀ b, b < j + 1 → hg g4 196 (7 * i + b) = nI (tgs v i b) := fun g3 e f => by
          refine ⟨_, rfl, frS_tr f (frS_hs (by unfold scr; omega)), fun a b ha hb => ?_, fun b hb => ?_⟩
          · rw [hg_hs2, if_neg (by omega), e]; exact a3 a b ha hb
          · by_cases z : b = j
            · rw [z, hg_hs_eq]
            · rw [hg_hs2, if_neg (by omega), e]; exact a4 b (by omega)
        by_cases e : i = j
        · subst e
          obtain ⟨g4, k1, k2, k3, k4⟩ := put g2 (fun _ => rfl) a2
          refine ⟨(nI i, nI (i + 1), g4), ⟨g4, rfl, k2, k3, k4⟩, fun k κ => ?_⟩
          simp (disch := first | assumption | omega) only [Mo_fewest_12, lit_0, lit_1, lit_2, lit_3, lit_4, lit_5, lit_6, lit_7, lit_8, lit_9, lit_10, lit_11, lit_12, lit_16, lit_17, lit_20, lit_31, lit_32, lit_40, lit_47, lit_48, lit_49, lit_57, lit_58, lit_60, lit_64, lit_68, lit_80, lit_97, lit_99, lit_100, lit_101, lit_104, lit_108, lit_109, lit_115, lit_117, lit_121, lit_127, lit_128, lit_140, lit_1000, lit_1000000, lit_1048576, bI_ret, bV_ret, bL_ret, bH_t, cond_true, z_0, z_1, retZ_tf, z_tf0, z_tf1, Decidable.not_not, Classical.not_not, nI_add, nI_clamp, n_le, n_lt, n_eq, nI_or, nI_and, z_sdf, of_nI, nI_mul, oA_196, M_n rg]
          rw [if_neg (by omega), if_pos trivial, k1, tgs_self]
        · obtain ⟨g3, t1, t2⟩ := m_tonguesOf w rg hi hj e
          obtain ⟨g4, k1, k2, k3, k4⟩ := put g3 (fun k => t2 196 k (by unfold wW; omega)) (frS_tr a2 (frS_W t2))
          refine ⟨(nI i, nI (j + 1), g4), ⟨g4, rfl, k2, k3, k4⟩, fun k κ => ?_⟩
          simp (disch := first | assumption | omega) only [Mo_fewest_12, lit_0, lit_1, lit_2, lit_3, lit_4, lit_5, lit_6, lit_7, lit_8, lit_9, lit_10, lit_11, lit_12, lit_16, lit_17, lit_20, lit_31, lit_32, lit_40, lit_47, lit_48, lit_49, lit_57, lit_58, lit_60, lit_64, lit_68, lit_80, lit_97, lit_99, lit_100, lit_101, lit_104, lit_108, lit_109, lit_115, lit_117, lit_121, lit_127, lit_128, lit_140, lit_1000, lit_1000000, lit_1048576, bI_ret, bV_ret, bL_ret, bH_t, cond_true, z_0, z_1, retZ_tf, z_tf0, z_tf1, Decidable.not_not, Classical.not_not, nI_add, nI_clamp, n_le, n_lt, n_eq, nI_or, nI_and, z_sdf, of_nI, nI_mul, oA_196, M_n rg, t1]
          rw [if_neg (by omega), if_neg e, k1]
      · rintro s ⟨⟨g2, rfl, a2, a3, a4⟩, q⟩
        refine ⟨g2, a2, fun a b ha hb => ?_, fun κ => q κ _ fun κ2 => ?_⟩
        · by_cases z : a = i
          · rw [z]; exact a4 b hb
          · exact a3 a b (by omega) hb
        · have rg := MLd_S r a2
          simp (disch := first | assumption | omega) only [Mo_fewest_12, lit_0, lit_1, lit_2, lit_3, lit_4, lit_5, lit_6, lit_7, lit_8, lit_9, lit_10, lit_11, lit_12, lit_16, lit_17, lit_20, lit_31, lit_32, lit_40, lit_47, lit_48, lit_49, lit_57, lit_58, lit_60, lit_64, lit_68, lit_80, lit_97, lit_99, lit_100, lit_101, lit_104, lit_108, lit_109, lit_115, lit_117, lit_121, lit_127, lit_128, lit_140, lit_1000, lit_1000000, lit_1048576, bI_ret, bV_ret, bL_ret, bH_t, cond_true, z_0, z_1, retZ_tf, z_tf0, z_tf1, Decidable.not_not, Classical.not_not, nI_add, nI_clamp, n_le, n_lt, n_eq, nI_or, nI_and, z_sdf, of_nI, M_n rg, Nat.le_refl, if_true]
    have rg := MLd_S r p1
    refine ⟨(nI (i + 1), g2), ⟨g2, rfl, q1, q2⟩, fun k κ => ?_⟩
    simp (disch := first | assumption | omega) only [Mo_fewest_2, lit_0, lit_1, lit_2, lit_3, lit_4, lit_5, lit_6, lit_7, lit_8, lit_9, lit_10, lit_11, lit_12, lit_16, lit_17, lit_20, lit_31, lit_32, lit_40, lit_47, lit_48, lit_49, lit_57, lit_58, lit_60, lit_64, lit_68, lit_80, lit_97, lit_99, lit_100, lit_101, lit_104, lit_108, lit_109, lit_115, lit_117, lit_121, lit_127, lit_128, lit_140, lit_1000, lit_1000000, lit_1048576, bI_ret, bV_ret, bL_ret, bH_t, cond_true, z_0, z_1, retZ_tf, z_tf0, z_tf1, Decidable.not_not, Classical.not_not, nI_add, nI_clamp, n_le, n_lt, n_eq, nI_or, nI_and, z_sdf, of_nI, M_n rg, q3]
    rw [if_neg (by omega)]
  · rintro s ⟨⟨g, rfl, p1, p2⟩, q⟩
    have rg := MLd_S r p1
    refine ⟨g, p1, p2, q () _ fun κ => ?_⟩
    simp (disch := first | assumption | omega) only [Mo_fewest_2, lit_0, lit_1, lit_2, lit_3, lit_4, lit_5, lit_6, lit_7, lit_8, lit_9, lit_10, lit_11, lit_12, lit_16, lit_17, lit_20, lit_31, lit_32, lit_40, lit_47, lit_48, lit_49, lit_57, lit_58, lit_60, lit_64, lit_68, lit_80, lit_97, lit_99, lit_100, lit_101, lit_104, lit_108, lit_109, lit_115, lit_117, lit_121, lit_127, lit_128, lit_140, lit_1000, lit_1000000, lit_1048576, bI_ret, bV_ret, bL_ret, bH_t, cond_true, z_0, z_1, retZ_tf, z_tf0, z_tf1, Decidable.not_not, Classical.not_not, nI_add, nI_clamp, n_le, n_lt, n_eq, nI_or, nI_and, z_sdf, of_nI, M_n rg, Nat.le_refl, if_true]
/-- misses: a pair that writes in some tongue and in none of the set -/
def mis (v : LV) (s a b : Nat) : Bool := tgs v a b != 0 && (tgs v a b &&& s) == 0
def b01 (b : Bool) : Int32 := if b = true then nI 1 else nI 0
theorem m_hits {v : LV} {h : Hp} (w : WF v) (r : MLd v h) (T : TgC v h) {best s : Nat} (hs9 : s < 32) (b0 : Bool) (κ : (Int32 × Int32 × Hp) → Res Hp) : loopC (Mo_fewest_88 κ) FU (nI best, nI s, b01 b0, nI 0, h) = κ (if (b0 && hitB v s) = true then nI s else nI best, nI s + -nI 1, h) := by
  have hn := w.1
  refine loop_for (N := v 0 0) (fun i => (nI best, nI s, b01 (b0 && !anyB i (fun x => anyB (v 0 0) (mis v s x))), nI i, h)) (by show _ = (_, _, b01 (b0 && !false), _, _); rw [Bool.not_false, Bool.and_true]) (by show _ < 4096; omega) (fun i κ2 hi => ?_) (fun κ2 => ?_)
  · simp (disch := first | assumption | omega) only [Mo_fewest_88, lit_0, lit_1, lit_2, lit_3, lit_4, lit_5, lit_6, lit_7, lit_8, lit_9, lit_10, lit_11, lit_12, lit_16, lit_17, lit_20, lit_31, lit_32, lit_40, lit_47, lit_48, lit_49, lit_57, lit_58, lit_60, lit_64, lit_68, lit_80, lit_97, lit_99, lit_100, lit_101, lit_104, lit_108, lit_109, lit_115, lit_117, lit_121, lit_127, lit_128, lit_140, lit_1000, lit_1000000, lit_1048576, M_n r]
    rw [if_neg (by rw [nI_leI (by omega) (by omega)]; omega)]
    refine loop_for (N := v 0 0) (fun j => (nI best, nI s, b01 ((b0 && !anyB i (fun x => anyB (v 0 0) (mis v s x))) && !anyB j (mis v s i)), nI i, nI j, h)) (by show _ = (_, _, b01 (_ && !false), _, _, _); rw [Bool.not_false, Bool.and_true]) (by show _ < 4096; omega) (fun j κ3 hj => ?_) (fun κ3 => ?_)
    · have hT := T i j hi hj
      have ht := tgs_lt v i j
      have hc : tgs v i j &&& s < 2 ^ 31 := Nat.lt_of_le_of_lt Nat.and_le_left (by omega)
      simp (disch := first | assumption | omega) only [Mo_fewest_100, lit_0, lit_1, lit_2, lit_3, lit_4, lit_5, lit_6, lit_7, lit_8, lit_9, lit_10, lit_11, lit_12, lit_16, lit_17, lit_20, lit_31, lit_32, lit_40, lit_47, lit_48, lit_49, lit_57, lit_58, lit_60, lit_64, lit_68, lit_80, lit_97, lit_99, lit_100, lit_101, lit_104, lit_108, lit_109, lit_115, lit_117, lit_121, lit_127, lit_128, lit_140, lit_1000, lit_1000000, lit_1048576, bI_ret, bV_ret, bL_ret, bH_t, cond_true, z_0, z_1, retZ_tf, z_tf0, z_tf1, Decidable.not_not, Classical.not_not, nI_add, nI_clamp, n_le, n_lt, n_eq, nI_or, nI_and, z_sdf, of_nI, nI_mul, oA_196, M_n r, hT]
      rw [if_neg (by omega), show anyB (j + 1) (mis v s i) = (anyB j (mis v s i) || mis v s i j) from rfl]
      generalize (b0 && !anyB i (fun x => anyB (v 0 0) (mis v s x))) = B
      generalize anyB j (mis v s i) = A
      unfold mis
      cases hB : (B && !A) with
      | false =>
        rw [show b01 false = nI 0 from rfl, if_pos rfl, show (B && !(A || (tgs v i j != 0 && (tgs v i j &&& s) == 0))) = false from by
          cases B
          · rfl
          · cases A
            · cases hB
            · rfl]
        rfl
      | true =>
        have hB2 : B = true := by cases B; · cases hB
                                  · rfl
        have hA2 : A = false := by cases A; · rfl
                                   · rw [hB2] at hB; cases hB
        subst hB2
        subst hA2
        rw [show b01 true = nI 1 from rfl, if_neg (by decide)]
        by_cases z : tgs v i j = 0
        · rw [if_pos z, z]
          rfl
        · rw [if_neg z]
          by_cases y : tgs v i j &&& s = 0
          · rw [if_pos y, bne_iff_ne.mpr z, beq_iff_eq.mpr y]
            rfl
          · rw [if_neg y, beq_eq_false_iff_ne.mpr y, Bool.and_false]
            rfl
    · simp (disch := first | assumption | omega) only [Mo_fewest_100, lit_0, lit_1, lit_2, lit_3, lit_4, lit_5, lit_6, lit_7, lit_8, lit_9, lit_10, lit_11, lit_12, lit_16, lit_17, lit_20, lit_31, lit_32, lit_40, lit_47, lit_48, lit_49, lit_57, lit_58, lit_60, lit_64, lit_68, lit_80, lit_97, lit_99, lit_100, lit_101, lit_104, lit_108, lit_109, lit_115, lit_117, lit_121, lit_127, lit_128, lit_140, lit_1000, lit_1000000, lit_1048576, bI_ret, bV_ret, bL_ret, bH_t, cond_true, z_0, z_1, retZ_tf, z_tf0, z_tf1, Decidable.not_not, Classical.not_not, nI_add, nI_clamp, n_le, n_lt, n_eq, nI_or, nI_and, z_sdf, of_nI, M_n r, Nat.le_refl, if_true]
      rw [show anyB (i + 1) (fun x => anyB (v 0 0) (mis v s x)) = (anyB i (fun x => anyB (v 0 0) (mis v s x)) || anyB (v 0 0) (mis v s i)) from rfl, Bool.not_or, Bool.and_assoc]
  · simp (disch := first | assumption | omega) only [Mo_fewest_88, lit_0, lit_1, lit_2, lit_3, lit_4, lit_5, lit_6, lit_7, lit_8, lit_9, lit_10, lit_11, lit_12, lit_16, lit_17, lit_20, lit_31, lit_32, lit_40, lit_47, lit_48, lit_49, lit_57, lit_58, lit_60, lit_64, lit_68, lit_80, lit_97, lit_99, lit_100, lit_101, lit_104, lit_108, lit_109, lit_115, lit_117, lit_121, lit_127, lit_128, lit_140, lit_1000, lit_1000000, lit_1048576, M_n r, Int32.le_refl, if_true]
    have e : hitB v s = !anyB (v 0 0) (fun x => anyB (v 0 0) (mis v s x)) := rfl
    rw [e]
    generalize (b0 && !anyB (v 0 0) (fun x => anyB (v 0 0) (mis v s x))) = B
    cases B
    · exact if_pos rfl
    · exact if_neg (show ¬ nI 1 = nI 0 by decide)
/-- the same set, sought from above -/
def dtT (v : LV) : Nat → Nat
  | 0 => 31
  | i + 1 => if pop (31 - i) ≤ pop (dtT v i) ∧ hitB v (31 - i) = true then 31 - i else dtT v i
theorem pop_31 : pop 31 = 5 := by decide
theorem pop_4 : ∀ s, s < 31 → pop s ≤ 4 := by decide
theorem ltT_min (v : LV) : ∀ i, i ≤ 31 → (ltT v i = 31 ∨ (ltT v i < i ∧ hitB v (ltT v i) = true)) ∧ ∀ s, s < i → hitB v s = true → pop (ltT v i) < pop s ∨ (pop (ltT v i) = pop s ∧ ltT v i ≤ s)
  | 0, _ => ⟨Or.inl rfl, fun s hs9 => absurd hs9 (Nat.not_lt_zero s)⟩
  | i + 1, h => by
    obtain ⟨h1, h2⟩ := ltT_min v i (by omega)
    have p4 := pop_4 i (by omega)
    have p31 := pop_31
    unfold ltT
    split
    · next c =>
      refine ⟨Or.inr ⟨Nat.lt_succ_self i, c.2⟩, fun s hs9 hh => ?_⟩
      by_cases e : s = i
      · rw [e]; exact Or.inr ⟨rfl, Nat.le_refl _⟩
      · have := h2 s (by omega) hh
        omega
    · next c =>
      refine ⟨h1.imp id (fun q => ⟨by omega, q.2⟩), fun s hs9 hh => ?_⟩
      by_cases e : s = i
      · subst e
        have k : ¬ pop s < pop (ltT v s) := fun z => c ⟨z, hh⟩
        rcases h1 with q | q
        · rw [q, p31] at k; omega
        · omega
      · exact h2 s (by omega) hh
theorem dtT_min (v : LV) : ∀ i, i ≤ 32 → dtT v i ≤ 31 ∧ (dtT v i = 31 ∨ hitB v (dtT v i) = true) ∧ ∀ s, s < 31 → 32 ≤ s + i → hitB v s = true → pop (dtT v i) < pop s ∨ (pop (dtT v i) = pop s ∧ dtT v i ≤ s)
  | 0, _ => ⟨Nat.le_refl _, Or.inl rfl, fun s h1 h2 => by omega⟩
  | i + 1, h => by
    obtain ⟨h0, h1, h2⟩ := dtT_min v i (by omega)
    unfold dtT
    split
    · next c =>
      refine ⟨by omega, Or.inr c.2, fun s hs9 q hh => ?_⟩
      by_cases e : s = 31 - i
      · rw [e]; exact Or.inr ⟨rfl, Nat.le_refl _⟩
      · have := h2 s hs9 (by omega) hh
        omega
    · next c =>
      refine ⟨h0, h1, fun s hs9 q hh => ?_⟩
      by_cases e : s = 31 - i
      · rw [← e] at c
        have k : ¬ pop s ≤ pop (dtT v i) := fun z => c ⟨z, hh⟩
        omega
      · exact h2 s hs9 (by omega) hh
theorem dt_lt (v : LV) : dtT v 32 = ltT v 31 := by
  obtain ⟨a0, a1, a2⟩ := dtT_min v 32 (Nat.le_refl _)
  obtain ⟨b1, b2⟩ := ltT_min v 31 (Nat.le_refl _)
  have p31 := pop_31
  generalize dtT v 32 = x at *
  generalize ltT v 31 = y at *
  by_cases hx : x = 31
  · by_cases hy : y = 31
    · omega
    · have hh := b1.resolve_left hy
      have p4 := pop_4 y hh.1
      have := a2 y hh.1 (by omega) hh.2
      rw [hx, p31] at this
      omega
  · have hh := a1.resolve_left hx
    have p4 := pop_4 x (by omega)
    have k1 := b2 x (by omega) hh
    by_cases hy : y = 31
    · rw [hy, p31] at k1; omega
    · have hh2 := b1.resolve_left hy
      have k2 := a2 y hh2.1 (by omega) hh2.2
      omega
/-- the counter that goes down to -1 -/
def dwn (i : Nat) : Int32 := if i = 32 then -nI 1 else nI (31 - i)
theorem dwn_s : ∀ i, i < 32 → nI (31 - i) + -nI 1 = dwn (i + 1) := by decide +kernel
theorem g_fewest {h : Hp} (I : Inv h) : Ok F_Bp_fewest F_Mo_fewest h := by
  obtain ⟨-, -, v, w, r, m, -⟩ := id I
  obtain ⟨h1, c1, c2⟩ := c_leastTongues w r
  have hl := ltT_lt v 31 (Nat.le_refl _)
  have m1 : MLd v (hs h1 0 11 (nI (ltT v 31))) := MLd_0 (MLd_S m (frS_C c2))
  obtain ⟨h2, d1, d2, d3⟩ := m_fewTab w m1
  refine fin_t I (h1 := h1) (h2 := h2) (x := nI (pop (ltT v 31))) (a := nI (ltT v 31)) ?_ (frS_C c2) ?_ d1
  · unfold F_Bp_fewest
    rw [c1, bI_ret, bH_t, hg_hs_eq, c_bits (by omega), bI_ret]
  · rw [d3]
    have m2 := MLd_S m1 d1
    refine loop_for (N := 32) (fun i => (nI (dtT v i), dwn i, h2)) rfl (by show _ < 4096; omega) (fun i κ hi => ?_) (fun κ => ?_)
    · have hd := (dtT_min v i (by omega)).1
      have p1 : pop (31 - i) ≤ 10 := cnt_le _ _
      have p2 : pop (dtT v i) ≤ 10 := cnt_le _ _
      have e1 : dwn i = nI (31 - i) := if_neg (by omega)
      rw [e1]
      simp (disch := first | assumption | omega) only [Mo_fewest_64, lit_0, lit_1, lit_2, lit_3, lit_4, lit_5, lit_6, lit_7, lit_8, lit_9, lit_10, lit_11, lit_12, lit_16, lit_17, lit_20, lit_31, lit_32, lit_40, lit_47, lit_48, lit_49, lit_57, lit_58, lit_60, lit_64, lit_68, lit_80, lit_97, lit_99, lit_100, lit_101, lit_104, lit_108, lit_109, lit_115, lit_117, lit_121, lit_127, lit_128, lit_140, lit_1000, lit_1000000, lit_1048576, bI_ret, m_sizeOf]
      rw [if_neg (by rw [nI_ltI (by omega) (by decide)]; omega), ← dwn_s i hi]
      show _ = κ (nI (if pop (31 - i) ≤ pop (dtT v i) ∧ hitB v (31 - i) = true then 31 - i else dtT v i), _, h2)
      have e2 := fun b0 => m_hits w m2 d2 (best := dtT v i) (s := 31 - i) (by omega) b0 κ
      by_cases q : pop (31 - i) ≤ pop (dtT v i)
      · rw [if_neg (by rw [nI_ltI (by omega) (by omega)]; omega)]
        refine (e2 true).trans ?_
        rw [Bool.true_and]
        by_cases q2 : hitB v (31 - i) = true
        · rw [if_pos q2, if_pos ⟨q, q2⟩]
        · rw [if_neg q2, if_neg (fun z => q2 z.2)]
      · rw [if_pos (by rw [nI_ltI (by omega) (by omega)]; omega)]
        refine (e2 false).trans ?_
        rw [Bool.false_and, if_neg (by decide), if_neg (fun z => q z.1)]
    · have e : dwn 32 = -nI 1 := rfl
      rw [e, dt_lt]
      simp (disch := first | assumption | omega) only [Mo_fewest_64, F_Mo_ask, lit_0, lit_1, lit_2, lit_3, lit_4, lit_5, lit_6, lit_7, lit_8, lit_9, lit_10, lit_11, lit_12, lit_16, lit_17, lit_20, lit_31, lit_32, lit_40, lit_47, lit_48, lit_49, lit_57, lit_58, lit_60, lit_64, lit_68, lit_80, lit_97, lit_99, lit_100, lit_101, lit_104, lit_108, lit_109, lit_115, lit_117, lit_121, lit_127, lit_128, lit_140, lit_1000, lit_1000000, lit_1048576, bI_ret, m_sizeOf]
      rw [if_pos (by decide), bH_t, bI_ret]
