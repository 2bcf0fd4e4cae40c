/-! OPERATIONS: parts, best -/
/-- the longest wait among the first t tongues of T -/
def plN (v : LV) (x y T hr : Nat) : Nat → Nat
  | 0 => 0
  | t + 1 => if T.testBit t = true then (if snN v x y (2 ^ t) hr + 1 ≤ plN v x y T hr t then plN v x y T hr t else snN v x y (2 ^ t) hr + 1) else plN v x y T hr t
def plP (v : LV) (x y T hr : Nat) (t : Nat) : Bool := T.testBit t && !decide (snN v x y (2 ^ t) hr < snK hr)
theorem plN_le {v : LV} {x y T hr : Nat} : ∀ t, (∀ i, i < t → plP v x y T hr i = false) → plN v x y T hr t ≤ 40
  | 0, _ => Nat.zero_le _
  | t + 1, h => by
    have ih := plN_le t (fun i hi => h i (by omega))
    have h1 := h t (Nat.lt_succ_self t)
    have hK := snK_le hr
    unfold plN
    by_cases q : T.testBit t = true
    · rw [if_pos q]
      unfold plP at h1
      rw [q, Bool.true_and] at h1
      have h2 : snN v x y (2 ^ t) hr < snK hr := by
        by_cases z : snN v x y (2 ^ t) hr < snK hr
        · exact z
        · rw [decide_eq_false z] at h1; cases h1
      split <;> omega
    · rw [if_neg q]; exact ih
theorem g_parts (x y T t : Int32) {h : Hp} (I : Inv h) : Ok (F_Bp_parts x y T t) (F_Mo_parts x y T t) h := by
  obtain ⟨-, -, v, w, r, m, -⟩ := id I
  have hn := w.1
  by_cases hx : inR x (v 0 0) ∧ inR y (v 0 0) ∧ x ≠ y
  · by_cases hT : inV T 1 32
    · by_cases ht : inR t 100
      · obtain ⟨a, b, ha, hb, hab, rfl, rfl⟩ := two_ex hn hx
        obtain ⟨T, hT1, hT2, rfl⟩ := inV_ex (by decide) hT
        obtain ⟨hr, hr2, rfl⟩ := inR_ex (by decide) ht
        have hK := snK_le hr
        have hf := fst_le (plP v a b T hr) 5
        have hno := fst_no (plP v a b T hr) 5
        have hyes := fst_yes (plP v a b T hr) 5
        generalize hN : fst (plP v a b T hr) 5 = N at hf hno hyes
        have hno' : ∀ i, i < N → T.testBit i = true → snN v a b (2 ^ i) hr < snK hr := fun i hi q => by
          have h1 := hno i hi
          unfold plP at h1
          rw [q, Bool.true_and] at h1
          by_cases z : snN v a b (2 ^ i) hr < snK hr
          · exact z
          · rw [decide_eq_false z] at h1; cases h1
        have hyes' : N < 5 → T.testBit N = true ∧ ¬ snN v a b (2 ^ N) hr < snK hr := fun z => by
          have h1 := hyes z
          unfold plP at h1
          rw [Bool.and_eq_true] at h1
          refine ⟨h1.1, fun q => ?_⟩
          rw [decide_eq_true q] at h1
          cases h1.2
        have hl : ∀ i, i ≤ N → plN v a b T hr i ≤ 40 := fun i hi => plN_le i (fun j hj => hno j (by omega))
        refine fin_q I (h1 := h) (h2 := h) (x := if N = 5 then nI (plN v a b T hr 5) else -nI 9) ?_ (frS_rf h) ?_ (frS_rf _)
        · simp (disch := first | assumption | omega) only [F_Bp_parts, lit_0, lit_1, lit_2, lit_3, lit_4, lit_5, lit_6, lit_7, lit_8, lit_9, lit_10, lit_11, lit_12, lit_16, lit_17, lit_20, lit_31, lit_32, lit_40, lit_47, lit_48, lit_49, lit_57, lit_58, lit_60, lit_64, lit_68, lit_80, lit_97, lit_99, lit_100, lit_101, lit_104, lit_108, lit_109, lit_115, lit_117, lit_121, lit_127, lit_128, lit_140, lit_1000, lit_1000000, lit_1048576, bI_ret, bV_ret, bL_ret, bH_t, cond_true, z_0, z_1, retZ_tf, z_tf0, z_tf1, Decidable.not_not, Classical.not_not, nI_add, nI_clamp, n_le, n_lt, n_eq, nI_or, nI_and, z_sdf, of_nI, ite_not, m_i3, m_i99, m_i7, m_i1, m_i20, m_i2, m_i8, m_i15, m_i60, c_noPair w r, c_noTongues, c_noHour, if_pos hx, if_pos hT, if_pos ht]
          refine loop_for (N := N) (fun i => (nI a, nI b, nI T, nI hr, nI (plN v a b T hr i), nI i, h)) rfl (by show _ < 4096; omega) (fun i κ hi => ?_) (fun κ => ?_)
          · have h1 := hl i (by omega)
            have h2 := hno' i hi
            have e1 : plN v a b T hr (i + 1) = if T.testBit i = true then (if snN v a b (2 ^ i) hr + 1 ≤ plN v a b T hr i then plN v a b T hr i else snN v a b (2 ^ i) hr + 1) else plN v a b T hr i := rfl
            simp (disch := first | assumption | omega) only [Bp_parts_32, lit_0, lit_1, lit_2, lit_3, lit_4, lit_5, lit_6, lit_7, lit_8, lit_9, lit_10, lit_11, lit_12, lit_16, lit_17, lit_20, lit_31, lit_32, lit_40, lit_47, lit_48, lit_49, lit_57, lit_58, lit_60, lit_64, lit_68, lit_80, lit_97, lit_99, lit_100, lit_101, lit_104, lit_108, lit_109, lit_115, lit_117, lit_121, lit_127, lit_128, lit_140, lit_1000, lit_1000000, lit_1048576, bI_ret, bV_ret, bL_ret, bH_t, cond_true, z_0, z_1, retZ_tf, z_tf0, z_tf1, Decidable.not_not, Classical.not_not, nI_add, nI_clamp, n_le, n_lt, n_eq, nI_or, nI_and, z_sdf, of_nI, c_has, c_bit, c_soonest w r ha hb (pow5 (show i < 5 by omega)) hr2]
            rw [if_neg (by omega), e1]
            by_cases q : T.testBit i = true
            · have q2 := h2 q
              have e9 : (nI (snN v a b (2 ^ i) hr + 1) = -nI 9) = False := nI_eq9 (by omega)
              rw [if_neg (fun z => z q), if_pos q]
              unfold soonV
              simp only [if_pos q2, e9, if_false]
              by_cases q3 : snN v a b (2 ^ i) hr + 1 ≤ plN v a b T hr i
              · rw [if_pos q3, if_neg (by rw [nI_ltI (by omega) (by omega)]; omega)]
              · rw [if_neg q3, if_pos (by rw [nI_ltI (by omega) (by omega)]; omega)]
            · rw [if_pos q, if_neg q, if_neg (by omega)]
          · by_cases e : N = 5
            · rw [e]
              simp (disch := first | assumption | omega) only [Bp_parts_32, lit_0, lit_1, lit_2, lit_3, lit_4, lit_5, lit_6, lit_7, lit_8, lit_9, lit_10, lit_11, lit_12, lit_16, lit_17, lit_20, lit_31, lit_32, lit_40, lit_47, lit_48, lit_49, lit_57, lit_58, lit_60, lit_64, lit_68, lit_80, lit_97, lit_99, lit_100, lit_101, lit_104, lit_108, lit_109, lit_115, lit_117, lit_121, lit_127, lit_128, lit_140, lit_1000, lit_1000000, lit_1048576, bI_ret, bV_ret, bL_ret, bH_t, cond_true, z_0, z_1, retZ_tf, z_tf0, z_tf1, Decidable.not_not, Classical.not_not, nI_add, nI_clamp, n_le, n_lt, n_eq, nI_or, nI_and, z_sdf, of_nI, Nat.le_refl, if_true]
            · have q := hyes' (by omega)
              simp (disch := first | assumption | omega) only [Bp_parts_32, lit_0, lit_1, lit_2, lit_3, lit_4, lit_5, lit_6, lit_7, lit_8, lit_9, lit_10, lit_11, lit_12, lit_16, lit_17, lit_20, lit_31, lit_32, lit_40, lit_47, lit_48, lit_49, lit_57, lit_58, lit_60, lit_64, lit_68, lit_80, lit_97, lit_99, lit_100, lit_101, lit_104, lit_108, lit_109, lit_115, lit_117, lit_121, lit_127, lit_128, lit_140, lit_1000, lit_1000000, lit_1048576, bI_ret, bV_ret, bL_ret, bH_t, cond_true, z_0, z_1, retZ_tf, z_tf0, z_tf1, Decidable.not_not, Classical.not_not, nI_add, nI_clamp, n_le, n_lt, n_eq, nI_or, nI_and, z_sdf, of_nI, c_has, c_bit, c_soonest w r ha hb (pow5 (show N < 5 by omega)) hr2]
              rw [if_neg (by omega), if_neg (fun z => z q.1), if_neg e]
              unfold soonV
              rw [if_neg q.2, if_pos rfl]
        · simp (disch := first | assumption | omega) only [F_Mo_parts, lit_0, lit_1, lit_2, lit_3, lit_4, lit_5, lit_6, lit_7, lit_8, lit_9, lit_10, lit_11, lit_12, lit_16, lit_17, lit_20, lit_31, lit_32, lit_40, lit_47, lit_48, lit_49, lit_57, lit_58, lit_60, lit_64, lit_68, lit_80, lit_97, lit_99, lit_100, lit_101, lit_104, lit_108, lit_109, lit_115, lit_117, lit_121, lit_127, lit_128, lit_140, lit_1000, lit_1000000, lit_1048576, bI_ret, bV_ret, bL_ret, bH_t, cond_true, z_0, z_1, retZ_tf, z_tf0, z_tf1, Decidable.not_not, Classical.not_not, nI_add, nI_clamp, n_le, n_lt, n_eq, nI_or, nI_and, z_sdf, of_nI, ite_not, m_i3, m_i99, m_i7, m_i1, m_i20, m_i2, m_i8, m_i15, m_i60, m_isAsk w m, if_pos (And.intro hx hT), if_pos ht]
          refine loop_for (N := N) (fun i => (nI a, nI b, nI T, nI hr, nI (plN v a b T hr i), nI i, h)) rfl (by show _ < 4096; omega) (fun i κ hi => ?_) (fun κ => ?_)
          · have h1 := hl i (by omega)
            have h2 := hno' i hi
            have e1 : plN v a b T hr (i + 1) = if T.testBit i = true then (if snN v a b (2 ^ i) hr + 1 ≤ plN v a b T hr i then plN v a b T hr i else snN v a b (2 ^ i) hr + 1) else plN v a b T hr i := rfl
            simp (disch := first | assumption | omega) only [Mo_parts_29, lit_0, lit_1, lit_2, lit_3, lit_4, lit_5, lit_6, lit_7, lit_8, lit_9, lit_10, lit_11, lit_12, lit_16, lit_17, lit_20, lit_31, lit_32, lit_40, lit_47, lit_48, lit_49, lit_57, lit_58, lit_60, lit_64, lit_68, lit_80, lit_97, lit_99, lit_100, lit_101, lit_104, lit_108, lit_109, lit_115, lit_117, lit_121, lit_127, lit_128, lit_140, lit_1000, lit_1000000, lit_1048576, bI_ret, bV_ret, bL_ret, bH_t, cond_true, z_0, z_1, retZ_tf, z_tf0, z_tf1, Decidable.not_not, Classical.not_not, nI_add, nI_clamp, n_le, n_lt, n_eq, nI_or, nI_and, z_sdf, of_nI, m_has, z_bit, m_soonOf w m ha hb hab (pow5 (show i < 5 by omega)) hr2]
            rw [if_neg (by omega), e1]
            by_cases q : T.testBit i = true
            · have q2 := h2 q
              have e9 : (nI (snN v a b (2 ^ i) hr + 1) = -nI 9) = False := nI_eq9 (by omega)
              rw [if_neg (fun z => z q), if_pos q]
              unfold soonV
              simp only [if_pos q2, e9, if_false]
              by_cases q3 : snN v a b (2 ^ i) hr + 1 ≤ plN v a b T hr i
              · rw [if_pos q3, if_pos (by rw [nI_leI (by omega) (by omega)]; omega)]
              · rw [if_neg q3, if_neg (by rw [nI_leI (by omega) (by omega)]; omega)]
            · rw [if_pos q, if_neg q, if_pos (Nat.zero_le _)]
          · by_cases e : N = 5
            · rw [e]
              simp (disch := first | assumption | omega) only [Mo_parts_29, lit_0, lit_1, lit_2, lit_3, lit_4, lit_5, lit_6, lit_7, lit_8, lit_9, lit_10, lit_11, lit_12, lit_16, lit_17, lit_20, lit_31, lit_32, lit_40, lit_47, lit_48, lit_49, lit_57, lit_58, lit_60, lit_64, lit_68, lit_80, lit_97, lit_99, lit_100, lit_101, lit_104, lit_108, lit_109, lit_115, lit_117, lit_121, lit_127, lit_128, lit_140, lit_1000, lit_1000000, lit_1048576, bI_ret, bV_ret, bL_ret, bH_t, cond_true, z_0, z_1, retZ_tf, z_tf0, z_tf1, Decidable.not_not, Classical.not_not, nI_add, nI_clamp, n_le, n_lt, n_eq, nI_or, nI_and, z_sdf, of_nI, Nat.le_refl, if_true]
            · have q := hyes' (by omega)
              simp (disch := first | assumption | omega) only [Mo_parts_29, lit_0, lit_1, lit_2, lit_3, lit_4, lit_5, lit_6, lit_7, lit_8, lit_9, lit_10, lit_11, lit_12, lit_16, lit_17, lit_20, lit_31, lit_32, lit_40, lit_47, lit_48, lit_49, lit_57, lit_58, lit_60, lit_64, lit_68, lit_80, lit_97, lit_99, lit_100, lit_101, lit_104, lit_108, lit_109, lit_115, lit_117, lit_121, lit_127, lit_128, lit_140, lit_1000, lit_1000000, lit_1048576, bI_ret, bV_ret, bL_ret, bH_t, cond_true, z_0, z_1, retZ_tf, z_tf0, z_tf1, Decidable.not_not, Classical.not_not, nI_add, nI_clamp, n_le, n_lt, n_eq, nI_or, nI_and, z_sdf, of_nI, m_has, z_bit, m_soonOf w m ha hb hab (pow5 (show N < 5 by omega)) hr2]
              rw [if_neg (by omega), if_neg (fun z => z q.1), if_neg e]
              unfold soonV
              rw [if_neg q.2, if_pos rfl]
      · refine fin_q I (h1 := h) (h2 := h) (x := -nI 1) ?_ (frS_rf h) ?_ (frS_rf h)
        · simp (disch := first | assumption | omega) only [F_Bp_parts, lit_0, lit_1, lit_2, lit_3, lit_4, lit_5, lit_6, lit_7, lit_8, lit_9, lit_10, lit_11, lit_12, lit_16, lit_17, lit_20, lit_31, lit_32, lit_40, lit_47, lit_48, lit_49, lit_57, lit_58, lit_60, lit_64, lit_68, lit_80, lit_97, lit_99, lit_100, lit_101, lit_104, lit_108, lit_109, lit_115, lit_117, lit_121, lit_127, lit_128, lit_140, lit_1000, lit_1000000, lit_1048576, bI_ret, bV_ret, bL_ret, bH_t, cond_true, z_0, z_1, retZ_tf, z_tf0, z_tf1, Decidable.not_not, Classical.not_not, nI_add, nI_clamp, n_le, n_lt, n_eq, nI_or, nI_and, z_sdf, of_nI, ite_not, m_i3, m_i99, m_i7, m_i1, m_i20, m_i2, m_i8, m_i15, m_i60, c_noPair w r, c_noTongues, c_noHour, if_pos hx, if_pos hT, if_neg ht]
        · simp (disch := first | assumption | omega) only [F_Mo_parts, lit_0, lit_1, lit_2, lit_3, lit_4, lit_5, lit_6, lit_7, lit_8, lit_9, lit_10, lit_11, lit_12, lit_16, lit_17, lit_20, lit_31, lit_32, lit_40, lit_47, lit_48, lit_49, lit_57, lit_58, lit_60, lit_64, lit_68, lit_80, lit_97, lit_99, lit_100, lit_101, lit_104, lit_108, lit_109, lit_115, lit_117, lit_121, lit_127, lit_128, lit_140, lit_1000, lit_1000000, lit_1048576, bI_ret, bV_ret, bL_ret, bH_t, cond_true, z_0, z_1, retZ_tf, z_tf0, z_tf1, Decidable.not_not, Classical.not_not, nI_add, nI_clamp, n_le, n_lt, n_eq, nI_or, nI_and, z_sdf, of_nI, ite_not, m_i3, m_i99, m_i7, m_i1, m_i20, m_i2, m_i8, m_i15, m_i60, m_isAsk w m, if_pos (And.intro hx hT), if_neg ht]
    · have hno : ¬ ((inR x (v 0 0) ∧ inR y (v 0 0) ∧ x ≠ y) ∧ inV T 1 32) := fun z => hT z.2
      refine fin_q I (h1 := h) (h2 := h) (x := -nI 1) ?_ (frS_rf h) ?_ (frS_rf h)
      · simp (disch := first | assumption | omega) only [F_Bp_parts, lit_0, lit_1, lit_2, lit_3, lit_4, lit_5, lit_6, lit_7, lit_8, lit_9, lit_10, lit_11, lit_12, lit_16, lit_17, lit_20, lit_31, lit_32, lit_40, lit_47, lit_48, lit_49, lit_57, lit_58, lit_60, lit_64, lit_68, lit_80, lit_97, lit_99, lit_100, lit_101, lit_104, lit_108, lit_109, lit_115, lit_117, lit_121, lit_127, lit_128, lit_140, lit_1000, lit_1000000, lit_1048576, bI_ret, bV_ret, bL_ret, bH_t, cond_true, z_0, z_1, retZ_tf, z_tf0, z_tf1, Decidable.not_not, Classical.not_not, nI_add, nI_clamp, n_le, n_lt, n_eq, nI_or, nI_and, z_sdf, of_nI, ite_not, m_i3, m_i99, m_i7, m_i1, m_i20, m_i2, m_i8, m_i15, m_i60, c_noPair w r, c_noTongues, if_pos hx, if_neg hT]
      · simp (disch := first | assumption | omega) only [F_Mo_parts, lit_0, lit_1, lit_2, lit_3, lit_4, lit_5, lit_6, lit_7, lit_8, lit_9, lit_10, lit_11, lit_12, lit_16, lit_17, lit_20, lit_31, lit_32, lit_40, lit_47, lit_48, lit_49, lit_57, lit_58, lit_60, lit_64, lit_68, lit_80, lit_97, lit_99, lit_100, lit_101, lit_104, lit_108, lit_109, lit_115, lit_117, lit_121, lit_127, lit_128, lit_140, lit_1000, lit_1000000, lit_1048576, bI_ret, bV_ret, bL_ret, bH_t, cond_true, z_0, z_1, retZ_tf, z_tf0, z_tf1, Decidable.not_not, Classical.not_not, nI_add, nI_clamp, n_le, n_lt, n_eq, nI_or, nI_and, z_sdf, of_nI, ite_not, m_i3, m_i99, m_i7, m_i1, m_i20, m_i2, m_i8, m_i15, m_i60, m_isAsk w m, if_neg hno]
  · have hno : ¬ ((inR x (v 0 0) ∧ inR y (v 0 0) ∧ x ≠ y) ∧ inV T 1 32) := fun z => hx z.1
    refine fin_q I (h1 := h) (h2 := h) (x := -nI 1) ?_ (frS_rf h) ?_ (frS_rf h)
    · simp (disch := first | assumption | omega) only [F_Bp_parts, lit_0, lit_1, lit_2, lit_3, lit_4, lit_5, lit_6, lit_7, lit_8, lit_9, lit_10, lit_11, lit_12, lit_16, lit_17, lit_20, lit_31, lit_32, lit_40, lit_47, lit_48, lit_49, lit_57, lit_58, lit_60, lit_64, lit_68, lit_80, lit_97, lit_99, lit_100, lit_101, lit_104, lit_108, lit_109, lit_115, lit_117, lit_121, lit_127, lit_128, lit_140, lit_1000, lit_1000000, lit_1048576, bI_ret, bV_ret, bL_ret, bH_t, cond_true, z_0, z_1, retZ_tf, z_tf0, z_tf1, Decidable.not_not, Classical.not_not, nI_add, nI_clamp, n_le, n_lt, n_eq, nI_or, nI_and, z_sdf, of_nI, ite_not, m_i3, m_i99, m_i7, m_i1, m_i20, m_i2, m_i8, m_i15, m_i60, c_noPair w r, if_neg hx]
    · simp (disch := first | assumption | omega) only [F_Mo_parts, lit_0, lit_1, lit_2, lit_3, lit_4, lit_5, lit_6, lit_7, lit_8, lit_9, lit_10, lit_11, lit_12, lit_16, lit_17, lit_20, lit_31, lit_32, lit_40, lit_47, lit_48, lit_49, lit_57, lit_58, lit_60, lit_64, lit_68, lit_80, lit_97, lit_99, lit_100, lit_101, lit_104, lit_108, lit_109, lit_115, lit_117, lit_121, lit_127, lit_128, lit_140, lit_1000, lit_1000000, lit_1048576, bI_ret, bV_ret, bL_ret, bH_t, cond_true, z_0, z_1, retZ_tf, z_tf0, z_tf1, Decidable.not_not, Classical.not_not, nI_add, nI_clamp, n_le, n_lt, n_eq, nI_or, nI_and, z_sdf, of_nI, ite_not, m_i3, m_i99, m_i7, m_i1, m_i20, m_i2, m_i8, m_i15, m_i60, m_isAsk w m, if_neg hno]
/-! best -/
/-- the best lesson so far, the first t tongues of person x counted -/
def bsI (v : LV) (x : Nat) (o : Option (Nat × Nat)) : Nat → Option (Nat × Nat)
  | 0 => o
  | t + 1 => if (v 2 x).testBit t = true then bsI v x o t else ost (bsI v x o t) (10 * x + t) (cutP (learns v x t))
def bsO (v : LV) : Nat → Option (Nat × Nat)
  | 0 => none
  | x + 1 => bsI v x (bsO v x) 5
theorem allP_42 {v : LV} (w : WF v) : allP v ≤ 42 := by
  have hn := w.1
  have h1 : ∀ i, i < v 0 0 → cnt (v 0 0) (comB v i) ≤ v 0 0 - 1 := fun i hi => by
    have := cnt_strict (n := v 0 0) (P := comB v i) (Q := fun _ => true) (fun _ _ _ => rfl) hi (com_self i) rfl
    have h2 := cnt_le (v 0 0) (fun _ => true)
    omega
  have h2 := sumN_le h1
  unfold allP
  have h3 : v 0 0 * (v 0 0 - 1) ≤ 7 * 6 := Nat.mul_le_mul hn (by omega)
  omega
theorem cutL_42 {v : LV} (w : WF v) {x t : Nat} (hx : x < v 0 0) (ht : t < 5) : cutP (learns v x t) ≤ 42 := Nat.le_trans cutP_le (allP_42 (wf_vs2 w (learns_lt w hx ht)))
theorem bsI_B {v : LV} (w : WF v) {x : Nat} (hx : x < v 0 0) {o : Option (Nat × Nat)} (h : oB o) : ∀ t, t ≤ 5 → oB (bsI v x o t)
  | 0, _ => h
  | t + 1, q => by
    have hn := w.1
    unfold bsI
    split
    · exact bsI_B w hx h t (by omega)
    · have := cutL_42 w hx (show t < 5 by omega)
      exact ost_B (bsI_B w hx h t (by omega)) (by omega) (by omega)
theorem bsO_B {v : LV} (w : WF v) : ∀ x, x ≤ v 0 0 → oB (bsO v x)
  | 0, _ => fun p hp => by cases hp
  | x + 1, q => bsI_B w (by omega) (bsO_B w x (by omega)) 5 (Nat.le_refl _)
theorem c_bestLoop {v : LV} {h : Hp} (w : WF v) (r : CLd 3 v h) : ∃ g, frC h g ∧ F_Bp_best h = (if oI (bsO v (v 0 0)) = -nI 9 then retI (oI (bsO v (v 0 0))) g else retI (oI (bsO v (v 0 0))) (hs g 0 11 (oL 49 (bsO v (v 0 0))))) := by
  have hn := w.1
  unfold F_Bp_best
  simp (disch := first | assumption | omega) only [lit_0, lit_1, lit_2, lit_3, lit_4, lit_5, lit_6, lit_7, lit_8, lit_9, lit_10, lit_11, lit_12, lit_16, lit_17, lit_20, lit_31, lit_32, lit_40, lit_47, lit_48, lit_49, lit_57, lit_58, lit_60, lit_64, lit_68, lit_80, lit_97, lit_99, lit_100, lit_101, lit_104, lit_108, lit_109, lit_115, lit_117, lit_121, lit_127, lit_128, lit_140, lit_1000, lit_1000000, lit_1048576, bI_ret, bV_ret, bL_ret, bH_t, cond_true, z_0, z_1, retZ_tf, z_tf0, z_tf1, Decidable.not_not, Classical.not_not, nI_add, nI_clamp, n_le, n_lt, n_eq, nI_or, nI_and, z_sdf, of_nI]
  refine Exists.elim (loop_all (K := Unit) (b := fun _ => Bp_best_8) (N := v 0 0) (n := FU) (s0 := (-nI 9, nI 49, nI 0, h)) (fun i s => ∃ g, s = (oI (bsO v i), oL 49 (bsO v i), nI i, g) ∧ frC h g) ⟨_, rfl, frC_rf h⟩ (by show _ < 4096; omega) ?_) ?_
  · rintro i s hi ⟨g, rfl, p1⟩
    have hB0 := bsO_B w i (by omega)
    obtain ⟨g2, q2, q3⟩ : ∃ g2, frC h g2 ∧ ∀ κ, loopC (Bp_best_22 κ) FU (oI (bsO v i), oL 49 (bsO v i), nI i, nI 0, g) = κ (oI (bsO v (i + 1)), oL 49 (bsO v (i + 1)), nI (i + 1), g2) := by
      refine Exists.elim (loop_all (K := (Int32 × Int32 × Int32 × Hp) → Res Hp) (b := fun κ => Bp_best_22 κ) (N := 5) (n := FU) (s0 := (oI (bsO v i), oL 49 (bsO v i), nI i, nI 0, g)) (fun j s => ∃ g2, s = (oI (bsI v i (bsO v i) j), oL 49 (bsI v i (bsO v i) j), nI i, nI j, g2) ∧ frC h g2) ⟨g, rfl, p1⟩ (by show _ < 4096; omega) ?_) ?_
      · rintro j s hj ⟨g2, rfl, a2⟩
        have rg := CLd_C w r a2
        have hB := bsI_B w hi hB0 j (by omega)
        have hw1 := wf_w w hi
        obtain ⟨g3, k1, k2⟩ := c_cutIf w rg hi hj
        have hc := cutL_42 w hi hj
        have e1 : bsI v i (bsO v i) (j + 1) = if (v 2 i).testBit j = true then bsI v i (bsO v i) j else ost (bsI v i (bsO v i) j) (10 * i + j) (cutP (learns v i j)) := rfl
        by_cases c : (v 2 i).testBit j = true
        · refine ⟨(oI (bsI v i (bsO v i) (j + 1)), oL 49 (bsI v i (bsO v i) (j + 1)), nI i, nI (j + 1), g2), ⟨g2, rfl, a2⟩, fun k κ => ?_⟩
          have e2 : bsI v i (bsO v i) (j + 1) = bsI v i (bsO v i) j := e1.trans (if_pos c)
          rw [e2]
          simp (disch := first | assumption | omega) only [Bp_best_22, oA_18, oA_65, oA_66, oA_67, oA_69, oA_4, oA_5, lit_0, lit_1, lit_2, lit_3, lit_4, lit_5, lit_6, lit_7, lit_8, lit_9, lit_10, lit_11, lit_12, lit_16, lit_17, lit_20, lit_31, lit_32, lit_40, lit_47, lit_48, lit_49, lit_57, lit_58, lit_60, lit_64, lit_68, lit_80, lit_97, lit_99, lit_100, lit_101, lit_104, lit_108, lit_109, lit_115, lit_117, lit_121, lit_127, lit_128, lit_140, lit_1000, lit_1000000, lit_1048576, bI_ret, bV_ret, bL_ret, bH_t, cond_true, z_0, z_1, retZ_tf, z_tf0, z_tf1, Decidable.not_not, Classical.not_not, nI_add, nI_clamp, n_le, n_lt, n_eq, nI_or, nI_and, z_sdf, of_nI, L3_w rg, c_has]
          rw [if_neg (by omega), if_neg (fun z => z c), if_pos (Int32.le_refl _)]
        · refine ⟨(oI (bsI v i (bsO v i) (j + 1)), oL 49 (bsI v i (bsO v i) (j + 1)), nI i, nI (j + 1), g3), ⟨g3, rfl, frC_tr a2 k2⟩, fun k κ => ?_⟩
          have e2 : bsI v i (bsO v i) (j + 1) = ost (bsI v i (bsO v i) j) (10 * i + j) (cutP (learns v i j)) := e1.trans (if_neg c)
          rw [e2]
          simp (disch := first | assumption | omega) only [Bp_best_22, oA_18, oA_65, oA_66, oA_67, oA_69, oA_4, oA_5, lit_0, lit_1, lit_2, lit_3, lit_4, lit_5, lit_6, lit_7, lit_8, lit_9, lit_10, lit_11, lit_12, lit_16, lit_17, lit_20, lit_31, lit_32, lit_40, lit_47, lit_48, lit_49, lit_57, lit_58, lit_60, lit_64, lit_68, lit_80, lit_97, lit_99, lit_100, lit_101, lit_104, lit_108, lit_109, lit_115, lit_117, lit_121, lit_127, lit_128, lit_140, lit_1000, lit_1000000, lit_1048576, bI_ret, bV_ret, bL_ret, bH_t, cond_true, z_0, z_1, retZ_tf, z_tf0, z_tf1, Decidable.not_not, Classical.not_not, nI_add, nI_clamp, n_le, n_lt, n_eq, nI_or, nI_and, z_sdf, of_nI, nI_mul, L3_w rg, c_has, k1]
          rw [if_neg (by omega), if_pos c]
          exact ost_if (K := fun p l => κ (p, l, nI i, nI (j + 1), g3)) hB (by omega) (by decide)
      · rintro s ⟨⟨g2, rfl, a2⟩, q⟩
        refine ⟨g2, a2, fun κ => q κ _ fun κ2 => ?_⟩
        simp (disch := first | assumption | omega) only [Bp_best_22, lit_0, lit_1, lit_2, lit_3, lit_4, lit_5, lit_6, lit_7, lit_8, lit_9, lit_10, lit_11, lit_12, lit_16, lit_17, lit_20, lit_31, lit_32, lit_40, lit_47, lit_48, lit_49, lit_57, lit_58, lit_60, lit_64, lit_68, lit_80, lit_97, lit_99, lit_100, lit_101, lit_104, lit_108, lit_109, lit_115, lit_117, lit_121, lit_127, lit_128, lit_140, lit_1000, lit_1000000, lit_1048576, bI_ret, bV_ret, bL_ret, bH_t, cond_true, z_0, z_1, retZ_tf, z_tf0, z_tf1, Decidable.not_not, Classical.not_not, nI_add, nI_clamp, n_le, n_lt, n_eq, nI_or, nI_and, z_sdf, of_nI, Nat.le_refl, if_true]
        rfl
    have rg := CLd_C w r p1
    refine ⟨(oI (bsO v (i + 1)), oL 49 (bsO v (i + 1)), nI (i + 1), g2), ⟨g2, rfl, q2⟩, fun k κ => ?_⟩
    simp (disch := first | assumption | omega) only [Bp_best_8, lit_0, lit_1, lit_2, lit_3, lit_4, lit_5, lit_6, lit_7, lit_8, lit_9, lit_10, lit_11, lit_12, lit_16, lit_17, lit_20, lit_31, lit_32, lit_40, lit_47, lit_48, lit_49, lit_57, lit_58, lit_60, lit_64, lit_68, lit_80, lit_97, lit_99, lit_100, lit_101, lit_104, lit_108, lit_109, lit_115, lit_117, lit_121, lit_127, lit_128, lit_140, lit_1000, lit_1000000, lit_1048576, bI_ret, bV_ret, bL_ret, bH_t, cond_true, z_0, z_1, retZ_tf, z_tf0, z_tf1, Decidable.not_not, Classical.not_not, nI_add, nI_clamp, n_le, n_lt, n_eq, nI_or, nI_and, z_sdf, of_nI, L_n rg, q3]
    rw [if_neg (by omega)]
  · rintro s ⟨⟨g, rfl, p1⟩, q⟩
    have rg := CLd_C w r p1
    refine ⟨g, p1, q () _ fun κ => ?_⟩
    simp (disch := first | assumption | omega) only [Bp_best_8, lit_0, lit_1, lit_2, lit_3, lit_4, lit_5, lit_6, lit_7, lit_8, lit_9, lit_10, lit_11, lit_12, lit_16, lit_17, lit_20, lit_31, lit_32, lit_40, lit_47, lit_48, lit_49, lit_57, lit_58, lit_60, lit_64, lit_68, lit_80, lit_97, lit_99, lit_100, lit_101, lit_104, lit_108, lit_109, lit_115, lit_117, lit_121, lit_127, lit_128, lit_140, lit_1000, lit_1000000, lit_1048576, bI_ret, bV_ret, bL_ret, bH_t, cond_true, z_0, z_1, retZ_tf, z_tf0, z_tf1, Decidable.not_not, Classical.not_not, nI_add, nI_clamp, n_le, n_lt, n_eq, nI_or, nI_and, z_sdf, of_nI, L_n rg, Nat.le_refl, if_true]
theorem m_bestLoop {v : LV} {h : Hp} (w : WF v) (r : MLd v h) : ∃ g, frS h g ∧ F_Mo_best h = (if oI (bsO v (v 0 0)) = -nI 9 then retI (-nI 9) g else retI (oI (bsO v (v 0 0))) (hs g 178 2 (oL 1048576 (bsO v (v 0 0))))) := by
  have hn := w.1
  unfold F_Mo_best
  simp (disch := first | assumption | omega) only [lit_0, lit_1, lit_2, lit_3, lit_4, lit_5, lit_6, lit_7, lit_8, lit_9, lit_10, lit_11, lit_12, lit_16, lit_17, lit_20, lit_31, lit_32, lit_40, lit_47, lit_48, lit_49, lit_57, lit_58, lit_60, lit_64, lit_68, lit_80, lit_97, lit_99, lit_100, lit_101, lit_104, lit_108, lit_109, lit_115, lit_117, lit_121, lit_127, lit_128, lit_140, lit_1000, lit_1000000, lit_1048576, bI_ret, bV_ret, bL_ret, bH_t, cond_true, z_0, z_1, retZ_tf, z_tf0, z_tf1, Decidable.not_not, Classical.not_not, nI_add, nI_clamp, n_le, n_lt, n_eq, nI_or, nI_and, z_sdf, of_nI]
  refine Exists.elim (loop_all (K := Unit) (b := fun _ => Mo_best_8) (N := v 0 0) (n := FU) (s0 := (-nI 9, nI 1048576, nI 0, h)) (fun i s => ∃ g, s = (oI (bsO v i), oL 1048576 (bsO v i), nI i, g) ∧ frS h g) ⟨_, rfl, frS_rf h⟩ (by show _ < 4096; omega) ?_) ?_
  · rintro i s hi ⟨g, rfl, p1⟩
    have hB0 := bsO_B w i (by omega)
    obtain ⟨g2, q2, q3⟩ : ∃ g2, frS h g2 ∧ ∀ κ, loopC (Mo_best_19 κ) FU (oI (bsO v i), oL 1048576 (bsO v i), nI i, nI 0, g) = κ (oI (bsO v (i + 1)), oL 1048576 (bsO v (i + 1)), nI (i + 1), g2) := by
      refine Exists.elim (loop_all (K := (Int32 × Int32 × Int32 × Hp) → Res Hp) (b := fun κ => Mo_best_19 κ) (N := 5) (n := FU) (s0 := (oI (bsO v i), oL 1048576 (bsO v i), nI i, nI 0, g)) (fun j s => ∃ g2, s = (oI (bsI v i (bsO v i) j), oL 1048576 (bsI v i (bsO v i) j), nI i, nI j, g2) ∧ frS h g2) ⟨g, rfl, p1⟩ (by show _ < 4096; omega) ?_) ?_
      · rintro j s hj ⟨g2, rfl, a2⟩
        have rg := MLd_S r a2
        have hB := bsI_B w hi hB0 j (by omega)
        have hw1 := wf_w w hi
        obtain ⟨g3, k1, k2⟩ := m_cutIf w rg hi hj
        have hc := cutL_42 w hi hj
        have e1 : bsI v i (bsO v i) (j + 1) = if (v 2 i).testBit j = true then bsI v i (bsO v i) j else ost (bsI v i (bsO v i) j) (10 * i + j) (cutP (learns v i j)) := rfl
        by_cases c : (v 2 i).testBit j = true
        · refine ⟨(oI (bsI v i (bsO v i) (j + 1)), oL 1048576 (bsI v i (bsO v i) (j + 1)), nI i, nI (j + 1), g2), ⟨g2, rfl, a2⟩, fun k κ => ?_⟩
          have e2 : bsI v i (bsO v i) (j + 1) = bsI v i (bsO v i) j := e1.trans (if_pos c)
          rw [e2]
          simp (disch := first | assumption | omega) only [Mo_best_19, oA_185, oA_186, oA_187, oA_188, oA_180, oA_183, oA_179, lit_0, lit_1, lit_2, lit_3, lit_4, lit_5, lit_6, lit_7, lit_8, lit_9, lit_10, lit_11, lit_12, lit_16, lit_17, lit_20, lit_31, lit_32, lit_40, lit_47, lit_48, lit_49, lit_57, lit_58, lit_60, lit_64, lit_68, lit_80, lit_97, lit_99, lit_100, lit_101, lit_104, lit_108, lit_109, lit_115, lit_117, lit_121, lit_127, lit_128, lit_140, lit_1000, lit_1000000, lit_1048576, bI_ret, bV_ret, bL_ret, bH_t, cond_true, z_0, z_1, retZ_tf, z_tf0, z_tf1, Decidable.not_not, Classical.not_not, nI_add, nI_clamp, n_le, n_lt, n_eq, nI_or, nI_and, z_sdf, of_nI, M_w rg, m_has]
          rw [if_neg (by omega), if_neg (fun z => z c)]
        · refine ⟨(oI (bsI v i (bsO v i) (j + 1)), oL 1048576 (bsI v i (bsO v i) (j + 1)), nI i, nI (j + 1), g3), ⟨g3, rfl, frS_tr a2 k2⟩, fun k κ => ?_⟩
          have e2 : bsI v i (bsO v i) (j + 1) = ost (bsI v i (bsO v i) j) (10 * i + j) (cutP (learns v i j)) := e1.trans (if_neg c)
          rw [e2]
          simp (disch := first | assumption | omega) only [Mo_best_19, oA_185, oA_186, oA_187, oA_188, oA_180, oA_183, oA_179, lit_0, lit_1, lit_2, lit_3, lit_4, lit_5, lit_6, lit_7, lit_8, lit_9, lit_10, lit_11, lit_12, lit_16, lit_17, lit_20, lit_31, lit_32, lit_40, lit_47, lit_48, lit_49, lit_57, lit_58, lit_60, lit_64, lit_68, lit_80, lit_97, lit_99, lit_100, lit_101, lit_104, lit_108, lit_109, lit_115, lit_117, lit_121, lit_127, lit_128, lit_140, lit_1000, lit_1000000, lit_1048576, bI_ret, bV_ret, bL_ret, bH_t, cond_true, z_0, z_1, retZ_tf, z_tf0, z_tf1, Decidable.not_not, Classical.not_not, nI_add, nI_clamp, n_le, n_lt, n_eq, nI_or, nI_and, z_sdf, of_nI, nI_mul, M_w rg, m_has, k1]
          rw [if_neg (by omega), if_pos c, ← ost_if (K := fun p l => κ (p, l, nI i, nI (j + 1), g3)) (d := 1048576) hB (by omega) (by decide)]
          by_cases q3 : oL 1048576 (bsI v i (bsO v i) j) ≤ nI (cutP (learns v i j))
          · simp only [if_pos q3]
          · simp only [if_neg q3]
      · rintro s ⟨⟨g2, rfl, a2⟩, q⟩
        refine ⟨g2, a2, fun κ => q κ _ fun κ2 => ?_⟩
        simp (disch := first | assumption | omega) only [Mo_best_19, lit_0, lit_1, lit_2, lit_3, lit_4, lit_5, lit_6, lit_7, lit_8, lit_9, lit_10, lit_11, lit_12, lit_16, lit_17, lit_20, lit_31, lit_32, lit_40, lit_47, lit_48, lit_49, lit_57, lit_58, lit_60, lit_64, lit_68, lit_80, lit_97, lit_99, lit_100, lit_101, lit_104, lit_108, lit_109, lit_115, lit_117, lit_121, lit_127, lit_128, lit_140, lit_1000, lit_1000000, lit_1048576, bI_ret, bV_ret, bL_ret, bH_t, cond_true, z_0, z_1, retZ_tf, z_tf0, z_tf1, Decidable.not_not, Classical.not_not, nI_add, nI_clamp, n_le, n_lt, n_eq, nI_or, nI_and, z_sdf, of_nI, Nat.le_refl, if_true]
        rfl
    have rg := MLd_S r p1
    refine ⟨(oI (bsO v (i + 1)), oL 1048576 (bsO v (i + 1)), nI (i + 1), g2), ⟨g2, rfl, q2⟩, fun k κ => ?_⟩
    simp (disch := first | assumption | omega) only [Mo_best_8, lit_0, lit_1, lit_2, lit_3, lit_4, lit_5, lit_6, lit_7, lit_8, lit_9, lit_10, lit_11, lit_12, lit_16, lit_17, lit_20, lit_31, lit_32, lit_40, lit_47, lit_48, lit_49, lit_57, lit_58, lit_60, lit_64, lit_68, lit_80, lit_97, lit_99, lit_100, lit_101, lit_104, lit_108, lit_109, lit_115, lit_117, lit_121, lit_127, lit_128, lit_140, lit_1000, lit_1000000, lit_1048576, bI_ret, bV_ret, bL_ret, bH_t, cond_true, z_0, z_1, retZ_tf, z_tf0, z_tf1, Decidable.not_not, Classical.not_not, nI_add, nI_clamp, n_le, n_lt, n_eq, nI_or, nI_and, z_sdf, of_nI, M_n rg, q3]
    rw [if_neg (by omega)]
  · rintro s ⟨⟨g, rfl, p1⟩, q⟩
    have rg := MLd_S r p1
    refine ⟨g, p1, q () _ fun κ => ?_⟩
    simp (disch := first | assumption | omega) only [Mo_best_8, F_Mo_ask, lit_0, lit_1, lit_2, lit_3, lit_4, lit_5, lit_6, lit_7, lit_8, lit_9, lit_10, lit_11, lit_12, lit_16, lit_17, lit_20, lit_31, lit_32, lit_40, lit_47, lit_48, lit_49, lit_57, lit_58, lit_60, lit_64, lit_68, lit_80, lit_97, lit_99, lit_100, lit_101, lit_104, lit_108, lit_109, lit_115, lit_117, lit_121, lit_127, lit_128, lit_140, lit_1000, lit_1000000, lit_1048576, bI_ret, bV_ret, bL_ret, bH_t, cond_true, z_0, z_1, retZ_tf, z_tf0, z_tf1, Decidable.not_not, Classical.not_not, nI_add, nI_clamp, n_le, n_lt, n_eq, nI_or, nI_and, z_sdf, of_nI, M_n rg, Nat.le_refl, if_true]
theorem g_best {h : Hp} (I : Inv h) : Ok F_Bp_best F_Mo_best h := by
  obtain ⟨-, -, v, w, r, m, -⟩ := id I
  have hn := w.1
  have hB := bsO_B w (v 0 0) (Nat.le_refl _)
  obtain ⟨g1, c1, c2⟩ := c_bestLoop w r
  cases hO : bsO v (v 0 0) with
  | none =>
    obtain ⟨g2, d1, d2⟩ := m_bestLoop w (MLd_S m (frS_C c1))
    rw [hO] at c2 d2
    exact fin_q I (h1 := g1) (h2 := g2) (x := -nI 9) c2 (frS_C c1) d2 d1
  | some p =>
    have hp := hB p hO
    have m1 : MLd v (hs g1 0 11 (nI p.2)) := MLd_0 (MLd_S m (frS_C c1))
    obtain ⟨g2, d1, d2⟩ := m_bestLoop w m1
    rw [hO] at c2 d2
    have e9 : (nI p.1 = -nI 9) = False := nI_eq9 (by omega)
    refine fin_t I (h1 := g1) (h2 := g2) (x := nI p.1) (a := nI p.2) ?_ (frS_C c1) ?_ d1
    · refine c2.trans ?_
      simp only [oI, oL, e9, if_false]
    · refine d2.trans ?_
      simp only [oI, oL, e9, if_false]
