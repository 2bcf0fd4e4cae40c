/-! LETTERS on both sides -/
def nr (v : LV) (k x : Nat) : Bool := metH v (v 7 0 % 8) (hol v k) x && !anyB (v 11 k) (fun j => v (20 + k) j == x)
def tkB (v : LV) (k x : Nat) : Bool := nr v k x && (x == v 9 k || mayB v x (v 10 k) && (v 1 x != 4 || v 11 k == 1))
def sat (v : LV) (k : Nat) : Bool := thr v k || (v 11 k != 1 && cam v k == v 7 0)
def tkr (v : LV) (k : Nat) : Nat := if sat v k = true then 0 else ms (v 0 0) (tkB v k)
section TK
variable {o : Nat} {v : LV} {h : Hp}
theorem nr_tb {k x : Nat} (hx : x < 7) : (sdf (ms 7 (metH v (v 7 0 % 8) (hol v k))) (orb (v 11 k) (v (20 + k)))).testBit x = nr v k x := by
  rw [sdf_tb, ms_tb, orb_tb, decide_eq_true hx, Bool.true_and]
  rfl
theorem c_takesBetween (hL : isL o) (w : WF v) (r : CLd o v h) {q k x : Nat} (E : LEe q v k h) (hx : x < v 0 0) : F_La_takesBetween o (nI x) q h = retI (tf ((mayB v x (v 10 k) && (v 1 x != 4 || v 11 k == 1)) = true)) h := by
  have hn := w.1
  have h6 := wf_k w hx
  have h2 := c_isWithSender E
  obtain ⟨hE, e, l1, l7, t7, i5, hj⟩ := E
  unfold F_La_takesBetween
  simp (disch := first | assumption | omega) only [la_O, la_f0, la_f1, la_f2, la_f3, la_f4, la_f5, la_f6, la_f7, la_f8, la_f9, la_f10, la_f11, la_r0, la_r1, la_r2, la_r3, la_r4, la_r5, la_r6, la_r7, la_a1, la_a2, la_a3, la_a4, la_a5, la_a6, la_a15, la_a16, la_m, la_am, le_r, le_O, le_r0, le_r1, le_a1, le_a2, le_f0, le_f1, le_f2, le_f3, le_f4, lit_0, lit_1, lit_2, lit_3, lit_4, lit_5, lit_6, lit_7, lit_8, lit_9, lit_10, lit_11, lit_12, lit_16, lit_17, lit_20, lit_31, lit_32, lit_40, lit_47, lit_48, lit_49, lit_57, lit_58, lit_60, lit_64, lit_68, lit_80, lit_97, lit_99, lit_100, lit_101, lit_104, lit_108, lit_109, lit_115, lit_117, lit_121, lit_127, lit_128, lit_140, lit_1000, lit_1000000, lit_1048576, bI_ret, bV_ret, bL_ret, bH_t, cond_true, z_0, z_1, retZ_tf, z_tf0, z_tf1, Decidable.not_not, Classical.not_not, nI_add, nI_clamp, n_le, n_lt, n_eq, nI_or, nI_and, z_sdf, of_nI, E_in e, c_carries hL w r hx i5, L_k r, h2]
  by_cases c : mayB v x (v 10 k) = true
  · by_cases d : v 1 x = 4
    · by_cases b : v 11 k = 1
      · rw [if_neg (fun z => z c), if_pos d, if_neg (fun z => z b), tf_t (by simp [c, d, b])]; rfl
      · rw [if_neg (fun z => z c), if_pos d, if_pos b, tf_f (by simp [c, d, b])]; rfl
    · rw [if_neg (fun z => z c), if_neg d, tf_t (by simp [c, d])]; rfl
  · rw [if_pos c, tf_f (by simp [c])]; rfl
theorem c_takers (hL : isL o) (w : WF v) (r : CLd o v h) {q k : Nat} (E : LEe q v k h) (hk : k < v 8 0) : F_La_takers o q h = retI (nI (tkr v k)) h := by
  have hn := w.1
  have hh := wf_h w
  have h7 := hol_lt E
  have hm : v 7 0 % 8 < 8 := Nat.mod_lt _ (by decide)
  have ho : hol v k < v 0 0 := wf_th w hk (by have := wf_l1 w hk; omega)
  have hto := wf_to w hk
  have hs := sdf_lt (b := orb (v 11 k) (v (20 + k))) (ms_lt 7 (metH v (v 7 0 % 8) (hol v k)))
  unfold F_La_takers tkr sat
  simp (disch := first | assumption | omega) only [la_O, la_f0, la_f1, la_f2, la_f3, la_f4, la_f5, la_f6, la_f7, la_f8, la_f9, la_f10, la_f11, la_r0, la_r1, la_r2, la_r3, la_r4, la_r5, la_r6, la_r7, la_a1, la_a2, la_a3, la_a4, la_a5, la_a6, la_a15, la_a16, la_m, la_am, le_r, lit_0, lit_1, lit_2, lit_3, lit_4, lit_5, lit_6, lit_7, lit_8, lit_9, lit_10, lit_11, lit_12, lit_16, lit_17, lit_20, lit_31, lit_32, lit_40, lit_47, lit_48, lit_49, lit_57, lit_58, lit_60, lit_64, lit_68, lit_80, lit_97, lit_99, lit_100, lit_101, lit_104, lit_108, lit_109, lit_115, lit_117, lit_121, lit_127, lit_128, lit_140, lit_1000, lit_1000000, lit_1048576, bI_ret, bV_ret, bL_ret, bH_t, cond_true, z_0, z_1, retZ_tf, z_tf0, z_tf1, Decidable.not_not, Classical.not_not, nI_add, nI_clamp, n_le, n_lt, n_eq, nI_or, nI_and, z_sdf, of_nI, le_O E.1, c_isThere E, c_wasGivenIn E, c_holder E, c_seen E, L_h r, L_mH r, z_rem]
  by_cases c : thr v k = true
  · simp only [c, not_true, if_false, Bool.true_or, if_true]
  · by_cases d : v 11 k ≠ 1 ∧ cam v k = v 7 0
    · rw [if_pos c, if_neg (fun z => z d), if_pos (by simp [d.1, d.2])]
    · rw [if_pos c, if_pos d, if_neg (by simp only [Bool.not_eq_true] at c; simp only [c, Bool.false_or, Bool.and_eq_true, bne_iff_ne, beq_iff_eq]; exact d)]
      refine loop_for (N := v 0 0) (fun i => (o, q, nI (sdf (ms 7 (metH v (v 7 0 % 8) (hol v k))) (orb (v 11 k) (v (20 + k)))), nI (ms i (tkB v k)), nI i, h)) rfl (by show _ < 4096; omega) (fun i κ hi => ?_) (fun κ => ?_)
      · have e1 := nr_tb (v := v) (k := k) (x := i) (by omega)
        simp (disch := first | assumption | omega) only [La_takers_50, la_O, la_f0, la_f1, la_f2, la_f3, la_f4, la_f5, la_f6, la_f7, la_f8, la_f9, la_f10, la_f11, la_r0, la_r1, la_r2, la_r3, la_r4, la_r5, la_r6, la_r7, la_a1, la_a2, la_a3, la_a4, la_a5, la_a6, la_a15, la_a16, la_m, la_am, le_r, lit_0, lit_1, lit_2, lit_3, lit_4, lit_5, lit_6, lit_7, lit_8, lit_9, lit_10, lit_11, lit_12, lit_16, lit_17, lit_20, lit_31, lit_32, lit_40, lit_47, lit_48, lit_49, lit_57, lit_58, lit_60, lit_64, lit_68, lit_80, lit_97, lit_99, lit_100, lit_101, lit_104, lit_108, lit_109, lit_115, lit_117, lit_121, lit_127, lit_128, lit_140, lit_1000, lit_1000000, lit_1048576, bI_ret, bV_ret, bL_ret, bH_t, cond_true, z_0, z_1, retZ_tf, z_tf0, z_tf1, Decidable.not_not, Classical.not_not, nI_add, nI_clamp, n_le, n_lt, n_eq, nI_or, nI_and, z_sdf, of_nI, L_n r, c_has, le_f3 E.1, E_to E.2.1, c_bit, c_takesBetween hL w r E hi, e1, ms_s i]
        rw [if_neg (by omega)]
        unfold tkB
        by_cases q1 : nr v k i = true
        · by_cases q2 : i = v 9 k
          · have q3 : (i == v 9 k) = true := beq_iff_eq.mpr q2
            simp only [q1, q3, if_pos q2, not_true, if_false, if_true, Bool.true_and, Bool.true_or]
          · have q3 : (i == v 9 k) = false := beq_eq_false_iff_ne.mpr q2
            by_cases q4 : (mayB v i (v 10 k) && (v 1 i != 4 || v 11 k == 1)) = true
            · simp only [q1, q3, if_neg q2, q4, not_true, if_false, if_true, Bool.true_and, Bool.false_or]
            · simp only [q1, q3, if_neg q2, q4, not_true, not_false_iff, if_false, if_true, Bool.true_and, Bool.false_or, Bool.false_eq_true]
        · simp only [q1, not_false_iff, if_true, Bool.false_and, Bool.false_eq_true, if_false]
      · simp (disch := first | assumption | omega) only [La_takers_50, la_O, la_f0, la_f1, la_f2, la_f3, la_f4, la_f5, la_f6, la_f7, la_f8, la_f9, la_f10, la_f11, la_r0, la_r1, la_r2, la_r3, la_r4, la_r5, la_r6, la_r7, la_a1, la_a2, la_a3, la_a4, la_a5, la_a6, la_a15, la_a16, la_m, la_am, le_r, lit_0, lit_1, lit_2, lit_3, lit_4, lit_5, lit_6, lit_7, lit_8, lit_9, lit_10, lit_11, lit_12, lit_16, lit_17, lit_20, lit_31, lit_32, lit_40, lit_47, lit_48, lit_49, lit_57, lit_58, lit_60, lit_64, lit_68, lit_80, lit_97, lit_99, lit_100, lit_101, lit_104, lit_108, lit_109, lit_115, lit_117, lit_121, lit_127, lit_128, lit_140, lit_1000, lit_1000000, lit_1048576, bI_ret, bV_ret, bL_ret, bH_t, cond_true, z_0, z_1, retZ_tf, z_tf0, z_tf1, Decidable.not_not, Classical.not_not, nI_add, nI_clamp, n_le, n_lt, n_eq, nI_or, nI_and, z_sdf, of_nI, L_n r, Nat.le_refl, if_true]
theorem snd_iff (w : WF v) {k : Nat} (hk : k < v 8 0) : hol v k = v (20 + k) 0 ↔ v 11 k = 1 := by
  have h1 := wf_l1 w hk
  unfold hol
  constructor
  · intro e
    by_cases c : v 11 k = 1
    · exact c
    · exact absurd e.symm (wf_ne w hk (show 0 < v 11 k - 1 by omega) (by omega))
  · intro e
    rw [e]
theorem m_givLoop (w : WF v) (r : MLd v h) {k : Nat} (hk : k < v 8 0) : loopC Mo_givable_71 FU (nI k, nI (hol v k), nI 0, nI (sdf (ms 7 (metH v (v 7 0 % 8) (hol v k))) (orb (v 11 k) (v (20 + k)))), nI 0, h) = retI (nI (ms (v 0 0) (tkB v k))) h := by
  have hn := w.1
  have ho := hol_n w hk
  have hto := wf_to w hk
  have hi2 := wf_i2 w hk
  have hl1 := wf_l1 w hk
  have ht0 := wf_th w hk (j := 0) (by omega)
  have hth := m_th w r hk (j := 0) (by omega)
  have hs := sdf_lt (b := orb (v 11 k) (v (20 + k))) (ms_lt 7 (metH v (v 7 0 % 8) (hol v k)))
  refine loop_for (N := v 0 0) (fun i => (nI k, nI (hol v k), nI (ms i (tkB v k)), nI (sdf (ms 7 (metH v (v 7 0 % 8) (hol v k))) (orb (v 11 k) (v (20 + k)))), nI i, h)) rfl (by show _ < 4096; omega) (fun i κ hi => ?_) (fun κ => ?_)
  · have e1 := nr_tb (v := v) (k := k) (x := i) (by omega)
    have e2 := snd_iff w hk
    simp (disch := first | assumption | omega) only [Mo_givable_71, lit_0, lit_1, lit_2, lit_3, lit_4, lit_5, lit_6, lit_7, lit_8, lit_9, lit_10, lit_11, lit_12, lit_16, lit_17, lit_20, lit_31, lit_32, lit_40, lit_47, lit_48, lit_49, lit_57, lit_58, lit_60, lit_64, lit_68, lit_80, lit_97, lit_99, lit_100, lit_101, lit_104, lit_108, lit_109, lit_115, lit_117, lit_121, lit_127, lit_128, lit_140, lit_1000, lit_1000000, lit_1048576, bI_ret, bV_ret, bL_ret, bH_t, cond_true, z_0, z_1, retZ_tf, z_tf0, z_tf1, Decidable.not_not, Classical.not_not, nI_add, nI_clamp, n_le, n_lt, n_eq, nI_or, nI_and, z_sdf, of_nI, M_n r, m_to w r hk, m_has, m_tin w r hk, m_mayCarry w r hi hi2, hth, m_takes w r hi, z_bit, e1, e2, or_0, ms_s i]
    rw [if_neg (by omega)]
    unfold tkB
    by_cases q1 : nr v k i = true
    · by_cases q2 : i = v 9 k
      · have q3 : (i == v 9 k) = true := beq_iff_eq.mpr q2
        simp only [q1, q3, if_pos q2, not_true, if_false, if_true, Bool.true_and, Bool.true_or]
      · have q3 : (i == v 9 k) = false := beq_eq_false_iff_ne.mpr q2
        by_cases q4 : mayB v i (v 10 k) = true
        · by_cases q5 : v 1 i ≠ 4 ∨ v 11 k = 1
          · have q6 : (v 1 i != 4 || v 11 k == 1) = true := by simpa [bne_iff_ne] using q5
            simp only [q1, q3, if_neg q2, q4, q5, q6, not_true, if_false, if_true, Bool.true_and, Bool.false_or]
          · have q6 : (v 1 i != 4 || v 11 k == 1) = false := by
              cases z : (v 1 i != 4 || v 11 k == 1) with
              | false => rfl
              | true => exact absurd (by simpa [bne_iff_ne] using z) q5
            simp only [q1, q3, if_neg q2, q4, q5, q6, not_true, not_false_iff, if_false, if_true, Bool.true_and, Bool.false_or, Bool.false_eq_true]
        · simp only [q1, q3, if_neg q2, q4, not_true, not_false_iff, if_false, if_true, Bool.true_and, Bool.false_or, Bool.false_eq_true, Bool.false_and]
    · by_cases q2 : i = v 9 k
      · simp only [q1, if_pos q2, not_false_iff, if_true, Bool.false_and, Bool.false_eq_true, if_false]
      · simp only [q1, if_neg q2, not_false_iff, if_true, Bool.false_and, Bool.false_eq_true, if_false, ite_self]
  · simp (disch := first | assumption | omega) only [Mo_givable_71, lit_0, lit_1, lit_2, lit_3, lit_4, lit_5, lit_6, lit_7, lit_8, lit_9, lit_10, lit_11, lit_12, lit_16, lit_17, lit_20, lit_31, lit_32, lit_40, lit_47, lit_48, lit_49, lit_57, lit_58, lit_60, lit_64, lit_68, lit_80, lit_97, lit_99, lit_100, lit_101, lit_104, lit_108, lit_109, lit_115, lit_117, lit_121, lit_127, lit_128, lit_140, lit_1000, lit_1000000, lit_1048576, bI_ret, bV_ret, bL_ret, bH_t, cond_true, z_0, z_1, retZ_tf, z_tf0, z_tf1, Decidable.not_not, Classical.not_not, nI_add, nI_clamp, n_le, n_lt, n_eq, nI_or, nI_and, z_sdf, of_nI, M_n r, Nat.le_refl, if_true]
theorem m_givable (w : WF v) (r : MLd v h) {k : Nat} (hk : k < v 8 0) : F_Mo_givable (nI k) h = retI (nI (tkr v k)) h := by
  have hn := w.1
  have hh := wf_h w
  have hl := wf_l w
  have ho := hol_n w hk
  have hl1 := wf_l1 w hk
  have hl7 := wf_l7 w hk
  have hca := wf_ca w hk (j := v 11 k - 1) (by omega)
  have hcam : F_Mo_letterOf (nI k) (nI (10 + v 11 k - 1)) h = retI (nI (cam v k)) h := by
    rw [show 10 + v 11 k - 1 = 10 + (v 11 k - 1) by omega, m_ca w r hk (by omega)]
    rfl
  have hc9 : cam v k ≤ 99 := hca
  unfold F_Mo_givable tkr sat
  simp (disch := first | assumption | omega) only [lit_0, lit_1, lit_2, lit_3, lit_4, lit_5, lit_6, lit_7, lit_8, lit_9, lit_10, lit_11, lit_12, lit_16, lit_17, lit_20, lit_31, lit_32, lit_40, lit_47, lit_48, lit_49, lit_57, lit_58, lit_60, lit_64, lit_68, lit_80, lit_97, lit_99, lit_100, lit_101, lit_104, lit_108, lit_109, lit_115, lit_117, lit_121, lit_127, lit_128, lit_140, lit_1000, lit_1000000, lit_1048576, bI_ret, bV_ret, bL_ret, bH_t, cond_true, z_0, z_1, retZ_tf, z_tf0, z_tf1, Decidable.not_not, Classical.not_not, nI_add, nI_clamp, n_le, n_lt, n_eq, nI_or, nI_and, z_sdf, of_nI, m_len w r hk, m_isThere w r hk, m_holderOf w r hk, M_h r, m_metBy w r ho, m_hadBy w r hk, nI_sb, hcam]
  have hL := m_givLoop w r hk
  by_cases c : thr v k = true
  · simp only [c, not_true, if_false, Bool.true_or, if_true]
  · rw [if_pos c]
    have c1 : thr v k = false := by simpa using c
    by_cases d : v 11 k = 1
    · rw [if_pos (by omega), if_neg (by simp [c1, d])]
      exact hL
    · rw [if_neg (by omega)]
      by_cases d2 : cam v k = v 7 0
      · rw [if_pos d2, if_pos (by simp [d, d2])]
      · rw [if_neg d2, if_neg (by simp [c1, d2])]
        exact hL
theorem m_handOf2 (w : WF v) (r : MLd v h) {x wh : Nat} (hx : x < v 0 0) (hw : wh < 4) (c : Nat) (hc : c < 100) (h2 : wh ≤ 2 ∨ c = 0) : loopC Mo_handOf_64 FU (nI x, nI wh, nI c, nI 0, h) = retI (nI (if wh = 0 then v 1 x else if wh = 1 then v 2 x else if wh = 2 then c else cnt (v 8 0) (fun k => hol v k == x && !thr v k))) h := by
  have hn := w.1
  have hl := wf_l w
  by_cases c3 : wh = 3
  · have c0 : c = 0 := by omega
    subst c0
    subst c3
    refine loop_for (N := v 8 0) (fun i => (nI x, nI 3, nI (cnt i (fun k => hol v k == x && !thr v k)), nI i, h)) rfl (by show _ < 4096; omega) (fun i κ hi => ?_) (fun κ => ?_)
    · have h7 := hol_n w hi
      simp (disch := first | assumption | omega) only [Mo_handOf_64, lit_0, lit_1, lit_2, lit_3, lit_4, lit_5, lit_6, lit_7, lit_8, lit_9, lit_10, lit_11, lit_12, lit_16, lit_17, lit_20, lit_31, lit_32, lit_40, lit_47, lit_48, lit_49, lit_57, lit_58, lit_60, lit_64, lit_68, lit_80, lit_97, lit_99, lit_100, lit_101, lit_104, lit_108, lit_109, lit_115, lit_117, lit_121, lit_127, lit_128, lit_140, lit_1000, lit_1000000, lit_1048576, bI_ret, bV_ret, bL_ret, bH_t, cond_true, z_0, z_1, retZ_tf, z_tf0, z_tf1, Decidable.not_not, Classical.not_not, nI_add, nI_clamp, n_le, n_lt, n_eq, nI_or, nI_and, z_sdf, of_nI, M_l r, m_holderOf w r hi, m_isThere w r hi, cnt_s]
      rw [if_neg (by omega), if_pos trivial]
      by_cases q1 : hol v i = x
      · by_cases q2 : thr v i = true
        · simp only [q1, q2, if_true, not_true, if_false, beq_self_eq_true, Bool.not_true, Bool.and_false, Bool.false_eq_true, Nat.add_zero]
        · simp only [q1, q2, if_true, if_false, not_false_iff, beq_self_eq_true, Bool.not_false, Bool.and_true, Bool.false_eq_true]
      · simp only [q1, if_false, beq_eq_false_iff_ne.mpr q1, Bool.false_and, Bool.false_eq_true, Nat.add_zero]
    · simp (disch := first | assumption | omega) only [Mo_handOf_64, lit_0, lit_1, lit_2, lit_3, lit_4, lit_5, lit_6, lit_7, lit_8, lit_9, lit_10, lit_11, lit_12, lit_16, lit_17, lit_20, lit_31, lit_32, lit_40, lit_47, lit_48, lit_49, lit_57, lit_58, lit_60, lit_64, lit_68, lit_80, lit_97, lit_99, lit_100, lit_101, lit_104, lit_108, lit_109, lit_115, lit_117, lit_121, lit_127, lit_128, lit_140, lit_1000, lit_1000000, lit_1048576, bI_ret, bV_ret, bL_ret, bH_t, cond_true, z_0, z_1, retZ_tf, z_tf0, z_tf1, Decidable.not_not, Classical.not_not, nI_add, nI_clamp, n_le, n_lt, n_eq, nI_or, nI_and, z_sdf, of_nI, M_l r, Nat.le_refl, if_true]
      rfl
  · refine loop_for (N := 0) (fun i => (nI x, nI wh, nI c, nI 0, h)) rfl (by show _ < 4096; omega) (fun i κ hi => absurd hi (Nat.not_lt_zero i)) (fun κ => ?_)
    simp (disch := first | assumption | omega) only [Mo_handOf_64, oA_185, oA_186, oA_187, oA_188, oA_180, oA_183, oA_179, lit_0, lit_1, lit_2, lit_3, lit_4, lit_5, lit_6, lit_7, lit_8, lit_9, lit_10, lit_11, lit_12, lit_16, lit_17, lit_20, lit_31, lit_32, lit_40, lit_47, lit_48, lit_49, lit_57, lit_58, lit_60, lit_64, lit_68, lit_80, lit_97, lit_99, lit_100, lit_101, lit_104, lit_108, lit_109, lit_115, lit_117, lit_121, lit_127, lit_128, lit_140, lit_1000, lit_1000000, lit_1048576, bI_ret, bV_ret, bL_ret, bH_t, cond_true, z_0, z_1, retZ_tf, z_tf0, z_tf1, Decidable.not_not, Classical.not_not, nI_add, nI_clamp, n_le, n_lt, n_eq, nI_or, nI_and, z_sdf, of_nI, M_l r, M_k r, M_w r]
    (repeat' split) <;> first | rfl | (exfalso; omega)
theorem m_handOf (w : WF v) (r : MLd v h) {x wh : Nat} (hx : x < v 0 0) (hw : wh < 4) : F_Mo_handOf (nI x) (nI wh) h = retI (nI (fct v x wh)) h := by
  have hn := w.1
  have hm := wf_m w
  unfold F_Mo_handOf
  by_cases c2 : wh = 2
  · subst c2
    refine loop_for (N := v 3 0) (fun i => (nI x, nI 2, nI (cnt i (fun k => v 4 k == x || v 5 k == x)), nI i, h)) rfl (by show _ < 4096; omega) (fun i κ hi => ?_) (fun κ => ?_)
    · have ha := wf_a w hi
      have hb := wf_b w hi
      simp (disch := first | assumption | omega) only [Mo_handOf_5, oA_185, oA_186, oA_187, oA_188, oA_180, oA_183, oA_179, lit_0, lit_1, lit_2, lit_3, lit_4, lit_5, lit_6, lit_7, lit_8, lit_9, lit_10, lit_11, lit_12, lit_16, lit_17, lit_20, lit_31, lit_32, lit_40, lit_47, lit_48, lit_49, lit_57, lit_58, lit_60, lit_64, lit_68, lit_80, lit_97, lit_99, lit_100, lit_101, lit_104, lit_108, lit_109, lit_115, lit_117, lit_121, lit_127, lit_128, lit_140, lit_1000, lit_1000000, lit_1048576, bI_ret, bV_ret, bL_ret, bH_t, cond_true, z_0, z_1, retZ_tf, z_tf0, z_tf1, Decidable.not_not, Classical.not_not, nI_add, nI_clamp, n_le, n_lt, n_eq, nI_or, nI_and, z_sdf, of_nI, M_m r, nI_mul, M_a r, M_b r, cnt_s]
      rw [if_neg (by omega), if_pos trivial]
      by_cases q1 : v 4 i = x
      · simp only [q1, if_true, beq_self_eq_true, Bool.true_or]
      · by_cases q2 : v 5 i = x
        · simp only [q1, q2, if_true, if_false, beq_self_eq_true, Bool.or_true]
        · simp only [q1, q2, if_false, beq_eq_false_iff_ne.mpr q1, beq_eq_false_iff_ne.mpr q2, Bool.or_false, Bool.false_eq_true, Nat.add_zero]
    · have hc := cnt_le (v 3 0) (fun k => v 4 k == x || v 5 k == x)
      simp (disch := first | assumption | omega) only [Mo_handOf_5, lit_0, lit_1, lit_2, lit_3, lit_4, lit_5, lit_6, lit_7, lit_8, lit_9, lit_10, lit_11, lit_12, lit_16, lit_17, lit_20, lit_31, lit_32, lit_40, lit_47, lit_48, lit_49, lit_57, lit_58, lit_60, lit_64, lit_68, lit_80, lit_97, lit_99, lit_100, lit_101, lit_104, lit_108, lit_109, lit_115, lit_117, lit_121, lit_127, lit_128, lit_140, lit_1000, lit_1000000, lit_1048576, bI_ret, bV_ret, bL_ret, bH_t, cond_true, z_0, z_1, retZ_tf, z_tf0, z_tf1, Decidable.not_not, Classical.not_not, nI_add, nI_clamp, n_le, n_lt, n_eq, nI_or, nI_and, z_sdf, of_nI, M_m r, Nat.le_refl, if_true, m_handOf2 w r hx hw (cnt (v 3 0) (fun k => v 4 k == x || v 5 k == x)) (by omega) (Or.inl (by decide))]
      rfl
  · refine loop_for (N := 0) (fun i => (nI x, nI wh, nI 0, nI 0, h)) rfl (by show _ < 4096; omega) (fun i κ hi => absurd hi (Nat.not_lt_zero i)) (fun κ => ?_)
    simp (disch := first | assumption | omega) only [Mo_handOf_5, lit_0, lit_1, lit_2, lit_3, lit_4, lit_5, lit_6, lit_7, lit_8, lit_9, lit_10, lit_11, lit_12, lit_16, lit_17, lit_20, lit_31, lit_32, lit_40, lit_47, lit_48, lit_49, lit_57, lit_58, lit_60, lit_64, lit_68, lit_80, lit_97, lit_99, lit_100, lit_101, lit_104, lit_108, lit_109, lit_115, lit_117, lit_121, lit_127, lit_128, lit_140, lit_1000, lit_1000000, lit_1048576, bI_ret, bV_ret, bL_ret, bH_t, cond_true, z_0, z_1, retZ_tf, z_tf0, z_tf1, Decidable.not_not, Classical.not_not, nI_add, nI_clamp, n_le, n_lt, n_eq, nI_or, nI_and, z_sdf, of_nI, M_m r, if_neg c2, ite_self, m_handOf2 w r hx hw 0 (by omega) (Or.inr rfl)]
    match wh, hw, c2 with
    | 0, _, _ => rfl
    | 1, _, _ => rfl
    | 2, _, c2 => exact absurd rfl c2
    | 3, _, _ => rfl
theorem cnt_gon (w : WF v) {k : Nat} (hk : k < v 8 0) (x : Nat) : cnt (v 11 k - 2) (fun j => v (20 + k) (1 + j) == x) = if gon v k x = true then 1 else 0 := by
  have H : ∀ m, m ≤ v 11 k - 2 → cnt m (fun j => v (20 + k) (1 + j) == x) = if anyB m (fun j => v (20 + k) (1 + j) == x) = true then 1 else 0 := by
    intro m
    induction m with
    | zero => intro _; rfl
    | succ m ih =>
      intro hm
      rw [cnt_s, anyB_s, ih (by omega)]
      by_cases q : v (20 + k) (1 + m) = x
      · have q2 : anyB m (fun j => v (20 + k) (1 + j) == x) = false := anyB_false fun j hj => by
          rw [beq_eq_false_iff_ne, ← q]
          exact wf_ne w hk (by omega) (by omega)
        simp [q, q2]
      · simp [q]
  exact H _ (Nat.le_refl _)
theorem m_givenOn (w : WF v) (r : MLd v h) {x : Nat} (hx : x < v 0 0) : F_Mo_givenOn (nI x) h = retI (nI (cnt (v 8 0) (fun k => gon v k x))) h := by
  have hn := w.1
  have hl := wf_l w
  unfold F_Mo_givenOn
  refine loop_for (N := v 8 0) (fun i => (nI x, nI (cnt i (fun k => gon v k x)), nI i, h)) rfl (by show _ < 4096; omega) (fun i κ hi => ?_) (fun κ => ?_)
  · have h7 := wf_l7 w hi
    have hc := cnt_le i (fun k => gon v k x)
    have H : loopC (Mo_givenOn_15 κ) FU (nI x, nI (cnt i (fun k => gon v k x)), nI i, nI 1, h) = κ (nI x, nI (cnt i (fun k => gon v k x) + cnt (v 11 i - 2) (fun j => v (20 + i) (1 + j) == x)), nI (i + 1), h) := by
      refine loop_for (N := v 11 i - 2) (fun j => (nI x, nI (cnt i (fun k => gon v k x) + cnt j (fun j => v (20 + i) (1 + j) == x)), nI i, nI (1 + j), h)) rfl (by show _ < 4096; omega) (fun j κ2 hj => ?_) (fun κ2 => ?_)
      · have ht := wf_th w hi (j := 1 + j) (by omega)
        have h1 := wf_l1 w hi
        simp (disch := first | assumption | omega) only [Mo_givenOn_15, lit_0, lit_1, lit_2, lit_3, lit_4, lit_5, lit_6, lit_7, lit_8, lit_9, lit_10, lit_11, lit_12, lit_16, lit_17, lit_20, lit_31, lit_32, lit_40, lit_47, lit_48, lit_49, lit_57, lit_58, lit_60, lit_64, lit_68, lit_80, lit_97, lit_99, lit_100, lit_101, lit_104, lit_108, lit_109, lit_115, lit_117, lit_121, lit_127, lit_128, lit_140, lit_1000, lit_1000000, lit_1048576, bI_ret, bV_ret, bL_ret, bH_t, cond_true, z_0, z_1, retZ_tf, z_tf0, z_tf1, Decidable.not_not, Classical.not_not, nI_add, nI_clamp, n_le, n_lt, n_eq, nI_or, nI_and, z_sdf, of_nI, m_len w r hi, m_th w r hi, nI_sb, cnt_s]
        rw [if_neg (by omega), Nat.add_assoc 1 j 1]
        by_cases q : v (20 + i) (1 + j) = x
        · simp only [q, if_true, beq_self_eq_true, Nat.add_assoc]
        · simp only [q, if_false, beq_eq_false_iff_ne.mpr q, Bool.false_eq_true, Nat.add_zero]
      · have h1 := wf_l1 w hi
        simp (disch := first | assumption | omega) only [Mo_givenOn_15, lit_0, lit_1, lit_2, lit_3, lit_4, lit_5, lit_6, lit_7, lit_8, lit_9, lit_10, lit_11, lit_12, lit_16, lit_17, lit_20, lit_31, lit_32, lit_40, lit_47, lit_48, lit_49, lit_57, lit_58, lit_60, lit_64, lit_68, lit_80, lit_97, lit_99, lit_100, lit_101, lit_104, lit_108, lit_109, lit_115, lit_117, lit_121, lit_127, lit_128, lit_140, lit_1000, lit_1000000, lit_1048576, bI_ret, bV_ret, bL_ret, bH_t, cond_true, z_0, z_1, retZ_tf, z_tf0, z_tf1, Decidable.not_not, Classical.not_not, nI_add, nI_clamp, n_le, n_lt, n_eq, nI_or, nI_and, z_sdf, of_nI, m_len w r hi, nI_sb]
        rw [if_pos (by omega)]
    simp (disch := first | assumption | omega) only [Mo_givenOn_4, lit_0, lit_1, lit_2, lit_3, lit_4, lit_5, lit_6, lit_7, lit_8, lit_9, lit_10, lit_11, lit_12, lit_16, lit_17, lit_20, lit_31, lit_32, lit_40, lit_47, lit_48, lit_49, lit_57, lit_58, lit_60, lit_64, lit_68, lit_80, lit_97, lit_99, lit_100, lit_101, lit_104, lit_108, lit_109, lit_115, lit_117, lit_121, lit_127, lit_128, lit_140, lit_1000, lit_1000000, lit_1048576, bI_ret, bV_ret, bL_ret, bH_t, cond_true, z_0, z_1, retZ_tf, z_tf0, z_tf1, Decidable.not_not, Classical.not_not, nI_add, nI_clamp, n_le, n_lt, n_eq, nI_or, nI_and, z_sdf, of_nI, M_l r, cnt_s]
    rw [if_neg (by omega), H, cnt_gon w hi]
    by_cases q : gon v i x = true
    · simp only [q, if_true]
    · simp only [q, if_false, Bool.false_eq_true, Nat.add_zero]
  · simp (disch := first | assumption | omega) only [Mo_givenOn_4, lit_0, lit_1, lit_2, lit_3, lit_4, lit_5, lit_6, lit_7, lit_8, lit_9, lit_10, lit_11, lit_12, lit_16, lit_17, lit_20, lit_31, lit_32, lit_40, lit_47, lit_48, lit_49, lit_57, lit_58, lit_60, lit_64, lit_68, lit_80, lit_97, lit_99, lit_100, lit_101, lit_104, lit_108, lit_109, lit_115, lit_117, lit_121, lit_127, lit_128, lit_140, lit_1000, lit_1000000, lit_1048576, bI_ret, bV_ret, bL_ret, bH_t, cond_true, z_0, z_1, retZ_tf, z_tf0, z_tf1, Decidable.not_not, Classical.not_not, nI_add, nI_clamp, n_le, n_lt, n_eq, nI_or, nI_and, z_sdf, of_nI, M_l r, Nat.le_refl, if_true]
end TK
