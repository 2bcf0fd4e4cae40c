/-! THE REFERENCE'S LAND: what is asked of it -/
theorem or_0 (a : Nat) : a ||| 0 = a := Nat.or_zero a
theorem add_0 (a : Nat) : a + 0 = a := rfl
section ML
variable {v : LV} {h : Hp}
theorem m_isOne (w : WF v) (r : MLd v h) (x : Int32) : F_Mo_isOne x h = retI (tf (inR x (v 0 0))) h := by
  have hn := w.1
  unfold F_Mo_isOne
  rw [M_n r]
  by_cases c : v 0 0 = 0
  · rw [c, m_in (lo := 0) (n := 0) (by decide) rfl rfl, bI_ret, propext (inV0 _ _), retZ_tf]
  · rw [lit_1, nI_sb (by omega), m_in (lo := 0) (n := v 0 0) (by omega) rfl (by rw [nI_toInt (by omega)]; omega), bI_ret, propext (inV0 _ _), retZ_tf]
theorem m_areTwo (w : WF v) (r : MLd v h) (x y : Int32) : F_Mo_areTwo x y h = retI (tf (inR x (v 0 0) ∧ inR y (v 0 0) ∧ x ≠ y)) h := by
  unfold F_Mo_areTwo
  simp only [m_isOne w r, lit_0, lit_1, lit_2, lit_3, lit_4, lit_5, lit_6, lit_7, lit_8, lit_9, lit_10, lit_11, lit_12, lit_16, lit_17, lit_20, lit_31, lit_32, lit_40, lit_47, lit_48, lit_49, lit_57, lit_58, lit_60, lit_64, lit_68, lit_80, lit_97, lit_99, lit_100, lit_101, lit_104, lit_108, lit_109, lit_115, lit_117, lit_121, lit_127, lit_128, lit_140, lit_1000, lit_1000000, lit_1048576, bI_ret, bV_ret, bL_ret, bH_t, cond_true, z_0, z_1, retZ_tf, z_tf0, z_tf1, Decidable.not_not, Classical.not_not, nI_add, nI_clamp, n_le, n_lt, n_eq, nI_or, nI_and, z_sdf, of_nI, ite_not]
  by_cases c : inR x (v 0 0)
  · by_cases d : inR y (v 0 0)
    · by_cases q : x = y
      · rw [if_pos c, if_pos d, if_pos q, tf_f (fun z => z.2.2 q)]; rfl
      · rw [if_pos c, if_pos d, if_neg q, tf_t ⟨c, d, q⟩]; rfl
    · rw [if_pos c, if_neg d, tf_f (fun z => d z.2.1)]; rfl
  · rw [if_neg c, tf_f (fun z => c z.1)]; rfl
theorem m_isAsk (w : WF v) (r : MLd v h) (x y T : Int32) : F_Mo_isAsk x y T h = retI (tf ((inR x (v 0 0) ∧ inR y (v 0 0) ∧ x ≠ y) ∧ inV T 1 32)) h := by
  unfold F_Mo_isAsk
  simp only [m_areTwo w r, m_isSet, lit_0, lit_1, lit_2, lit_3, lit_4, lit_5, lit_6, lit_7, lit_8, lit_9, lit_10, lit_11, lit_12, lit_16, lit_17, lit_20, lit_31, lit_32, lit_40, lit_47, lit_48, lit_49, lit_57, lit_58, lit_60, lit_64, lit_68, lit_80, lit_97, lit_99, lit_100, lit_101, lit_104, lit_108, lit_109, lit_115, lit_117, lit_121, lit_127, lit_128, lit_140, lit_1000, lit_1000000, lit_1048576, bI_ret, bV_ret, bL_ret, bH_t, cond_true, z_0, z_1, retZ_tf, z_tf0, z_tf1, Decidable.not_not, Classical.not_not, nI_add, nI_clamp, n_le, n_lt, n_eq, nI_or, nI_and, z_sdf, of_nI, ite_not]
  by_cases c : inR x (v 0 0) ∧ inR y (v 0 0) ∧ x ≠ y
  · by_cases d : inV T 1 32
    · rw [if_pos c, if_pos d, tf_t ⟨c, d⟩]; rfl
    · rw [if_pos c, if_neg d, tf_f (fun z => d z.2)]; rfl
  · rw [if_neg c, tf_f (fun z => c z.1)]; rfl
def isK (k o : Nat) : Bool := k == o || o == 1 && k == 4 || o == 3 && k == 5
theorem m_isA (w : WF v) (r : MLd v h) {x kd : Nat} (hx : x < v 0 0) (hk : kd < 6) : F_Mo_isA (nI x) (nI kd) h = retI (tf (isK (v 1 x) kd = true)) h := by
  have hn := w.1
  have h6 := wf_k w hx
  unfold F_Mo_isA isK
  simp (disch := first | assumption | omega) only [oA_185, oA_186, oA_187, oA_188, oA_180, oA_183, oA_179, lit_0, lit_1, lit_2, lit_3, lit_4, lit_5, lit_6, lit_7, lit_8, lit_9, lit_10, lit_11, lit_12, lit_16, lit_17, lit_20, lit_31, lit_32, lit_40, lit_47, lit_48, lit_49, lit_57, lit_58, lit_60, lit_64, lit_68, lit_80, lit_97, lit_99, lit_100, lit_101, lit_104, lit_108, lit_109, lit_115, lit_117, lit_121, lit_127, lit_128, lit_140, lit_1000, lit_1000000, lit_1048576, bI_ret, bV_ret, bL_ret, bH_t, cond_true, z_0, z_1, retZ_tf, z_tf0, z_tf1, Decidable.not_not, Classical.not_not, nI_add, nI_clamp, n_le, n_lt, n_eq, nI_or, nI_and, z_sdf, of_nI, M_k r]
  by_cases c : (v 1 x == kd || kd == 1 && v 1 x == 4 || kd == 3 && v 1 x == 5) = true
  · rw [tf_t c]
    simp only [Bool.or_eq_true, Bool.and_eq_true, beq_iff_eq] at c
    (repeat' split) <;> first | rfl | (exfalso; omega)
  · rw [tf_f c]
    simp only [Bool.or_eq_true, Bool.and_eq_true, beq_iff_eq] at c
    (repeat' split) <;> first | rfl | (exfalso; omega)
def brM (v : LV) (x : Nat) : Nat := if v 1 x = 1 ∨ v 1 x = 4 ∨ v 1 x = 5 then 0 else if v 1 x = 2 then nb (v 2 x) else v 2 x
theorem brM_lt (w : WF v) {x : Nat} (hx : x < v 0 0) : brM v x < 32 := by
  have h1 := wf_w w hx
  unfold brM
  split
  · decide
  · split
    · exact nb_lt _
    · exact h1
theorem m_barsOf (w : WF v) (r : MLd v h) {x : Nat} (hx : x < v 0 0) : F_Mo_barsOf (nI x) h = retI (nI (brM v x)) h := by
  have hn := w.1
  have h6 := wf_k w hx
  have h5 := wf_w w hx
  unfold F_Mo_barsOf brM nb
  simp (disch := first | assumption | omega) only [oA_185, oA_186, oA_187, oA_188, oA_180, oA_183, oA_179, lit_0, lit_1, lit_2, lit_3, lit_4, lit_5, lit_6, lit_7, lit_8, lit_9, lit_10, lit_11, lit_12, lit_16, lit_17, lit_20, lit_31, lit_32, lit_40, lit_47, lit_48, lit_49, lit_57, lit_58, lit_60, lit_64, lit_68, lit_80, lit_97, lit_99, lit_100, lit_101, lit_104, lit_108, lit_109, lit_115, lit_117, lit_121, lit_127, lit_128, lit_140, lit_1000, lit_1000000, lit_1048576, bI_ret, bV_ret, bL_ret, bH_t, cond_true, z_0, z_1, retZ_tf, z_tf0, z_tf1, Decidable.not_not, Classical.not_not, nI_add, nI_clamp, n_le, n_lt, n_eq, nI_or, nI_and, z_sdf, of_nI, M_k r, M_w r, m_isA w r hx, z_shl, z_shr]
  simp only [isK, Bool.or_eq_true, Bool.and_eq_true, beq_iff_eq, ite_not, true_and]
  (repeat' split) <;> first | rfl | (exfalso; omega)
theorem nb_dec : ∀ a, a < 32 → ∀ b, b < 32 → (nb a &&& b = 0 ↔ a &&& nb b = 0) := by decide +kernel
theorem m_mayCarry (w : WF v) (r : MLd v h) {x T : Nat} (hx : x < v 0 0) (hT : T < 32) : F_Mo_mayCarry (nI x) (nI T) h = retI (tf (mayB v x T = true)) h := by
  have h5 := wf_w w hx
  have h6 := brM_lt w hx
  have h7 : brM v x &&& T < 2 ^ 31 := Nat.lt_of_le_of_lt Nat.and_le_left (by omega)
  unfold F_Mo_mayCarry
  simp (disch := first | assumption | omega) only [lit_0, lit_1, lit_2, lit_3, lit_4, lit_5, lit_6, lit_7, lit_8, lit_9, lit_10, lit_11, lit_12, lit_16, lit_17, lit_20, lit_31, lit_32, lit_40, lit_47, lit_48, lit_49, lit_57, lit_58, lit_60, lit_64, lit_68, lit_80, lit_97, lit_99, lit_100, lit_101, lit_104, lit_108, lit_109, lit_115, lit_117, lit_121, lit_127, lit_128, lit_140, lit_1000, lit_1000000, lit_1048576, bI_ret, bV_ret, bL_ret, bH_t, cond_true, z_0, z_1, retZ_tf, z_tf0, z_tf1, Decidable.not_not, Classical.not_not, nI_add, nI_clamp, n_le, n_lt, n_eq, nI_or, nI_and, z_sdf, of_nI, m_barsOf w r hx]
  refine (ite_tf h).trans (congrArg (fun x => retI x h) (tf_cong ?_))
  unfold mayB brs brM
  rw [beq_iff_eq]
  have := nb_dec _ h5 _ hT
  split
  · simp
  · split
    · exact this
    · exact Iff.rfl
theorem ms_pr (P : Nat → Bool) {k : Nat} (x : Nat) (ha : v 4 k < 7) (hb : v 5 k < 7) : ms 7 (fun y => P y || pr v k x y) = (ms 7 P ||| (if v 4 k = x then 2 ^ (v 5 k) else 0)) ||| (if v 5 k = x then 2 ^ (v 4 k) else 0) := by
  apply Nat.eq_of_testBit_eq
  intro i
  have e1 : ∀ (c : Prop) [Decidable c] (a : Nat), (if c then 2 ^ a else 0).testBit i = (decide c && decide (a = i)) := fun c _ a => by
    by_cases q : c
    · rw [if_pos q, tb_pow]; simp [q]
    · rw [if_neg q]; simp [q]
  rw [Nat.testBit_or, Nat.testBit_or, ms_tb, ms_tb, e1, e1]
  unfold pr
  by_cases c : i < 7
  · rw [show decide (i < 7) = true from decide_eq_true c, Bool.true_and, Bool.true_and, Bool.or_assoc]
    congr 1
    simp only [Bool.beq_eq_decide_eq]
    rw [Bool.and_comm (decide (v 4 k = i))]
  · rw [show decide (i < 7) = false from decide_eq_false c, show decide (v 5 k = i) = false from decide_eq_false (by omega), show decide (v 4 k = i) = false from decide_eq_false (by omega)]
    simp
theorem m_metBy9 (w : WF v) (r : MLd v h) {x : Nat} (hx : x < v 0 0) : F_Mo_metBy (nI x) (-nI 9) h = retI (nI (ms 7 (met v x))) h := by
  have hn := w.1
  have hm := wf_m w
  unfold F_Mo_metBy
  refine loop_for (N := v 3 0) (fun i => (nI x, -nI 9, nI (ms 7 (fun y => anyB i (fun k => pr v k x y))), nI i, h)) rfl (by show _ < 4096; omega) (fun i κ hi => ?_) (fun κ => ?_)
  · have ha := wf_a w hi
    have hb := wf_b w hi
    have e := ms_pr (v := v) (k := i) (fun y => anyB i (fun k => pr v k x y)) x (by omega) (by omega)
    simp (disch := first | assumption | omega) only [Mo_metBy_5, oA_185, oA_186, oA_187, oA_188, oA_180, oA_183, oA_179, lit_0, lit_1, lit_2, lit_3, lit_4, lit_5, lit_6, lit_7, lit_8, lit_9, lit_10, lit_11, lit_12, lit_16, lit_17, lit_20, lit_31, lit_32, lit_40, lit_47, lit_48, lit_49, lit_57, lit_58, lit_60, lit_64, lit_68, lit_80, lit_97, lit_99, lit_100, lit_101, lit_104, lit_108, lit_109, lit_115, lit_117, lit_121, lit_127, lit_128, lit_140, lit_1000, lit_1000000, lit_1048576, bI_ret, bV_ret, bL_ret, bH_t, cond_true, z_0, z_1, retZ_tf, z_tf0, z_tf1, Decidable.not_not, Classical.not_not, nI_add, nI_clamp, n_le, n_lt, n_eq, nI_or, nI_and, z_sdf, of_nI, M_m r, nI_mul, M_a r, M_b r, z_bit, or_0, anyB_s]
    rw [if_neg (by omega), e]
    by_cases q1 : v 4 i = x <;> by_cases q2 : v 5 i = x <;> simp only [q1, q2, if_true, if_false, or_0]
  · simp (disch := first | assumption | omega) only [Mo_metBy_5, oA_185, oA_186, oA_187, oA_188, oA_180, oA_183, oA_179, lit_0, lit_1, lit_2, lit_3, lit_4, lit_5, lit_6, lit_7, lit_8, lit_9, lit_10, lit_11, lit_12, lit_16, lit_17, lit_20, lit_31, lit_32, lit_40, lit_47, lit_48, lit_49, lit_57, lit_58, lit_60, lit_64, lit_68, lit_80, lit_97, lit_99, lit_100, lit_101, lit_104, lit_108, lit_109, lit_115, lit_117, lit_121, lit_127, lit_128, lit_140, lit_1000, lit_1000000, lit_1048576, bI_ret, bV_ret, bL_ret, bH_t, cond_true, z_0, z_1, retZ_tf, z_tf0, z_tf1, Decidable.not_not, Classical.not_not, nI_add, nI_clamp, n_le, n_lt, n_eq, nI_or, nI_and, z_sdf, of_nI, M_m r, Nat.le_refl, if_true]
    rfl
theorem m_metBy (w : WF v) (r : MLd v h) {x t : Nat} (hx : x < v 0 0) (ht : t < 1000) : F_Mo_metBy (nI x) (nI t) h = retI (nI (ms 7 (metH v (t % 8) x))) h := by
  have hn := w.1
  have hm := wf_m w
  unfold F_Mo_metBy
  refine loop_for (N := v 3 0) (fun i => (nI x, nI t, nI (ms 7 (fun y => anyB i (fun k => v 6 k == t % 8 && pr v k x y))), nI i, h)) rfl (by show _ < 4096; omega) (fun i κ hi => ?_) (fun κ => ?_)
  · have ha := wf_a w hi
    have hb := wf_b w hi
    have h8 := wf_t w hi
    have ht8 : t % 8 < 8 := Nat.mod_lt _ (by decide)
    have e := ms_pr (v := v) (k := i) (fun y => anyB i (fun k => v 6 k == t % 8 && pr v k x y)) x (by omega) (by omega)
    simp (disch := first | assumption | omega) only [Mo_metBy_5, oA_185, oA_186, oA_187, oA_188, oA_180, oA_183, oA_179, lit_0, lit_1, lit_2, lit_3, lit_4, lit_5, lit_6, lit_7, lit_8, lit_9, lit_10, lit_11, lit_12, lit_16, lit_17, lit_20, lit_31, lit_32, lit_40, lit_47, lit_48, lit_49, lit_57, lit_58, lit_60, lit_64, lit_68, lit_80, lit_97, lit_99, lit_100, lit_101, lit_104, lit_108, lit_109, lit_115, lit_117, lit_121, lit_127, lit_128, lit_140, lit_1000, lit_1000000, lit_1048576, bI_ret, bV_ret, bL_ret, bH_t, cond_true, z_0, z_1, retZ_tf, z_tf0, z_tf1, Decidable.not_not, Classical.not_not, nI_add, nI_clamp, n_le, n_lt, n_eq, nI_or, nI_and, z_sdf, of_nI, M_m r, nI_mul, M_a r, M_b r, M_t r, z_bit, or_0, anyB_s, nI_eq9, if_false, z_rem]
    rw [if_neg (by omega)]
    by_cases q0 : v 6 i = t % 8
    · simp only [q0, beq_self_eq_true, Bool.true_and, if_true]
      rw [e]
      by_cases q1 : v 4 i = x <;> by_cases q2 : v 5 i = x <;> simp only [q1, q2, if_true, if_false, or_0]
    · simp only [q0, beq_eq_false_iff_ne.mpr q0, Bool.false_and, if_false, Bool.or_false]
  · simp (disch := first | assumption | omega) only [Mo_metBy_5, oA_185, oA_186, oA_187, oA_188, oA_180, oA_183, oA_179, lit_0, lit_1, lit_2, lit_3, lit_4, lit_5, lit_6, lit_7, lit_8, lit_9, lit_10, lit_11, lit_12, lit_16, lit_17, lit_20, lit_31, lit_32, lit_40, lit_47, lit_48, lit_49, lit_57, lit_58, lit_60, lit_64, lit_68, lit_80, lit_97, lit_99, lit_100, lit_101, lit_104, lit_108, lit_109, lit_115, lit_117, lit_121, lit_127, lit_128, lit_140, lit_1000, lit_1000000, lit_1048576, bI_ret, bV_ret, bL_ret, bH_t, cond_true, z_0, z_1, retZ_tf, z_tf0, z_tf1, Decidable.not_not, Classical.not_not, nI_add, nI_clamp, n_le, n_lt, n_eq, nI_or, nI_and, z_sdf, of_nI, M_m r, Nat.le_refl, if_true]
    rfl
theorem m_letterOf (w : WF v) {k i : Nat} (hk : k < v 8 0) (hi : i < 17) : F_Mo_letterOf (nI k) (nI i) h = retI (hg h 188 (17 * k + i)) h := by
  have hl := wf_l w
  unfold F_Mo_letterOf
  simp (disch := first | assumption | omega) only [oA_185, oA_186, oA_187, oA_188, oA_180, oA_183, oA_179, lit_0, lit_1, lit_2, lit_3, lit_4, lit_5, lit_6, lit_7, lit_8, lit_9, lit_10, lit_11, lit_12, lit_16, lit_17, lit_20, lit_31, lit_32, lit_40, lit_47, lit_48, lit_49, lit_57, lit_58, lit_60, lit_64, lit_68, lit_80, lit_97, lit_99, lit_100, lit_101, lit_104, lit_108, lit_109, lit_115, lit_117, lit_121, lit_127, lit_128, lit_140, lit_1000, lit_1000000, lit_1048576, bI_ret, bV_ret, bL_ret, bH_t, cond_true, z_0, z_1, retZ_tf, z_tf0, z_tf1, Decidable.not_not, Classical.not_not, nI_add, nI_clamp, n_le, n_lt, n_eq, nI_or, nI_and, z_sdf, of_nI, nI_mul]
theorem m_to (w : WF v) (r : MLd v h) {k : Nat} (hk : k < v 8 0) : F_Mo_letterOf (nI k) (nI 0) h = retI (nI (v 9 k)) h := by
  rw [m_letterOf w hk (by decide)]
  exact congrArg (fun x => retI x h) (M_to r hk)
theorem m_tin (w : WF v) (r : MLd v h) {k : Nat} (hk : k < v 8 0) : F_Mo_letterOf (nI k) (nI 1) h = retI (nI (v 10 k)) h := by
  rw [m_letterOf w hk (by decide)]
  exact congrArg (fun x => retI x h) (M_in r hk)
theorem m_len (w : WF v) (r : MLd v h) {k : Nat} (hk : k < v 8 0) : F_Mo_letterOf (nI k) (nI 2) h = retI (nI (v 11 k)) h := by
  rw [m_letterOf w hk (by decide)]
  exact congrArg (fun x => retI x h) (M_len r hk)
theorem m_th (w : WF v) (r : MLd v h) {k j : Nat} (hk : k < v 8 0) (hj : j < v 11 k) : F_Mo_letterOf (nI k) (nI (3 + j)) h = retI (nI (v (20 + k) j)) h := by
  have h7 := wf_l7 w hk
  rw [m_letterOf w hk (by omega), ← Nat.add_assoc]
  exact congrArg (fun x => retI x h) (M_th r hk hj)
theorem m_ca (w : WF v) (r : MLd v h) {k j : Nat} (hk : k < v 8 0) (hj : j < v 11 k) : F_Mo_letterOf (nI k) (nI (10 + j)) h = retI (nI (v (30 + k) j)) h := by
  have h7 := wf_l7 w hk
  rw [m_letterOf w hk (by omega), ← Nat.add_assoc]
  exact congrArg (fun x => retI x h) (M_ca r hk hj)
theorem m_holderOf (w : WF v) (r : MLd v h) {k : Nat} (hk : k < v 8 0) : F_Mo_holderOf (nI k) h = retI (nI (hol v k)) h := by
  have h7 := wf_l7 w hk
  have h1 := wf_l1 w hk
  unfold F_Mo_holderOf hol
  simp only [lit_0, lit_1, lit_2, lit_3, lit_4, lit_5, lit_6, lit_7, lit_8, lit_9, lit_10, lit_11, lit_12, lit_16, lit_17, lit_20, lit_31, lit_32, lit_40, lit_47, lit_48, lit_49, lit_57, lit_58, lit_60, lit_64, lit_68, lit_80, lit_97, lit_99, lit_100, lit_101, lit_104, lit_108, lit_109, lit_115, lit_117, lit_121, lit_127, lit_128, lit_140, lit_1000, lit_1000000, lit_1048576, m_len w r hk, bI_ret, nI_add]
  rw [nI_sb (by omega), show 3 + v 11 k - 1 = 3 + (v 11 k - 1) by omega, m_th w r hk (by omega), bI_ret]
theorem hol_n (w : WF v) {k : Nat} (hk : k < v 8 0) : hol v k < v 0 0 := wf_th w hk (by have := wf_l1 w hk; omega)
theorem m_isThere (w : WF v) (r : MLd v h) {k : Nat} (hk : k < v 8 0) : F_Mo_isThere (nI k) h = retI (tf (thr v k = true)) h := by
  have hn := w.1
  have h1 := hol_n w hk
  have h2 := wf_to w hk
  unfold F_Mo_isThere thr
  simp (disch := first | assumption | omega) only [lit_0, lit_1, lit_2, lit_3, lit_4, lit_5, lit_6, lit_7, lit_8, lit_9, lit_10, lit_11, lit_12, lit_16, lit_17, lit_20, lit_31, lit_32, lit_40, lit_47, lit_48, lit_49, lit_57, lit_58, lit_60, lit_64, lit_68, lit_80, lit_97, lit_99, lit_100, lit_101, lit_104, lit_108, lit_109, lit_115, lit_117, lit_121, lit_127, lit_128, lit_140, lit_1000, lit_1000000, lit_1048576, bI_ret, bV_ret, bL_ret, bH_t, cond_true, z_0, z_1, retZ_tf, z_tf0, z_tf1, Decidable.not_not, Classical.not_not, nI_add, nI_clamp, n_le, n_lt, n_eq, nI_or, nI_and, z_sdf, of_nI, m_holderOf w r hk, m_to w r hk, beq_iff_eq]
  exact ite_tf h
theorem m_takes (w : WF v) (r : MLd v h) {x a b : Nat} (hx : x < v 0 0) (ha : a < 7) (hb : b < 7) : F_Mo_takes (nI x) (nI a) (nI b) h = retI (tf (v 1 x ≠ 4 ∨ a = b)) h := by
  have hn := w.1
  have h6 := wf_k w hx
  unfold F_Mo_takes
  simp (disch := first | assumption | omega) only [oA_185, oA_186, oA_187, oA_188, oA_180, oA_183, oA_179, lit_0, lit_1, lit_2, lit_3, lit_4, lit_5, lit_6, lit_7, lit_8, lit_9, lit_10, lit_11, lit_12, lit_16, lit_17, lit_20, lit_31, lit_32, lit_40, lit_47, lit_48, lit_49, lit_57, lit_58, lit_60, lit_64, lit_68, lit_80, lit_97, lit_99, lit_100, lit_101, lit_104, lit_108, lit_109, lit_115, lit_117, lit_121, lit_127, lit_128, lit_140, lit_1000, lit_1000000, lit_1048576, bI_ret, bV_ret, bL_ret, bH_t, cond_true, z_0, z_1, retZ_tf, z_tf0, z_tf1, Decidable.not_not, Classical.not_not, nI_add, nI_clamp, n_le, n_lt, n_eq, nI_or, nI_and, z_sdf, of_nI, M_k r]
  by_cases q1 : v 1 x = 4
  · by_cases q2 : a = b
    · rw [if_pos q1, if_pos q2, tf_t (Or.inr q2)]; rfl
    · rw [if_pos q1, if_neg q2, tf_f (fun z => z.elim (fun y => y q1) q2)]; rfl
  · rw [if_neg q1, tf_t (Or.inl q1)]; rfl
theorem m_hadBy (w : WF v) (r : MLd v h) {k : Nat} (hk : k < v 8 0) : F_Mo_hadBy (nI k) h = retI (nI (orb (v 11 k) (v (20 + k)))) h := by
  have hn := w.1
  have h7 := wf_l7 w hk
  unfold F_Mo_hadBy
  refine loop_for (N := v 11 k) (fun i => (nI k, nI (orb i (v (20 + k))), nI i, h)) rfl (by show _ < 4096; omega) (fun i κ hi => ?_) (fun κ => ?_)
  · have ht := wf_th w hk hi
    simp (disch := first | assumption | omega) only [Mo_hadBy_4, lit_0, lit_1, lit_2, lit_3, lit_4, lit_5, lit_6, lit_7, lit_8, lit_9, lit_10, lit_11, lit_12, lit_16, lit_17, lit_20, lit_31, lit_32, lit_40, lit_47, lit_48, lit_49, lit_57, lit_58, lit_60, lit_64, lit_68, lit_80, lit_97, lit_99, lit_100, lit_101, lit_104, lit_108, lit_109, lit_115, lit_117, lit_121, lit_127, lit_128, lit_140, lit_1000, lit_1000000, lit_1048576, bI_ret, bV_ret, bL_ret, bH_t, cond_true, z_0, z_1, retZ_tf, z_tf0, z_tf1, Decidable.not_not, Classical.not_not, nI_add, nI_clamp, n_le, n_lt, n_eq, nI_or, nI_and, z_sdf, of_nI, m_len w r hk, m_th w r hk hi, orb_s, z_bit]
    rw [if_neg (by omega)]
  · simp (disch := first | assumption | omega) only [Mo_hadBy_4, lit_0, lit_1, lit_2, lit_3, lit_4, lit_5, lit_6, lit_7, lit_8, lit_9, lit_10, lit_11, lit_12, lit_16, lit_17, lit_20, lit_31, lit_32, lit_40, lit_47, lit_48, lit_49, lit_57, lit_58, lit_60, lit_64, lit_68, lit_80, lit_97, lit_99, lit_100, lit_101, lit_104, lit_108, lit_109, lit_115, lit_117, lit_121, lit_127, lit_128, lit_140, lit_1000, lit_1000000, lit_1048576, bI_ret, bV_ret, bL_ret, bH_t, cond_true, z_0, z_1, retZ_tf, z_tf0, z_tf1, Decidable.not_not, Classical.not_not, nI_add, nI_clamp, n_le, n_lt, n_eq, nI_or, nI_and, z_sdf, of_nI, m_len w r hk, Nat.le_refl, if_true]
theorem m_sizeOf {a : Nat} (ha : a < 1024) : F_Mo_sizeOf (nI a) h = retI (nI (pop a)) h := by
  unfold F_Mo_sizeOf
  refine loop_for (N := 10) (fun i => (nI a, nI (cnt i (fun j => a.testBit j)), nI i, h)) rfl (by show _ < 4096; omega) (fun i κ hi => ?_) (fun κ => ?_)
  · simp (disch := first | assumption | omega) only [Mo_sizeOf_4, lit_0, lit_1, lit_2, lit_3, lit_4, lit_5, lit_6, lit_7, lit_8, lit_9, lit_10, lit_11, lit_12, lit_16, lit_17, lit_20, lit_31, lit_32, lit_40, lit_47, lit_48, lit_49, lit_57, lit_58, lit_60, lit_64, lit_68, lit_80, lit_97, lit_99, lit_100, lit_101, lit_104, lit_108, lit_109, lit_115, lit_117, lit_121, lit_127, lit_128, lit_140, lit_1000, lit_1000000, lit_1048576, bI_ret, bV_ret, bL_ret, bH_t, cond_true, z_0, z_1, retZ_tf, z_tf0, z_tf1, Decidable.not_not, Classical.not_not, nI_add, nI_clamp, n_le, n_lt, n_eq, nI_or, nI_and, z_sdf, of_nI, z_shr, cnt_s]
    rw [if_neg (by omega), and1, Nat.testBit_shiftRight]
    by_cases q : a.testBit i = true
    · simp only [Nat.add_zero, q, if_true]
    · simp only [Nat.add_zero, q, if_false, Bool.false_eq_true]
  · simp (disch := first | assumption | omega) only [Mo_sizeOf_4, lit_0, lit_1, lit_2, lit_3, lit_4, lit_5, lit_6, lit_7, lit_8, lit_9, lit_10, lit_11, lit_12, lit_16, lit_17, lit_20, lit_31, lit_32, lit_40, lit_47, lit_48, lit_49, lit_57, lit_58, lit_60, lit_64, lit_68, lit_80, lit_97, lit_99, lit_100, lit_101, lit_104, lit_108, lit_109, lit_115, lit_117, lit_121, lit_127, lit_128, lit_140, lit_1000, lit_1000000, lit_1048576, bI_ret, bV_ret, bL_ret, bH_t, cond_true, z_0, z_1, retZ_tf, z_tf0, z_tf1, Decidable.not_not, Classical.not_not, nI_add, nI_clamp, n_le, n_lt, n_eq, nI_or, nI_and, z_sdf, of_nI, Nat.le_refl, if_true]
    rfl
theorem m_costOf (w : WF v) (r : MLd v h) {x T : Nat} (hx : x < v 0 0) (hT : T < 32) : F_Mo_costOf (nI x) (nI T) h = retI (nI (pop (brs v x T))) h := by
  have hn := w.1
  have h6 := wf_k w hx
  have h5 := wf_w w hx
  have h8 : ∀ a, v 2 x &&& a < 1024 := fun a => Nat.lt_of_le_of_lt Nat.and_le_left (by omega)
  unfold F_Mo_costOf brs nb
  simp (disch := first | assumption | omega) only [oA_185, oA_186, oA_187, oA_188, oA_180, oA_183, oA_179, lit_0, lit_1, lit_2, lit_3, lit_4, lit_5, lit_6, lit_7, lit_8, lit_9, lit_10, lit_11, lit_12, lit_16, lit_17, lit_20, lit_31, lit_32, lit_40, lit_47, lit_48, lit_49, lit_57, lit_58, lit_60, lit_64, lit_68, lit_80, lit_97, lit_99, lit_100, lit_101, lit_104, lit_108, lit_109, lit_115, lit_117, lit_121, lit_127, lit_128, lit_140, lit_1000, lit_1000000, lit_1048576, bI_ret, bV_ret, bL_ret, bH_t, cond_true, z_0, z_1, retZ_tf, z_tf0, z_tf1, Decidable.not_not, Classical.not_not, nI_add, nI_clamp, n_le, n_lt, n_eq, nI_or, nI_and, z_sdf, of_nI, M_k r, M_w r, m_isA w r hx, z_shl, z_shr, m_sizeOf (h8 _)]
  simp only [isK, Bool.or_eq_true, Bool.and_eq_true, beq_iff_eq, ite_not, true_and]
  (repeat' split) <;> first | rfl | (exfalso; omega)
/-- one writes to another one in the tongues T -/
def wrt (v : LV) (x y T : Nat) : Bool := sdf T (v 2 x &&& v 2 y) == 0
theorem m_writes (w : WF v) (r : MLd v h) {x y T : Nat} (hx : x < v 0 0) (hy : y < v 0 0) (hT : T < 32) : F_Mo_writes (nI x) (nI y) (nI T) h = retI (tf (wrt v x y T = true)) h := by
  have hn := w.1
  have h5 := sdf_lt (b := v 2 x &&& v 2 y) (show T < 2 ^ 5 from hT)
  unfold F_Mo_writes wrt
  simp (disch := first | assumption | omega) only [oA_185, oA_186, oA_187, oA_188, oA_180, oA_183, oA_179, lit_0, lit_1, lit_2, lit_3, lit_4, lit_5, lit_6, lit_7, lit_8, lit_9, lit_10, lit_11, lit_12, lit_16, lit_17, lit_20, lit_31, lit_32, lit_40, lit_47, lit_48, lit_49, lit_57, lit_58, lit_60, lit_64, lit_68, lit_80, lit_97, lit_99, lit_100, lit_101, lit_104, lit_108, lit_109, lit_115, lit_117, lit_121, lit_127, lit_128, lit_140, lit_1000, lit_1000000, lit_1048576, bI_ret, bV_ret, bL_ret, bH_t, cond_true, z_0, z_1, retZ_tf, z_tf0, z_tf1, Decidable.not_not, Classical.not_not, nI_add, nI_clamp, n_le, n_lt, n_eq, nI_or, nI_and, z_sdf, of_nI, M_w r, beq_iff_eq]
  exact ite_tf h
end ML
