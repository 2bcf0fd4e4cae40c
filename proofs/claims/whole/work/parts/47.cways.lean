/-! THE GIVEN ONE'S WAYS -/
theorem L3_k {v : LV} {h : Hp} (r : CLd 3 v h) {x : Nat} (hx : x < v 0 0) : hg h 4 x = nI (v 1 x) := L_k r hx
theorem L3_w {v : LV} {h : Hp} (r : CLd 3 v h) {x : Nat} (hx : x < v 0 0) : hg h 5 x = nI (v 2 x) := L_w r hx
theorem L3_mE {v : LV} {h : Hp} (r : CLd 3 v h) {x : Nat} (hx : x < 7) : hg h 18 x = nI (ms 7 (met v x)) := L_mE r hx
theorem L3_mH {v : LV} {h : Hp} (r : CLd 3 v h) {t x : Nat} (ht : t < 8) (hx : x < 7) : hg h (10 + t) x = nI (ms 7 (metH v t x)) := L_mH r ht hx
theorem oR_9 {x : Nat} (hx : x < 8) : okR 9 (nI x) = true := la_a6 isL_3 hx
theorem sR_9 {x : Nat} (hx : x < 8) : shR 9 x = 10 + x := la_m isL_3 hx
theorem oA_10 {t x : Nat} (ht : t < 8) (hx : x < 7) : okA (10 + t) 100 (nI x) = true := la_am isL_3 ht hx
theorem ms_or (n : Nat) (P Q : Nat → Bool) : ms n P ||| ms n Q = ms n (fun y => P y || Q y) := by
  apply Nat.eq_of_testBit_eq
  intro i
  rw [Nat.testBit_or, ms_tb, ms_tb, ms_tb]
  cases decide (i < n) <;> rfl
theorem or_lt {a b n : Nat} (ha : a < 2 ^ n) (hb : b < 2 ^ n) : a ||| b < 2 ^ n := Nat.or_lt_two_pow ha hb
theorem and_lt {a n : Nat} (b : Nat) (ha : a < 2 ^ n) : a &&& b < 2 ^ n := Nat.lt_of_le_of_lt Nat.and_le_left ha
/-- all whom these meet, by the pairs m -/
def orM (n : Nat) (m : Nat → Nat → Bool) (a : Nat) : Nat := ms 7 (fun y => anyB n (fun x => a.testBit x && m x y))
theorem orM_lt (n : Nat) (m : Nat → Nat → Bool) (a : Nat) : orM n m a < 2 ^ 7 := ms_lt 7 _
theorem orM_tb {n : Nat} {m : Nat → Nat → Bool} {a y : Nat} : (orM n m a).testBit y = true ↔ y < 7 ∧ ∃ x, x < n ∧ a.testBit x = true ∧ m x y = true := by
  unfold orM
  rw [ms_tb, Bool.and_eq_true, decide_eq_true_eq, anyB_iff]
  simp only [Bool.and_eq_true]
/-- those between: grown k times -/
def cl (n : Nat) (m : Nat → Nat → Bool) (S lt : Nat) : Nat → Nat
  | 0 => 0
  | k + 1 => S ||| cl n m S lt k ||| (orM n m (cl n m S lt k) &&& lt)
section CLO
variable {n : Nat} {m : Nat → Nat → Bool} {S lt : Nat}
theorem cl_lt (hS : S < 2 ^ 7) (k : Nat) : cl n m S lt k < 2 ^ 7 := by
  induction k with
  | zero => exact Nat.two_pow_pos 7
  | succ k ih => exact or_lt (or_lt hS ih) (and_lt _ (orM_lt _ _ _))
theorem cl_sub (k i : Nat) (h : (cl n m S lt k).testBit i = true) : (cl n m S lt (k + 1)).testBit i = true := by
  unfold cl
  rw [Nat.testBit_or, Nat.testBit_or, h]
  simp
theorem cl_same {k : Nat} (h : cl n m S lt (k + 1) = cl n m S lt k) (j : Nat) : cl n m S lt (k + j) = cl n m S lt k := by
  induction j with
  | zero => rfl
  | succ j ih =>
    have e : cl n m S lt (k + (j + 1)) = S ||| cl n m S lt (k + j) ||| (orM n m (cl n m S lt (k + j)) &&& lt) := rfl
    rw [e, ih]
    exact h
theorem cnt_mono {n : Nat} {P Q : Nat → Bool} (h : ∀ i, i < n → P i = true → Q i = true) : cnt n P ≤ cnt n Q := by
  induction n with
  | zero => exact Nat.le_refl _
  | succ n ih =>
    have := ih (fun i hi => h i (by omega))
    unfold cnt
    split
    · next c => rw [if_pos (h n (Nat.lt_succ_self n) c)]; omega
    · split <;> omega
theorem cnt_strict {n : Nat} {P Q : Nat → Bool} (h : ∀ i, i < n → P i = true → Q i = true) {j : Nat} (hj : j < n) (h1 : P j = false) (h2 : Q j = true) : cnt n P < cnt n Q := by
  induction n with
  | zero => omega
  | succ n ih =>
    unfold cnt
    by_cases e : j = n
    · subst e
      have := cnt_mono (n := j) (P := P) (Q := Q) (fun i hi => h i (by omega))
      rw [h1, h2]
      simp
      omega
    · have := ih (fun i hi => h i (by omega)) (by omega)
      split
      · next c => rw [if_pos (h n (Nat.lt_succ_self n) c)]; omega
      · split <;> omega
theorem cl_grow (hS : S < 2 ^ 7) (k : Nat) : cl n m S lt (k + 1) = cl n m S lt k ∨ (∀ j, j ≤ k + 1 → j ≤ cnt 7 (fun i => (cl n m S lt j).testBit i)) := by
  induction k with
  | zero =>
    by_cases e : cl n m S lt 1 = cl n m S lt 0
    · exact Or.inl e
    · right
      intro j hj
      match j, hj with
      | 0, _ => exact Nat.zero_le _
      | 1, _ =>
        have : ∃ i, (cl n m S lt 1).testBit i ≠ (cl n m S lt 0).testBit i := Classical.byContradiction fun q => e (Nat.eq_of_testBit_eq fun i => Classical.byContradiction fun z => q ⟨i, z⟩)
        obtain ⟨i, hi⟩ := this
        have h0 : (cl n m S lt 0).testBit i = false := Nat.zero_testBit i
        have h1 : (cl n m S lt 1).testBit i = true := by
          cases c : (cl n m S lt 1).testBit i with
          | true => rfl
          | false => exact absurd (c.trans h0.symm) hi
        have h7 : i < 7 := Classical.byContradiction fun q => by
          rw [tb_small (cl_lt hS 1) (by omega)] at h1
          cases h1
        have := cnt_strict (n := 7) (P := fun i => (cl n m S lt 0).testBit i) (Q := fun i => (cl n m S lt 1).testBit i) (fun i _ => cl_sub 0 i) h7 h0 h1
        exact Nat.lt_of_le_of_lt (Nat.zero_le _) this
  | succ k ih =>
    by_cases e : cl n m S lt (k + 1 + 1) = cl n m S lt (k + 1)
    · exact Or.inl e
    · right
      rcases ih with q | ih
      · exact absurd ((cl_same q 2).trans (cl_same q 1).symm) e
      · intro j hj
        by_cases c : j ≤ k + 1
        · exact ih j c
        · have ej : j = k + 1 + 1 := by omega
          subst ej
          have h9 := ih (k + 1) (Nat.le_refl _)
          have : ∃ i, (cl n m S lt (k + 1 + 1)).testBit i ≠ (cl n m S lt (k + 1)).testBit i := Classical.byContradiction fun q => e (Nat.eq_of_testBit_eq fun i => Classical.byContradiction fun z => q ⟨i, z⟩)
          obtain ⟨i, hi⟩ := this
          have h1 : (cl n m S lt (k + 1 + 1)).testBit i = true ∧ (cl n m S lt (k + 1)).testBit i = false := by
            cases c1 : (cl n m S lt (k + 1 + 1)).testBit i with
            | true =>
              cases c2 : (cl n m S lt (k + 1)).testBit i with
              | true => exact absurd (c1.trans c2.symm) hi
              | false => exact ⟨rfl, rfl⟩
            | false =>
              cases c2 : (cl n m S lt (k + 1)).testBit i with
              | true => rw [cl_sub (k + 1) i c2] at c1; cases c1
              | false => exact absurd (c1.trans c2.symm) hi
          have h7 : i < 7 := Classical.byContradiction fun q => by
            have := h1.1
            rw [tb_small (cl_lt hS _) (by omega)] at this
            cases this
          have := cnt_strict (n := 7) (P := fun i => (cl n m S lt (k + 1)).testBit i) (Q := fun i => (cl n m S lt (k + 1 + 1)).testBit i) (fun i _ => cl_sub (k + 1) i) h7 h1.2 h1.1
          omega
/-- seven times is enough -/
theorem cl_8 (hS : S < 2 ^ 7) : cl n m S lt 8 = cl n m S lt 7 := by
  rcases cl_grow (n := n) (m := m) (lt := lt) hS 7 with q | q
  · exact q
  · have h1 := q 8 (Nat.le_refl _)
    have h2 := cnt_le 7 (fun i => (cl n m S lt 8).testBit i)
    omega
/-- the least set that holds S and is closed -/
theorem cl_S {i : Nat} (h : S.testBit i = true) : (cl n m S lt 7).testBit i = true := by
  show (S ||| cl n m S lt 6 ||| (orM n m (cl n m S lt 6) &&& lt)).testBit i = true
  rw [Nat.testBit_or, Nat.testBit_or, h]
  simp
theorem cl_closed (hS : S < 2 ^ 7) {b i : Nat} (hn : b < n) (h : (cl n m S lt 7).testBit b = true) (hm : m b i = true) (hl : lt.testBit i = true) (h7 : i < 7) : (cl n m S lt 7).testBit i = true := by
  rw [← cl_8 hS]
  show (S ||| cl n m S lt 7 ||| (orM n m (cl n m S lt 7) &&& lt)).testBit i = true
  rw [Nat.testBit_or, Nat.testBit_and, orM_tb.mpr ⟨h7, b, hn, h, hm⟩, hl]
  simp
theorem cl_least {P : Nat → Prop} (h1 : ∀ i, S.testBit i = true → P i) (h2 : ∀ b i, b < n → P b → m b i = true → lt.testBit i = true → P i) : ∀ k i, (cl n m S lt k).testBit i = true → P i
  | 0, i, h => by rw [show cl n m S lt 0 = 0 from rfl, Nat.zero_testBit] at h; cases h
  | k + 1, i, h => by
    have h : (S ||| cl n m S lt k ||| (orM n m (cl n m S lt k) &&& lt)).testBit i = true := h
    rw [Nat.testBit_or, Nat.testBit_or, Bool.or_eq_true, Bool.or_eq_true, Nat.testBit_and, Bool.and_eq_true] at h
    rcases h with (h | h) | ⟨h, h'⟩
    · exact h1 i h
    · exact cl_least h1 h2 k i h
    · obtain ⟨-, x, hx, a, b⟩ := orM_tb.mp h
      exact h2 x i hx (cl_least h1 h2 k x a) b h'
end CLO
section CW
variable {v : LV} {h : Hp}
theorem c_carriers (w : WF v) (r : CLd 3 v h) {T : Nat} (hT : T < 32) : F_Wa_carriers (nI T) h = retI (nI (ms (v 0 0) (fun x => mayB v x T))) h := by
  have hn := w.1
  unfold F_Wa_carriers
  refine loop_for (N := v 0 0) (fun i => (nI T, nI (ms i (fun x => mayB v x T)), nI i, h)) rfl (by show _ < 4096; omega) (fun i κ hi => ?_) (fun κ => ?_)
  · have hb := brs_lt w hi T
    simp (disch := first | assumption | omega) only [Wa_carriers_4, lit_0, lit_1, lit_2, lit_3, lit_4, lit_5, lit_6, lit_7, lit_8, lit_9, lit_10, lit_11, lit_12, lit_16, lit_17, lit_20, lit_31, lit_32, lit_40, lit_47, lit_48, lit_49, lit_57, lit_58, lit_60, lit_64, lit_68, lit_80, lit_97, lit_99, lit_100, lit_101, lit_104, lit_108, lit_109, lit_115, lit_117, lit_121, lit_127, lit_128, lit_140, lit_1000, lit_1000000, lit_1048576, bI_ret, bV_ret, bL_ret, bH_t, cond_true, z_0, z_1, retZ_tf, z_tf0, z_tf1, Decidable.not_not, Classical.not_not, nI_add, nI_clamp, n_le, n_lt, n_eq, nI_or, nI_and, z_sdf, of_nI, L_n r, c_bars isL_3 w r hi hT, c_bit, ms_s i]
    rw [if_neg (by omega)]
    by_cases q : brs v i T = 0
    · simp only [q, if_true, mayB, beq_self_eq_true]
    · simp only [q, if_false, mayB, beq_eq_false_iff_ne.mpr q, Bool.false_eq_true]
  · simp (disch := first | assumption | omega) only [Wa_carriers_4, lit_0, lit_1, lit_2, lit_3, lit_4, lit_5, lit_6, lit_7, lit_8, lit_9, lit_10, lit_11, lit_12, lit_16, lit_17, lit_20, lit_31, lit_32, lit_40, lit_47, lit_48, lit_49, lit_57, lit_58, lit_60, lit_64, lit_68, lit_80, lit_97, lit_99, lit_100, lit_101, lit_104, lit_108, lit_109, lit_115, lit_117, lit_121, lit_127, lit_128, lit_140, lit_1000, lit_1000000, lit_1048576, bI_ret, bV_ret, bL_ret, bH_t, cond_true, z_0, z_1, retZ_tf, z_tf0, z_tf1, Decidable.not_not, Classical.not_not, nI_add, nI_clamp, n_le, n_lt, n_eq, nI_or, nI_and, z_sdf, of_nI, L_n r, Nat.le_refl, if_true]
theorem c_metByAny (w : WF v) (r : CLd 3 v h) {a : Nat} (ha : a < 2 ^ 7) : F_Wa_metByAny (nI a) h = retI (nI (orM (v 0 0) (met v) a)) h := by
  have hn := w.1
  have ha2 : a < 2 ^ 31 := Nat.lt_trans ha (by decide)
  unfold F_Wa_metByAny
  refine loop_for (N := v 0 0) (fun i => (nI a, nI (ms 7 (fun y => anyB i (fun x => a.testBit x && met v x y))), nI i, h)) (by unfold ms; rfl) (by show _ < 4096; omega) (fun i κ hi => ?_) (fun κ => ?_)
  · simp (disch := first | assumption | omega) only [Wa_metByAny_4, oA_18, oA_65, oA_66, oA_67, oA_69, oA_4, oA_5, lit_0, lit_1, lit_2, lit_3, lit_4, lit_5, lit_6, lit_7, lit_8, lit_9, lit_10, lit_11, lit_12, lit_16, lit_17, lit_20, lit_31, lit_32, lit_40, lit_47, lit_48, lit_49, lit_57, lit_58, lit_60, lit_64, lit_68, lit_80, lit_97, lit_99, lit_100, lit_101, lit_104, lit_108, lit_109, lit_115, lit_117, lit_121, lit_127, lit_128, lit_140, lit_1000, lit_1000000, lit_1048576, bI_ret, bV_ret, bL_ret, bH_t, cond_true, z_0, z_1, retZ_tf, z_tf0, z_tf1, Decidable.not_not, Classical.not_not, nI_add, nI_clamp, n_le, n_lt, n_eq, nI_or, nI_and, z_sdf, of_nI, L_n r, c_has, L3_mE r, anyB_s i]
    rw [if_neg (by omega)]
    by_cases q : a.testBit i = true
    · simp only [q, not_true, if_false, ms_or, Bool.true_and]
    · simp only [q, not_false_iff, if_true, Bool.false_and, Bool.or_false, Bool.false_eq_true]
  · simp (disch := first | assumption | omega) only [Wa_metByAny_4, lit_0, lit_1, lit_2, lit_3, lit_4, lit_5, lit_6, lit_7, lit_8, lit_9, lit_10, lit_11, lit_12, lit_16, lit_17, lit_20, lit_31, lit_32, lit_40, lit_47, lit_48, lit_49, lit_57, lit_58, lit_60, lit_64, lit_68, lit_80, lit_97, lit_99, lit_100, lit_101, lit_104, lit_108, lit_109, lit_115, lit_117, lit_121, lit_127, lit_128, lit_140, lit_1000, lit_1000000, lit_1048576, bI_ret, bV_ret, bL_ret, bH_t, cond_true, z_0, z_1, retZ_tf, z_tf0, z_tf1, Decidable.not_not, Classical.not_not, nI_add, nI_clamp, n_le, n_lt, n_eq, nI_or, nI_and, z_sdf, of_nI, L_n r, Nat.le_refl, if_true]
    rfl
def muts (v : LV) : Nat := ms (v 0 0) (fun x => isO (v 1 x) 4)
theorem ms_7 (w : WF v) (P : Nat → Bool) : ms (v 0 0) P < 2 ^ 7 := Nat.lt_of_lt_of_le (ms_lt _ P) (Nat.pow_le_pow_right (by decide) w.1)
/-- to whom there is a way -/
def ends (v : LV) (x op : Nat) : Nat := sdf (ms 7 (met v x) ||| orM (v 0 0) (met v) (cl (v 0 0) (met v) (ms 7 (met v x) &&& sdf op (2 ^ x)) (sdf (sdf op (2 ^ x)) (muts v)) 7)) (2 ^ x)
theorem orM_or {n : Nat} {m : Nat → Nat → Bool} (a b : Nat) : orM n m (a ||| b) = orM n m a ||| orM n m b := by
  unfold orM
  rw [ms_or]
  apply ms_cong
  intro i _
  induction n with
  | zero => rfl
  | succ n ih =>
    rw [anyB_s, anyB_s, anyB_s, ih, Nat.testBit_or]
    cases a.testBit n <;> cases b.testBit n <;> cases m n i <;> cases anyB n (fun x => a.testBit x && m x i) <;> cases anyB n (fun x => b.testBit x && m x i) <;> rfl
theorem c_endsFrom (w : WF v) (r : CLd 3 v h) {x op : Nat} (hx : x < v 0 0) (ho : op < 2 ^ 7) : F_Wa_endsFrom (nI x) (nI op) h = retI (nI (ends v x op)) h := by
  have hn := w.1
  have hS := and_lt (sdf op (2 ^ x)) (ms_lt 7 (met v x))
  unfold F_Wa_endsFrom ends
  simp (disch := first | assumption | omega) only [oA_18, oA_65, oA_66, oA_67, oA_69, oA_4, oA_5, lit_0, lit_1, lit_2, lit_3, lit_4, lit_5, lit_6, lit_7, lit_8, lit_9, lit_10, lit_11, lit_12, lit_16, lit_17, lit_20, lit_31, lit_32, lit_40, lit_47, lit_48, lit_49, lit_57, lit_58, lit_60, lit_64, lit_68, lit_80, lit_97, lit_99, lit_100, lit_101, lit_104, lit_108, lit_109, lit_115, lit_117, lit_121, lit_127, lit_128, lit_140, lit_1000, lit_1000000, lit_1048576, bI_ret, bV_ret, bL_ret, bH_t, cond_true, z_0, z_1, retZ_tf, z_tf0, z_tf1, Decidable.not_not, Classical.not_not, nI_add, nI_clamp, n_le, n_lt, n_eq, nI_or, nI_and, z_sdf, of_nI, c_bit, c_ofKind isL_3 w r, L3_mE r]
  show loopC _ FU (nI x, nI (sdf (sdf op (2 ^ x)) (muts v)), _) = _
  generalize hfree : sdf op (2 ^ x) = free at *
  generalize hlt : sdf free (muts v) = lt at *
  generalize hmx : ms 7 (met v x) = mx at *
  generalize hC : cl (v 0 0) (met v) (mx &&& free) lt = C at *
  have C1 : ∀ k, C (k + 1) = (mx &&& free) ||| C k ||| (orM (v 0 0) (met v) (C k) &&& lt) := fun k => by rw [← hC]; rfl
  have C0 : C 0 = 0 := by rw [← hC]; rfl
  have Clt : ∀ k, C k < 2 ^ 7 := fun k => by rw [← hC]; exact cl_lt hS k
  have Csub : ∀ k i, (C k).testBit i = true → (C (k + 1)).testBit i = true := fun k i q => by rw [← hC] at *; exact cl_sub k i q
  have C8 : C 8 = C 7 := by rw [← hC]; exact cl_8 hS
  have Csame : ∀ k, C (k + 1) = C k → ∀ j, C (k + j) = C k := fun k q j => by rw [← hC] at *; exact cl_same q j
  have hmlt : mx < 2 ^ 7 := by rw [← hmx]; exact ms_lt 7 _
  -- the first step at which nothing is fresh, or the seventh
  obtain ⟨N, hN, h1, h2⟩ := anyB_first (n := 8) (P := fun k => decide (sdf (C (k + 1)) (C k) = 0) || k == 7) (anyB_iff.mpr ⟨7, by decide, by simp⟩)
  have hfin : orM (v 0 0) (met v) (C N) = orM (v 0 0) (met v) (C 7) := by
    rw [Bool.or_eq_true, decide_eq_true_eq, beq_iff_eq] at h1
    rcases h1 with q | q
    · have e : C (N + 1) = C N := by
        apply Nat.eq_of_testBit_eq
        intro i
        have z : (sdf (C (N + 1)) (C N)).testBit i = false := by rw [q, Nat.zero_testBit]
        rw [sdf_tb] at z
        cases c1 : (C (N + 1)).testBit i with
        | true => rw [c1] at z; simpa using z.symm
        | false =>
          cases c2 : (C N).testBit i with
          | false => rfl
          | true => rw [Csub N i c2] at c1; cases c1
      have := Csame N e (7 - N)
      rw [show N + (7 - N) = 7 by omega] at this
      rw [this]
    · rw [q]
  refine loop_for (N := N) (fun k => (nI x, nI lt, nI (mx ||| orM (v 0 0) (met v) (C k)), nI (sdf (C (k + 1)) (C k)), nI (C (k + 1)), nI k, h)) ?_ (by show _ < 4096; omega) (fun k κ hi => ?_) (fun κ => ?_)
  · have e1 : C 1 = mx &&& free := by
      rw [C1 0, C0]
      have : orM (v 0 0) (met v) 0 = 0 := by
        apply Nat.eq_of_testBit_eq
        intro i
        rw [Nat.zero_testBit]
        cases c : (orM (v 0 0) (met v) 0).testBit i with
        | false => rfl
        | true =>
          obtain ⟨-, y, -, z, -⟩ := orM_tb.mp c
          rw [Nat.zero_testBit] at z
          cases z
      rw [this]
      simp
    have e2 : orM (v 0 0) (met v) 0 = 0 := by
      apply Nat.eq_of_testBit_eq
      intro i
      rw [Nat.zero_testBit]
      cases c : (orM (v 0 0) (met v) 0).testBit i with
      | false => rfl
      | true =>
        obtain ⟨-, y, -, z, -⟩ := orM_tb.mp c
        rw [Nat.zero_testBit] at z
        cases z
    have e3 : sdf (mx &&& free) 0 = mx &&& free := by
      apply Nat.eq_of_testBit_eq
      intro i
      rw [sdf_tb, Nat.zero_testBit]
      simp
    show (nI x, nI lt, nI mx, nI (mx &&& free), nI (mx &&& free), nI 0, h) = (nI x, nI lt, nI (mx ||| orM (v 0 0) (met v) (C 0)), nI (sdf (C (0 + 1)) (C 0)), nI (C (0 + 1)), nI 0, h)
    rw [show C (0 + 1) = mx &&& free from e1, C0, e2, e3, Nat.or_zero]
  · have hk := h2 k hi
    rw [Bool.or_eq_false_iff, decide_eq_false_iff_not, beq_eq_false_iff_ne] at hk
    have hf7 : sdf (C (k + 1)) (C k) < 2 ^ 7 := sdf_lt (Clt _)
    have hf31 : sdf (C (k + 1)) (C k) < 2 ^ 31 := Nat.lt_trans hf7 (by decide)
    simp (disch := first | assumption | omega) only [Wa_endsFrom_47, lit_0, lit_1, lit_2, lit_3, lit_4, lit_5, lit_6, lit_7, lit_8, lit_9, lit_10, lit_11, lit_12, lit_16, lit_17, lit_20, lit_31, lit_32, lit_40, lit_47, lit_48, lit_49, lit_57, lit_58, lit_60, lit_64, lit_68, lit_80, lit_97, lit_99, lit_100, lit_101, lit_104, lit_108, lit_109, lit_115, lit_117, lit_121, lit_127, lit_128, lit_140, lit_1000, lit_1000000, lit_1048576, bI_ret, bV_ret, bL_ret, bH_t, cond_true, z_0, z_1, retZ_tf, z_tf0, z_tf1, Decidable.not_not, Classical.not_not, nI_add, nI_clamp, n_le, n_lt, n_eq, nI_or, nI_and, z_sdf, of_nI, c_metByAny w r hf7]
    rw [if_neg (by omega), if_neg hk.1]
    have hsub := Csub k
    have e0 : C (k + 1) = C k ||| sdf (C (k + 1)) (C k) := by
      apply Nat.eq_of_testBit_eq
      intro i
      rw [Nat.testBit_or, sdf_tb]
      cases c2 : (C k).testBit i with
      | true => rw [hsub i c2]; rfl
      | false => simp
    have e1 : mx ||| orM (v 0 0) (met v) (C k) ||| orM (v 0 0) (met v) (sdf (C (k + 1)) (C k)) = mx ||| orM (v 0 0) (met v) (C (k + 1)) := by
      rw [Nat.or_assoc, ← orM_or, ← e0]
    have e4 : ∀ i, (orM (v 0 0) (met v) (C (k + 1))).testBit i = ((orM (v 0 0) (met v) (C k)).testBit i || (orM (v 0 0) (met v) (sdf (C (k + 1)) (C k))).testBit i) := fun i => by
      rw [← Nat.testBit_or, ← orM_or, ← e0]
    have e5 : ∀ i, (C (k + 1)).testBit i = ((mx &&& free).testBit i || (C k).testBit i || ((orM (v 0 0) (met v) (C k)).testBit i && lt.testBit i)) := fun i => by
      rw [C1 k, Nat.testBit_or, Nat.testBit_or, Nat.testBit_and (x := orM (v 0 0) (met v) (C k))]
    have e6 : ∀ i, (C (k + 1 + 1)).testBit i = ((mx &&& free).testBit i || (C (k + 1)).testBit i || ((orM (v 0 0) (met v) (C (k + 1))).testBit i && lt.testBit i)) := fun i => by
      rw [C1 (k + 1), Nat.testBit_or, Nat.testBit_or, Nat.testBit_and (x := orM (v 0 0) (met v) (C (k + 1)))]
    have e2 : sdf (orM (v 0 0) (met v) (sdf (C (k + 1)) (C k)) &&& lt) (C (k + 1)) = sdf (C (k + 1 + 1)) (C (k + 1)) := by
      apply Nat.eq_of_testBit_eq
      intro i
      rw [sdf_tb, sdf_tb, Nat.testBit_and, e6 i, e4 i]
      have key : ∀ a b c d e f : Bool, b = (a || c || (d && e)) → (f && e && !b) = ((a || b || ((d || f) && e)) && !b) := by decide
      exact key _ _ _ _ _ _ (e5 i)
    have e3 : C (k + 1) ||| sdf (orM (v 0 0) (met v) (sdf (C (k + 1)) (C k)) &&& lt) (C (k + 1)) = C (k + 1 + 1) := by
      rw [e2]
      apply Nat.eq_of_testBit_eq
      intro i
      rw [Nat.testBit_or, sdf_tb]
      cases c2 : (C (k + 1)).testBit i with
      | true => rw [Csub (k + 1) i c2]; rfl
      | false => simp
    rw [e1, e3, e2]
  · rw [Bool.or_eq_true, decide_eq_true_eq, beq_iff_eq] at h1
    have hf31 : sdf (C (N + 1)) (C N) < 2 ^ 31 := Nat.lt_trans (sdf_lt (Clt _)) (by decide)
    simp (disch := first | assumption | omega) only [Wa_endsFrom_47, lit_0, lit_1, lit_2, lit_3, lit_4, lit_5, lit_6, lit_7, lit_8, lit_9, lit_10, lit_11, lit_12, lit_16, lit_17, lit_20, lit_31, lit_32, lit_40, lit_47, lit_48, lit_49, lit_57, lit_58, lit_60, lit_64, lit_68, lit_80, lit_97, lit_99, lit_100, lit_101, lit_104, lit_108, lit_109, lit_115, lit_117, lit_121, lit_127, lit_128, lit_140, lit_1000, lit_1000000, lit_1048576, bI_ret, bV_ret, bL_ret, bH_t, cond_true, z_0, z_1, retZ_tf, z_tf0, z_tf1, Decidable.not_not, Classical.not_not, nI_add, nI_clamp, n_le, n_lt, n_eq, nI_or, nI_and, z_sdf, of_nI, c_bit, hfin]
    rcases h1 with q | q
    · rw [q, if_pos rfl, ite_self]
    · rw [q, if_pos (Nat.le_refl _)]
/-- whether a way leads over such as are open to y -/
theorem c_leadsOver (w : WF v) (r : CLd 3 v h) {x y op : Nat} (hx : x < v 0 0) (hy : y < v 0 0) (ho : op < 2 ^ 7) : F_Wa_leadsOver (nI x) (nI y) (nI op) h = retI (tf ((cl (v 0 0) (met v) (ms 7 (met v x) &&& op) (sdf op (muts v)) 7 &&& ms 7 (met v y)) ≠ 0)) h := by
  have hn := w.1
  have hS := and_lt op (ms_lt 7 (met v x))
  unfold F_Wa_leadsOver
  simp (disch := first | assumption | omega) only [oA_18, oA_65, oA_66, oA_67, oA_69, oA_4, oA_5, lit_0, lit_1, lit_2, lit_3, lit_4, lit_5, lit_6, lit_7, lit_8, lit_9, lit_10, lit_11, lit_12, lit_16, lit_17, lit_20, lit_31, lit_32, lit_40, lit_47, lit_48, lit_49, lit_57, lit_58, lit_60, lit_64, lit_68, lit_80, lit_97, lit_99, lit_100, lit_101, lit_104, lit_108, lit_109, lit_115, lit_117, lit_121, lit_127, lit_128, lit_140, lit_1000, lit_1000000, lit_1048576, bI_ret, bV_ret, bL_ret, bH_t, cond_true, z_0, z_1, retZ_tf, z_tf0, z_tf1, Decidable.not_not, Classical.not_not, nI_add, nI_clamp, n_le, n_lt, n_eq, nI_or, nI_and, z_sdf, of_nI, c_ofKind isL_3 w r, L3_mE r]
  show loopC _ FU (nI y, nI (sdf op (muts v)), _) = _
  generalize hC : cl (v 0 0) (met v) (ms 7 (met v x) &&& op) (sdf op (muts v)) = C at *
  have C1 : ∀ k, C (k + 1) = (ms 7 (met v x) &&& op) ||| C k ||| (orM (v 0 0) (met v) (C k) &&& sdf op (muts v)) := fun k => by rw [← hC]; rfl
  have Clt : ∀ k, C k < 2 ^ 7 := fun k => by rw [← hC]; exact cl_lt hS k
  have C8 : C 8 = C 7 := by rw [← hC]; exact cl_8 hS
  have CS : ∀ k i, (ms 7 (met v x) &&& op).testBit i = true → (C (k + 1)).testBit i = true := fun k i q => by
    rw [C1 k, Nat.testBit_or, Nat.testBit_or, q]
    simp
  refine loop_for (N := 7) (fun k => (nI y, nI (sdf op (muts v)), nI (C (k + 1)), nI k, h)) ?_ (by show _ < 4096; omega) (fun k κ hi => ?_) (fun κ => ?_)
  · have e1 : C 1 = ms 7 (met v x) &&& op := by
      rw [← hC]
      apply Nat.eq_of_testBit_eq
      intro i
      show (_ ||| 0 ||| (orM (v 0 0) (met v) 0 &&& _)).testBit i = _
      rw [Nat.testBit_or, Nat.or_zero, Nat.testBit_and (x := orM (v 0 0) (met v) 0)]
      cases c : (orM (v 0 0) (met v) 0).testBit i with
      | false => simp
      | true =>
        obtain ⟨-, y, -, z, -⟩ := orM_tb.mp c
        rw [Nat.zero_testBit] at z
        cases z
    show (nI y, nI (sdf op (muts v)), nI (ms 7 (met v x) &&& op), nI 0, h) = (nI y, nI (sdf op (muts v)), nI (C 1), nI 0, h)
    rw [e1]
  · simp (disch := first | assumption | omega) only [Wa_leadsOver_30, lit_0, lit_1, lit_2, lit_3, lit_4, lit_5, lit_6, lit_7, lit_8, lit_9, lit_10, lit_11, lit_12, lit_16, lit_17, lit_20, lit_31, lit_32, lit_40, lit_47, lit_48, lit_49, lit_57, lit_58, lit_60, lit_64, lit_68, lit_80, lit_97, lit_99, lit_100, lit_101, lit_104, lit_108, lit_109, lit_115, lit_117, lit_121, lit_127, lit_128, lit_140, lit_1000, lit_1000000, lit_1048576, bI_ret, bV_ret, bL_ret, bH_t, cond_true, z_0, z_1, retZ_tf, z_tf0, z_tf1, Decidable.not_not, Classical.not_not, nI_add, nI_clamp, n_le, n_lt, n_eq, nI_or, nI_and, z_sdf, of_nI, c_metByAny w r (Clt (k + 1))]
    rw [if_neg (by omega)]
    have e3 : C (k + 1) ||| orM (v 0 0) (met v) (C (k + 1)) &&& sdf op (muts v) = C (k + 1 + 1) := by
      rw [C1 (k + 1)]
      apply Nat.eq_of_testBit_eq
      intro i
      rw [Nat.testBit_or, Nat.testBit_or, Nat.testBit_or]
      cases c : (ms 7 (met v x) &&& op).testBit i with
      | false => simp
      | true => rw [CS k i c]; simp
    rw [e3]
  · have hb := and_lt (ms 7 (met v y)) (Clt 7)
    have h31 : C 7 &&& ms 7 (met v y) < 2 ^ 31 := Nat.lt_trans hb (by decide)
    show Wa_leadsOver_30 (nI y, nI (sdf op (muts v)), nI (C 8), nI 7, h) κ = _
    rw [C8]
    simp (disch := first | assumption | omega) only [Wa_leadsOver_30, oA_18, oA_65, oA_66, oA_67, oA_69, oA_4, oA_5, lit_0, lit_1, lit_2, lit_3, lit_4, lit_5, lit_6, lit_7, lit_8, lit_9, lit_10, lit_11, lit_12, lit_16, lit_17, lit_20, lit_31, lit_32, lit_40, lit_47, lit_48, lit_49, lit_57, lit_58, lit_60, lit_64, lit_68, lit_80, lit_97, lit_99, lit_100, lit_101, lit_104, lit_108, lit_109, lit_115, lit_117, lit_121, lit_127, lit_128, lit_140, lit_1000, lit_1000000, lit_1048576, bI_ret, bV_ret, bL_ret, bH_t, cond_true, z_0, z_1, retZ_tf, z_tf0, z_tf1, Decidable.not_not, Classical.not_not, nI_add, nI_clamp, n_le, n_lt, n_eq, nI_or, nI_and, z_sdf, of_nI, L3_mE r, Nat.le_refl, if_true]
    exact ite_tfn h
end CW
