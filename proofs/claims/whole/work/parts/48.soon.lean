/-! HOW SOON, on both sides -/
/-- the first below n with P, or n -/
def fst (P : Nat → Bool) : Nat → Nat
  | 0 => 0
  | n + 1 => if fst P n < n then fst P n else if P n then n else n + 1
theorem fst_le (P : Nat → Bool) : ∀ n, fst P n ≤ n
  | 0 => Nat.le_refl _
  | n + 1 => by
    have := fst_le P n
    unfold fst
    (repeat' split) <;> omega
theorem fst_no (P : Nat → Bool) : ∀ n k, k < fst P n → P k = false
  | 0, k, h => absurd h (Nat.not_lt_zero k)
  | n + 1, k, h => by
    have h1 := fst_no P n
    have h2 := fst_le P n
    unfold fst at h
    split at h
    · exact h1 k h
    · next c =>
      split at h
      · exact h1 k (by omega)
      · next d =>
        by_cases e : k = n
        · subst e; simpa using d
        · exact h1 k (by omega)
theorem fst_yes (P : Nat → Bool) : ∀ n, fst P n < n → P (fst P n) = true
  | 0, h => absurd h (Nat.not_lt_zero _)
  | n + 1, h => by
    have h2 := fst_le P n
    unfold fst at h ⊢
    by_cases c : fst P n < n
    · rw [if_pos c]
      exact fst_yes P n c
    · rw [if_neg c] at h ⊢
      by_cases d : P n = true
      · rw [if_pos d]; exact d
      · rw [if_neg d] at h; omega
def car (v : LV) (T : Nat) : Nat := ms (v 0 0) (fun x => mayB v x T)
/-- who has it after k hours -/
def hd (v : LV) (x T hr : Nat) : Nat → Nat
  | 0 => 0
  | k + 1 => hd v x T hr k ||| ((ms 7 (metH v ((hr + k) % 8) x) &&& sdf (car v T) (2 ^ x)) ||| (orM (v 0 0) (metH v ((hr + k) % 8)) (hd v x T hr k) &&& sdf (sdf (car v T) (2 ^ x)) (muts v)))
def gets (v : LV) (x y T hr k : Nat) : Bool := (orM (v 0 0) (metH v ((hr + k) % 8)) (hd v x T hr k) ||| ms 7 (metH v ((hr + k) % 8) x)).testBit y
def snK (hr : Nat) : Nat := min 40 (100 - hr)
def snN (v : LV) (x y T hr : Nat) : Nat := fst (gets v x y T hr) (snK hr)
def soonV (v : LV) (x y T hr : Nat) : Int32 := if snN v x y T hr < snK hr then nI (snN v x y T hr + 1) else -nI 9
section SOON
variable {v : LV} {h : Hp}
theorem car_lt (w : WF v) (T : Nat) : car v T < 2 ^ 7 := ms_7 w _
theorem hd_lt (w : WF v) (x T hr : Nat) : ∀ k, hd v x T hr k < 2 ^ 7
  | 0 => Nat.two_pow_pos 7
  | k + 1 => or_lt (hd_lt w x T hr k) (or_lt (and_lt _ (ms_lt 7 _)) (and_lt _ (orM_lt _ _ _)))
theorem hd_free {x T hr : Nat} {i : Nat} : ∀ k, (hd v x T hr k).testBit i = true → (sdf (car v T) (2 ^ x)).testBit i = true
  | 0, q => by rw [show hd v x T hr 0 = 0 from rfl, Nat.zero_testBit] at q; cases q
  | k + 1, q => by
    unfold hd at q
    rw [Nat.testBit_or, Nat.testBit_or, Bool.or_eq_true, Bool.or_eq_true, Nat.testBit_and, Nat.testBit_and, Bool.and_eq_true, Bool.and_eq_true, sdf_tb (sdf (car v T) (2 ^ x)), Bool.and_eq_true] at q
    rcases q with q | q | q
    · exact hd_free k q
    · exact q.2
    · exact q.2.1
theorem c_soonest (w : WF v) (r : CLd 3 v h) {x y T hr : Nat} (hx : x < v 0 0) (hy : y < v 0 0) (hT : T < 32) (hh : hr < 100) : F_Wa_soonest (nI x) (nI y) (nI T) (nI hr) h = retI (soonV v x y T hr) h := by
  have hn := w.1
  have hcl := car_lt w T
  have hc := c_carriers w r hT
  have hN := fst_le (gets v x y T hr) (snK hr)
  have hno := fst_no (gets v x y T hr) (snK hr)
  have hyes := fst_yes (gets v x y T hr) (snK hr)
  have hK : snK hr ≤ 40 ∧ hr + snK hr ≤ 100 ∧ (snK hr = 40 ∨ hr + snK hr = 100) := by unfold snK; omega
  unfold F_Wa_soonest soonV
  simp (disch := first | assumption | omega) only [lit_0, lit_1, lit_2, lit_3, lit_4, lit_5, lit_6, lit_7, lit_8, lit_9, lit_10, lit_11, lit_12, lit_16, lit_17, lit_20, lit_31, lit_32, lit_40, lit_47, lit_48, lit_49, lit_57, lit_58, lit_60, lit_64, lit_68, lit_80, lit_97, lit_99, lit_100, lit_101, lit_104, lit_108, lit_109, lit_115, lit_117, lit_121, lit_127, lit_128, lit_140, lit_1000, lit_1000000, lit_1048576, bI_ret, bV_ret, bL_ret, bH_t, cond_true, z_0, z_1, retZ_tf, z_tf0, z_tf1, Decidable.not_not, Classical.not_not, nI_add, nI_clamp, n_le, n_lt, n_eq, nI_or, nI_and, z_sdf, of_nI, hc, c_bit, c_ofKind isL_3 w r]
  show loopC _ FU (nI x, nI y, nI hr, nI (sdf (car v T) (2 ^ x)), nI (sdf (sdf (car v T) (2 ^ x)) (muts v)), nI 0, nI 0, h) = _
  have inner : ∀ k, k < snK hr → ∀ κ, loopC (Wa_soonest_76 κ) FU (nI x, nI y, nI hr, nI (sdf (car v T) (2 ^ x)), nI (sdf (sdf (car v T) (2 ^ x)) (muts v)), nI (hd v x T hr k), nI k, 10 + (hr + k) % 8, nI 0, nI 0, h) = if gets v x y T hr k = true then retI (nI (k + 1)) h else κ (nI x, nI y, nI hr, nI (sdf (car v T) (2 ^ x)), nI (sdf (sdf (car v T) (2 ^ x)) (muts v)), nI (hd v x T hr (k + 1)), nI (k + 1), h) := by
    intro k hk κ
    have ht : (hr + k) % 8 < 8 := Nat.mod_lt _ (by decide)
    have hdl := hd_lt w x T hr k
    have hd31 : hd v x T hr k < 2 ^ 31 := Nat.lt_trans hdl (by decide)
    have h31 : orM (v 0 0) (metH v ((hr + k) % 8)) (hd v x T hr k) ||| ms 7 (metH v ((hr + k) % 8) x) < 2 ^ 31 := Nat.lt_trans (or_lt (orM_lt _ _ _) (ms_lt 7 _)) (by decide)
    refine loop_for (N := v 0 0) (fun i => (nI x, nI y, nI hr, nI (sdf (car v T) (2 ^ x)), nI (sdf (sdf (car v T) (2 ^ x)) (muts v)), nI (hd v x T hr k), nI k, 10 + (hr + k) % 8, nI (ms 7 (fun y => anyB i (fun z => (hd v x T hr k).testBit z && metH v ((hr + k) % 8) z y))), nI i, h)) (by unfold ms; rfl) (by show _ < 4096; omega) (fun i κ2 hi => ?_) (fun κ2 => ?_)
    · simp (disch := first | assumption | omega) only [Wa_soonest_76, oA_10, lit_0, lit_1, lit_2, lit_3, lit_4, lit_5, lit_6, lit_7, lit_8, lit_9, lit_10, lit_11, lit_12, lit_16, lit_17, lit_20, lit_31, lit_32, lit_40, lit_47, lit_48, lit_49, lit_57, lit_58, lit_60, lit_64, lit_68, lit_80, lit_97, lit_99, lit_100, lit_101, lit_104, lit_108, lit_109, lit_115, lit_117, lit_121, lit_127, lit_128, lit_140, lit_1000, lit_1000000, lit_1048576, bI_ret, bV_ret, bL_ret, bH_t, cond_true, z_0, z_1, retZ_tf, z_tf0, z_tf1, Decidable.not_not, Classical.not_not, nI_add, nI_clamp, n_le, n_lt, n_eq, nI_or, nI_and, z_sdf, of_nI, L_n r, c_has, L3_mH r, anyB_s i]
      rw [if_neg (by omega)]
      by_cases q : (hd v x T hr k).testBit i = true
      · simp only [q, not_true, if_false, ms_or, Bool.true_and]
      · simp only [q, not_false_iff, if_true, Bool.false_and, Bool.or_false, Bool.false_eq_true]
    · show Wa_soonest_76 κ (nI x, nI y, nI hr, nI (sdf (car v T) (2 ^ x)), nI (sdf (sdf (car v T) (2 ^ x)) (muts v)), nI (hd v x T hr k), nI k, 10 + (hr + k) % 8, nI (orM (v 0 0) (metH v ((hr + k) % 8)) (hd v x T hr k)), nI (v 0 0), h) κ2 = _
      simp (disch := first | assumption | omega) only [Wa_soonest_76, oA_10, lit_0, lit_1, lit_2, lit_3, lit_4, lit_5, lit_6, lit_7, lit_8, lit_9, lit_10, lit_11, lit_12, lit_16, lit_17, lit_20, lit_31, lit_32, lit_40, lit_47, lit_48, lit_49, lit_57, lit_58, lit_60, lit_64, lit_68, lit_80, lit_97, lit_99, lit_100, lit_101, lit_104, lit_108, lit_109, lit_115, lit_117, lit_121, lit_127, lit_128, lit_140, lit_1000, lit_1000000, lit_1048576, bI_ret, bV_ret, bL_ret, bH_t, cond_true, z_0, z_1, retZ_tf, z_tf0, z_tf1, Decidable.not_not, Classical.not_not, nI_add, nI_clamp, n_le, n_lt, n_eq, nI_or, nI_and, z_sdf, of_nI, L_n r, c_has, L3_mH r, Nat.le_refl, if_true]
      unfold gets
      by_cases q : (orM (v 0 0) (metH v ((hr + k) % 8)) (hd v x T hr k) ||| ms 7 (metH v ((hr + k) % 8) x)).testBit y = true
      · simp only [q, not_true, if_false, if_true]
      · simp only [q, not_false_iff, if_true, if_false, Bool.false_eq_true]
        rfl
  refine loop_for (N := snN v x y T hr) (fun k => (nI x, nI y, nI hr, nI (sdf (car v T) (2 ^ x)), nI (sdf (sdf (car v T) (2 ^ x)) (muts v)), nI (hd v x T hr k), nI k, h)) rfl (by unfold snN; show _ < 4096; omega) (fun k κ hi => ?_) (fun κ => ?_)
  · have hi : k < fst (gets v x y T hr) (snK hr) := hi
    simp (disch := first | assumption | omega) only [Wa_soonest_35, lit_0, lit_1, lit_2, lit_3, lit_4, lit_5, lit_6, lit_7, lit_8, lit_9, lit_10, lit_11, lit_12, lit_16, lit_17, lit_20, lit_31, lit_32, lit_40, lit_47, lit_48, lit_49, lit_57, lit_58, lit_60, lit_64, lit_68, lit_80, lit_97, lit_99, lit_100, lit_101, lit_104, lit_108, lit_109, lit_115, lit_117, lit_121, lit_127, lit_128, lit_140, lit_1000, lit_1000000, lit_1048576, bI_ret, bV_ret, bL_ret, bH_t, cond_true, z_0, z_1, retZ_tf, z_tf0, z_tf1, Decidable.not_not, Classical.not_not, nI_add, nI_clamp, n_le, n_lt, n_eq, nI_or, nI_and, z_sdf, of_nI, z_rem, oR_9 (Nat.mod_lt _ (by decide)), sR_9 (Nat.mod_lt _ (by decide)), inner k (by omega) κ]
    rw [if_neg (by omega), if_neg (by omega), if_neg (by rw [hno k hi]; decide)]
  · have hN : snN v x y T hr ≤ snK hr := hN
    by_cases c : snN v x y T hr < snK hr
    · rw [if_pos c]
      simp (disch := first | assumption | omega) only [Wa_soonest_35, lit_0, lit_1, lit_2, lit_3, lit_4, lit_5, lit_6, lit_7, lit_8, lit_9, lit_10, lit_11, lit_12, lit_16, lit_17, lit_20, lit_31, lit_32, lit_40, lit_47, lit_48, lit_49, lit_57, lit_58, lit_60, lit_64, lit_68, lit_80, lit_97, lit_99, lit_100, lit_101, lit_104, lit_108, lit_109, lit_115, lit_117, lit_121, lit_127, lit_128, lit_140, lit_1000, lit_1000000, lit_1048576, bI_ret, bV_ret, bL_ret, bH_t, cond_true, z_0, z_1, retZ_tf, z_tf0, z_tf1, Decidable.not_not, Classical.not_not, nI_add, nI_clamp, n_le, n_lt, n_eq, nI_or, nI_and, z_sdf, of_nI, z_rem, oR_9 (Nat.mod_lt _ (by decide)), sR_9 (Nat.mod_lt _ (by decide)), inner _ c κ]
      have hy9 : gets v x y T hr (snN v x y T hr) = true := hyes c
      rw [if_neg (by omega), if_neg (by omega), if_pos hy9]
    · rw [if_neg c]
      simp (disch := first | assumption | omega) only [Wa_soonest_35, lit_0, lit_1, lit_2, lit_3, lit_4, lit_5, lit_6, lit_7, lit_8, lit_9, lit_10, lit_11, lit_12, lit_16, lit_17, lit_20, lit_31, lit_32, lit_40, lit_47, lit_48, lit_49, lit_57, lit_58, lit_60, lit_64, lit_68, lit_80, lit_97, lit_99, lit_100, lit_101, lit_104, lit_108, lit_109, lit_115, lit_117, lit_121, lit_127, lit_128, lit_140, lit_1000, lit_1000000, lit_1048576, bI_ret, bV_ret, bL_ret, bH_t, cond_true, z_0, z_1, retZ_tf, z_tf0, z_tf1, Decidable.not_not, Classical.not_not, nI_add, nI_clamp, n_le, n_lt, n_eq, nI_or, nI_and, z_sdf, of_nI]
      by_cases d : 40 ≤ snN v x y T hr
      · rw [if_pos d]
      · rw [if_neg d, if_pos (by omega)]
/-- who has it in the reference's count: the sender too -/
def hv (v : LV) (x T hr k : Nat) : Nat := 2 ^ x ||| hd v x T hr k
def fin (v : LV) (x y T z q : Nat) : Bool := q == y || mayB v q T && (v 1 q != 4 || z == x)
def hW (v : LV) (x y T hr k z q : Nat) : Bool := (hv v x T hr k).testBit z && metH v ((hr + k) % 8) z q && fin v x y T z q
theorem isO_4 (k : Nat) : isO k 4 = (k == 4) := by unfold isO; simp
theorem hv_lt (w : WF v) {x : Nat} (hx : x < v 0 0) (T hr k : Nat) : hv v x T hr k < 2 ^ 7 := or_lt (Nat.pow_lt_pow_right (by decide) (by have := w.1; omega)) (hd_lt w x T hr k)
theorem metH_lt (w : WF v) {t x y : Nat} (q : metH v t x y = true) : x < v 0 0 ∧ y < v 0 0 ∧ x ≠ y := met_lt w (metH_met q)
theorem hW_gets (w : WF v) {x y T hr k : Nat} (hx : x < v 0 0) (hy : y < v 0 0) : anyB (v 0 0) (fun z => hW v x y T hr k z y) = gets v x y T hr k := by
  have hn := w.1
  apply Bool.eq_iff_iff.mpr
  unfold gets
  rw [anyB_iff, Nat.testBit_or, Bool.or_eq_true, orM_tb, ms_tb, decide_eq_true (by omega), Bool.true_and]
  constructor
  · rintro ⟨z, hz, q⟩
    unfold hW hv at q
    rw [Bool.and_eq_true, Bool.and_eq_true, Nat.testBit_or, Bool.or_eq_true, tb_pow, decide_eq_true_eq] at q
    rcases q.1.1 with e | e
    · subst e; exact Or.inr q.1.2
    · exact Or.inl ⟨by omega, z, hz, e, q.1.2⟩
  · rintro (⟨-, z, hz, e, q⟩ | q)
    · exact ⟨z, hz, by simp [hW, hv, fin, e, q]⟩
    · exact ⟨x, hx, by simp [hW, hv, fin, q]⟩
theorem hW_next (w : WF v) {x y T hr k : Nat} (hx : x < v 0 0) (hy : y < v 0 0) (hg : gets v x y T hr k = false) : hv v x T hr k ||| ms (v 0 0) (fun q => anyB (v 0 0) (fun z => hW v x y T hr k z q)) = hv v x T hr (k + 1) := by
  have hn := w.1
  apply Nat.eq_of_testBit_eq
  intro i
  have hgy := hW_gets (T := T) (hr := hr) (k := k) w hx hy
  rw [hg] at hgy
  have hg2 := hg
  unfold gets at hg2
  rw [Nat.testBit_or, Bool.or_eq_false_iff] at hg2
  apply Bool.eq_iff_iff.mpr
  have e1 : (hv v x T hr (k + 1)).testBit i = true ↔ (x = i ∨ (hd v x T hr k).testBit i = true ∨ (i < 7 ∧ metH v ((hr + k) % 8) x i = true ∧ (sdf (car v T) (2 ^ x)).testBit i = true) ∨ ((orM (v 0 0) (metH v ((hr + k) % 8)) (hd v x T hr k)).testBit i = true ∧ (sdf (car v T) (2 ^ x)).testBit i = true ∧ (muts v).testBit i = false)) := by
    unfold hv
    show (2 ^ x ||| (hd v x T hr k ||| (_ ||| _))).testBit i = true ↔ _
    rw [Nat.testBit_or, Nat.testBit_or, Nat.testBit_or, Nat.testBit_and, Nat.testBit_and, sdf_tb (sdf (car v T) (2 ^ x)), ms_tb, tb_pow]
    simp only [Bool.or_eq_true, Bool.and_eq_true, decide_eq_true_eq, Bool.not_eq_true', and_assoc]
  rw [e1]
  have e2 : (hv v x T hr k ||| ms (v 0 0) (fun q => anyB (v 0 0) (fun z => hW v x y T hr k z q))).testBit i = true ↔ (x = i ∨ (hd v x T hr k).testBit i = true ∨ (i < v 0 0 ∧ ∃ z, z < v 0 0 ∧ hW v x y T hr k z i = true)) := by
    rw [Nat.testBit_or, ms_tb, Bool.or_eq_true, Bool.and_eq_true, decide_eq_true_eq, anyB_iff]
    unfold hv
    rw [Nat.testBit_or, tb_pow, Bool.or_eq_true, decide_eq_true_eq, or_assoc]
  rw [e2]
  have hfr : ∀ i, (sdf (car v T) (2 ^ x)).testBit i = true ↔ (i < v 0 0 ∧ mayB v i T = true ∧ x ≠ i) := fun i => by
    rw [sdf_tb, tb_pow]
    unfold car
    rw [ms_tb]
    simp only [Bool.and_eq_true, decide_eq_true_eq, Bool.not_eq_true', decide_eq_false_iff_not, and_assoc]
  have hmu : ∀ i, i < v 0 0 → ((muts v).testBit i = false ↔ v 1 i ≠ 4) := fun i hi => by
    unfold muts
    rw [ms_tb, decide_eq_true hi, Bool.true_and, isO_4]
    exact beq_eq_false_iff_ne
  constructor
  · rintro (q | q | ⟨hi, z, hz, q⟩)
    · exact Or.inl q
    · exact Or.inr (Or.inl q)
    · by_cases hxi : x = i
      · exact Or.inl hxi
      by_cases hiy : i = y
      · subst hiy
        have := (anyB_iff (P := fun z => hW v x i T hr k z i)).mpr ⟨z, hz, q⟩
        rw [hgy] at this
        cases this
      · unfold hW hv fin at q
        rw [Bool.and_eq_true, Bool.and_eq_true, Nat.testBit_or, Bool.or_eq_true, tb_pow, decide_eq_true_eq, beq_eq_false_iff_ne.mpr hiy, Bool.false_or, Bool.and_eq_true, Bool.or_eq_true, bne_iff_ne, beq_iff_eq] at q
        obtain ⟨⟨q1, q2⟩, q3, q4⟩ := q
        right; right
        rcases q1 with e | e
        · subst e
          exact Or.inl ⟨by omega, q2, (hfr i).mpr ⟨hi, q3, hxi⟩⟩
        · right
          have hzx := ((hfr z).mp (hd_free k e)).2.2
          have hm : v 1 i ≠ 4 := q4.resolve_right (fun z => hzx z.symm)
          exact ⟨orM_tb.mpr ⟨by omega, z, hz, e, q2⟩, (hfr i).mpr ⟨hi, q3, hxi⟩, (hmu i hi).mpr hm⟩
  · rintro (q | q | ⟨-, q1, q2⟩ | ⟨q1, q2, q3⟩)
    · exact Or.inl q
    · exact Or.inr (Or.inl q)
    · right; right
      obtain ⟨hi, hm, hne⟩ := (hfr i).mp q2
      exact ⟨hi, x, hx, by simp [hW, hv, fin, q1, hm]⟩
    · right; right
      obtain ⟨hi, hm, hne⟩ := (hfr i).mp q2
      obtain ⟨-, z, hz, e, q⟩ := orM_tb.mp q1
      have := (hmu i hi).mp q3
      exact ⟨hi, z, hz, by simp [hW, hv, fin, e, q, hm, this]⟩
theorem hv_y (w : WF v) {x y T hr : Nat} (hy : y < v 0 0) (hxy : x ≠ y) : ∀ k, (∀ j, j < k → gets v x y T hr j = false) → (hv v x T hr k).testBit y = false
  | 0, _ => by
    show (2 ^ x ||| 0).testBit y = false
    rw [Nat.or_zero, tb_pow]
    exact decide_eq_false hxy
  | k + 1, hg => by
    have ih := hv_y w hy hxy k (fun j hj => hg j (by omega))
    have g := hg k (by omega)
    unfold gets at g
    rw [Nat.testBit_or, Bool.or_eq_false_iff] at g
    unfold hv at ih ⊢
    rw [Nat.testBit_or, Bool.or_eq_false_iff] at ih
    show (2 ^ x ||| (hd v x T hr k ||| (_ ||| _))).testBit y = false
    rw [Nat.testBit_or, Nat.testBit_or, Nat.testBit_or, Nat.testBit_and, Nat.testBit_and, ih.1, ih.2, g.1, g.2]
    rfl
theorem m_soonOf (w : WF v) (r : MLd v h) {x y T hr : Nat} (hx : x < v 0 0) (hy : y < v 0 0) (hxy : x ≠ y) (hT : T < 32) (hh : hr < 100) : F_Mo_soonOf (nI x) (nI y) (nI T) (nI hr) h = retI (soonV v x y T hr) h := by
  have hn := w.1
  have hN := fst_le (gets v x y T hr) (snK hr)
  have hno := fst_no (gets v x y T hr) (snK hr)
  have hyes := fst_yes (gets v x y T hr) (snK hr)
  have hK : snK hr ≤ 40 ∧ hr + snK hr ≤ 100 ∧ (snK hr = 40 ∨ hr + snK hr = 100) := by unfold snK; omega
  unfold F_Mo_soonOf soonV
  simp (disch := first | assumption | omega) only [lit_0, lit_1, lit_2, lit_3, lit_4, lit_5, lit_6, lit_7, lit_8, lit_9, lit_10, lit_11, lit_12, lit_16, lit_17, lit_20, lit_31, lit_32, lit_40, lit_47, lit_48, lit_49, lit_57, lit_58, lit_60, lit_64, lit_68, lit_80, lit_97, lit_99, lit_100, lit_101, lit_104, lit_108, lit_109, lit_115, lit_117, lit_121, lit_127, lit_128, lit_140, lit_1000, lit_1000000, lit_1048576, bI_ret, bV_ret, bL_ret, bH_t, cond_true, z_0, z_1, retZ_tf, z_tf0, z_tf1, Decidable.not_not, Classical.not_not, nI_add, nI_clamp, n_le, n_lt, n_eq, nI_or, nI_and, z_sdf, of_nI, z_bit]
  have in2 : ∀ k, k < snK hr → ∀ κ8 κ32 z, z < v 0 0 → ∀ a, a < 2 ^ 7 → loopC (Mo_soonOf_71 κ8 κ32) FU (nI x, nI y, nI T, nI hr, nI (hv v x T hr k), nI k, nI a, nI z, nI (if (hv v x T hr k).testBit z = true then ms 7 (metH v ((hr + k) % 8) z) else 0), nI 0, h) = κ32 (nI x, nI y, nI T, nI hr, nI (hv v x T hr k), nI k, nI (a ||| ms (v 0 0) (fun q => hW v x y T hr k z q)), nI (z + 1), h) := by
    intro k hk κ8 κ32 z hz a ha
    have h31 : (if (hv v x T hr k).testBit z = true then ms 7 (metH v ((hr + k) % 8) z) else 0) < 2 ^ 31 := by
      split
      · exact Nat.lt_trans (ms_lt 7 _) (by decide)
      · decide
    have htb : ∀ i, i < v 0 0 → (if (hv v x T hr k).testBit z = true then ms 7 (metH v ((hr + k) % 8) z) else 0).testBit i = ((hv v x T hr k).testBit z && metH v ((hr + k) % 8) z i) := by
      intro i hi
      split
      · next c => rw [ms_tb, decide_eq_true (by omega), c]
      · next c => rw [Nat.zero_testBit]; simp [c]
    generalize (if (hv v x T hr k).testBit z = true then ms 7 (metH v ((hr + k) % 8) z) else 0) = near at *
    refine loop_for (N := v 0 0) (fun i => (nI x, nI y, nI T, nI hr, nI (hv v x T hr k), nI k, nI (a ||| ms i (fun q => hW v x y T hr k z q)), nI z, nI near, nI i, h)) (by show _ = (nI x, nI y, nI T, nI hr, nI (hv v x T hr k), nI k, nI (a ||| 0), nI z, nI near, nI 0, h); rw [Nat.or_zero]) (by show _ < 4096; omega) (fun i κ hi => ?_) (fun κ => ?_)
    · have e1 := htb i hi
      simp (disch := first | assumption | omega) only [Mo_soonOf_71, lit_0, lit_1, lit_2, lit_3, lit_4, lit_5, lit_6, lit_7, lit_8, lit_9, lit_10, lit_11, lit_12, lit_16, lit_17, lit_20, lit_31, lit_32, lit_40, lit_47, lit_48, lit_49, lit_57, lit_58, lit_60, lit_64, lit_68, lit_80, lit_97, lit_99, lit_100, lit_101, lit_104, lit_108, lit_109, lit_115, lit_117, lit_121, lit_127, lit_128, lit_140, lit_1000, lit_1000000, lit_1048576, bI_ret, bV_ret, bL_ret, bH_t, cond_true, z_0, z_1, retZ_tf, z_tf0, z_tf1, Decidable.not_not, Classical.not_not, nI_add, nI_clamp, n_le, n_lt, n_eq, nI_or, nI_and, z_sdf, of_nI, M_n r, m_has, e1, m_mayCarry w r hi hT, m_takes w r hi, z_bit, or_0, ms_s i]
      rw [if_neg (by omega)]
      unfold hW fin
      by_cases q1 : ((hv v x T hr k).testBit z && metH v ((hr + k) % 8) z i) = true
      · by_cases q2 : i = y
        · simp only [q1, if_pos q2, beq_iff_eq.mpr q2, not_true, if_false, if_true, Bool.true_or, Bool.true_and, Nat.or_assoc]
        · by_cases q4 : mayB v i T = true
          · by_cases q5 : v 1 i ≠ 4 ∨ z = x
            · have q6 : (v 1 i != 4 || z == x) = true := by simpa [bne_iff_ne] using q5
              simp only [q1, if_neg q2, beq_eq_false_iff_ne.mpr q2, q4, q5, q6, not_true, if_false, if_true, Bool.true_and, Bool.false_or, Nat.or_assoc]
            · have q6 : (v 1 i != 4 || z == x) = false := by
                cases z9 : (v 1 i != 4 || z == x) with
                | false => rfl
                | true => exact absurd (by simpa [bne_iff_ne] using z9) q5
              simp only [q1, if_neg q2, beq_eq_false_iff_ne.mpr q2, q4, q5, q6, not_true, not_false_iff, if_false, if_true, Bool.true_and, Bool.false_or, Bool.false_eq_true]
          · simp only [q1, if_neg q2, beq_eq_false_iff_ne.mpr q2, q4, not_true, not_false_iff, if_false, if_true, Bool.true_and, Bool.false_or, Bool.false_and, Bool.false_eq_true]
      · by_cases q2 : i = y
        · simp only [q1, if_pos q2, not_false_iff, if_true, Bool.false_and, Bool.false_eq_true, if_false]
        · simp only [q1, if_neg q2, not_false_iff, if_true, Bool.false_and, Bool.false_eq_true, if_false, ite_self]
    · simp (disch := first | assumption | omega) only [Mo_soonOf_71, lit_0, lit_1, lit_2, lit_3, lit_4, lit_5, lit_6, lit_7, lit_8, lit_9, lit_10, lit_11, lit_12, lit_16, lit_17, lit_20, lit_31, lit_32, lit_40, lit_47, lit_48, lit_49, lit_57, lit_58, lit_60, lit_64, lit_68, lit_80, lit_97, lit_99, lit_100, lit_101, lit_104, lit_108, lit_109, lit_115, lit_117, lit_121, lit_127, lit_128, lit_140, lit_1000, lit_1000000, lit_1048576, bI_ret, bV_ret, bL_ret, bH_t, cond_true, z_0, z_1, retZ_tf, z_tf0, z_tf1, Decidable.not_not, Classical.not_not, nI_add, nI_clamp, n_le, n_lt, n_eq, nI_or, nI_and, z_sdf, of_nI, M_n r, Nat.le_refl, if_true]
  have in1 : ∀ k, k < snK hr → (∀ j, j < k → gets v x y T hr j = false) → ∀ κ, loopC (Mo_soonOf_32 κ) FU (nI x, nI y, nI T, nI hr, nI (hv v x T hr k), nI k, nI (hv v x T hr k), nI 0, h) = if gets v x y T hr k = true then retI (nI (k + 1)) h else κ (nI x, nI y, nI T, nI hr, nI (hv v x T hr (k + 1)), nI (k + 1), h) := by
    intro k hk hg κ
    have hvl := hv_lt w hx T hr k
    have hv31 : hv v x T hr k < 2 ^ 31 := Nat.lt_trans hvl (by decide)
    have hacc : ∀ i, hv v x T hr k ||| ms (v 0 0) (fun q => anyB i (fun z => hW v x y T hr k z q)) < 2 ^ 7 := fun i => or_lt hvl (ms_7 w _)
    refine loop_for (N := v 0 0) (fun i => (nI x, nI y, nI T, nI hr, nI (hv v x T hr k), nI k, nI (hv v x T hr k ||| ms (v 0 0) (fun q => anyB i (fun z => hW v x y T hr k z q))), nI i, h)) ?_ (by show _ < 4096; omega) (fun i κ2 hi => ?_) (fun κ2 => ?_)
    · have : ms (v 0 0) (fun q => anyB 0 (fun z => hW v x y T hr k z q)) = 0 := by
        apply Nat.eq_of_testBit_eq
        intro i
        rw [ms_tb, Nat.zero_testBit]
        exact Bool.and_false _
      rw [this, Nat.or_zero]
    · have e2 := in2 k hk κ κ2 i hi _ (hacc i)
      have e3 : hv v x T hr k ||| ms (v 0 0) (fun q => anyB i (fun z => hW v x y T hr k z q)) ||| ms (v 0 0) (fun q => hW v x y T hr k i q) = hv v x T hr k ||| ms (v 0 0) (fun q => anyB (i + 1) (fun z => hW v x y T hr k z q)) := by
        rw [Nat.or_assoc, ms_or]
        rfl
      rw [e3] at e2
      simp (disch := first | assumption | omega) only [Mo_soonOf_32, lit_0, lit_1, lit_2, lit_3, lit_4, lit_5, lit_6, lit_7, lit_8, lit_9, lit_10, lit_11, lit_12, lit_16, lit_17, lit_20, lit_31, lit_32, lit_40, lit_47, lit_48, lit_49, lit_57, lit_58, lit_60, lit_64, lit_68, lit_80, lit_97, lit_99, lit_100, lit_101, lit_104, lit_108, lit_109, lit_115, lit_117, lit_121, lit_127, lit_128, lit_140, lit_1000, lit_1000000, lit_1048576, bI_ret, bV_ret, bL_ret, bH_t, cond_true, z_0, z_1, retZ_tf, z_tf0, z_tf1, Decidable.not_not, Classical.not_not, nI_add, nI_clamp, n_le, n_lt, n_eq, nI_or, nI_and, z_sdf, of_nI, M_n r, m_has, m_metBy w r hi]
      rw [if_neg (by omega)]
      by_cases q : (hv v x T hr k).testBit i = true
      · rw [if_pos q] at e2
        rw [if_neg (fun z => z q)]
        exact e2
      · rw [if_neg q] at e2
        rw [if_pos q]
        exact e2
    · have h31 : hv v x T hr k ||| ms (v 0 0) (fun q => anyB (v 0 0) (fun z => hW v x y T hr k z q)) < 2 ^ 31 := Nat.lt_trans (hacc _) (by decide)
      have e1 : (hv v x T hr k ||| ms (v 0 0) (fun q => anyB (v 0 0) (fun z => hW v x y T hr k z q))).testBit y = gets v x y T hr k := by
        rw [Nat.testBit_or, hv_y w hy hxy k hg, ms_tb, decide_eq_true hy, Bool.false_or, Bool.true_and]
        exact hW_gets w hx hy
      simp (disch := first | assumption | omega) only [Mo_soonOf_32, lit_0, lit_1, lit_2, lit_3, lit_4, lit_5, lit_6, lit_7, lit_8, lit_9, lit_10, lit_11, lit_12, lit_16, lit_17, lit_20, lit_31, lit_32, lit_40, lit_47, lit_48, lit_49, lit_57, lit_58, lit_60, lit_64, lit_68, lit_80, lit_97, lit_99, lit_100, lit_101, lit_104, lit_108, lit_109, lit_115, lit_117, lit_121, lit_127, lit_128, lit_140, lit_1000, lit_1000000, lit_1048576, bI_ret, bV_ret, bL_ret, bH_t, cond_true, z_0, z_1, retZ_tf, z_tf0, z_tf1, Decidable.not_not, Classical.not_not, nI_add, nI_clamp, n_le, n_lt, n_eq, nI_or, nI_and, z_sdf, of_nI, M_n r, m_has, e1, Nat.le_refl, if_true]
      by_cases q : gets v x y T hr k = true
      · rw [if_neg (fun z => z q), if_pos q]
      · rw [if_pos q, if_neg q, hW_next w hx hy (by simpa using q)]
  refine loop_for (N := snN v x y T hr) (fun k => (nI x, nI y, nI T, nI hr, nI (hv v x T hr k), nI k, h)) (by show _ = (nI x, nI y, nI T, nI hr, nI (2 ^ x ||| 0), nI 0, h); rw [Nat.or_zero]) (by unfold snN; show _ < 4096; omega) (fun k κ hi => ?_) (fun κ => ?_)
  · have hi : k < fst (gets v x y T hr) (snK hr) := hi
    simp (disch := first | assumption | omega) only [Mo_soonOf_8, lit_0, lit_1, lit_2, lit_3, lit_4, lit_5, lit_6, lit_7, lit_8, lit_9, lit_10, lit_11, lit_12, lit_16, lit_17, lit_20, lit_31, lit_32, lit_40, lit_47, lit_48, lit_49, lit_57, lit_58, lit_60, lit_64, lit_68, lit_80, lit_97, lit_99, lit_100, lit_101, lit_104, lit_108, lit_109, lit_115, lit_117, lit_121, lit_127, lit_128, lit_140, lit_1000, lit_1000000, lit_1048576, bI_ret, bV_ret, bL_ret, bH_t, cond_true, z_0, z_1, retZ_tf, z_tf0, z_tf1, Decidable.not_not, Classical.not_not, nI_add, nI_clamp, n_le, n_lt, n_eq, nI_or, nI_and, z_sdf, of_nI, in1 k (by omega) (fun j hj => hno j (by omega)) κ]
    rw [if_neg (by omega), if_neg (by omega), if_neg (by rw [hno k hi]; decide)]
  · have hN : snN v x y T hr ≤ snK hr := hN
    by_cases c : snN v x y T hr < snK hr
    · rw [if_pos c]
      simp (disch := first | assumption | omega) only [Mo_soonOf_8, lit_0, lit_1, lit_2, lit_3, lit_4, lit_5, lit_6, lit_7, lit_8, lit_9, lit_10, lit_11, lit_12, lit_16, lit_17, lit_20, lit_31, lit_32, lit_40, lit_47, lit_48, lit_49, lit_57, lit_58, lit_60, lit_64, lit_68, lit_80, lit_97, lit_99, lit_100, lit_101, lit_104, lit_108, lit_109, lit_115, lit_117, lit_121, lit_127, lit_128, lit_140, lit_1000, lit_1000000, lit_1048576, bI_ret, bV_ret, bL_ret, bH_t, cond_true, z_0, z_1, retZ_tf, z_tf0, z_tf1, Decidable.not_not, Classical.not_not, nI_add, nI_clamp, n_le, n_lt, n_eq, nI_or, nI_and, z_sdf, of_nI, in1 _ c (fun j hj => hno j hj) κ]
      have hy9 : gets v x y T hr (snN v x y T hr) = true := hyes c
      rw [if_neg (by omega), if_neg (by omega), if_pos hy9]
    · rw [if_neg c]
      simp (disch := first | assumption | omega) only [Mo_soonOf_8, lit_0, lit_1, lit_2, lit_3, lit_4, lit_5, lit_6, lit_7, lit_8, lit_9, lit_10, lit_11, lit_12, lit_16, lit_17, lit_20, lit_31, lit_32, lit_40, lit_47, lit_48, lit_49, lit_57, lit_58, lit_60, lit_64, lit_68, lit_80, lit_97, lit_99, lit_100, lit_101, lit_104, lit_108, lit_109, lit_115, lit_117, lit_121, lit_127, lit_128, lit_140, lit_1000, lit_1000000, lit_1048576, bI_ret, bV_ret, bL_ret, bH_t, cond_true, z_0, z_1, retZ_tf, z_tf0, z_tf1, Decidable.not_not, Classical.not_not, nI_add, nI_clamp, n_le, n_lt, n_eq, nI_or, nI_and, z_sdf, of_nI]
      by_cases d : 40 ≤ snN v x y T hr
      · rw [if_pos d]
      · rw [if_neg d, if_pos (by omega)]
end SOON
