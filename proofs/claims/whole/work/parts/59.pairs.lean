/-! PAIRS, on both sides -/
/-- what calls write that nobody reads later -/
def scr (a j : Nat) : Prop := (32 ≤ a ∧ a ≤ 60) ∨ (63 ≤ a ∧ a ≤ 69) ∨ a = 182 ∨ (189 ≤ a ∧ a ≤ 191) ∨ (193 ≤ a ∧ a ≤ 196) ∨ (a = 178 ∧ ((16 ≤ j ∧ j ≤ 18) ∨ (25 ≤ j ∧ j ≤ 28) ∨ j = 30))
def frS (h h' : Hp) : Prop := ∀ a j, ¬ scr a j → hg h' a j = hg h a j
theorem frS_rf (h : Hp) : frS h h := fun _ _ _ => rfl
theorem frS_tr {h1 h2 h3 : Hp} (a : frS h1 h2) (b : frS h2 h3) : frS h1 h3 := fun c j q => (b c j q).trans (a c j q)
theorem frS_hs {h : Hp} {a k : Nat} {x : Int32} (q : scr a k) : frS h (hs h a k x) := fun b j n => by
  rw [hg_hs2, if_neg]
  rintro ⟨rfl, rfl⟩
  exact n q
theorem frS_C {h h' : Hp} (q : frC h h') : frS h h' := fun a j n => q a j (fun z => n (by unfold scr; omega))
theorem frS_W {h h' : Hp} (q : frW h h') : frS h h' := fun a j n => q a j (fun z => n (by unfold wW at z; unfold scr; omega))
theorem CLd_S {v : LV} {h h' : Hp} (w : WF v) (r : CLd 3 v h) (q : frS h h') : CLd 3 v h' := CLd_ag r (fun a j h1 h2 => q a j (by unfold scr; omega)) (wf_l w)
theorem MLd_S {v : LV} {h h' : Hp} (r : MLd v h) (q : frS h h') : MLd v h' := MLd_ag r fun a j f => q a j (by unfold fpM at f; unfold scr; omega)
def sumN : Nat → (Nat → Nat) → Nat
  | 0, _ => 0
  | n + 1, f => sumN n f + f n
theorem sumN_s (n : Nat) (f : Nat → Nat) : sumN (n + 1) f = sumN n f + f n := rfl
theorem sumN_le {n b : Nat} {f : Nat → Nat} (h : ∀ i, i < n → f i ≤ b) : sumN n f ≤ n * b := by
  induction n with
  | zero => exact Nat.zero_le _
  | succ n ih =>
    have h1 := ih (fun i hi => h i (by omega))
    have h2 := h n (Nat.lt_succ_self n)
    rw [sumN_s, Nat.succ_mul]
    omega
theorem sumN_cong {n : Nat} {f g : Nat → Nat} (h : ∀ i, i < n → f i = g i) : sumN n f = sumN n g := by
  induction n with
  | zero => rfl
  | succ n ih => rw [sumN_s, sumN_s, ih (fun i hi => h i (by omega)), h n (Nat.lt_succ_self n)]
/-- one writes to another one in a tongue; there is a way -/
def wrB (v : LV) (x y t : Nat) : Bool := y != x && ((v 2 x).testBit t && (v 2 y).testBit t)
def wayB (v : LV) (x y t : Nat) : Bool := wrB v x y t && !(aw v x y (2 ^ t) 0).isEmpty
def comB (v : LV) (x y : Nat) : Bool := anyB 5 (fun t => wrB v x y t)
def cofB (v : LV) (x y : Nat) : Bool := comB v x y && !anyB 5 (fun t => wayB v x y t)
def allP (v : LV) : Nat := sumN (v 0 0) (fun x => cnt (v 0 0) (comB v x))
def cutP (v : LV) : Nat := sumN (v 0 0) (fun x => cnt (v 0 0) (cofB v x))
theorem pow5 {t : Nat} (h : t < 5) : 2 ^ t < 32 := Nat.pow_lt_pow_right (by decide) h
theorem emp_iff {α : Type} {l : List α} : (!l.isEmpty) = true ↔ l ≠ [] := by cases l <;> simp
theorem ms_and (n : Nat) (P Q : Nat → Bool) : ms n P &&& ms n Q = ms n (fun y => P y && Q y) := by
  apply Nat.eq_of_testBit_eq
  intro i
  rw [Nat.testBit_and, ms_tb, ms_tb, ms_tb]
  cases decide (i < n) <;> rfl
theorem ms_sdf (n : Nat) (P Q : Nat → Bool) : sdf (ms n P) (ms n Q) = ms n (fun y => P y && !Q y) := by
  apply Nat.eq_of_testBit_eq
  intro i
  rw [sdf_tb, ms_tb, ms_tb, ms_tb]
  cases decide (i < n) <;> rfl
theorem ms_0 {n : Nat} {P : Nat → Bool} : ms n P = 0 ↔ ∀ i, i < n → P i = false := by
  constructor
  · intro h i hi
    have : (ms n P).testBit i = false := by rw [h, Nat.zero_testBit]
    rw [ms_tb, decide_eq_true hi, Bool.true_and] at this
    exact this
  · intro h
    apply Nat.eq_of_testBit_eq
    intro i
    rw [ms_tb, Nat.zero_testBit]
    by_cases c : i < n
    · rw [h i c, Bool.and_false]
    · rw [decide_eq_false c, Bool.false_and]
section CPAIRS
variable {v : LV} {h : Hp}
theorem c_writtenBy (w : WF v) (r : CLd 3 v h) {x t : Nat} (hx : x < v 0 0) (ht : t < 5) : F_Pa_writtenBy (nI x) (nI t) h = retI (nI (ms (v 0 0) (fun y => wrB v x y t))) h := by
  have hn := w.1
  have hw := wf_w w hx
  unfold F_Pa_writtenBy
  simp (disch := first | assumption | omega) only [oA_18, oA_65, oA_66, oA_67, oA_69, oA_4, oA_5, lit_0, lit_1, lit_2, lit_3, lit_4, lit_5, lit_6, lit_7, lit_8, lit_9, lit_10, lit_11, lit_12, lit_16, lit_17, lit_20, lit_31, lit_32, lit_40, lit_47, lit_48, lit_49, lit_57, lit_58, lit_60, lit_64, lit_68, lit_80, lit_97, lit_99, lit_100, lit_101, lit_104, lit_108, lit_109, lit_115, lit_117, lit_121, lit_127, lit_128, lit_140, lit_1000, lit_1000000, lit_1048576, bI_ret, bV_ret, bL_ret, bH_t, cond_true, z_0, z_1, retZ_tf, z_tf0, z_tf1, Decidable.not_not, Classical.not_not, nI_add, nI_clamp, n_le, n_lt, n_eq, nI_or, nI_and, z_sdf, of_nI, L3_w r, c_has, c_knowers isL_3 w r ht, c_bit]
  by_cases q : (v 2 x).testBit t = true
  · rw [if_neg (fun z => z q)]
    congr 2
    refine (ms_of (n := v 0 0) (sdf_lt (ms_lt _ _)) fun i hi => ?_)
    rw [sdf_tb, ms_tb, tb_pow, decide_eq_true hi]
    unfold wrB
    rw [q]
    by_cases e : x = i
    · subst e; simp
    · rw [decide_eq_false e, bne_iff_ne.mpr (fun z : i = x => e z.symm)]
      simp
  · rw [if_pos q]
    congr 2
    symm
    rw [ms_0]
    intro i _
    unfold wrB
    simp only [Bool.not_eq_true] at q
    rw [q]
    simp
theorem c_reachedBy (w : WF v) (r : CLd 3 v h) {x t : Nat} (hx : x < v 0 0) (ht : t < 5) : F_Pa_reachedBy (nI x) (nI t) h = retI (nI (ms (v 0 0) (fun y => wayB v x y t))) h := by
  have hn := w.1
  have h5 := pow5 ht
  have hms := ms_31 (n := v 0 0) (by omega) (fun y => wrB v x y t)
  have hc : F_Wa_carriers (nI (2 ^ t)) h = retI (nI (car v (2 ^ t))) h := c_carriers w r h5
  unfold F_Pa_reachedBy
  simp (disch := first | assumption | omega) only [lit_0, lit_1, lit_2, lit_3, lit_4, lit_5, lit_6, lit_7, lit_8, lit_9, lit_10, lit_11, lit_12, lit_16, lit_17, lit_20, lit_31, lit_32, lit_40, lit_47, lit_48, lit_49, lit_57, lit_58, lit_60, lit_64, lit_68, lit_80, lit_97, lit_99, lit_100, lit_101, lit_104, lit_108, lit_109, lit_115, lit_117, lit_121, lit_127, lit_128, lit_140, lit_1000, lit_1000000, lit_1048576, bI_ret, bV_ret, bL_ret, bH_t, cond_true, z_0, z_1, retZ_tf, z_tf0, z_tf1, Decidable.not_not, Classical.not_not, nI_add, nI_clamp, n_le, n_lt, n_eq, nI_or, nI_and, z_sdf, of_nI, c_writtenBy w r hx ht, c_bit, hc, c_endsFrom w r hx (car_lt w (2 ^ t))]
  by_cases q : ms (v 0 0) (fun y => wrB v x y t) = 0
  · rw [if_pos q]
    congr 2
    symm
    rw [ms_0] at q ⊢
    intro i hi
    unfold wayB
    rw [q i hi]
    rfl
  · rw [if_neg q]
    congr 2
    refine ms_of (n := v 0 0) (and_lt _ (ms_lt _ _)) fun i hi => ?_
    rw [Nat.testBit_and, ms_tb, decide_eq_true hi, Bool.true_and]
    unfold wayB
    by_cases e : i = x
    · have : wrB v x i t = false := by unfold wrB; rw [e]; simp
      rw [this]
      rfl
    · congr 1
      apply Bool.eq_iff_iff.mpr
      rw [ends_aw w hx hi (fun z => e z.symm), emp_iff]
theorem c_tally (w : WF v) (r : CLd 3 v h) : ∃ h', F_Pa_tally h = retV h' ∧ hg h' 68 3 = nI (allP v) ∧ hg h' 68 4 = nI (cutP v) ∧ frC h h' := by
  have hn := w.1
  unfold F_Pa_tally
  simp (disch := first | assumption | omega) only [lit_0, lit_1, lit_2, lit_3, lit_4, lit_5, lit_6, lit_7, lit_8, lit_9, lit_10, lit_11, lit_12, lit_16, lit_17, lit_20, lit_31, lit_32, lit_40, lit_47, lit_48, lit_49, lit_57, lit_58, lit_60, lit_64, lit_68, lit_80, lit_97, lit_99, lit_100, lit_101, lit_104, lit_108, lit_109, lit_115, lit_117, lit_121, lit_127, lit_128, lit_140, lit_1000, lit_1000000, lit_1048576, bI_ret, bV_ret, bL_ret, bH_t, cond_true, z_0, z_1, retZ_tf, z_tf0, z_tf1, Decidable.not_not, Classical.not_not, nI_add, nI_clamp, n_le, n_lt, n_eq, nI_or, nI_and, z_sdf, of_nI]
  refine Exists.elim (loop_all (K := Unit) (b := fun _ => Pa_tally_12) (N := v 0 0) (n := FU) (s0 := (nI 0, hs (hs h 68 3 (nI 0)) 68 4 (nI 0))) (fun i s => ∃ g, s = (nI i, g) ∧ hg g 68 3 = nI (sumN i (fun x => cnt (v 0 0) (comB v x))) ∧ hg g 68 4 = nI (sumN i (fun x => cnt (v 0 0) (cofB v x))) ∧ frC h g) ⟨_, rfl, by rw [hg_hs_k (by decide), hg_hs_eq]; rfl, hg_hs_eq _ _ _ _, frC_tr (frC_hs (by omega)) (frC_hs (by omega))⟩ (by show _ < 4096; omega) ?_) ?_
  · rintro i s hi ⟨g, rfl, p1, p2, p3⟩
    have rg := CLd_C w r p3
    have hb1 := sumN_le (n := i) (f := fun x => cnt (v 0 0) (comB v x)) (b := 7) (fun j _ => Nat.le_trans (cnt_le _ _) hn)
    have inner : ∀ κ, loopC (Pa_tally_30 κ) FU (nI i, nI 0, nI 0, nI 0, g) = κ (nI (i + 1), hs (hs g 68 3 (nI (sumN (i + 1) (fun x => cnt (v 0 0) (comB v x))))) 68 4 (nI (sumN (i + 1) (fun x => cnt (v 0 0) (cofB v x))))) := by
      intro κ
      refine loop_for (N := 5) (fun t => (nI i, nI (ms (v 0 0) (fun y => anyB t (fun t => wrB v i y t))), nI (ms (v 0 0) (fun y => anyB t (fun t => wayB v i y t))), nI t, g)) ?_ (by show _ < 4096; omega) (fun t κ2 ht => ?_) (fun κ2 => ?_)
      · have e0 : ∀ P : Nat → Nat → Bool, ms (v 0 0) (fun y => anyB 0 (fun t => P y t)) = 0 := fun P => ms_0.mpr fun _ _ => rfl
        rw [e0, e0]
      · simp (disch := first | assumption | omega) only [Pa_tally_30, lit_0, lit_1, lit_2, lit_3, lit_4, lit_5, lit_6, lit_7, lit_8, lit_9, lit_10, lit_11, lit_12, lit_16, lit_17, lit_20, lit_31, lit_32, lit_40, lit_47, lit_48, lit_49, lit_57, lit_58, lit_60, lit_64, lit_68, lit_80, lit_97, lit_99, lit_100, lit_101, lit_104, lit_108, lit_109, lit_115, lit_117, lit_121, lit_127, lit_128, lit_140, lit_1000, lit_1000000, lit_1048576, bI_ret, bV_ret, bL_ret, bH_t, cond_true, z_0, z_1, retZ_tf, z_tf0, z_tf1, Decidable.not_not, Classical.not_not, nI_add, nI_clamp, n_le, n_lt, n_eq, nI_or, nI_and, z_sdf, of_nI, c_writtenBy w rg hi ht, c_reachedBy w rg hi ht, ms_or, anyB_s t]
        rw [if_neg (by omega)]
      · have k1 := ms_1024 (n := v 0 0) (by omega) (fun y => anyB 5 (fun t => wrB v i y t))
        have k2 := ms_1024 (n := v 0 0) (by omega) (fun y => anyB 5 (fun t => wrB v i y t) && !anyB 5 (fun t => wayB v i y t))
        simp (disch := first | assumption | omega) only [Pa_tally_30, lit_0, lit_1, lit_2, lit_3, lit_4, lit_5, lit_6, lit_7, lit_8, lit_9, lit_10, lit_11, lit_12, lit_16, lit_17, lit_20, lit_31, lit_32, lit_40, lit_47, lit_48, lit_49, lit_57, lit_58, lit_60, lit_64, lit_68, lit_80, lit_97, lit_99, lit_100, lit_101, lit_104, lit_108, lit_109, lit_115, lit_117, lit_121, lit_127, lit_128, lit_140, lit_1000, lit_1000000, lit_1048576, bI_ret, bV_ret, bL_ret, bH_t, cond_true, z_0, z_1, retZ_tf, z_tf0, z_tf1, Decidable.not_not, Classical.not_not, nI_add, nI_clamp, n_le, n_lt, n_eq, nI_or, nI_and, z_sdf, of_nI, ms_sdf, c_bits, pop_ms (show v 0 0 ≤ 10 by omega), p1, p2, hg_hs_k, Nat.le_refl, if_true]
        rfl
    refine ⟨(nI (i + 1), hs (hs g 68 3 (nI (sumN (i + 1) (fun x => cnt (v 0 0) (comB v x))))) 68 4 (nI (sumN (i + 1) (fun x => cnt (v 0 0) (cofB v x))))), ⟨_, rfl, ?_, ?_, frC_tr p3 (frC_tr (frC_hs (by omega)) (frC_hs (by omega)))⟩, fun k κ => ?_⟩
    · rw [hg_hs_k (by decide), hg_hs_eq]
    · exact hg_hs_eq _ _ _ _
    · simp (disch := first | assumption | omega) only [Pa_tally_12, lit_0, lit_1, lit_2, lit_3, lit_4, lit_5, lit_6, lit_7, lit_8, lit_9, lit_10, lit_11, lit_12, lit_16, lit_17, lit_20, lit_31, lit_32, lit_40, lit_47, lit_48, lit_49, lit_57, lit_58, lit_60, lit_64, lit_68, lit_80, lit_97, lit_99, lit_100, lit_101, lit_104, lit_108, lit_109, lit_115, lit_117, lit_121, lit_127, lit_128, lit_140, lit_1000, lit_1000000, lit_1048576, bI_ret, bV_ret, bL_ret, bH_t, cond_true, z_0, z_1, retZ_tf, z_tf0, z_tf1, Decidable.not_not, Classical.not_not, nI_add, nI_clamp, n_le, n_lt, n_eq, nI_or, nI_and, z_sdf, of_nI, L_n rg, inner]
      rw [if_neg (by omega)]
  · rintro s ⟨⟨g, rfl, p1, p2, p3⟩, q⟩
    have rg := CLd_C w r p3
    refine ⟨g, q () _ fun κ => ?_, p1, p2, p3⟩
    simp (disch := first | assumption | omega) only [Pa_tally_12, lit_0, lit_1, lit_2, lit_3, lit_4, lit_5, lit_6, lit_7, lit_8, lit_9, lit_10, lit_11, lit_12, lit_16, lit_17, lit_20, lit_31, lit_32, lit_40, lit_47, lit_48, lit_49, lit_57, lit_58, lit_60, lit_64, lit_68, lit_80, lit_97, lit_99, lit_100, lit_101, lit_104, lit_108, lit_109, lit_115, lit_117, lit_121, lit_127, lit_128, lit_140, lit_1000, lit_1000000, lit_1048576, bI_ret, bV_ret, bL_ret, bH_t, cond_true, z_0, z_1, retZ_tf, z_tf0, z_tf1, Decidable.not_not, Classical.not_not, nI_add, nI_clamp, n_le, n_lt, n_eq, nI_or, nI_and, z_sdf, of_nI, L_n rg, Nat.le_refl, if_true]
end CPAIRS
/-! a land in which one is taught -/
theorem vs_ne {v : LV} {f i x g j : Nat} (h : g ≠ f) : vs v f i x g j = v g j := if_neg (fun z => h z.1)
theorem vs_eq {v : LV} {f i x : Nat} : vs v f i x f i = x := if_pos ⟨rfl, rfl⟩
theorem vs_k {v : LV} {f i x g j : Nat} (h : j ≠ i) : vs v f i x g j = v g j := if_neg (fun z => h z.2)
section TEACH
variable {v : LV} {h : Hp} {x a : Nat}
theorem vs2 (g j : Nat) (h : g ≠ 2) : vs v 2 x a g j = v g j := vs_ne h
theorem wf_vs2 (w : WF v) (ha : a < 32) : WF (vs v 2 x a) := by
  obtain ⟨a1, a2, a3, a4, a5, a6, a7⟩ := w
  refine ⟨a1, fun y hy => ⟨(a2 y hy).1, ?_⟩, a3, a4, a5, a6, fun k hk => ?_⟩
  case refine_2 =>
    have e1 : ∀ k j, vs v 2 x a (20 + k) j = v (20 + k) j := fun k j => vs_ne (by omega)
    have e2 : ∀ k j, vs v 2 x a (30 + k) j = v (30 + k) j := fun k j => vs_ne (by omega)
    have := a7 k hk
    simp only [e1, e2]
    exact this
  by_cases e : y = x
  · subst e; rw [vs_eq]; exact ha
  · rw [vs_k e]; exact (a2 y hy).2
theorem met_vs2 : met (vs v 2 x a) = met v := rfl
theorem metH_vs2 : metH (vs v 2 x a) = metH v := rfl
theorem CLd_vs2 (r : CLd 3 v h) (h4 : v 8 0 ≤ 4) : CLd 3 (vs v 2 x a) (hs h 5 x (nI a)) := by
  have e : ∀ b j, b ≠ 5 → hg (hs h 5 x (nI a)) b j = hg h b j := fun b j q => hg_hs_a q
  obtain ⟨⟨a1, a2, a3, a4⟩, b, c, d, e5, f⟩ := r
  refine ⟨⟨?_, ?_, ?_, ?_⟩, fun y hy => ⟨?_, ?_⟩, fun k hk => ⟨?_, ?_, ?_⟩, fun t y ht hy => ?_, fun y hy => ?_, fun k hk => ?_⟩
  · rw [e _ _ (by decide)]; exact a1
  · rw [e _ _ (by decide)]; exact a2
  · rw [e _ _ (by decide)]; exact a3
  · rw [e _ _ (by decide)]; exact a4
  · rw [e _ _ (by decide)]; exact (b y hy).1
  · by_cases q : y = x
    · subst q
      rw [vs_eq]
      exact hg_hs_eq h 5 y (nI a)
    · rw [vs_k q]
      exact (hg_hs_k q).trans (b y hy).2
  · rw [e _ _ (by decide)]; exact (c k hk).1
  · rw [e _ _ (by decide)]; exact (c k hk).2.1
  · rw [e _ _ (by decide)]; exact (c k hk).2.2
  · rw [e _ _ (by omega)]; exact d t y ht hy
  · rw [e _ _ (by decide)]; exact e5 y hy
  · have hk : k < v 8 0 := hk
    obtain ⟨g1, g2, g3, g4⟩ := f k hk
    refine ⟨?_, ?_, ?_, fun j hj => ⟨?_, ?_⟩⟩
    · rw [e _ _ (by omega)]; exact g1
    · rw [e _ _ (by omega)]; exact g2
    · rw [e _ _ (by omega)]; exact g3
    · rw [e _ _ (by omega)]
      exact (g4 j hj).1.trans (by rw [vs_ne (by omega)])
    · rw [e _ _ (by omega)]
      exact (g4 j hj).2.trans (by rw [vs_ne (by omega)])
theorem MLd_vs2 (r : MLd v h) : MLd (vs v 2 x a) (hs h 186 x (nI a)) := by
  have e : ∀ b j, b ≠ 186 → hg (hs h 186 x (nI a)) b j = hg h b j := fun b j q => hg_hs_a q
  obtain ⟨⟨a1, a2, a3, a4⟩, b, c, f⟩ := r
  refine ⟨⟨?_, ?_, ?_, ?_⟩, fun y hy => ⟨?_, ?_⟩, fun k hk => ⟨?_, ?_, ?_⟩, fun k hk => ⟨?_, ?_, ?_, fun j hj => ⟨?_, ?_⟩⟩⟩
  · rw [e _ _ (by decide)]; exact a1
  · rw [e _ _ (by decide)]; exact a2
  · rw [e _ _ (by decide)]; exact a3
  · rw [e _ _ (by decide)]; exact a4
  · rw [e _ _ (by decide)]; exact (b y hy).1
  · by_cases q : y = x
    · subst q
      rw [vs_eq]
      exact hg_hs_eq h 186 y (nI a)
    · rw [vs_k q]
      exact (hg_hs_k q).trans (b y hy).2
  · rw [e _ _ (by decide)]; exact (c k hk).1
  · rw [e _ _ (by decide)]; exact (c k hk).2.1
  · rw [e _ _ (by decide)]; exact (c k hk).2.2
  · rw [e _ _ (by decide)]; exact (f k hk).1
  · rw [e _ _ (by decide)]; exact (f k hk).2.1
  · rw [e _ _ (by decide)]; exact (f k hk).2.2.1
  · rw [e _ _ (by decide)]
    exact ((f k hk).2.2.2 j hj).1.trans (by rw [vs_ne (by omega)])
  · rw [e _ _ (by decide)]
    exact ((f k hk).2.2.2 j hj).2.trans (by rw [vs_ne (by omega)])
end TEACH
def learns (v : LV) (x t : Nat) : LV := vs v 2 x (v 2 x ||| 2 ^ t)
theorem learns_lt {v : LV} (w : WF v) {x t : Nat} (hx : x < v 0 0) (ht : t < 5) : v 2 x ||| 2 ^ t < 32 := or_lt (n := 5) (wf_w w hx) (Nat.pow_lt_pow_right (by decide) ht)
theorem c_cutIf {v : LV} {h : Hp} (w : WF v) (r : CLd 3 v h) {x t : Nat} (hx : x < v 0 0) (ht : t < 5) : ∃ h', F_Pa_cutIfKnown (nI x) (nI t) h = retI (nI (cutP (learns v x t))) h' ∧ frC h h' := by
  have hn := w.1
  have hw := wf_w w hx
  have hlt := learns_lt w hx ht
  unfold F_Pa_cutIfKnown
  simp (disch := first | assumption | omega) only [oA_18, oA_65, oA_66, oA_67, oA_69, oA_4, oA_5, lit_0, lit_1, lit_2, lit_3, lit_4, lit_5, lit_6, lit_7, lit_8, lit_9, lit_10, lit_11, lit_12, lit_16, lit_17, lit_20, lit_31, lit_32, lit_40, lit_47, lit_48, lit_49, lit_57, lit_58, lit_60, lit_64, lit_68, lit_80, lit_97, lit_99, lit_100, lit_101, lit_104, lit_108, lit_109, lit_115, lit_117, lit_121, lit_127, lit_128, lit_140, lit_1000, lit_1000000, lit_1048576, bI_ret, bV_ret, bL_ret, bH_t, cond_true, z_0, z_1, retZ_tf, z_tf0, z_tf1, Decidable.not_not, Classical.not_not, nI_add, nI_clamp, n_le, n_lt, n_eq, nI_or, nI_and, z_sdf, of_nI, L3_w r, c_bit]
  have w' : WF (learns v x t) := wf_vs2 w hlt
  have r' : CLd 3 (learns v x t) (hs h 5 x (nI (v 2 x ||| 2 ^ t))) := CLd_vs2 r (wf_l w)
  obtain ⟨g, k1, k2, k3, k4⟩ := c_tally w' r'
  refine ⟨hs g 5 x (nI (v 2 x)), ?_, fun a j n => ?_⟩
  · rw [k1, bV_ret, hg_hs_a (by decide), k3]
  · by_cases e : a = 5 ∧ j = x
    · rw [e.1, e.2, hg_hs_eq, L3_w r hx]
    · rw [hg_hs2, if_neg e, k4 a j n, hg_hs2, if_neg e]
