/-! PAIRS: lost without one; the least tongues (the given one) -/
def b2n (b : Bool) : Nat := if b = true then 1 else 0
theorem cnt_sum (n : Nat) (P : Nat → Bool) : cnt n P = sumN n (fun i => b2n (P i)) := by
  induction n with
  | zero => rfl
  | succ n ih =>
    rw [cnt_s, sumN_s, ih]
    unfold b2n
    split <;> rfl
theorem sumN_add (n : Nat) (f g : Nat → Nat) : sumN n (fun i => f i + g i) = sumN n f + sumN n g := by
  induction n with
  | zero => rfl
  | succ n ih => rw [sumN_s, sumN_s, sumN_s, ih]; omega
theorem sumN_0 (n : Nat) : sumN n (fun _ => 0) = 0 := by
  induction n with
  | zero => rfl
  | succ n ih => rw [sumN_s, ih]
theorem sumN_swap (n m : Nat) (f : Nat → Nat → Nat) : sumN n (fun i => sumN m (fun j => f i j)) = sumN m (fun j => sumN n (fun i => f i j)) := by
  induction n with
  | zero => exact (sumN_0 m).symm
  | succ n ih =>
    rw [sumN_s, ih, ← sumN_add]
    rfl
/-- a letter that needs one -/
def lostB (v : LV) (c a b t : Nat) : Bool := wayB v a b t && (eachOf (aw v a b (2 ^ t) 0)).testBit c
def lostP (v : LV) (c : Nat) : Nat := sumN 5 (fun t => sumN (v 0 0) (fun a => cnt (v 0 0) (fun b => lostB v c a b t)))
theorem z_sar1 (a : Nat) {k : Nat} (hk : k < 32) : nI a >>> nI (k &&& 31) &&& nI 1 = nI (if a.testBit k = true then 1 else 0) := by
  rw [← nI_and]
  show nI a >>> (nI k &&& 31) &&& nI 1 = _
  apply b_ext
  intro i hi
  rw [b_and, b_sshr k hk _ hi, bt_nI hi, bt_nI hi]
  cases i with
  | zero =>
    rw [if_pos (by omega), bt_nI (by omega), Nat.add_zero]
    cases a.testBit k <;> rfl
  | succ i =>
    have e1 : (1 : Nat).testBit (i + 1) = false := by rw [show (1 : Nat) = 2 ^ 0 from rfl, tb_pow]; exact decide_eq_false (by omega)
    have e2 : (if a.testBit k = true then 1 else 0 : Nat).testBit (i + 1) = false := by
      split
      · exact e1
      · exact Nat.zero_testBit _
    rw [e1, e2, Bool.and_false]
def tgs (v : LV) (x y : Nat) : Nat := ms 5 (fun t => wayB v x y t)
theorem tgs_lt (v : LV) (x y : Nat) : tgs v x y < 32 := ms_lt 5 _
def hitB (v : LV) (s : Nat) : Bool := !anyB (v 0 0) (fun x => anyB (v 0 0) (fun y => tgs v x y != 0 && (tgs v x y &&& s) == 0))
def chs (v : LV) : Nat := ms 32 (fun c => c != 0 && anyB (v 0 0) (fun x => anyB (v 0 0) (fun y => tgs v x y == c)))
def ltT (v : LV) : Nat → Nat
  | 0 => 31
  | i + 1 => if pop i < pop (ltT v i) ∧ hitB v i = true then i else ltT v i
section CP2
variable {v : LV} {h : Hp}
theorem lost_end (w : WF v) {c a b t : Nat} (ha : a < v 0 0) (hb : b < v 0 0) (ht : t < 5) (hc : c = a ∨ c = b) : lostB v c a b t = false := by
  unfold lostB
  cases q : wayB v a b t with
  | false => rfl
  | true =>
    unfold wayB at q
    rw [Bool.and_eq_true, emp_iff] at q
    have hab : a ≠ b := by
      have := q.1
      unfold wrB at this
      rw [Bool.and_eq_true, bne_iff_ne] at this
      exact fun e => this.1 e.symm
    obtain ⟨l, hl⟩ := List.exists_mem_of_ne_nil _ q.2
    have hw := ((mem_aw w ha hb hab).mp hl).1
    cases d : (eachOf (aw v a b (2 ^ t) 0)).testBit c with
    | false => rfl
    | true =>
      obtain ⟨h1, h2⟩ := (mset_way hw).mp (((each_tb _).mp d).2 l hl)
      rcases hc with e | e
      · rcases wayF_mem hw c h1 with z | z
        · exact absurd z h2
        · exact absurd e z.2.1
      · exact absurd e h2
theorem lost_mid (w : WF v) {c a b t : Nat} (hcn : c < v 0 0) (ha : a < v 0 0) (hb : b < v 0 0) (hca : c ≠ a) : (wayB v a b t && !(ends v a (sdf (car v (2 ^ t)) (2 ^ c))).testBit b && !decide (c = b)) = lostB v c a b t ∨ 5 ≤ t := by
  by_cases ht : 5 ≤ t
  · exact Or.inr ht
  left
  by_cases hcb : c = b
  · rw [lost_end w ha hb (by omega) (Or.inr hcb), decide_eq_true hcb]
    exact Bool.and_false _
  · rw [decide_eq_false hcb]
    unfold lostB
    cases q : wayB v a b t with
    | false => rfl
    | true =>
      unfold wayB at q
      rw [Bool.and_eq_true, emp_iff] at q
      have hab : a ≠ b := by
        have := q.1
        unfold wrB at this
        rw [Bool.and_eq_true, bne_iff_ne] at this
        exact fun e => this.1 e.symm
      have hl := ends_less (T := 2 ^ t) w ha hb hab hcb
      have hn := w.1
      simp only [Bool.true_and, Bool.not_false, Bool.and_true]
      apply Bool.eq_iff_iff.mpr
      rw [Bool.not_eq_true', each_tb]
      constructor
      · intro e
        refine ⟨by omega, fun l hm => ?_⟩
        cases d : (mset l).testBit c with
        | true => rfl
        | false =>
          rw [hl.mpr ⟨l, hm, d⟩] at e
          cases e
      · rintro ⟨-, e⟩
        cases d : (ends v a (sdf (car v (2 ^ t)) (2 ^ c))).testBit b with
        | false => rfl
        | true =>
          obtain ⟨l, hm, z⟩ := hl.mp d
          rw [e l hm] at z
          cases z
theorem c_lostWithout (w : WF v) (r : CLd 3 v h) {c : Nat} (hc : c < v 0 0) : F_Pa_lostWithout (nI c) h = retI (nI (lostP v c)) h := by
  have hn := w.1
  unfold F_Pa_lostWithout
  have hs1 : ∀ t a, a ≤ v 0 0 → sumN a (fun a => cnt (v 0 0) (fun b => lostB v c a b t)) ≤ 49 := fun t a ha => by
    have := sumN_le (n := a) (b := 7) (f := fun a => cnt (v 0 0) (fun b => lostB v c a b t)) (fun i _ => Nat.le_trans (cnt_le _ _) hn)
    have : a * 7 ≤ 7 * 7 := Nat.mul_le_mul_right 7 (by omega)
    omega
  have hs2 : ∀ t, t ≤ 5 → sumN t (fun t => sumN (v 0 0) (fun a => cnt (v 0 0) (fun b => lostB v c a b t))) ≤ 245 := fun t ht => by
    have := sumN_le (n := t) (b := 49) (f := fun t => sumN (v 0 0) (fun a => cnt (v 0 0) (fun b => lostB v c a b t))) (fun i _ => hs1 i _ (Nat.le_refl _))
    have : t * 49 ≤ 5 * 49 := Nat.mul_le_mul_right 49 ht
    omega
  refine loop_for (N := 5) (fun t => (nI c, nI (sumN t (fun t => sumN (v 0 0) (fun a => cnt (v 0 0) (fun b => lostB v c a b t)))), nI t, h)) rfl (by show _ < 4096; omega) (fun t κ ht => ?_) (fun κ => ?_)
  · have hcr : F_Wa_carriers (nI (2 ^ t)) h = retI (nI (car v (2 ^ t))) h := c_carriers w r (pow5 ht)
    have inner : loopC (Pa_lostWithout_25 κ) FU (nI c, nI (sumN t (fun t => sumN (v 0 0) (fun a => cnt (v 0 0) (fun b => lostB v c a b t)))), nI t, nI (car v (2 ^ t)), nI 0, h) = κ (nI c, nI (sumN (t + 1) (fun t => sumN (v 0 0) (fun a => cnt (v 0 0) (fun b => lostB v c a b t)))), nI (t + 1), h) := by
      refine loop_for (N := v 0 0) (fun a => (nI c, nI (sumN t (fun t => sumN (v 0 0) (fun a => cnt (v 0 0) (fun b => lostB v c a b t))) + sumN a (fun a => cnt (v 0 0) (fun b => lostB v c a b t))), nI t, nI (car v (2 ^ t)), nI a, h)) rfl (by show _ < 4096; omega) (fun a κ2 ha => ?_) (fun κ2 => ?_)
      · have g1 := hs1 t a (by omega)
        have g2 := hs2 t (by omega)
        have hsl := sdf_lt (b := 2 ^ c) (car_lt w (2 ^ t))
        by_cases e : a = c
        · have e0 : cnt (v 0 0) (fun b => lostB v c a b t) = 0 := by
            rw [cnt_cong (Q := fun _ => false) (fun b hb => lost_end w ha hb ht (Or.inl e.symm))]
            clear g1 g2 hs1 hs2 hcr
            generalize v 0 0 = n
            induction n with
            | zero => rfl
            | succ n ih => rw [cnt_s, ih]; rfl
          simp (disch := first | assumption | omega) only [Pa_lostWithout_25, lit_0, lit_1, lit_2, lit_3, lit_4, lit_5, lit_6, lit_7, lit_8, lit_9, lit_10, lit_11, lit_12, lit_16, lit_17, lit_20, lit_31, lit_32, lit_40, lit_47, lit_48, lit_49, lit_57, lit_58, lit_60, lit_64, lit_68, lit_80, lit_97, lit_99, lit_100, lit_101, lit_104, lit_108, lit_109, lit_115, lit_117, lit_121, lit_127, lit_128, lit_140, lit_1000, lit_1000000, lit_1048576, bI_ret, bV_ret, bL_ret, bH_t, cond_true, z_0, z_1, retZ_tf, z_tf0, z_tf1, Decidable.not_not, Classical.not_not, nI_add, nI_clamp, n_le, n_lt, n_eq, nI_or, nI_and, z_sdf, of_nI, L_n r]
          rw [if_neg (by omega), if_pos e, sumN_s a, e0]
          rfl
        · have e1 : sdf (sdf (ms (v 0 0) (fun y => wayB v a y t)) (ends v a (sdf (car v (2 ^ t)) (2 ^ c)))) (2 ^ c) = ms (v 0 0) (fun b => lostB v c a b t) := by
            refine ms_of (sdf_lt (sdf_lt (ms_lt _ _))) fun b hb => ?_
            rw [sdf_tb, sdf_tb, ms_tb, tb_pow, decide_eq_true hb, Bool.true_and]
            exact (lost_mid (t := t) w hc ha hb (fun z => e z.symm)).resolve_right (by omega)
          have k2 := ms_1024 (n := v 0 0) (by omega) (fun b => lostB v c a b t)
          simp (disch := first | assumption | omega) only [Pa_lostWithout_25, lit_0, lit_1, lit_2, lit_3, lit_4, lit_5, lit_6, lit_7, lit_8, lit_9, lit_10, lit_11, lit_12, lit_16, lit_17, lit_20, lit_31, lit_32, lit_40, lit_47, lit_48, lit_49, lit_57, lit_58, lit_60, lit_64, lit_68, lit_80, lit_97, lit_99, lit_100, lit_101, lit_104, lit_108, lit_109, lit_115, lit_117, lit_121, lit_127, lit_128, lit_140, lit_1000, lit_1000000, lit_1048576, bI_ret, bV_ret, bL_ret, bH_t, cond_true, z_0, z_1, retZ_tf, z_tf0, z_tf1, Decidable.not_not, Classical.not_not, nI_add, nI_clamp, n_le, n_lt, n_eq, nI_or, nI_and, z_sdf, of_nI, L_n r, c_reachedBy w r ha ht, c_bit, c_endsFrom w r ha hsl, e1, c_bits, pop_ms (show v 0 0 ≤ 10 by omega)]
          rw [if_neg (by omega), if_neg e, sumN_s a, Nat.add_assoc]
      · simp (disch := first | assumption | omega) only [Pa_lostWithout_25, lit_0, lit_1, lit_2, lit_3, lit_4, lit_5, lit_6, lit_7, lit_8, lit_9, lit_10, lit_11, lit_12, lit_16, lit_17, lit_20, lit_31, lit_32, lit_40, lit_47, lit_48, lit_49, lit_57, lit_58, lit_60, lit_64, lit_68, lit_80, lit_97, lit_99, lit_100, lit_101, lit_104, lit_108, lit_109, lit_115, lit_117, lit_121, lit_127, lit_128, lit_140, lit_1000, lit_1000000, lit_1048576, bI_ret, bV_ret, bL_ret, bH_t, cond_true, z_0, z_1, retZ_tf, z_tf0, z_tf1, Decidable.not_not, Classical.not_not, nI_add, nI_clamp, n_le, n_lt, n_eq, nI_or, nI_and, z_sdf, of_nI, L_n r, Nat.le_refl, if_true]
        rfl
    simp (disch := first | assumption | omega) only [Pa_lostWithout_4, lit_0, lit_1, lit_2, lit_3, lit_4, lit_5, lit_6, lit_7, lit_8, lit_9, lit_10, lit_11, lit_12, lit_16, lit_17, lit_20, lit_31, lit_32, lit_40, lit_47, lit_48, lit_49, lit_57, lit_58, lit_60, lit_64, lit_68, lit_80, lit_97, lit_99, lit_100, lit_101, lit_104, lit_108, lit_109, lit_115, lit_117, lit_121, lit_127, lit_128, lit_140, lit_1000, lit_1000000, lit_1048576, bI_ret, bV_ret, bL_ret, bH_t, cond_true, z_0, z_1, retZ_tf, z_tf0, z_tf1, Decidable.not_not, Classical.not_not, nI_add, nI_clamp, n_le, n_lt, n_eq, nI_or, nI_and, z_sdf, of_nI, c_bit, hcr, inner]
    rw [if_neg (by omega)]
  · simp (disch := first | assumption | omega) only [Pa_lostWithout_4, lit_0, lit_1, lit_2, lit_3, lit_4, lit_5, lit_6, lit_7, lit_8, lit_9, lit_10, lit_11, lit_12, lit_16, lit_17, lit_20, lit_31, lit_32, lit_40, lit_47, lit_48, lit_49, lit_57, lit_58, lit_60, lit_64, lit_68, lit_80, lit_97, lit_99, lit_100, lit_101, lit_104, lit_108, lit_109, lit_115, lit_117, lit_121, lit_127, lit_128, lit_140, lit_1000, lit_1000000, lit_1048576, bI_ret, bV_ret, bL_ret, bH_t, cond_true, z_0, z_1, retZ_tf, z_tf0, z_tf1, Decidable.not_not, Classical.not_not, nI_add, nI_clamp, n_le, n_lt, n_eq, nI_or, nI_and, z_sdf, of_nI, Nat.le_refl, if_true]
    rfl
theorem c_meetsEach {s : Nat} (hs9 : s < 32) : F_Pa_meetsEach (nI s) (nI (chs v)) h = retI (tf (hitB v s = true)) h := by
  have hbit : ∀ c, c < 32 → ((chs v).testBit c = true ↔ c ≠ 0 ∧ ∃ x, x < v 0 0 ∧ ∃ y, y < v 0 0 ∧ tgs v x y = c) := fun c hc => by
    unfold chs
    rw [ms_tb, decide_eq_true hc, Bool.true_and, Bool.and_eq_true, bne_iff_ne, anyB_iff]
    simp only [anyB_iff, beq_iff_eq]
  have hhit : hitB v s = true ↔ ∀ c, c < 32 → (chs v).testBit c = true → c &&& s ≠ 0 := by
    unfold hitB
    rw [Bool.not_eq_true']
    constructor
    · intro e c hc hb z
      obtain ⟨h1, x, hx, y, hy, h2⟩ := (hbit c hc).mp hb
      have : anyB (v 0 0) (fun x => anyB (v 0 0) (fun y => tgs v x y != 0 && (tgs v x y &&& s) == 0)) = true := anyB_iff.mpr ⟨x, hx, anyB_iff.mpr ⟨y, hy, by rw [h2]; simp [h1, z]⟩⟩
      rw [e] at this
      cases this
    · intro e
      refine anyB_false fun x hx => anyB_false fun y hy => ?_
      cases d : (tgs v x y != 0 && (tgs v x y &&& s) == 0) with
      | false => rfl
      | true =>
        rw [Bool.and_eq_true, bne_iff_ne, beq_iff_eq] at d
        exact absurd d.2 (e (tgs v x y) (tgs_lt v x y) ((hbit _ (tgs_lt v x y)).mpr ⟨d.1, x, hx, y, hy, rfl⟩))
  rw [tf_cong hhit]
  have hand : ∀ c, c < 32 → c &&& s < 2 ^ 31 := fun c hc => Nat.lt_of_le_of_lt Nat.and_le_left (by omega)
  have body : ∀ j, j < 31 → ∀ κ, Pa_meetsEach_2 (nI s, nI (chs v), nI (1 + j), h) κ = if (chs v).testBit (1 + j) = true ∧ (1 + j) &&& s = 0 then retI (nI 0) h else κ (nI s, nI (chs v), nI (1 + (j + 1)), h) := fun j hj κ => by
    have := hand (1 + j) (by omega)
    simp (disch := first | assumption | omega) only [Pa_meetsEach_2, lit_0, lit_1, lit_2, lit_3, lit_4, lit_5, lit_6, lit_7, lit_8, lit_9, lit_10, lit_11, lit_12, lit_16, lit_17, lit_20, lit_31, lit_32, lit_40, lit_47, lit_48, lit_49, lit_57, lit_58, lit_60, lit_64, lit_68, lit_80, lit_97, lit_99, lit_100, lit_101, lit_104, lit_108, lit_109, lit_115, lit_117, lit_121, lit_127, lit_128, lit_140, lit_1000, lit_1000000, lit_1048576, bI_ret, bV_ret, bL_ret, bH_t, cond_true, z_0, z_1, retZ_tf, z_tf0, z_tf1, Decidable.not_not, Classical.not_not, nI_add, nI_clamp, n_le, n_lt, n_eq, nI_or, nI_and, z_sdf, of_nI, z_sar1]
    rw [if_neg (by omega), Nat.add_assoc 1 j 1]
    by_cases q : (chs v).testBit (1 + j) = true
    · rw [if_pos q]
      simp (disch := first | assumption | omega) only [n_eq, if_true]
      by_cases q2 : (1 + j) &&& s = 0
      · rw [if_pos q2, if_pos ⟨q, q2⟩]
      · rw [if_neg q2, if_neg (fun z => q2 z.2)]
    · rw [if_neg q, if_neg (by decide), if_neg (fun z => q z.1)]
  unfold F_Pa_meetsEach
  by_cases c : ∀ c, c < 32 → (chs v).testBit c = true → c &&& s ≠ 0
  · rw [tf_t c]
    refine loop_for (N := 31) (fun j => (nI s, nI (chs v), nI (1 + j), h)) rfl (by show _ < 4096; omega) (fun j κ hj => ?_) (fun κ => ?_)
    · rw [body j hj κ, if_neg (fun z => c (1 + j) (by omega) z.1 z.2)]
    · simp (disch := first | assumption | omega) only [Pa_meetsEach_2, lit_0, lit_1, lit_2, lit_3, lit_4, lit_5, lit_6, lit_7, lit_8, lit_9, lit_10, lit_11, lit_12, lit_16, lit_17, lit_20, lit_31, lit_32, lit_40, lit_47, lit_48, lit_49, lit_57, lit_58, lit_60, lit_64, lit_68, lit_80, lit_97, lit_99, lit_100, lit_101, lit_104, lit_108, lit_109, lit_115, lit_117, lit_121, lit_127, lit_128, lit_140, lit_1000, lit_1000000, lit_1048576, bI_ret, bV_ret, bL_ret, bH_t, cond_true, z_0, z_1, retZ_tf, z_tf0, z_tf1, Decidable.not_not, Classical.not_not, nI_add, nI_clamp, n_le, n_lt, n_eq, nI_or, nI_and, z_sdf, of_nI]
      rw [if_pos (by omega)]
  · rw [tf_f c]
    have : anyB 31 (fun j => (chs v).testBit (1 + j) && ((1 + j) &&& s) == 0) = true := Classical.byContradiction fun q => c fun k hk hb z => q (anyB_iff.mpr ⟨k - 1, by
      have h0 : k ≠ 0 := ((hbit k hk).mp hb).1
      omega, by
      have h0 : k ≠ 0 := ((hbit k hk).mp hb).1
      rw [show 1 + (k - 1) = k by omega, hb, z]
      rfl⟩)
    obtain ⟨N, h1, h2, h3⟩ := anyB_first this
    refine loop_for (N := N) (fun j => (nI s, nI (chs v), nI (1 + j), h)) rfl (by show _ < 4096; omega) (fun j κ hj => ?_) (fun κ => ?_)
    · have := h3 j hj
      rw [body j (by omega) κ, if_neg (fun z => by rw [z.1, z.2] at this; exact absurd this (by decide))]
    · rw [Bool.and_eq_true, beq_iff_eq] at h2
      rw [body N h1 κ, if_pos h2]
      rfl
theorem c_tonguesTo {x y : Nat} (hy : y < 7) (H : ∀ t, t < 5 → hg h 69 t = nI (ms (v 0 0) (fun y => wayB v x y t))) (hn : v 0 0 ≤ 7) (hyn : y < v 0 0) : F_Pa_tonguesTo (nI y) h = retI (nI (tgs v x y)) h := by
  unfold F_Pa_tonguesTo
  refine loop_for (N := 5) (fun t => (nI y, nI (ms t (fun t => wayB v x y t)), nI t, h)) rfl (by show _ < 4096; omega) (fun t κ ht => ?_) (fun κ => ?_)
  · have h31 := ms_31 (n := v 0 0) (by omega) (fun y => wayB v x y t)
    have e1 : (ms (v 0 0) (fun y => wayB v x y t)).testBit y = wayB v x y t := by rw [ms_tb, decide_eq_true hyn, Bool.true_and]
    simp (disch := first | assumption | omega) only [Pa_tonguesTo_4, oA_18, oA_65, oA_66, oA_67, oA_69, oA_4, oA_5, lit_0, lit_1, lit_2, lit_3, lit_4, lit_5, lit_6, lit_7, lit_8, lit_9, lit_10, lit_11, lit_12, lit_16, lit_17, lit_20, lit_31, lit_32, lit_40, lit_47, lit_48, lit_49, lit_57, lit_58, lit_60, lit_64, lit_68, lit_80, lit_97, lit_99, lit_100, lit_101, lit_104, lit_108, lit_109, lit_115, lit_117, lit_121, lit_127, lit_128, lit_140, lit_1000, lit_1000000, lit_1048576, bI_ret, bV_ret, bL_ret, bH_t, cond_true, z_0, z_1, retZ_tf, z_tf0, z_tf1, Decidable.not_not, Classical.not_not, nI_add, nI_clamp, n_le, n_lt, n_eq, nI_or, nI_and, z_sdf, of_nI, H t ht, c_has, e1, c_bit, ms_s t]
    rw [if_neg (by omega)]
    by_cases q : wayB v x y t = true
    · simp only [q, not_true, if_false, if_true]
    · simp only [q, not_false_iff, if_true, if_false, Bool.false_eq_true]
  · simp (disch := first | assumption | omega) only [Pa_tonguesTo_4, lit_0, lit_1, lit_2, lit_3, lit_4, lit_5, lit_6, lit_7, lit_8, lit_9, lit_10, lit_11, lit_12, lit_16, lit_17, lit_20, lit_31, lit_32, lit_40, lit_47, lit_48, lit_49, lit_57, lit_58, lit_60, lit_64, lit_68, lit_80, lit_97, lit_99, lit_100, lit_101, lit_104, lit_108, lit_109, lit_115, lit_117, lit_121, lit_127, lit_128, lit_140, lit_1000, lit_1000000, lit_1048576, bI_ret, bV_ret, bL_ret, bH_t, cond_true, z_0, z_1, retZ_tf, z_tf0, z_tf1, Decidable.not_not, Classical.not_not, nI_add, nI_clamp, n_le, n_lt, n_eq, nI_or, nI_and, z_sdf, of_nI, Nat.le_refl, if_true]
    rfl
theorem c_choices (w : WF v) (r : CLd 3 v h) : ∃ h', F_Pa_choicesOfPairs h = retI (nI (chs v)) h' ∧ frC h h' := by
  have hn := w.1
  unfold F_Pa_choicesOfPairs
  refine Exists.elim (loop_all (K := Unit) (b := fun _ => Pa_choicesOfPairs_4) (N := v 0 0) (n := FU) (s0 := (nI 0, nI 0, h)) (fun i s => ∃ g, s = (nI (ms 32 (fun c => c != 0 && anyB i (fun x => anyB (v 0 0) (fun y => tgs v x y == c)))), nI i, g) ∧ frC h g) ⟨h, by
    rw [show ms 32 (fun c => c != 0 && anyB 0 (fun x => anyB (v 0 0) (fun y => tgs v x y == c))) = 0 from ms_0.mpr fun _ _ => Bool.and_false _], frC_rf h⟩ (by show _ < 4096; omega) ?_) ?_
  · rintro i s hi ⟨g, rfl, p1⟩
    have rg := CLd_C w r p1
    -- the row of one sender, then all readers
    obtain ⟨g2, q1, q2, q3⟩ : ∃ g2, frC g g2 ∧ (∀ t, t < 5 → hg g2 69 t = nI (ms (v 0 0) (fun y => wayB v i y t))) ∧ ∀ κ, loopC (Pa_choicesOfPairs_17 κ) FU (nI (ms 32 (fun c => c != 0 && anyB i (fun x => anyB (v 0 0) (fun y => tgs v x y == c)))), nI i, nI 0, g) = loopC (Pa_choicesOfPairs_42 κ) FU (nI (ms 32 (fun c => c != 0 && anyB i (fun x => anyB (v 0 0) (fun y => tgs v x y == c)))), nI i, nI 0, g2) := by
      refine Exists.elim (loop_all (K := (Int32 × Int32 × Hp) → Res Hp) (b := fun κ => Pa_choicesOfPairs_17 κ) (N := 5) (n := FU) (s0 := (nI (ms 32 (fun c => c != 0 && anyB i (fun x => anyB (v 0 0) (fun y => tgs v x y == c)))), nI i, nI 0, g)) (fun t s => ∃ g2, s = (nI (ms 32 (fun c => c != 0 && anyB i (fun x => anyB (v 0 0) (fun y => tgs v x y == c)))), nI i, nI t, g2) ∧ frC g g2 ∧ (∀ t', t' < t → hg g2 69 t' = nI (ms (v 0 0) (fun y => wayB v i y t')))) ⟨g, rfl, frC_rf g, fun t' q => absurd q (Nat.not_lt_zero t')⟩ (by show _ < 4096; omega) ?_) ?_
      · rintro t s ht ⟨g2, rfl, a1, a2⟩
        have rg2 := CLd_C w rg a1
        refine ⟨(nI (ms 32 (fun c => c != 0 && anyB i (fun x => anyB (v 0 0) (fun y => tgs v x y == c)))), nI i, nI (t + 1), hs g2 69 t (nI (ms (v 0 0) (fun y => wayB v i y t)))), ⟨_, rfl, frC_tr a1 (frC_hs (by omega)), fun t' ht' => ?_⟩, fun k κ => ?_⟩
        · by_cases e : t' = t
          · subst e; exact hg_hs_eq _ _ _ _
          · rw [hg_hs_k e]; exact a2 t' (by omega)
        · simp (disch := first | assumption | omega) only [Pa_choicesOfPairs_17, oA_18, oA_65, oA_66, oA_67, oA_69, oA_4, oA_5, lit_0, lit_1, lit_2, lit_3, lit_4, lit_5, lit_6, lit_7, lit_8, lit_9, lit_10, lit_11, lit_12, lit_16, lit_17, lit_20, lit_31, lit_32, lit_40, lit_47, lit_48, lit_49, lit_57, lit_58, lit_60, lit_64, lit_68, lit_80, lit_97, lit_99, lit_100, lit_101, lit_104, lit_108, lit_109, lit_115, lit_117, lit_121, lit_127, lit_128, lit_140, lit_1000, lit_1000000, lit_1048576, bI_ret, bV_ret, bL_ret, bH_t, cond_true, z_0, z_1, retZ_tf, z_tf0, z_tf1, Decidable.not_not, Classical.not_not, nI_add, nI_clamp, n_le, n_lt, n_eq, nI_or, nI_and, z_sdf, of_nI, c_reachedBy w rg2 hi ht]
          rw [if_neg (by omega)]
      · rintro s ⟨⟨g2, rfl, a1, a2⟩, q⟩
        refine ⟨g2, a1, a2, fun κ => q κ _ fun κ2 => ?_⟩
        simp (disch := first | assumption | omega) only [Pa_choicesOfPairs_17, lit_0, lit_1, lit_2, lit_3, lit_4, lit_5, lit_6, lit_7, lit_8, lit_9, lit_10, lit_11, lit_12, lit_16, lit_17, lit_20, lit_31, lit_32, lit_40, lit_47, lit_48, lit_49, lit_57, lit_58, lit_60, lit_64, lit_68, lit_80, lit_97, lit_99, lit_100, lit_101, lit_104, lit_108, lit_109, lit_115, lit_117, lit_121, lit_127, lit_128, lit_140, lit_1000, lit_1000000, lit_1048576, bI_ret, bV_ret, bL_ret, bH_t, cond_true, z_0, z_1, retZ_tf, z_tf0, z_tf1, Decidable.not_not, Classical.not_not, nI_add, nI_clamp, n_le, n_lt, n_eq, nI_or, nI_and, z_sdf, of_nI, Nat.le_refl, if_true]
    have rg2 := CLd_C w rg q1
    refine ⟨(nI (ms 32 (fun c => c != 0 && anyB (i + 1) (fun x => anyB (v 0 0) (fun y => tgs v x y == c)))), nI (i + 1), g2), ⟨g2, rfl, frC_tr p1 q1⟩, fun k κ => ?_⟩
    have inner : loopC (Pa_choicesOfPairs_42 κ) FU (nI (ms 32 (fun c => c != 0 && anyB i (fun x => anyB (v 0 0) (fun y => tgs v x y == c)))), nI i, nI 0, g2) = κ (nI (ms 32 (fun c => c != 0 && anyB (i + 1) (fun x => anyB (v 0 0) (fun y => tgs v x y == c)))), nI (i + 1), g2) := by
      refine loop_for (N := v 0 0) (fun j => (nI (ms 32 (fun c => c != 0 && (anyB i (fun x => anyB (v 0 0) (fun y => tgs v x y == c)) || anyB j (fun y => tgs v i y == c)))), nI i, nI j, g2)) ?_ (by show _ < 4096; omega) (fun j κ2 hj => ?_) (fun κ2 => ?_)
      · congr 2
        refine ms_cong fun c _ => ?_
        rw [show anyB 0 (fun y => tgs v i y == c) = false from rfl, Bool.or_false]
      · have hT := tgs_lt v i j
        simp (disch := first | assumption | omega) only [Pa_choicesOfPairs_42, lit_0, lit_1, lit_2, lit_3, lit_4, lit_5, lit_6, lit_7, lit_8, lit_9, lit_10, lit_11, lit_12, lit_16, lit_17, lit_20, lit_31, lit_32, lit_40, lit_47, lit_48, lit_49, lit_57, lit_58, lit_60, lit_64, lit_68, lit_80, lit_97, lit_99, lit_100, lit_101, lit_104, lit_108, lit_109, lit_115, lit_117, lit_121, lit_127, lit_128, lit_140, lit_1000, lit_1000000, lit_1048576, bI_ret, bV_ret, bL_ret, bH_t, cond_true, z_0, z_1, retZ_tf, z_tf0, z_tf1, Decidable.not_not, Classical.not_not, nI_add, nI_clamp, n_le, n_lt, n_eq, nI_or, nI_and, z_sdf, of_nI, L_n rg2, c_tonguesTo (by omega) q2 hn hj, c_bit, anyB_s j]
        rw [if_neg (by omega)]
        by_cases q : tgs v i j = 0
        · rw [if_pos q, Nat.or_zero]
          refine congrArg (fun z => κ2 (nI z, nI i, nI (j + 1), g2)) (ms_cong fun c _ => ?_)
          rw [q]
          cases c with
          | zero => rfl
          | succ c => rw [beq_eq_false_iff_ne.mpr (by omega : (0 : Nat) ≠ c + 1), Bool.or_false]
        · rw [if_neg q]
          refine congrArg (fun z => κ2 (nI z, nI i, nI (j + 1), g2)) (ms_of (or_lt (ms_lt _ _) (Nat.pow_lt_pow_right (by decide) hT)) fun c hc => ?_)
          rw [Nat.testBit_or, ms_tb, tb_pow, decide_eq_true hc, Bool.true_and]
          by_cases e : tgs v i j = c
          · rw [decide_eq_true e, beq_iff_eq.mpr e, Bool.or_true, Bool.or_true, Bool.or_true, bne_iff_ne.mpr (fun z => q (e.trans z))]
            rfl
          · rw [decide_eq_false e, beq_eq_false_iff_ne.mpr e, Bool.or_false, Bool.or_false]
      · simp (disch := first | assumption | omega) only [Pa_choicesOfPairs_42, lit_0, lit_1, lit_2, lit_3, lit_4, lit_5, lit_6, lit_7, lit_8, lit_9, lit_10, lit_11, lit_12, lit_16, lit_17, lit_20, lit_31, lit_32, lit_40, lit_47, lit_48, lit_49, lit_57, lit_58, lit_60, lit_64, lit_68, lit_80, lit_97, lit_99, lit_100, lit_101, lit_104, lit_108, lit_109, lit_115, lit_117, lit_121, lit_127, lit_128, lit_140, lit_1000, lit_1000000, lit_1048576, bI_ret, bV_ret, bL_ret, bH_t, cond_true, z_0, z_1, retZ_tf, z_tf0, z_tf1, Decidable.not_not, Classical.not_not, nI_add, nI_clamp, n_le, n_lt, n_eq, nI_or, nI_and, z_sdf, of_nI, L_n rg2, Nat.le_refl, if_true]
        rfl
    simp (disch := first | assumption | omega) only [Pa_choicesOfPairs_4, lit_0, lit_1, lit_2, lit_3, lit_4, lit_5, lit_6, lit_7, lit_8, lit_9, lit_10, lit_11, lit_12, lit_16, lit_17, lit_20, lit_31, lit_32, lit_40, lit_47, lit_48, lit_49, lit_57, lit_58, lit_60, lit_64, lit_68, lit_80, lit_97, lit_99, lit_100, lit_101, lit_104, lit_108, lit_109, lit_115, lit_117, lit_121, lit_127, lit_128, lit_140, lit_1000, lit_1000000, lit_1048576, bI_ret, bV_ret, bL_ret, bH_t, cond_true, z_0, z_1, retZ_tf, z_tf0, z_tf1, Decidable.not_not, Classical.not_not, nI_add, nI_clamp, n_le, n_lt, n_eq, nI_or, nI_and, z_sdf, of_nI, L_n rg, q3, inner]
    rw [if_neg (by omega)]
  · rintro s ⟨⟨g, rfl, p1⟩, q⟩
    have rg := CLd_C w r p1
    refine ⟨g, q () _ fun κ => ?_, p1⟩
    simp (disch := first | assumption | omega) only [Pa_choicesOfPairs_4, lit_0, lit_1, lit_2, lit_3, lit_4, lit_5, lit_6, lit_7, lit_8, lit_9, lit_10, lit_11, lit_12, lit_16, lit_17, lit_20, lit_31, lit_32, lit_40, lit_47, lit_48, lit_49, lit_57, lit_58, lit_60, lit_64, lit_68, lit_80, lit_97, lit_99, lit_100, lit_101, lit_104, lit_108, lit_109, lit_115, lit_117, lit_121, lit_127, lit_128, lit_140, lit_1000, lit_1000000, lit_1048576, bI_ret, bV_ret, bL_ret, bH_t, cond_true, z_0, z_1, retZ_tf, z_tf0, z_tf1, Decidable.not_not, Classical.not_not, nI_add, nI_clamp, n_le, n_lt, n_eq, nI_or, nI_and, z_sdf, of_nI, L_n rg, Nat.le_refl, if_true]
    rfl
theorem ltT_lt (v : LV) : ∀ i, i ≤ 31 → ltT v i < 32
  | 0, _ => (by decide : 31 < 32)
  | i + 1, h => by
    unfold ltT
    split
    · omega
    · exact ltT_lt v i (by omega)
theorem c_leastTongues (w : WF v) (r : CLd 3 v h) : ∃ h', F_Pa_leastTongues h = retI (nI (ltT v 31)) h' ∧ frC h h' := by
  obtain ⟨g, p1, p2⟩ := c_choices w r
  unfold F_Pa_leastTongues
  refine ⟨g, ?_, p2⟩
  rw [p1, bI_ret]
  refine loop_for (N := 31) (fun i => (nI (chs v), nI (ltT v i), nI i, g)) rfl (by show _ < 4096; omega) (fun i κ hi => ?_) (fun κ => ?_)
  · have h1 := ltT_lt v i (by omega)
    have h2 : pop i ≤ 10 := cnt_le _ _
    have h3 : pop (ltT v i) ≤ 10 := cnt_le _ _
    simp (disch := first | assumption | omega) only [Pa_leastTongues_10, lit_0, lit_1, lit_2, lit_3, lit_4, lit_5, lit_6, lit_7, lit_8, lit_9, lit_10, lit_11, lit_12, lit_16, lit_17, lit_20, lit_31, lit_32, lit_40, lit_47, lit_48, lit_49, lit_57, lit_58, lit_60, lit_64, lit_68, lit_80, lit_97, lit_99, lit_100, lit_101, lit_104, lit_108, lit_109, lit_115, lit_117, lit_121, lit_127, lit_128, lit_140, lit_1000, lit_1000000, lit_1048576, bI_ret, bV_ret, bL_ret, bH_t, cond_true, z_0, z_1, retZ_tf, z_tf0, z_tf1, Decidable.not_not, Classical.not_not, nI_add, nI_clamp, n_le, n_lt, n_eq, nI_or, nI_and, z_sdf, of_nI, c_bits, c_meetsEach (v := v) (s := i) (by omega)]
    rw [if_neg (by omega)]
    show _ = κ (nI (chs v), nI (if pop i < pop (ltT v i) ∧ hitB v i = true then i else ltT v i), nI (i + 1), g)
    by_cases q : pop (ltT v i) ≤ pop i
    · rw [if_pos q, if_neg (fun z => by omega)]
    · rw [if_neg q]
      by_cases q2 : hitB v i = true
      · rw [if_neg (fun z => z q2), if_pos ⟨by omega, q2⟩]
      · rw [if_pos q2, if_neg (fun z => q2 z.2)]
  · simp (disch := first | assumption | omega) only [Pa_leastTongues_10, lit_0, lit_1, lit_2, lit_3, lit_4, lit_5, lit_6, lit_7, lit_8, lit_9, lit_10, lit_11, lit_12, lit_16, lit_17, lit_20, lit_31, lit_32, lit_40, lit_47, lit_48, lit_49, lit_57, lit_58, lit_60, lit_64, lit_68, lit_80, lit_97, lit_99, lit_100, lit_101, lit_104, lit_108, lit_109, lit_115, lit_117, lit_121, lit_127, lit_128, lit_140, lit_1000, lit_1000000, lit_1048576, bI_ret, bV_ret, bL_ret, bH_t, cond_true, z_0, z_1, retZ_tf, z_tf0, z_tf1, Decidable.not_not, Classical.not_not, nI_add, nI_clamp, n_le, n_lt, n_eq, nI_or, nI_and, z_sdf, of_nI, Nat.le_refl, if_true]
end CP2
