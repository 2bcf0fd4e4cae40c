/-! OPERATION: days; the lots, one step -/
theorem loop_invU {S T ρ : Type} {b : (T → Option ρ) → S → (S → Option ρ) → Option ρ} {N n : Nat} {Q : T → Prop} {s0 : S} (P : Nat → S → Prop) (h0 : P 0 s0) (hN : N < n) (hs : ∀ i s, i < N → P i s → ∃ s', P (i + 1) s' ∧ ∀ K κ, b K s κ = κ s') (hf : ∀ s, P N s → ∃ t, Q t ∧ ∀ K κ, b K s κ = K t) : ∃ t, Q t ∧ ∀ K, loopC (b K) n s0 = K t := by
  suffices H : ∀ d i n s, d + i = N → d < n → P i s → ∃ t, Q t ∧ ∀ K, loopC (b K) n s = K t from H N 0 n s0 rfl hN h0
  intro d
  induction d with
  | zero =>
    intro i n s h1 h2 hp
    obtain ⟨n, rfl⟩ : ∃ k, n = k + 1 := ⟨n - 1, by omega⟩
    have : i = N := by omega
    subst this
    obtain ⟨t, q, e⟩ := hf s hp
    exact ⟨t, q, fun K => e K _⟩
  | succ d ih =>
    intro i n s h1 h2 hp
    obtain ⟨n, rfl⟩ : ∃ k, n = k + 1 := ⟨n - 1, by omega⟩
    obtain ⟨s', p1, p2⟩ := hs i s (by omega) hp
    obtain ⟨t, q, e⟩ := ih (i + 1) n s' (by omega) (by omega) p1
    exact ⟨t, q, fun K => (p2 K _).trans (e K)⟩
theorem cnt_up {P : Nat → Bool} {i : Nat} : ∀ {x : Nat}, i ≤ x → cnt i P ≤ cnt x P
  | 0, q => by
    have : i = 0 := by omega
    subst this
    exact Nat.le_refl _
  | x + 1, q => by
    by_cases z : i = x + 1
    · subst z; exact Nat.le_refl _
    · have := cnt_up (P := P) (i := i) (x := x) (by omega)
      rw [cnt_s]
      split <;> omega
theorem cnt_up1 {P : Nat → Bool} {i x : Nat} (q : i < x) (p : P i = true) : cnt i P < cnt x P := by
  have h1 := cnt_up (P := P) (i := i + 1) (x := x) q
  rw [cnt_s, if_pos p] at h1
  omega
def fnd (P : Nat → Bool) (k : Nat) : Nat → Nat
  | 0 => 0
  | n + 1 => if P n = true ∧ cnt n P = k then n else fnd P k n
theorem fnd_ok {P : Nat → Bool} {k : Nat} : ∀ {n : Nat}, k < cnt n P → fnd P k n < n ∧ P (fnd P k n) = true ∧ cnt (fnd P k n) P = k
  | 0, q => absurd q (Nat.not_lt_zero k)
  | n + 1, q => by
    unfold fnd
    by_cases z : P n = true ∧ cnt n P = k
    · rw [if_pos z]
      exact ⟨Nat.lt_succ_self n, z⟩
    · rw [if_neg z]
      have q2 : k < cnt n P := by
        rw [cnt_s] at q
        by_cases y : P n = true
        · rw [if_pos y] at q
          by_cases x : cnt n P = k
          · exact absurd ⟨y, x⟩ z
          · omega
        · rw [if_neg y] at q; exact q
      obtain ⟨a1, a2, a3⟩ := fnd_ok q2
      exact ⟨by omega, a2, a3⟩
def memB (T k : Nat) : Nat := fnd (fun i => T.testBit i) k 10
theorem memB_ok {T k : Nat} (hT : T < 2 ^ 7) (hk : k < pop T) : memB T k < 7 ∧ T.testBit (memB T k) = true ∧ cnt (memB T k) (fun i => T.testBit i) = k := by
  obtain ⟨a1, a2, a3⟩ := fnd_ok (P := fun i => T.testBit i) (n := 10) hk
  refine ⟨?_, a2, a3⟩
  rcases Nat.lt_or_ge (memB T k) 7 with z | z
  · exact z
  · have := tb_small hT z
    rw [show T.testBit (memB T k) = true from a2] at this
    cases this
theorem pop_0 : ∀ T, T < 128 → (pop T = 0 ↔ T = 0) ∧ pop T ≤ 10 := by decide +kernel
def lotn (a : Nat) : Nat := a * 48271 % 2147483647
theorem lotn_lt (a : Nat) : lotn a < 2147483647 := Nat.mod_lt _ (by decide)
theorem i64_of {n : Nat} (h : n < 2 ^ 31) : (nI n).toInt64 = Int64.ofNat n := Int64.toInt_inj.mp (by rw [Int32.toInt_toInt64, nI_toInt h, Int64.toInt_ofNat_of_lt (by omega)])
theorem lotC {a : Nat} (ha : a < 2147483647) : Int64.ofNat a * (48271 : Int64) - Int64.ofNat a * (48271 : Int64) / (2147483647 : Int64) * (2147483647 : Int64) = Int64.ofNat (lotn a) := by
  show Int64.ofNat a * Int64.ofNat 48271 - Int64.ofNat a * Int64.ofNat 48271 / Int64.ofNat 2147483647 * Int64.ofNat 2147483647 = _
  rw [← Int64.ofNat_mul, ← Int64.ofNat_div (by omega) (by decide), ← Int64.ofNat_mul, ← Int64.ofNat_sub _ _ (Nat.div_mul_le_self _ _)]
  have := Nat.div_add_mod (a * 48271) 2147483647
  rw [Nat.mul_comm 2147483647] at this
  unfold lotn
  congr 1
  omega
theorem lotM {a : Nat} (ha : a < 2147483647) : (48271 : Int64) * Int64.ofNat a - (48271 : Int64) * Int64.ofNat a / (2147483647 : Int64) * (2147483647 : Int64) = Int64.ofNat (lotn a) := by
  rw [Int64.mul_comm 48271]
  exact lotC ha
theorem lotI {b p : Nat} (hb : b < 2147483647) (hp : p < 81) : (Int64.ofNat b - Int64.ofNat b / (nI p).toInt64 * (nI p).toInt64).toInt32 = nI (b % p) := by
  rw [i64_of (by omega), ← Int64.ofNat_div (by omega) (by omega), ← Int64.ofNat_mul, ← Int64.ofNat_sub _ _ (Nat.div_mul_le_self _ _), Int64.toInt32_ofNat']
  have := Nat.div_add_mod b p
  rw [Nat.mul_comm p] at this
  show nI (b - b / p * p) = nI (b % p)
  congr 1
  omega
theorem c_memberAt {T x : Nat} (hT : T < 2 ^ 7) (hx : x < 7) (b : T.testBit x = true) (h : Hp) : F_Bp_memberAt (nI T) (nI (cnt x (fun i => T.testBit i))) h = retI (nI x) h := by
  have cx := cnt_le x (fun i => T.testBit i)
  unfold F_Bp_memberAt
  refine loop_for (N := x) (fun i => (nI T, nI (cnt x (fun i => T.testBit i)), nI (cnt i (fun i => T.testBit i)), nI i, h)) rfl (by show _ < 4096; omega) (fun i κ hi => ?_) (fun κ => ?_)
  · have ci := cnt_le i (fun i => T.testBit i)
    simp (disch := first | assumption | omega) only [Bp_memberAt_4, lit_0, lit_1, lit_2, lit_3, lit_4, lit_5, lit_6, lit_7, lit_8, lit_9, lit_10, lit_11, lit_12, lit_16, lit_17, lit_20, lit_31, lit_32, lit_40, lit_47, lit_48, lit_49, lit_57, lit_58, lit_60, lit_64, lit_68, lit_80, lit_97, lit_99, lit_100, lit_101, lit_104, lit_108, lit_109, lit_115, lit_117, lit_121, lit_127, lit_128, lit_140, lit_1000, lit_1000000, lit_1048576, bI_ret, bV_ret, bL_ret, bH_t, cond_true, z_0, z_1, retZ_tf, z_tf0, z_tf1, Decidable.not_not, Classical.not_not, nI_add, nI_clamp, n_le, n_lt, n_eq, nI_or, nI_and, z_sdf, of_nI, ite_not, m_i3, m_i99, m_i7, m_i1, m_i20, m_i2, m_i8, m_i15, m_i60, c_has, cnt_s i]
    rw [if_neg (by omega)]
    by_cases q : T.testBit i = true
    · have := cnt_up1 (P := fun i => T.testBit i) hi q
      simp only [q, if_true]
      rw [if_neg (by omega)]
    · simp only [q, if_false, Bool.false_eq_true]
  · simp (disch := first | assumption | omega) only [Bp_memberAt_4, lit_0, lit_1, lit_2, lit_3, lit_4, lit_5, lit_6, lit_7, lit_8, lit_9, lit_10, lit_11, lit_12, lit_16, lit_17, lit_20, lit_31, lit_32, lit_40, lit_47, lit_48, lit_49, lit_57, lit_58, lit_60, lit_64, lit_68, lit_80, lit_97, lit_99, lit_100, lit_101, lit_104, lit_108, lit_109, lit_115, lit_117, lit_121, lit_127, lit_128, lit_140, lit_1000, lit_1000000, lit_1048576, bI_ret, bV_ret, bL_ret, bH_t, cond_true, z_0, z_1, retZ_tf, z_tf0, z_tf1, Decidable.not_not, Classical.not_not, nI_add, nI_clamp, n_le, n_lt, n_eq, nI_or, nI_and, z_sdf, of_nI, ite_not, m_i3, m_i99, m_i7, m_i1, m_i20, m_i2, m_i8, m_i15, m_i60, c_has]
    rw [if_neg (by omega), if_pos b, if_pos trivial]
theorem m_dy111 {T x k n c d : Nat} {y : Int64} (hT : T < 2 ^ 7) (hx : x < 7) (b : T.testBit x = true) (g : Hp) (κ56 : (Int32 × Int64 × Int32 × Int32 × Hp) → Res Hp) (κ65 : (Int32 × Int64 × Int32 × Int32 × Int32 × Hp) → Res Hp) : loopC (Mo_days_111 κ56 κ65) FU (nI n, y, nI c, nI d, nI k, nI T, nI (cnt x (fun i => T.testBit i)), nI 0, g) = bI (F_Mo_giveTo (nI k) (nI x) g) fun v h => κ65 (nI n, y, nI c + v, nI d, nI (k + 1), h) := by
  have cx := cnt_le x (fun i => T.testBit i)
  refine loop_for (N := x) (fun i => (nI n, y, nI c, nI d, nI k, nI T, nI (cnt x (fun i => T.testBit i) - cnt i (fun i => T.testBit i)), nI i, g)) rfl (by show _ < 4096; omega) (fun i κ hi => ?_) (fun κ => ?_)
  · have ci := cnt_le i (fun i => T.testBit i)
    have cm := cnt_up (P := fun i => T.testBit i) (Nat.le_of_lt hi)
    by_cases q : T.testBit i = true
    · have cl := cnt_up1 (P := fun i => T.testBit i) hi q
      have e : cnt x (fun i => T.testBit i) - cnt (i + 1) (fun i => T.testBit i) = cnt x (fun i => T.testBit i) - cnt i (fun i => T.testBit i) - 1 := by
        rw [cnt_s, if_pos q]
        omega
      rw [e]
      simp (disch := first | assumption | omega) only [Mo_days_111, lit_0, lit_1, lit_2, lit_3, lit_4, lit_5, lit_6, lit_7, lit_8, lit_9, lit_10, lit_11, lit_12, lit_16, lit_17, lit_20, lit_31, lit_32, lit_40, lit_47, lit_48, lit_49, lit_57, lit_58, lit_60, lit_64, lit_68, lit_80, lit_97, lit_99, lit_100, lit_101, lit_104, lit_108, lit_109, lit_115, lit_117, lit_121, lit_127, lit_128, lit_140, lit_1000, lit_1000000, lit_1048576, bI_ret, bV_ret, bL_ret, bH_t, cond_true, z_0, z_1, retZ_tf, z_tf0, z_tf1, Decidable.not_not, Classical.not_not, nI_add, nI_clamp, n_le, n_lt, n_eq, nI_or, nI_and, z_sdf, of_nI, ite_not, m_i3, m_i99, m_i7, m_i1, m_i20, m_i2, m_i8, m_i15, m_i60, m_has, if_pos q, nI_sb]
      rw [if_neg (by omega)]
    · have e : cnt x (fun i => T.testBit i) - cnt (i + 1) (fun i => T.testBit i) = cnt x (fun i => T.testBit i) - cnt i (fun i => T.testBit i) - 0 := by
        rw [cnt_s, if_neg q, Nat.sub_zero]
      rw [e]
      simp (disch := first | assumption | omega) only [Mo_days_111, lit_0, lit_1, lit_2, lit_3, lit_4, lit_5, lit_6, lit_7, lit_8, lit_9, lit_10, lit_11, lit_12, lit_16, lit_17, lit_20, lit_31, lit_32, lit_40, lit_47, lit_48, lit_49, lit_57, lit_58, lit_60, lit_64, lit_68, lit_80, lit_97, lit_99, lit_100, lit_101, lit_104, lit_108, lit_109, lit_115, lit_117, lit_121, lit_127, lit_128, lit_140, lit_1000, lit_1000000, lit_1048576, bI_ret, bV_ret, bL_ret, bH_t, cond_true, z_0, z_1, retZ_tf, z_tf0, z_tf1, Decidable.not_not, Classical.not_not, nI_add, nI_clamp, n_le, n_lt, n_eq, nI_or, nI_and, z_sdf, of_nI, ite_not, m_i3, m_i99, m_i7, m_i1, m_i20, m_i2, m_i8, m_i15, m_i60, m_has, if_neg q, nI_sb]
  · simp (disch := first | assumption | omega) only [Mo_days_111, lit_0, lit_1, lit_2, lit_3, lit_4, lit_5, lit_6, lit_7, lit_8, lit_9, lit_10, lit_11, lit_12, lit_16, lit_17, lit_20, lit_31, lit_32, lit_40, lit_47, lit_48, lit_49, lit_57, lit_58, lit_60, lit_64, lit_68, lit_80, lit_97, lit_99, lit_100, lit_101, lit_104, lit_108, lit_109, lit_115, lit_117, lit_121, lit_127, lit_128, lit_140, lit_1000, lit_1000000, lit_1048576, bI_ret, bV_ret, bL_ret, bH_t, cond_true, z_0, z_1, retZ_tf, z_tf0, z_tf1, Decidable.not_not, Classical.not_not, nI_add, nI_clamp, n_le, n_lt, n_eq, nI_or, nI_and, z_sdf, of_nI, ite_not, m_i3, m_i99, m_i7, m_i1, m_i20, m_i2, m_i8, m_i15, m_i60, m_has, if_pos b]
    rw [if_pos (by omega)]
/-- one letter, one day -/
def dyL (s : LV × Nat × Nat) (k : Nat) : LV × Nat × Nat := if tkr s.1 k = 0 then s else (pas s.1 k (memB (tkr s.1 k) (lotn s.2.1 % pop (tkr s.1 k))), lotn s.2.1, s.2.2 + if memB (tkr s.1 k) (lotn s.2.1 % pop (tkr s.1 k)) = s.1 9 k then 1 else 0)
def dyK (s : LV × Nat × Nat) : Nat → LV × Nat × Nat
  | 0 => s
  | k + 1 => dyL (dyK s k) k
def dyH (s : LV × Nat × Nat) : LV × Nat × Nat := (vs s.1 7 0 (s.1 7 0 + 1), s.2.1, s.2.2)
def dyD (s : LV × Nat × Nat) (N : Nat) : Nat → LV × Nat × Nat
  | 0 => s
  | n + 1 => dyH (dyK (dyD s N n) N)
section DAY
variable {s : LV × Nat × Nat} {k N : Nat} {g : Hp}
theorem dy_mem (w : WF s.1) (z : ¬ tkr s.1 k = 0) : memB (tkr s.1 k) (lotn s.2.1 % pop (tkr s.1 k)) < 7 ∧ (tkr s.1 k).testBit (memB (tkr s.1 k) (lotn s.2.1 % pop (tkr s.1 k))) = true ∧ cnt (memB (tkr s.1 k) (lotn s.2.1 % pop (tkr s.1 k))) (fun i => (tkr s.1 k).testBit i) = lotn s.2.1 % pop (tkr s.1 k) := by
  have T7 := tkr_lt (k := k) w
  have p0 := pop_0 _ T7
  exact memB_ok T7 (Nat.mod_lt _ (by have := p0.1; omega))
theorem dyL_ok (w : WF s.1) (hk : k < s.1 8 0) (ha : s.2.1 < 2147483647) : WF (dyL s k).1 ∧ (∀ f i, f < 11 → f ≠ 2 → (dyL s k).1 f i = s.1 f i) ∧ (dyL s k).2.1 < 2147483647 := by
  unfold dyL
  by_cases z : tkr s.1 k = 0
  · rw [if_pos z]
    exact ⟨w, fun _ _ _ _ => rfl, ha⟩
  · rw [if_neg z]
    obtain ⟨m1, m2, m3⟩ := dy_mem w z
    obtain ⟨t1, t2⟩ := tkr_tb m2
    exact ⟨wf_pas w hk t1 t2, fun f i h1 h2 => pas_o h1 h2, lotn_lt _⟩
theorem dyK_ok (w : WF s.1) (ha : s.2.1 < 2147483647) : ∀ k, k ≤ s.1 8 0 → WF (dyK s k).1 ∧ (∀ f i, f < 11 → f ≠ 2 → (dyK s k).1 f i = s.1 f i) ∧ (dyK s k).2.1 < 2147483647
  | 0, _ => ⟨w, fun _ _ _ _ => rfl, ha⟩
  | k + 1, q => by
    obtain ⟨a1, a2, a3⟩ := dyK_ok w ha k (by omega)
    obtain ⟨b1, b2, b3⟩ := dyL_ok (k := k) a1 (by rw [a2 8 0 (by decide) (by decide)]; omega) a3
    exact ⟨b1, fun f i h1 h2 => (b2 f i h1 h2).trans (a2 f i h1 h2), b3⟩
theorem dyD_ok (w : WF s.1) (ha : s.2.1 < 2147483647) (hN : s.1 8 0 = N) : ∀ n, s.1 7 0 + n ≤ 99 → WF (dyD s N n).1 ∧ (∀ f i, f < 11 → f ≠ 2 → f ≠ 7 → (dyD s N n).1 f i = s.1 f i) ∧ (dyD s N n).1 7 0 = s.1 7 0 + n ∧ (dyD s N n).2.1 < 2147483647
  | 0, _ => ⟨w, fun _ _ _ _ _ => rfl, rfl, ha⟩
  | n + 1, q => by
    obtain ⟨a1, a2, a3, a4⟩ := dyD_ok w ha hN n (by omega)
    obtain ⟨b1, b2, b3⟩ := dyK_ok a1 a4 N (by rw [a2 8 0 (by decide) (by decide) (by decide)]; omega)
    have b7 := b2 7 0 (by decide) (by decide)
    refine ⟨wf_vs7 b1 (by omega), fun f i h1 h2 h3 => ?_, ?_, b3⟩
    · show vs _ 7 0 _ f i = _
      rw [vs_ne h3, b2 f i h1 h2, a2 f i h1 h2 h3]
    · show vs (dyK (dyD s N n) N).1 7 0 ((dyK (dyD s N n) N).1 7 0 + 1) 7 0 = _
      rw [vs_eq, b7, a3]
      omega
theorem c_dyStep {n d : Nat} (w : WF s.1) (r : CLd 3 s.1 g) (hk : k < s.1 8 0) (ha : s.2.1 < 2147483647) : ∃ g', (∀ κ9 κ, La_goBy_18 κ9 (3, nI n, Int64.ofNat s.2.1, nI s.2.2, nI d, nI k, g) κ = κ (3, nI n, Int64.ofNat (dyL s k).2.1, nI (dyL s k).2.2, nI d, nI (k + 1), g')) ∧ CLd 3 (dyL s k).1 g' ∧ ∀ a j, ¬ (3 ≤ a ∧ a ≤ 31) → hg g' a j = hg g a j := by
  have h4 := wf_l w
  have hL := isL_3
  have k4 : k < 4 := by omega
  have T7 := tkr_lt (k := k) w
  have p0 := pop_0 _ T7
  have eT := c_takers isL_3 w r (le_of isL_3 w r hk) hk
  have eB := c_bits (show tkr s.1 k < 1024 by omega) g
  unfold dyL
  by_cases z : tkr s.1 k = 0
  · rw [if_pos z]
    refine ⟨g, fun κ9 κ => ?_, r, fun _ _ _ => rfl⟩
    simp (disch := first | assumption | omega) only [La_goBy_18, la_O, la_f0, la_f1, la_f2, la_f3, la_f4, la_f5, la_f6, la_f7, la_f8, la_f9, la_f10, la_f11, la_r0, la_r1, la_r2, la_r3, la_r4, la_r5, la_r6, la_r7, la_a1, la_a2, la_a3, la_a4, la_a5, la_a6, la_a15, la_a16, la_m, la_am, le_r, lit_0, lit_1, lit_2, lit_3, lit_4, lit_5, lit_6, lit_7, lit_8, lit_9, lit_10, lit_11, lit_12, lit_16, lit_17, lit_20, lit_31, lit_32, lit_40, lit_47, lit_48, lit_49, lit_57, lit_58, lit_60, lit_64, lit_68, lit_80, lit_97, lit_99, lit_100, lit_101, lit_104, lit_108, lit_109, lit_115, lit_117, lit_121, lit_127, lit_128, lit_140, lit_1000, lit_1000000, lit_1048576, bI_ret, bV_ret, bL_ret, bH_t, cond_true, z_0, z_1, retZ_tf, z_tf0, z_tf1, Decidable.not_not, Classical.not_not, nI_add, nI_clamp, n_le, n_lt, n_eq, nI_or, nI_and, z_sdf, of_nI, ite_not, m_i3, m_i99, m_i7, m_i1, m_i20, m_i2, m_i8, m_i15, m_i60, L_l r, eT, eB]
    rw [if_neg (by omega), if_pos (by omega)]
  · rw [if_neg z]
    obtain ⟨m1, m2, m3⟩ := dy_mem (k := k) w z
    obtain ⟨t1, t2⟩ := tkr_tb m2
    obtain ⟨g', q1, q2, q3⟩ := c_pass w r hk t1 t2
    have q1' : F_La_pass 3 (3 + 17 + 3 * k) (nI (memB (tkr s.1 k) (lotn s.2.1 % pop (tkr s.1 k)))) g = _ := q1
    have eM := c_memberAt T7 m1 m2 g
    rw [m3] at eM
    have n1 := lotn_lt s.2.1
    have nz : ¬ (nI (pop (tkr s.1 k))).toInt64 = 0 := nz64 _ (by omega) (by omega)
    have kO : okO (3 + 17 + 3 * k) 1 = true := le_O (isE_of isL_3 k4)
    have lI := lotI (b := lotn s.2.1) (p := pop (tkr s.1 k)) n1 (by omega)
    have e9 : (nI (memB (tkr s.1 k) (lotn s.2.1 % pop (tkr s.1 k))) = -nI 9) = False := nI_eq9 (by omega)
    refine ⟨g', fun κ9 κ => ?_, q2, q3⟩
    simp (disch := first | assumption | omega) only [La_goBy_18, la_O, la_f0, la_f1, la_f2, la_f3, la_f4, la_f5, la_f6, la_f7, la_f8, la_f9, la_f10, la_f11, la_r0, la_r1, la_r2, la_r3, la_r4, la_r5, la_r6, la_r7, la_a1, la_a2, la_a3, la_a4, la_a5, la_a6, la_a15, la_a16, la_m, la_am, le_r, lit_0, lit_1, lit_2, lit_3, lit_4, lit_5, lit_6, lit_7, lit_8, lit_9, lit_10, lit_11, lit_12, lit_16, lit_17, lit_20, lit_31, lit_32, lit_40, lit_47, lit_48, lit_49, lit_57, lit_58, lit_60, lit_64, lit_68, lit_80, lit_97, lit_99, lit_100, lit_101, lit_104, lit_108, lit_109, lit_115, lit_117, lit_121, lit_127, lit_128, lit_140, lit_1000, lit_1000000, lit_1048576, bI_ret, bV_ret, bL_ret, bH_t, cond_true, z_0, z_1, retZ_tf, z_tf0, z_tf1, Decidable.not_not, Classical.not_not, nI_add, nI_clamp, n_le, n_lt, n_eq, nI_or, nI_and, z_sdf, of_nI, ite_not, m_i3, m_i99, m_i7, m_i1, m_i20, m_i2, m_i8, m_i15, m_i60, L_l r, eT, eB, lotC ha, lI, if_neg nz, eM, q1', e9, if_false]
    rw [if_neg (by omega), if_neg (by omega)]
    split <;> rfl
theorem m_dyStep {n d : Nat} (w : WF s.1) (r : MLd s.1 g) (hk : k < s.1 8 0) (ha : s.2.1 < 2147483647) : ∃ g', (∀ κ9 κ, Mo_days_65 κ9 (nI n, Int64.ofNat s.2.1, nI s.2.2, nI d, nI k, g) κ = κ (nI n, Int64.ofNat (dyL s k).2.1, nI (dyL s k).2.2, nI d, nI (k + 1), g')) ∧ MLd (dyL s k).1 g' ∧ ∀ a j, a ≠ 186 → a ≠ 188 → hg g' a j = hg g a j := by
  have h4 := wf_l w
  have T7 := tkr_lt (k := k) w
  have p0 := pop_0 _ T7
  have eT := m_givable w r hk
  have eB := m_sizeOf (h := g) (show tkr s.1 k < 1024 by omega)
  unfold dyL
  by_cases z : tkr s.1 k = 0
  · rw [if_pos z]
    refine ⟨g, fun κ9 κ => ?_, r, fun _ _ _ _ => rfl⟩
    simp (disch := first | assumption | omega) only [Mo_days_65, lit_0, lit_1, lit_2, lit_3, lit_4, lit_5, lit_6, lit_7, lit_8, lit_9, lit_10, lit_11, lit_12, lit_16, lit_17, lit_20, lit_31, lit_32, lit_40, lit_47, lit_48, lit_49, lit_57, lit_58, lit_60, lit_64, lit_68, lit_80, lit_97, lit_99, lit_100, lit_101, lit_104, lit_108, lit_109, lit_115, lit_117, lit_121, lit_127, lit_128, lit_140, lit_1000, lit_1000000, lit_1048576, bI_ret, bV_ret, bL_ret, bH_t, cond_true, z_0, z_1, retZ_tf, z_tf0, z_tf1, Decidable.not_not, Classical.not_not, nI_add, nI_clamp, n_le, n_lt, n_eq, nI_or, nI_and, z_sdf, of_nI, ite_not, m_i3, m_i99, m_i7, m_i1, m_i20, m_i2, m_i8, m_i15, m_i60, M_l r, eT]
    rw [if_neg (by omega), if_pos z]
  · rw [if_neg z]
    obtain ⟨m1, m2, m3⟩ := dy_mem (k := k) w z
    obtain ⟨t1, t2⟩ := tkr_tb m2
    obtain ⟨g', q1, q2, q3⟩ := m_giveTo w r hk t1 t2
    have n1 := lotn_lt s.2.1
    have nz : ¬ (nI (pop (tkr s.1 k))).toInt64 = 0 := nz64 _ (by omega) (by omega)
    have lI := lotI (b := lotn s.2.1) (p := pop (tkr s.1 k)) n1 (by omega)
    refine ⟨g', fun κ9 κ => ?_, q2, q3⟩
    have eM := m_dy111 (n := n) (c := s.2.2) (d := d) (k := k) (y := Int64.ofNat (lotn s.2.1)) T7 m1 m2 g κ9 κ
    rw [m3, q1, bI_ret] at eM
    simp (disch := first | assumption | omega) only [Mo_days_65, lit_0, lit_1, lit_2, lit_3, lit_4, lit_5, lit_6, lit_7, lit_8, lit_9, lit_10, lit_11, lit_12, lit_16, lit_17, lit_20, lit_31, lit_32, lit_40, lit_47, lit_48, lit_49, lit_57, lit_58, lit_60, lit_64, lit_68, lit_80, lit_97, lit_99, lit_100, lit_101, lit_104, lit_108, lit_109, lit_115, lit_117, lit_121, lit_127, lit_128, lit_140, lit_1000, lit_1000000, lit_1048576, bI_ret, bV_ret, bL_ret, bH_t, cond_true, z_0, z_1, retZ_tf, z_tf0, z_tf1, Decidable.not_not, Classical.not_not, nI_add, nI_clamp, n_le, n_lt, n_eq, nI_or, nI_and, z_sdf, of_nI, ite_not, m_i3, m_i99, m_i7, m_i1, m_i20, m_i2, m_i8, m_i15, m_i60, M_l r, eT, eB, lotM ha, lI, if_neg nz, eM]
    rw [if_neg (by omega), if_neg z]
    split <;> rw [nI_add]
end DAY
