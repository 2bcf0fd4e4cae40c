/-! OPERATION: copy -/
theorem l_cmp {a c n : Nat} (ha : a < 2 ^ 31) (hc : c < 2 ^ 31) (hn : n < 2 ^ 31) : (0 < lg_cmp ((nI a).toInt64 + (nI c).toInt64) (nI n).toInt64) ↔ n < a + c := by
  rw [lg_cmp_gt, Int64.lt_iff_toInt_lt, Int64.toInt_add, Int32.toInt_toInt64, Int32.toInt_toInt64, Int32.toInt_toInt64, nI_toInt ha, nI_toInt hc, nI_toInt hn, Int.bmod_eq_of_le (by omega) (by omega)]
  omega
theorem l_cmp2 {a c n : Nat} (ha : a < 2 ^ 31) (hc : c < 2 ^ 31) (hn : n < 2 ^ 31) : (lg_cmp ((nI a).toInt64 + (nI c).toInt64) (nI n).toInt64 ≤ 0) ↔ a + c ≤ n := by
  rw [lg_cmp_le, Int64.le_iff_toInt_le, Int64.toInt_add, Int32.toInt_toInt64, Int32.toInt_toInt64, Int32.toInt_toInt64, nI_toInt ha, nI_toInt hc, nI_toInt hn, Int.bmod_eq_of_le (by omega) (by omega)]
  omega
/-- a start from which c places are there -/
def spnb (x : Int32) (c n : Nat) : Bool := decide (0 ≤ x.toInt) && decide (x.toInt + (c : Int) ≤ (n : Int))
abbrev spn (x : Int32) (c n : Nat) : Prop := spnb x c n = true
theorem spn_iff {x : Int32} {c n : Nat} : spn x c n ↔ 0 ≤ x.toInt ∧ x.toInt + (c : Int) ≤ (n : Int) := by simp [spn, spnb]
theorem spn_ex {x : Int32} {c n : Nat} (hn : n ≤ 80) (q : spn x c n) : ∃ a, x = nI a ∧ a + c ≤ n := by
  rw [spn_iff] at q
  obtain ⟨a, h1, h2⟩ := inR_ex (x := x) (n := 81) (by decide) (inR_iff.mpr (by omega))
  refine ⟨a, h2, ?_⟩
  subst h2
  rw [nI_toInt (by omega)] at q
  omega
theorem x_neg {x : Int32} : x < nI 0 ∨ ∃ a, a < 2 ^ 31 ∧ x = nI a := by
  by_cases q : x < nI 0
  · exact Or.inl q
  · have q1 : (x < nI 0) ↔ x.toInt < 0 := lt_toInt
    rw [q1] at q
    have := x.toInt_lt
    obtain ⟨a, h1, h2⟩ := inR_ex (x := x) (n := 2 ^ 31) (Nat.le_refl _) (inR_iff.mpr (by omega))
    exact Or.inr ⟨a, h1, h2⟩
theorem spn_neg {x : Int32} {c n : Nat} (hn : n ≤ 80) (q : x < nI 0) : ¬ spn x c n := fun z => by
  rw [spn_iff] at z
  have q1 : (x < nI 0) ↔ x.toInt < 0 := lt_toInt
  rw [q1] at q
  omega
theorem spn_nI {a c n : Nat} (ha : a < 2 ^ 31) (hn : n ≤ 80) : spn (nI a) c n ↔ a + c ≤ n := by
  rw [spn_iff, nI_toInt ha]
  omega
theorem c_spans {h : Hp} {s n c : Nat} (hs9 : s < 10) (hn : n ≤ 80) (e : hg h (71 + 2 * s) 1 = nI n) (hc : c < 2 ^ 31) (x : Int32) : F_Sh_spans (71 + 2 * s) x (nI c) h = retI (tf (spn x c n)) h := by
  unfold F_Sh_spans
  rw [sh_F1 hs9, cond_true, cond_true, e, retZ_0, retZ_1]
  rcases x_neg (x := x) with q | ⟨a, ha, rfl⟩
  · rw [tf_f (spn_neg hn q)]
    exact if_pos q
  · have e1 : ¬ nI a < (0 : Int32) := by show ¬ nI a < nI 0; rw [nI_ltI ha (by decide)]; omega
    have e2 : ¬ nI c < (0 : Int32) := by show ¬ nI c < nI 0; rw [nI_ltI hc (by decide)]; omega
    rw [if_neg e1, if_neg e2, propext (spn_nI (c := c) ha hn)]
    by_cases q : n < a
    · rw [if_pos (by rw [nI_ltI (by omega) ha]; exact q), tf_f (by omega)]
    · rw [if_neg (by rw [nI_ltI (by omega) ha]; exact q), nI_sb (by omega)]
      by_cases q2 : n - a < c
      · rw [if_pos (by rw [nI_ltI (by omega) hc]; exact q2), tf_f (by omega)]
      · rw [if_neg (by rw [nI_ltI (by omega) hc]; exact q2), tf_t (by omega)]
theorem okC_t {s t a b c : Nat} (hs9 : s < 10) (ht : t < 10) (h1 : a + c ≤ cap s) (h2 : b + c ≤ cap t) : okC (72 + 2 * s) (nI a) (72 + 2 * t) (nI b) (nI c) = true := by
  have k1 := cap_le s
  have k2 := cap_le t
  have ng : ∀ i, i ≤ 80 → decide (nI i < 0) = false := fun i hi => decide_eq_false (by show ¬ nI i < nI 0; rw [nI_ltI (by omega) (by decide)]; omega)
  unfold okC
  rw [sh_C hs9, sh_C ht, sh_N hs9, sh_N ht, ng a (by omega), ng b (by omega), ng c (by omega), nI_clamp (by omega), nI_clamp (by omega), nI_clamp (by omega), Nat.ble_eq.mpr h1, Nat.ble_eq.mpr h2]
  rfl
theorem hcp_g {h : Hp} {p q a b c : Nat} (ha : a < 2 ^ 31) (hb : b < 2 ^ 31) (hc : c < 2 ^ 31) (d k : Nat) : hg (hcp h p (nI a) q (nI b) (nI c)) d k = if d = q then (if b ≤ k ∧ k < b + c then hg h p (a + (k - b)) else hg h q k) else hg h d k := by
  show (if d = q then va_cpy (h.1 p) (h.1 q) (nI a).toNatClampNeg (nI b).toNatClampNeg (nI c).toNatClampNeg k else h.1 d k) = _
  rw [nI_clamp ha, nI_clamp hb, nI_clamp hc]
  rfl
theorem m_copyB {g : Hp} {t b c : Nat} (ht : t < 6) (hb : b + c ≤ 40) : ∃ h', loopC Mo_copy_136 FU (nI t, nI b, nI c, nI 0, g) = retI (nI 1) h' ∧ (∀ k, k < 40 → hg h' 181 (40 * t + k) = if b ≤ k ∧ k < b + c then hg g 182 (k - b) else hg g 181 (40 * t + k)) ∧ ∀ p j, ¬ (p = 181 ∧ 40 * t ≤ j ∧ j < 40 * t + 40) → hg h' p j = hg g p j := by
  refine loop_inv (N := c) (R := fun o => ∃ h', o = retI (nI 1) h' ∧ (∀ k, k < 40 → hg h' 181 (40 * t + k) = if b ≤ k ∧ k < b + c then hg g 182 (k - b) else hg g 181 (40 * t + k)) ∧ ∀ p j, ¬ (p = 181 ∧ 40 * t ≤ j ∧ j < 40 * t + 40) → hg h' p j = hg g p j) (fun i st => ∃ g1, st = (nI t, nI b, nI c, nI i, g1) ∧ (∀ k, k < 40 → hg g1 181 (40 * t + k) = if b ≤ k ∧ k < b + i then hg g 182 (k - b) else hg g 181 (40 * t + k)) ∧ ∀ p j, ¬ (p = 181 ∧ 40 * t ≤ j ∧ j < 40 * t + 40) → hg g1 p j = hg g p j) ⟨_, rfl, fun k hk => by rw [if_neg (by omega)], fun p j h1 => rfl⟩ (by show _ < 4096; omega) ?_ ?_
  · rintro i st hi ⟨g1, rfl, p2, p3⟩
    refine ⟨_, ⟨hs g1 181 (40 * t + (b + i)) (hg g1 182 i), rfl, fun k hk => ?_, fun p j h1 => by rw [hg_hs2, if_neg (by omega)]; exact p3 p j h1⟩, fun κ => ?_⟩
    · by_cases z : k = b + i
      · rw [z, hg_hs_eq, if_pos (by omega), Nat.add_sub_cancel_left, p3 182 i (by omega)]
      · rw [hg_hs_k (by omega), p2 k hk]
        by_cases y : b ≤ k ∧ k < b + i
        · rw [if_pos y, if_pos (by omega)]
        · rw [if_neg y, if_neg (by omega)]
    · simp (disch := first | assumption | omega) only [Mo_copy_136, lit_0, lit_1, lit_2, lit_3, lit_4, lit_5, lit_6, lit_7, lit_8, lit_9, lit_10, lit_11, lit_12, lit_16, lit_17, lit_20, lit_31, lit_32, lit_40, lit_47, lit_48, lit_49, lit_57, lit_58, lit_60, lit_64, lit_68, lit_80, lit_97, lit_99, lit_100, lit_101, lit_104, lit_108, lit_109, lit_115, lit_117, lit_121, lit_127, lit_128, lit_140, lit_1000, lit_1000000, lit_1048576, bI_ret, bV_ret, bL_ret, bH_t, cond_true, z_0, z_1, retZ_tf, z_tf0, z_tf1, Decidable.not_not, Classical.not_not, nI_add, nI_clamp, n_le, n_lt, n_eq, nI_or, nI_and, z_sdf, of_nI, oA_182, m_setRow ht (show b + i < 40 by omega)]
      rw [if_neg (by omega)]
  · rintro st ⟨g1, rfl, p2, p3⟩ κ
    refine ⟨g1, ?_, p2, p3⟩
    simp (disch := first | assumption | omega) only [Mo_copy_136, lit_0, lit_1, lit_2, lit_3, lit_4, lit_5, lit_6, lit_7, lit_8, lit_9, lit_10, lit_11, lit_12, lit_16, lit_17, lit_20, lit_31, lit_32, lit_40, lit_47, lit_48, lit_49, lit_57, lit_58, lit_60, lit_64, lit_68, lit_80, lit_97, lit_99, lit_100, lit_101, lit_104, lit_108, lit_109, lit_115, lit_117, lit_121, lit_127, lit_128, lit_140, lit_1000, lit_1000000, lit_1048576, bI_ret, bV_ret, bL_ret, bH_t, cond_true, z_0, z_1, retZ_tf, z_tf0, z_tf1, Decidable.not_not, Classical.not_not, nI_add, nI_clamp, n_le, n_lt, n_eq, nI_or, nI_and, z_sdf, of_nI, Nat.le_refl, if_true]
theorem m_copyA {g : Hp} {s t a b c : Nat} (hs9 : s < 6) (ht : t < 6) (ha : a + c ≤ 40) (hb : b + c ≤ 40) : ∃ h', loopC Mo_copy_104 FU (nI s, nI a, nI t, nI b, nI c, nI 0, g) = retI (nI 1) h' ∧ (∀ k, k < 40 → hg h' 181 (40 * t + k) = if b ≤ k ∧ k < b + c then hg g 181 (40 * s + (a + (k - b))) else hg g 181 (40 * t + k)) ∧ ∀ p j, ¬ p = 182 → ¬ (p = 181 ∧ 40 * t ≤ j ∧ j < 40 * t + 40) → hg h' p j = hg g p j := by
  refine loop_inv (N := c) (R := fun o => ∃ h', o = retI (nI 1) h' ∧ (∀ k, k < 40 → hg h' 181 (40 * t + k) = if b ≤ k ∧ k < b + c then hg g 181 (40 * s + (a + (k - b))) else hg g 181 (40 * t + k)) ∧ ∀ p j, ¬ p = 182 → ¬ (p = 181 ∧ 40 * t ≤ j ∧ j < 40 * t + 40) → hg h' p j = hg g p j) (fun i st => ∃ g1, st = (nI s, nI a, nI t, nI b, nI c, nI i, g1) ∧ (∀ k, k < i → hg g1 182 k = hg g 181 (40 * s + (a + k))) ∧ ∀ p j, ¬ p = 182 → hg g1 p j = hg g p j) ⟨_, rfl, fun k hk => absurd hk (Nat.not_lt_zero k), fun p j h1 => rfl⟩ (by show _ < 4096; omega) ?_ ?_
  · rintro i st hi ⟨g1, rfl, p2, p3⟩
    refine ⟨_, ⟨hs g1 182 i (hg g1 181 (40 * s + (a + i))), rfl, fun k hk => ?_, fun p j h1 => (hg_hs_a h1).trans (p3 p j h1)⟩, fun κ => ?_⟩
    · by_cases z : k = i
      · rw [z, hg_hs_eq, p3 181 _ (by omega)]
      · rw [hg_hs_k z]; exact p2 k (by omega)
    · simp (disch := first | assumption | omega) only [Mo_copy_104, lit_0, lit_1, lit_2, lit_3, lit_4, lit_5, lit_6, lit_7, lit_8, lit_9, lit_10, lit_11, lit_12, lit_16, lit_17, lit_20, lit_31, lit_32, lit_40, lit_47, lit_48, lit_49, lit_57, lit_58, lit_60, lit_64, lit_68, lit_80, lit_97, lit_99, lit_100, lit_101, lit_104, lit_108, lit_109, lit_115, lit_117, lit_121, lit_127, lit_128, lit_140, lit_1000, lit_1000000, lit_1048576, bI_ret, bV_ret, bL_ret, bH_t, cond_true, z_0, z_1, retZ_tf, z_tf0, z_tf1, Decidable.not_not, Classical.not_not, nI_add, nI_clamp, n_le, n_lt, n_eq, nI_or, nI_and, z_sdf, of_nI, oA_182, m_rowAt hs9 (show a + i < 40 by omega)]
      rw [if_neg (by omega)]
  · rintro st ⟨g1, rfl, p2, p3⟩ κ
    obtain ⟨h', k1, k2, k3⟩ := m_copyB (g := g1) ht hb
    refine ⟨h', ?_, fun k hk => ?_, fun p j n1 n2 => (k3 p j n2).trans (p3 p j n1)⟩
    · simp (disch := first | assumption | omega) only [Mo_copy_104, lit_0, lit_1, lit_2, lit_3, lit_4, lit_5, lit_6, lit_7, lit_8, lit_9, lit_10, lit_11, lit_12, lit_16, lit_17, lit_20, lit_31, lit_32, lit_40, lit_47, lit_48, lit_49, lit_57, lit_58, lit_60, lit_64, lit_68, lit_80, lit_97, lit_99, lit_100, lit_101, lit_104, lit_108, lit_109, lit_115, lit_117, lit_121, lit_127, lit_128, lit_140, lit_1000, lit_1000000, lit_1048576, bI_ret, bV_ret, bL_ret, bH_t, cond_true, z_0, z_1, retZ_tf, z_tf0, z_tf1, Decidable.not_not, Classical.not_not, nI_add, nI_clamp, n_le, n_lt, n_eq, nI_or, nI_and, z_sdf, of_nI, Nat.le_refl, if_true, k1]
    · rw [k2 k hk]
      by_cases y : b ≤ k ∧ k < b + c
      · rw [if_pos y, if_pos y]; exact p2 _ (by omega)
      · rw [if_neg y, if_neg y]; exact p3 _ _ (by omega)
theorem l_gt {a c n : Nat} (ha : a < 2 ^ 31) (hc : c < 2 ^ 31) (hn : n < 2 ^ 31) : (nI 0 < lg_cmp ((nI a).toInt64 + (nI c).toInt64) (nI n).toInt64) = (n < a + c) := propext (l_cmp ha hc hn)
theorem l_le {a c n : Nat} (ha : a < 2 ^ 31) (hc : c < 2 ^ 31) (hn : n < 2 ^ 31) : (lg_cmp ((nI a).toInt64 + (nI c).toInt64) (nI n).toInt64 ≤ nI 0) = (a + c ≤ n) := propext (l_cmp2 ha hc hn)
theorem m_copy_y {g : Hp} {s t n m a b c : Nat} (hs9 : s < 6) (ht : t < 6) (ha : a + c ≤ n) (hb : b + c ≤ m) (hn : n ≤ 40) (hm : m ≤ 40) (e1 : hg g 180 s = nI n) (e2 : hg g 180 t = nI m) : F_Mo_copy (nI s) (nI a) (nI t) (nI b) (nI c) g = loopC Mo_copy_104 FU (nI s, nI a, nI t, nI b, nI c, nI 0, g) := by
  have k1 : inR (nI s) 6 := (inR_nI (by omega)).mpr hs9
  have k2 : inR (nI t) 6 := (inR_nI (by omega)).mpr ht
  have z : (n < a + c) = False := propext ⟨fun y => by omega, fun y => y.elim⟩
  simp (disch := first | assumption | omega) only [F_Mo_copy, lit_0, lit_1, lit_2, lit_3, lit_4, lit_5, lit_6, lit_7, lit_8, lit_9, lit_10, lit_11, lit_12, lit_16, lit_17, lit_20, lit_31, lit_32, lit_40, lit_47, lit_48, lit_49, lit_57, lit_58, lit_60, lit_64, lit_68, lit_80, lit_97, lit_99, lit_100, lit_101, lit_104, lit_108, lit_109, lit_115, lit_117, lit_121, lit_127, lit_128, lit_140, lit_1000, lit_1000000, lit_1048576, bI_ret, bV_ret, bL_ret, bH_t, cond_true, z_0, z_1, retZ_tf, z_tf0, z_tf1, Decidable.not_not, Classical.not_not, nI_add, nI_clamp, n_le, n_lt, n_eq, nI_or, nI_and, z_sdf, of_nI, ite_not, m_i3, m_i99, m_i7, m_i1, m_i20, m_i2, m_i8, m_i15, m_i60, m_isRow, k1, k2, oA_180, e1, e2, l_gt, l_le, ↓reduceIte, Nat.zero_le, Nat.not_lt_zero, z, hb]
  rw [if_pos k1, if_pos k2]
theorem m_copy_n {g : Hp} {x y : Int32} {s t n m c : Nat} (hs9 : s < 6) (ht : t < 6) (hc : c < 2 ^ 31) (hn : n ≤ 40) (hm : m ≤ 40) (e1 : hg g 180 s = nI n) (e2 : hg g 180 t = nI m) (q : ¬ (spn x c n ∧ spn y c m)) : F_Mo_copy (nI s) x (nI t) y (nI c) g = F_Mo_meetWith (nI 2) g := by
  have k1 : inR (nI s) 6 := (inR_nI (by omega)).mpr hs9
  have k2 : inR (nI t) 6 := (inR_nI (by omega)).mpr ht
  rcases x_neg (x := x) with h1 | ⟨a, ha, rfl⟩
  · simp (disch := first | assumption | omega) only [F_Mo_copy, lit_0, lit_1, lit_2, lit_3, lit_4, lit_5, lit_6, lit_7, lit_8, lit_9, lit_10, lit_11, lit_12, lit_16, lit_17, lit_20, lit_31, lit_32, lit_40, lit_47, lit_48, lit_49, lit_57, lit_58, lit_60, lit_64, lit_68, lit_80, lit_97, lit_99, lit_100, lit_101, lit_104, lit_108, lit_109, lit_115, lit_117, lit_121, lit_127, lit_128, lit_140, lit_1000, lit_1000000, lit_1048576, bI_ret, bV_ret, bL_ret, bH_t, cond_true, z_0, z_1, retZ_tf, z_tf0, z_tf1, Decidable.not_not, Classical.not_not, nI_add, nI_clamp, n_le, n_lt, n_eq, nI_or, nI_and, z_sdf, of_nI, ite_not, m_i3, m_i99, m_i7, m_i1, m_i20, m_i2, m_i8, m_i15, m_i60, m_isRow, k1, k2, oA_180, e1, e2, ↓reduceIte, Nat.zero_le, Nat.not_lt_zero, h1, meet_b]
    rw [if_pos k1, if_pos k2]
  · rcases x_neg (x := y) with h2 | ⟨b, hb, rfl⟩
    · simp (disch := first | assumption | omega) only [F_Mo_copy, lit_0, lit_1, lit_2, lit_3, lit_4, lit_5, lit_6, lit_7, lit_8, lit_9, lit_10, lit_11, lit_12, lit_16, lit_17, lit_20, lit_31, lit_32, lit_40, lit_47, lit_48, lit_49, lit_57, lit_58, lit_60, lit_64, lit_68, lit_80, lit_97, lit_99, lit_100, lit_101, lit_104, lit_108, lit_109, lit_115, lit_117, lit_121, lit_127, lit_128, lit_140, lit_1000, lit_1000000, lit_1048576, bI_ret, bV_ret, bL_ret, bH_t, cond_true, z_0, z_1, retZ_tf, z_tf0, z_tf1, Decidable.not_not, Classical.not_not, nI_add, nI_clamp, n_le, n_lt, n_eq, nI_or, nI_and, z_sdf, of_nI, ite_not, m_i3, m_i99, m_i7, m_i1, m_i20, m_i2, m_i8, m_i15, m_i60, m_isRow, k1, k2, oA_180, e1, e2, ↓reduceIte, Nat.zero_le, Nat.not_lt_zero, h2, meet_b]
      rw [if_pos k1, if_pos k2]
    · rw [spn_nI ha (by omega), spn_nI hb (by omega)] at q
      by_cases z : n < a + c
      · simp (disch := first | assumption | omega) only [F_Mo_copy, lit_0, lit_1, lit_2, lit_3, lit_4, lit_5, lit_6, lit_7, lit_8, lit_9, lit_10, lit_11, lit_12, lit_16, lit_17, lit_20, lit_31, lit_32, lit_40, lit_47, lit_48, lit_49, lit_57, lit_58, lit_60, lit_64, lit_68, lit_80, lit_97, lit_99, lit_100, lit_101, lit_104, lit_108, lit_109, lit_115, lit_117, lit_121, lit_127, lit_128, lit_140, lit_1000, lit_1000000, lit_1048576, bI_ret, bV_ret, bL_ret, bH_t, cond_true, z_0, z_1, retZ_tf, z_tf0, z_tf1, Decidable.not_not, Classical.not_not, nI_add, nI_clamp, n_le, n_lt, n_eq, nI_or, nI_and, z_sdf, of_nI, ite_not, m_i3, m_i99, m_i7, m_i1, m_i20, m_i2, m_i8, m_i15, m_i60, m_isRow, k1, k2, oA_180, e1, e2, l_gt, ↓reduceIte, Nat.zero_le, Nat.not_lt_zero, z, meet_b]
        rw [if_pos k1, if_pos k2]
      · have z2 : (b + c ≤ m) = False := propext ⟨fun y => by omega, fun y => y.elim⟩
        simp (disch := first | assumption | omega) only [F_Mo_copy, lit_0, lit_1, lit_2, lit_3, lit_4, lit_5, lit_6, lit_7, lit_8, lit_9, lit_10, lit_11, lit_12, lit_16, lit_17, lit_20, lit_31, lit_32, lit_40, lit_47, lit_48, lit_49, lit_57, lit_58, lit_60, lit_64, lit_68, lit_80, lit_97, lit_99, lit_100, lit_101, lit_104, lit_108, lit_109, lit_115, lit_117, lit_121, lit_127, lit_128, lit_140, lit_1000, lit_1000000, lit_1048576, bI_ret, bV_ret, bL_ret, bH_t, cond_true, z_0, z_1, retZ_tf, z_tf0, z_tf1, Decidable.not_not, Classical.not_not, nI_add, nI_clamp, n_le, n_lt, n_eq, nI_or, nI_and, z_sdf, of_nI, ite_not, m_i3, m_i99, m_i7, m_i1, m_i20, m_i2, m_i8, m_i15, m_i60, m_isRow, k1, k2, oA_180, e1, e2, l_gt, l_le, ↓reduceIte, Nat.zero_le, Nat.not_lt_zero, z, z2, meet_b]
        rw [if_pos k1, if_pos k2]
theorem m_copy_g {g : Hp} {x y : Int32} {s t c : Nat} (hs9 : s < 6) (ht : t < 6) (hc : c < 2 ^ 31) (q : hg g 180 s = -nI 9 ∨ (∃ n, n ≤ 40 ∧ hg g 180 s = nI n) ∧ hg g 180 t = -nI 9) : F_Mo_copy (nI s) x (nI t) y (nI c) g = F_Mo_meetWith (nI 1) g := by
  have k1 : inR (nI s) 6 := (inR_nI (by omega)).mpr hs9
  have k2 : inR (nI t) 6 := (inR_nI (by omega)).mpr ht
  have k3 : (-nI 9 < nI 0) = True := propext ⟨fun _ => trivial, fun _ => by decide⟩
  have k4 : (nI 0 ≤ -nI 9) = False := propext ⟨fun y => absurd y (by decide), fun y => y.elim⟩
  rcases q with q | ⟨⟨n, hn, q1⟩, q2⟩
  · simp (disch := first | assumption | omega) only [F_Mo_copy, lit_0, lit_1, lit_2, lit_3, lit_4, lit_5, lit_6, lit_7, lit_8, lit_9, lit_10, lit_11, lit_12, lit_16, lit_17, lit_20, lit_31, lit_32, lit_40, lit_47, lit_48, lit_49, lit_57, lit_58, lit_60, lit_64, lit_68, lit_80, lit_97, lit_99, lit_100, lit_101, lit_104, lit_108, lit_109, lit_115, lit_117, lit_121, lit_127, lit_128, lit_140, lit_1000, lit_1000000, lit_1048576, bI_ret, bV_ret, bL_ret, bH_t, cond_true, z_0, z_1, retZ_tf, z_tf0, z_tf1, Decidable.not_not, Classical.not_not, nI_add, nI_clamp, n_le, n_lt, n_eq, nI_or, nI_and, z_sdf, of_nI, ite_not, m_i3, m_i99, m_i7, m_i1, m_i20, m_i2, m_i8, m_i15, m_i60, m_isRow, k1, k2, oA_180, q, ↓reduceIte, Nat.zero_le, k3, meet_b]
    rw [if_pos k1, if_pos k2]
  · simp (disch := first | assumption | omega) only [F_Mo_copy, lit_0, lit_1, lit_2, lit_3, lit_4, lit_5, lit_6, lit_7, lit_8, lit_9, lit_10, lit_11, lit_12, lit_16, lit_17, lit_20, lit_31, lit_32, lit_40, lit_47, lit_48, lit_49, lit_57, lit_58, lit_60, lit_64, lit_68, lit_80, lit_97, lit_99, lit_100, lit_101, lit_104, lit_108, lit_109, lit_115, lit_117, lit_121, lit_127, lit_128, lit_140, lit_1000, lit_1000000, lit_1048576, bI_ret, bV_ret, bL_ret, bH_t, cond_true, z_0, z_1, retZ_tf, z_tf0, z_tf1, Decidable.not_not, Classical.not_not, nI_add, nI_clamp, n_le, n_lt, n_eq, nI_or, nI_and, z_sdf, of_nI, ite_not, m_i3, m_i99, m_i7, m_i1, m_i20, m_i2, m_i8, m_i15, m_i60, m_isRow, k1, k2, oA_180, q1, q2, ↓reduceIte, Nat.zero_le, Nat.not_lt_zero, k4, meet_b]
    rw [if_pos k1, if_pos k2]
theorem g_copy (x p y q l : Int32) {h : Hp} (I : Inv h) : Ok (F_Bp_copy x p y q l) (F_Mo_copy x p y q l) h := by
  by_cases hx : inR x 6
  · by_cases hy : inR y 6
    · obtain ⟨s, hs9, rfl⟩ := inR_ex (by decide) hx
      obtain ⟨t, ht, rfl⟩ := inR_ex (by decide) hy
      have s10 : s < 10 := by omega
      have t10 : t < 10 := by omega
      rcases x_neg (x := l) with hl | ⟨c, hc, rfl⟩
      · have hl2 : (nI 0 ≤ l) = False := propext ⟨fun z => by
          rw [le_toInt] at z
          rw [lt_toInt] at hl
          omega, fun z => z.elim⟩
        refine fin_f I (k := 5) (h1 := h) (by decide) (by decide) ?_ (frS_rf h) fun g1 hg1 => ?_
        · simp (disch := first | assumption | omega) only [F_Bp_copy, lit_0, lit_1, lit_2, lit_3, lit_4, lit_5, lit_6, lit_7, lit_8, lit_9, lit_10, lit_11, lit_12, lit_16, lit_17, lit_20, lit_31, lit_32, lit_40, lit_47, lit_48, lit_49, lit_57, lit_58, lit_60, lit_64, lit_68, lit_80, lit_97, lit_99, lit_100, lit_101, lit_104, lit_108, lit_109, lit_115, lit_117, lit_121, lit_127, lit_128, lit_140, lit_1000, lit_1000000, lit_1048576, bI_ret, bV_ret, bL_ret, bH_t, cond_true, z_0, z_1, retZ_tf, z_tf0, z_tf1, Decidable.not_not, Classical.not_not, nI_add, nI_clamp, n_le, n_lt, n_eq, nI_or, nI_and, z_sdf, of_nI, ite_not, m_i3, m_i99, m_i7, m_i1, m_i20, m_i2, m_i8, m_i15, m_i60, c_noRow, if_pos hx, if_pos hy, hl2, if_false, found_b]
        · simp (disch := first | assumption | omega) only [F_Mo_copy, lit_0, lit_1, lit_2, lit_3, lit_4, lit_5, lit_6, lit_7, lit_8, lit_9, lit_10, lit_11, lit_12, lit_16, lit_17, lit_20, lit_31, lit_32, lit_40, lit_47, lit_48, lit_49, lit_57, lit_58, lit_60, lit_64, lit_68, lit_80, lit_97, lit_99, lit_100, lit_101, lit_104, lit_108, lit_109, lit_115, lit_117, lit_121, lit_127, lit_128, lit_140, lit_1000, lit_1000000, lit_1048576, bI_ret, bV_ret, bL_ret, bH_t, cond_true, z_0, z_1, retZ_tf, z_tf0, z_tf1, Decidable.not_not, Classical.not_not, nI_add, nI_clamp, n_le, n_lt, n_eq, nI_or, nI_and, z_sdf, of_nI, ite_not, m_i3, m_i99, m_i7, m_i1, m_i20, m_i2, m_i8, m_i15, m_i60, m_isRow, if_pos hx, if_pos hy, hl2, if_false, meet_b]
      · have hl2 : (nI 0 ≤ nI c) = True := propext ⟨fun _ => trivial, fun _ => by rw [nI_leI (by decide) hc]; omega⟩
        have ag : ∀ g1, (∀ a j, ¬ scr a j → ¬ fpA a j → hg g1 a j = hg h a j) → ∀ j, hg g1 180 j = hg h 180 j := fun g1 hg1 j => hg1 180 j (by unfold scr; omega) (by unfold fpA; omega)
        rcases row_cases I hs9 with ⟨-, c2, c3⟩ | ⟨n, hn, c1, c2, c3, c4⟩
        · refine fin_f I (k := 1) (h1 := h) (by decide) (by decide) ?_ (frS_rf h) fun g1 hg1 => m_copy_g hs9 ht hc (Or.inl ((ag g1 hg1 s).trans c2))
          simp (disch := first | assumption | omega) only [F_Bp_copy, lit_0, lit_1, lit_2, lit_3, lit_4, lit_5, lit_6, lit_7, lit_8, lit_9, lit_10, lit_11, lit_12, lit_16, lit_17, lit_20, lit_31, lit_32, lit_40, lit_47, lit_48, lit_49, lit_57, lit_58, lit_60, lit_64, lit_68, lit_80, lit_97, lit_99, lit_100, lit_101, lit_104, lit_108, lit_109, lit_115, lit_117, lit_121, lit_127, lit_128, lit_140, lit_1000, lit_1000000, lit_1048576, bI_ret, bV_ret, bL_ret, bH_t, cond_true, z_0, z_1, retZ_tf, z_tf0, z_tf1, Decidable.not_not, Classical.not_not, nI_add, nI_clamp, n_le, n_lt, n_eq, nI_or, nI_and, z_sdf, of_nI, ite_not, m_i3, m_i99, m_i7, m_i1, m_i20, m_i2, m_i8, m_i15, m_i60, c_noRow, if_pos hx, if_pos hy, hl2, if_true, oR_1, sR_1, sh_O s10, c_sheetIs_g s10 c3, found_b, not_false_iff]
          first | done | rw [if_neg id]
        · rcases row_cases I ht with ⟨-, d2, d3⟩ | ⟨m, hm, d1, d2, d3, d4⟩
          · refine fin_f I (k := 1) (h1 := h) (by decide) (by decide) ?_ (frS_rf h) fun g1 hg1 => m_copy_g hs9 ht hc (Or.inr ⟨⟨n, hn, (ag g1 hg1 s).trans c2⟩, (ag g1 hg1 t).trans d2⟩)
            simp (disch := first | assumption | omega) only [F_Bp_copy, lit_0, lit_1, lit_2, lit_3, lit_4, lit_5, lit_6, lit_7, lit_8, lit_9, lit_10, lit_11, lit_12, lit_16, lit_17, lit_20, lit_31, lit_32, lit_40, lit_47, lit_48, lit_49, lit_57, lit_58, lit_60, lit_64, lit_68, lit_80, lit_97, lit_99, lit_100, lit_101, lit_104, lit_108, lit_109, lit_115, lit_117, lit_121, lit_127, lit_128, lit_140, lit_1000, lit_1000000, lit_1048576, bI_ret, bV_ret, bL_ret, bH_t, cond_true, z_0, z_1, retZ_tf, z_tf0, z_tf1, Decidable.not_not, Classical.not_not, nI_add, nI_clamp, n_le, n_lt, n_eq, nI_or, nI_and, z_sdf, of_nI, ite_not, m_i3, m_i99, m_i7, m_i1, m_i20, m_i2, m_i8, m_i15, m_i60, c_noRow, if_pos hx, if_pos hy, hl2, if_true, if_false, not_true, oR_1, sR_1, sh_O s10, sh_O t10, c_sheetIs_t s10 c3, c_sheetIs_g t10 d3, found_b, not_false_iff]
            first | done | rw [if_neg id]
          · by_cases z : spn p c n ∧ spn q c m
            · obtain ⟨a, rfl, ha⟩ := spn_ex (by omega) z.1
              obtain ⟨b, rfl, hb⟩ := spn_ex (by omega) z.2
              have hcs : cap s = 40 := if_pos hs9
              have hct : cap t = 40 := if_pos ht
              have g0 : ∀ k j, hg (hcp h (72 + 2 * s) (nI a) (72 + 2 * t) (nI b) (nI c)) k j = if k = 72 + 2 * t then (if b ≤ j ∧ j < b + c then hg h (72 + 2 * s) (a + (j - b)) else hg h (72 + 2 * t) j) else hg h k j := fun k j => hcp_g (by omega) (by omega) hc k j
              obtain ⟨h2, e1, e2, e3⟩ := m_copyA (g := hcp h (72 + 2 * s) (nI a) (72 + 2 * t) (nI b) (nI c)) (s := s) (t := t) (a := a) (b := b) (c := c) hs9 ht (by omega) (by omega)
              have k1 : hg (hcp h (72 + 2 * s) (nI a) (72 + 2 * t) (nI b) (nI c)) 180 s = nI n := by rw [g0, if_neg (by omega)]; exact c2
              have k2 : hg (hcp h (72 + 2 * s) (nI a) (72 + 2 * t) (nI b) (nI c)) 180 t = nI m := by rw [g0, if_neg (by omega)]; exact d2
              have fr : ∀ k j, ¬ scr k j → ¬ fpS t k j → hg h2 k j = hg h k j := fun k j n1 n2 => by
                rw [e3 k j (fun z => n1 (by unfold scr; omega)) (fun z => n2 (by unfold fpS; omega)), g0, if_neg (fun z => n2 (by unfold fpS; omega))]
              refine ⟨(nI 1), _, h2, ?_, (m_copy_y hs9 ht ha hb hn hm k1 k2).trans e1, Inv_R I (s := t) t10 (CA_ag2 (s := t) I fr t10) (Or.inr ⟨m, d3.1, ?_, ?_, fun j hj => ?_⟩) fun a j n1 n2 n3 => fr a j n1 n3⟩
              · simp (disch := first | assumption | omega) only [F_Bp_copy, lit_0, lit_1, lit_2, lit_3, lit_4, lit_5, lit_6, lit_7, lit_8, lit_9, lit_10, lit_11, lit_12, lit_16, lit_17, lit_20, lit_31, lit_32, lit_40, lit_47, lit_48, lit_49, lit_57, lit_58, lit_60, lit_64, lit_68, lit_80, lit_97, lit_99, lit_100, lit_101, lit_104, lit_108, lit_109, lit_115, lit_117, lit_121, lit_127, lit_128, lit_140, lit_1000, lit_1000000, lit_1048576, bI_ret, bV_ret, bL_ret, bH_t, cond_true, z_0, z_1, retZ_tf, z_tf0, z_tf1, Decidable.not_not, Classical.not_not, nI_add, nI_clamp, n_le, n_lt, n_eq, nI_or, nI_and, z_sdf, of_nI, ite_not, m_i3, m_i99, m_i7, m_i1, m_i20, m_i2, m_i8, m_i15, m_i60, c_noRow, if_pos hx, if_pos hy, hl2, if_true, if_false, not_true, oR_1, sR_1, sh_O s10, sh_O t10, sh_F0 s10, sh_F0 t10, sh_R s10, sh_R t10, c_sheetIs_t s10 c3, c_sheetIs_t t10 d3, c_spans s10 (show n ≤ 80 by omega) c1 hc, c_spans t10 (show m ≤ 80 by omega) d1 hc, z.1, z.2, okC_t s10 t10 (show a + c ≤ cap s by omega) (show b + c ≤ cap t by omega)]
                rw [if_pos z.1, if_pos z.2]
                rfl
              · rw [e3 _ _ (by omega) (by omega), g0, if_neg (by omega)]; exact d1
              · unfold mSz; rw [if_pos ht, e3 _ _ (by omega) (by omega), g0, if_neg (by omega)]; exact d2
              · unfold mVl
                rw [if_pos ht, e2 j (by omega), e3 _ _ (by omega) (by omega), g0, if_pos rfl]
                by_cases y : b ≤ j ∧ j < b + c
                · rw [if_pos y, if_pos y, g0, if_neg (by omega), ← c4 _ (by omega)]
                · rw [if_neg y, if_neg y, g0, if_neg (by omega), ← d4 _ hj]
            · refine fin_f I (k := 2) (h1 := h) (by decide) (by decide) ?_ (frS_rf h) fun g1 hg1 => m_copy_n hs9 ht hc hn hm ((ag g1 hg1 s).trans c2) ((ag g1 hg1 t).trans d2) z
              simp (disch := first | assumption | omega) only [F_Bp_copy, lit_0, lit_1, lit_2, lit_3, lit_4, lit_5, lit_6, lit_7, lit_8, lit_9, lit_10, lit_11, lit_12, lit_16, lit_17, lit_20, lit_31, lit_32, lit_40, lit_47, lit_48, lit_49, lit_57, lit_58, lit_60, lit_64, lit_68, lit_80, lit_97, lit_99, lit_100, lit_101, lit_104, lit_108, lit_109, lit_115, lit_117, lit_121, lit_127, lit_128, lit_140, lit_1000, lit_1000000, lit_1048576, bI_ret, bV_ret, bL_ret, bH_t, cond_true, z_0, z_1, retZ_tf, z_tf0, z_tf1, Decidable.not_not, Classical.not_not, nI_add, nI_clamp, n_le, n_lt, n_eq, nI_or, nI_and, z_sdf, of_nI, ite_not, m_i3, m_i99, m_i7, m_i1, m_i20, m_i2, m_i8, m_i15, m_i60, c_noRow, if_pos hx, if_pos hy, hl2, if_true, if_false, not_true, oR_1, sR_1, sh_O s10, sh_O t10, c_sheetIs_t s10 c3, c_sheetIs_t t10 d3, c_spans s10 (show n ≤ 80 by omega) c1 hc, c_spans t10 (show m ≤ 80 by omega) d1 hc, found_b]
              by_cases z1 : spn p c n
              · rw [if_pos z1, if_neg (fun k => z ⟨z1, k⟩)]
              · rw [if_neg z1]
    · refine fin_q I (h1 := h) (h2 := h) (x := -nI 1) ?_ (frS_rf h) ?_ (frS_rf h)
      · simp (disch := first | assumption | omega) only [F_Bp_copy, lit_0, lit_1, lit_2, lit_3, lit_4, lit_5, lit_6, lit_7, lit_8, lit_9, lit_10, lit_11, lit_12, lit_16, lit_17, lit_20, lit_31, lit_32, lit_40, lit_47, lit_48, lit_49, lit_57, lit_58, lit_60, lit_64, lit_68, lit_80, lit_97, lit_99, lit_100, lit_101, lit_104, lit_108, lit_109, lit_115, lit_117, lit_121, lit_127, lit_128, lit_140, lit_1000, lit_1000000, lit_1048576, bI_ret, bV_ret, bL_ret, bH_t, cond_true, z_0, z_1, retZ_tf, z_tf0, z_tf1, Decidable.not_not, Classical.not_not, nI_add, nI_clamp, n_le, n_lt, n_eq, nI_or, nI_and, z_sdf, of_nI, ite_not, m_i3, m_i99, m_i7, m_i1, m_i20, m_i2, m_i8, m_i15, m_i60, c_noRow, if_pos hx, if_neg hy]
      · simp (disch := first | assumption | omega) only [F_Mo_copy, lit_0, lit_1, lit_2, lit_3, lit_4, lit_5, lit_6, lit_7, lit_8, lit_9, lit_10, lit_11, lit_12, lit_16, lit_17, lit_20, lit_31, lit_32, lit_40, lit_47, lit_48, lit_49, lit_57, lit_58, lit_60, lit_64, lit_68, lit_80, lit_97, lit_99, lit_100, lit_101, lit_104, lit_108, lit_109, lit_115, lit_117, lit_121, lit_127, lit_128, lit_140, lit_1000, lit_1000000, lit_1048576, bI_ret, bV_ret, bL_ret, bH_t, cond_true, z_0, z_1, retZ_tf, z_tf0, z_tf1, Decidable.not_not, Classical.not_not, nI_add, nI_clamp, n_le, n_lt, n_eq, nI_or, nI_and, z_sdf, of_nI, ite_not, m_i3, m_i99, m_i7, m_i1, m_i20, m_i2, m_i8, m_i15, m_i60, m_isRow, if_pos hx, if_neg hy]
  · refine fin_q I (h1 := h) (h2 := h) (x := -nI 1) ?_ (frS_rf h) ?_ (frS_rf h)
    · simp (disch := first | assumption | omega) only [F_Bp_copy, lit_0, lit_1, lit_2, lit_3, lit_4, lit_5, lit_6, lit_7, lit_8, lit_9, lit_10, lit_11, lit_12, lit_16, lit_17, lit_20, lit_31, lit_32, lit_40, lit_47, lit_48, lit_49, lit_57, lit_58, lit_60, lit_64, lit_68, lit_80, lit_97, lit_99, lit_100, lit_101, lit_104, lit_108, lit_109, lit_115, lit_117, lit_121, lit_127, lit_128, lit_140, lit_1000, lit_1000000, lit_1048576, bI_ret, bV_ret, bL_ret, bH_t, cond_true, z_0, z_1, retZ_tf, z_tf0, z_tf1, Decidable.not_not, Classical.not_not, nI_add, nI_clamp, n_le, n_lt, n_eq, nI_or, nI_and, z_sdf, of_nI, ite_not, m_i3, m_i99, m_i7, m_i1, m_i20, m_i2, m_i8, m_i15, m_i60, c_noRow, if_neg hx]
    · simp (disch := first | assumption | omega) only [F_Mo_copy, lit_0, lit_1, lit_2, lit_3, lit_4, lit_5, lit_6, lit_7, lit_8, lit_9, lit_10, lit_11, lit_12, lit_16, lit_17, lit_20, lit_31, lit_32, lit_40, lit_47, lit_48, lit_49, lit_57, lit_58, lit_60, lit_64, lit_68, lit_80, lit_97, lit_99, lit_100, lit_101, lit_104, lit_108, lit_109, lit_115, lit_117, lit_121, lit_127, lit_128, lit_140, lit_1000, lit_1000000, lit_1048576, bI_ret, bV_ret, bL_ret, bH_t, cond_true, z_0, z_1, retZ_tf, z_tf0, z_tf1, Decidable.not_not, Classical.not_not, nI_add, nI_clamp, n_le, n_lt, n_eq, nI_or, nI_and, z_sdf, of_nI, ite_not, m_i3, m_i99, m_i7, m_i1, m_i20, m_i2, m_i8, m_i15, m_i60, m_isRow, if_neg hx]
