/-! OPERATIONS: reader, readers, knows, the answers -/
section RDS
variable {h : Hp} {s m N : Nat}
theorem c_readsSo (s10 : s < 10) (hc : 2 * m ≤ cap s) (c1 : hg h (71 + 2 * s) 1 = nI (2 * m)) (S : Nat) : F_Bp_readsSo (71 + 2 * s) (nI S) h = retI (tf (rdB (fun j => hg h (72 + 2 * s) j) m S = true)) h := by
  have hcap := cap_le s
  have sT : ∀ i (κ : (Nat × Int32 × Int32 × Hp) → Res Hp), i < m → rdX (fun j => hg h (72 + 2 * s) j) S i = true → Bp_readsSo_2 (71 + 2 * s, nI S, nI (2 * i), h) κ = retI (nI 0) h := fun i κ hi q => by
    have q2 : (hg h (72 + 2 * s) (2 * i) &&& nI S = nI 0) ↔ (hg h (72 + 2 * s) (2 * i + 1) = nI 1) := of_decide_eq_true q
    simp (disch := first | assumption | omega) only [Bp_readsSo_2, lit_0, lit_1, lit_2, lit_3, lit_4, lit_5, lit_6, lit_7, lit_8, lit_9, lit_10, lit_11, lit_12, lit_16, lit_17, lit_20, lit_31, lit_32, lit_40, lit_47, lit_48, lit_49, lit_57, lit_58, lit_60, lit_64, lit_68, lit_80, lit_97, lit_99, lit_100, lit_101, lit_104, lit_108, lit_109, lit_115, lit_117, lit_121, lit_127, lit_128, lit_140, lit_1000, lit_1000000, lit_1048576, bI_ret, bV_ret, bL_ret, bH_t, cond_true, z_0, z_1, retZ_tf, z_tf0, z_tf1, Decidable.not_not, Classical.not_not, nI_add, nI_clamp, n_le, n_lt, n_eq, nI_or, nI_and, z_sdf, of_nI, sh_F1 s10, sh_F0 s10, sh_R s10, c1, sh_A s10 (show 2 * i < cap s by omega), sh_A s10 (show 2 * i + 1 < cap s by omega)]
    rw [if_neg (by omega)]
    by_cases a : hg h (72 + 2 * s) (2 * i) &&& nI S = nI 0
    · rw [if_pos a, if_pos (q2.mp a)]
    · rw [if_neg a, if_neg (fun z => a (q2.mpr z))]
  have sF : ∀ i (κ : (Nat × Int32 × Int32 × Hp) → Res Hp), i < m → rdX (fun j => hg h (72 + 2 * s) j) S i = false → Bp_readsSo_2 (71 + 2 * s, nI S, nI (2 * i), h) κ = κ (71 + 2 * s, nI S, nI (2 * (i + 1)), h) := fun i κ hi q => by
    have q2 : ¬ ((hg h (72 + 2 * s) (2 * i) &&& nI S = nI 0) ↔ (hg h (72 + 2 * s) (2 * i + 1) = nI 1)) := of_decide_eq_false q
    simp (disch := first | assumption | omega) only [Bp_readsSo_2, lit_0, lit_1, lit_2, lit_3, lit_4, lit_5, lit_6, lit_7, lit_8, lit_9, lit_10, lit_11, lit_12, lit_16, lit_17, lit_20, lit_31, lit_32, lit_40, lit_47, lit_48, lit_49, lit_57, lit_58, lit_60, lit_64, lit_68, lit_80, lit_97, lit_99, lit_100, lit_101, lit_104, lit_108, lit_109, lit_115, lit_117, lit_121, lit_127, lit_128, lit_140, lit_1000, lit_1000000, lit_1048576, bI_ret, bV_ret, bL_ret, bH_t, cond_true, z_0, z_1, retZ_tf, z_tf0, z_tf1, Decidable.not_not, Classical.not_not, nI_add, nI_clamp, n_le, n_lt, n_eq, nI_or, nI_and, z_sdf, of_nI, sh_F1 s10, sh_F0 s10, sh_R s10, c1, sh_A s10 (show 2 * i < cap s by omega), sh_A s10 (show 2 * i + 1 < cap s by omega)]
    rw [if_neg (by omega)]
    by_cases a : hg h (72 + 2 * s) (2 * i) &&& nI S = nI 0
    · rw [if_pos a, if_neg (fun z => q2 ⟨fun _ => z, fun _ => a⟩)]
      rfl
    · by_cases b : hg h (72 + 2 * s) (2 * i + 1) = nI 1
      · rw [if_neg a, if_pos b]
        rfl
      · exact absurd ⟨fun z => absurd z a, fun z => absurd z b⟩ q2
  unfold F_Bp_readsSo rdB
  by_cases c : anyB m (rdX (fun j => hg h (72 + 2 * s) j) S) = true
  · obtain ⟨i, h1, h2, h3⟩ := anyB_first c
    rw [c, tf_f (by decide)]
    exact loop_for (N := i) (fun i => (71 + 2 * s, nI S, nI (2 * i), h)) rfl (by show _ < 4096; omega) (fun j κ hj => sF j κ (by omega) (h3 j hj)) (fun κ => sT i κ h1 h2)
  · have c' : anyB m (rdX (fun j => hg h (72 + 2 * s) j) S) = false := by simpa using c
    rw [c', tf_t (show (!false) = true from rfl)]
    refine loop_for (N := m) (fun i => (71 + 2 * s, nI S, nI (2 * i), h)) rfl (by show _ < 4096; omega) (fun j κ hj => sF j κ hj ?_) (fun κ => ?_)
    · cases z : rdX (fun j => hg h (72 + 2 * s) j) S j with
      | false => rfl
      | true => exact absurd (anyB_iff.mpr ⟨j, hj, z⟩) c
    · simp (disch := first | assumption | omega) only [Bp_readsSo_2, lit_0, lit_1, lit_2, lit_3, lit_4, lit_5, lit_6, lit_7, lit_8, lit_9, lit_10, lit_11, lit_12, lit_16, lit_17, lit_20, lit_31, lit_32, lit_40, lit_47, lit_48, lit_49, lit_57, lit_58, lit_60, lit_64, lit_68, lit_80, lit_97, lit_99, lit_100, lit_101, lit_104, lit_108, lit_109, lit_115, lit_117, lit_121, lit_127, lit_128, lit_140, lit_1000, lit_1000000, lit_1048576, bI_ret, bV_ret, bL_ret, bH_t, cond_true, z_0, z_1, retZ_tf, z_tf0, z_tf1, Decidable.not_not, Classical.not_not, nI_add, nI_clamp, n_le, n_lt, n_eq, nI_or, nI_and, z_sdf, of_nI, sh_F1 s10, c1]
      rw [if_pos (by omega)]
theorem m_isRead (hs9 : s < 6) (hn : 2 * m ≤ 40) (e1 : hg h 180 s = nI (2 * m)) (S : Nat) : F_Mo_isRead (nI s) (nI S) h = retI (tf (rdB (fun j => hg h 181 (40 * s + j)) m S = true)) h := by
  unfold F_Mo_isRead
  refine loop_for (N := m) (fun i => (nI s, nI S, tf (¬ anyB i (rdX (fun j => hg h 181 (40 * s + j)) S) = true), nI (2 * i), h)) ?_ (by show _ < 4096; omega) (fun i κ hi => ?_) (fun κ => ?_)
  · show _ = (nI s, nI S, tf (¬ anyB 0 (rdX (fun j => hg h 181 (40 * s + j)) S) = true), nI (2 * 0), h)
    rw [tf_t (show ¬ anyB 0 (rdX (fun j => hg h 181 (40 * s + j)) S) = true from Bool.false_ne_true)]
    rfl
  · show Mo_isRead_5 (nI s, nI S, tf (¬ anyB i (rdX (fun j => hg h 181 (40 * s + j)) S) = true), nI (2 * i), h) κ = κ (nI s, nI S, tf (¬ anyB (i + 1) (rdX (fun j => hg h 181 (40 * s + j)) S) = true), nI (2 * (i + 1)), h)
    have e2 : ∀ b, (anyB i (rdX (fun j => hg h 181 (40 * s + j)) S) || rdX (fun j => hg h 181 (40 * s + j)) S i) = b → tf (¬ anyB (i + 1) (rdX (fun j => hg h 181 (40 * s + j)) S) = true) = if b = true then nI 0 else nI 1 := fun b hb => by
      rw [anyB_s, hb]
      cases b
      · exact tf_t (by decide)
      · exact tf_f (by decide)
    simp (disch := first | assumption | omega) only [Mo_isRead_5, lit_0, lit_1, lit_2, lit_3, lit_4, lit_5, lit_6, lit_7, lit_8, lit_9, lit_10, lit_11, lit_12, lit_16, lit_17, lit_20, lit_31, lit_32, lit_40, lit_47, lit_48, lit_49, lit_57, lit_58, lit_60, lit_64, lit_68, lit_80, lit_97, lit_99, lit_100, lit_101, lit_104, lit_108, lit_109, lit_115, lit_117, lit_121, lit_127, lit_128, lit_140, lit_1000, lit_1000000, lit_1048576, bI_ret, bV_ret, bL_ret, bH_t, cond_true, z_0, z_1, retZ_tf, z_tf0, z_tf1, Decidable.not_not, Classical.not_not, nI_add, nI_clamp, n_le, n_lt, n_eq, nI_or, nI_and, z_sdf, of_nI, oA_180, e1, m_rowAt hs9 (show 2 * i < 40 by omega), m_rowAt hs9 (show 2 * i + 1 < 40 by omega)]
    rw [if_neg (by omega)]
    by_cases z : anyB i (rdX (fun j => hg h 181 (40 * s + j)) S) = true
    · rw [if_pos z, e2 true (by rw [z, Bool.true_or])]
      rfl
    · rw [if_neg z]
      have z' : anyB i (rdX (fun j => hg h 181 (40 * s + j)) S) = false := by simpa using z
      cases y : rdX (fun j => hg h 181 (40 * s + j)) S i with
      | true =>
        have q2 : (hg h 181 (40 * s + 2 * i) &&& nI S = nI 0) ↔ (hg h 181 (40 * s + (2 * i + 1)) = nI 1) := of_decide_eq_true y
        rw [e2 true (by rw [y, Bool.or_true])]
        by_cases a : hg h 181 (40 * s + 2 * i) &&& nI S = nI 0
        · rw [if_pos a, if_pos (q2.mp a)]
          rfl
        · rw [if_neg a, if_neg (fun z => a (q2.mpr z))]
          rfl
      | false =>
        have q2 : ¬ ((hg h 181 (40 * s + 2 * i) &&& nI S = nI 0) ↔ (hg h 181 (40 * s + (2 * i + 1)) = nI 1)) := of_decide_eq_false y
        rw [e2 false (by rw [y, z', Bool.or_false])]
        by_cases a : hg h 181 (40 * s + 2 * i) &&& nI S = nI 0
        · rw [if_pos a, if_neg (fun z => q2 ⟨fun _ => z, fun _ => a⟩)]
          rfl
        · by_cases b : hg h 181 (40 * s + (2 * i + 1)) = nI 1
          · rw [if_neg a, if_pos b]
            rfl
          · exact absurd ⟨fun z => absurd z a, fun z => absurd z b⟩ q2
  · show Mo_isRead_5 (nI s, nI S, tf (¬ anyB m (rdX (fun j => hg h 181 (40 * s + j)) S) = true), nI (2 * m), h) κ = _
    rw [← rd_tf]
    simp (disch := first | assumption | omega) only [Mo_isRead_5, lit_0, lit_1, lit_2, lit_3, lit_4, lit_5, lit_6, lit_7, lit_8, lit_9, lit_10, lit_11, lit_12, lit_16, lit_17, lit_20, lit_31, lit_32, lit_40, lit_47, lit_48, lit_49, lit_57, lit_58, lit_60, lit_64, lit_68, lit_80, lit_97, lit_99, lit_100, lit_101, lit_104, lit_108, lit_109, lit_115, lit_117, lit_121, lit_127, lit_128, lit_140, lit_1000, lit_1000000, lit_1048576, bI_ret, bV_ret, bL_ret, bH_t, cond_true, z_0, z_1, retZ_tf, z_tf0, z_tf1, Decidable.not_not, Classical.not_not, nI_add, nI_clamp, n_le, n_lt, n_eq, nI_or, nI_and, z_sdf, of_nI, oA_180, e1]
    rw [if_pos (by omega)]
theorem c_readerLoop (hs9 : s < 6) (hc : 2 * m ≤ cap s) (c1 : hg h (71 + 2 * s) 1 = nI (2 * m)) (hN : N ≤ 7) (e8 : hg h 3 8 = nI N) : loopC Bp_reader_17 FU (nI s, nI 0, nI 0, h) = retI (nI (ms N (fun x => rdB (fun j => hg h (72 + 2 * s) j) m (2 ^ x)))) h := by
  have s10 : s < 10 := by omega
  refine loop_for (N := N) (fun i => (nI s, nI (ms i (fun x => rdB (fun j => hg h (72 + 2 * s) j) m (2 ^ x))), nI i, h)) rfl (by show _ < 4096; omega) (fun i κ hi => ?_) (fun κ => ?_)
  · simp (disch := first | assumption | omega) only [Bp_reader_17, lit_0, lit_1, lit_2, lit_3, lit_4, lit_5, lit_6, lit_7, lit_8, lit_9, lit_10, lit_11, lit_12, lit_16, lit_17, lit_20, lit_31, lit_32, lit_40, lit_47, lit_48, lit_49, lit_57, lit_58, lit_60, lit_64, lit_68, lit_80, lit_97, lit_99, lit_100, lit_101, lit_104, lit_108, lit_109, lit_115, lit_117, lit_121, lit_127, lit_128, lit_140, lit_1000, lit_1000000, lit_1048576, bI_ret, bV_ret, bL_ret, bH_t, cond_true, z_0, z_1, retZ_tf, z_tf0, z_tf1, Decidable.not_not, Classical.not_not, nI_add, nI_clamp, n_le, n_lt, n_eq, nI_or, nI_and, z_sdf, of_nI, ite_not, m_i3, m_i99, m_i7, m_i1, m_i20, m_i2, m_i8, m_i15, m_i60, e8, oR_1, sR_1, c_bit, c_readsSo s10 hc c1, ms_s i]
    rw [if_neg (by omega)]
    by_cases q : rdB (fun j => hg h (72 + 2 * s) j) m (2 ^ i) = true
    · simp only [q, if_true]
    · simp only [q, if_false, Bool.false_eq_true]
  · simp (disch := first | assumption | omega) only [Bp_reader_17, lit_0, lit_1, lit_2, lit_3, lit_4, lit_5, lit_6, lit_7, lit_8, lit_9, lit_10, lit_11, lit_12, lit_16, lit_17, lit_20, lit_31, lit_32, lit_40, lit_47, lit_48, lit_49, lit_57, lit_58, lit_60, lit_64, lit_68, lit_80, lit_97, lit_99, lit_100, lit_101, lit_104, lit_108, lit_109, lit_115, lit_117, lit_121, lit_127, lit_128, lit_140, lit_1000, lit_1000000, lit_1048576, bI_ret, bV_ret, bL_ret, bH_t, cond_true, z_0, z_1, retZ_tf, z_tf0, z_tf1, Decidable.not_not, Classical.not_not, nI_add, nI_clamp, n_le, n_lt, n_eq, nI_or, nI_and, z_sdf, of_nI, ite_not, m_i3, m_i99, m_i7, m_i1, m_i20, m_i2, m_i8, m_i15, m_i60, e8, Nat.le_refl, if_true]
theorem m_readerLoop (hs9 : s < 6) (hn : 2 * m ≤ 40) (e1 : hg h 180 s = nI (2 * m)) (hN : N ≤ 7) (e8 : hg h 178 8 = nI N) : loopC Mo_reader_17 FU (nI s, nI 0, nI 0, h) = retI (nI (ms N (fun x => rdB (fun j => hg h 181 (40 * s + j)) m (2 ^ x)))) h := by
  refine loop_for (N := N) (fun i => (nI s, nI (ms i (fun x => rdB (fun j => hg h 181 (40 * s + j)) m (2 ^ x))), nI i, h)) rfl (by show _ < 4096; omega) (fun i κ hi => ?_) (fun κ => ?_)
  · simp (disch := first | assumption | omega) only [Mo_reader_17, lit_0, lit_1, lit_2, lit_3, lit_4, lit_5, lit_6, lit_7, lit_8, lit_9, lit_10, lit_11, lit_12, lit_16, lit_17, lit_20, lit_31, lit_32, lit_40, lit_47, lit_48, lit_49, lit_57, lit_58, lit_60, lit_64, lit_68, lit_80, lit_97, lit_99, lit_100, lit_101, lit_104, lit_108, lit_109, lit_115, lit_117, lit_121, lit_127, lit_128, lit_140, lit_1000, lit_1000000, lit_1048576, bI_ret, bV_ret, bL_ret, bH_t, cond_true, z_0, z_1, retZ_tf, z_tf0, z_tf1, Decidable.not_not, Classical.not_not, nI_add, nI_clamp, n_le, n_lt, n_eq, nI_or, nI_and, z_sdf, of_nI, ite_not, m_i3, m_i99, m_i7, m_i1, m_i20, m_i2, m_i8, m_i15, m_i60, e8, z_bit, m_isRead hs9 hn e1, ms_s i, or_0]
    rw [if_neg (by omega)]
    by_cases q : rdB (fun j => hg h 181 (40 * s + j)) m (2 ^ i) = true
    · simp only [q, if_true]
    · simp only [q, if_false, Bool.false_eq_true]
  · simp (disch := first | assumption | omega) only [Mo_reader_17, lit_0, lit_1, lit_2, lit_3, lit_4, lit_5, lit_6, lit_7, lit_8, lit_9, lit_10, lit_11, lit_12, lit_16, lit_17, lit_20, lit_31, lit_32, lit_40, lit_47, lit_48, lit_49, lit_57, lit_58, lit_60, lit_64, lit_68, lit_80, lit_97, lit_99, lit_100, lit_101, lit_104, lit_108, lit_109, lit_115, lit_117, lit_121, lit_127, lit_128, lit_140, lit_1000, lit_1000000, lit_1048576, bI_ret, bV_ret, bL_ret, bH_t, cond_true, z_0, z_1, retZ_tf, z_tf0, z_tf1, Decidable.not_not, Classical.not_not, nI_add, nI_clamp, n_le, n_lt, n_eq, nI_or, nI_and, z_sdf, of_nI, ite_not, m_i3, m_i99, m_i7, m_i1, m_i20, m_i2, m_i8, m_i15, m_i60, e8, Nat.le_refl, if_true]
def rd2 (f : Nat → Int32) (m N x : Nat) : Nat := cnt (N - (x + 1)) (fun j => rdB f m (2 ^ x ||| 2 ^ (x + 1 + j)))
theorem c_readersLoop (hs9 : s < 6) (hc : 2 * m ≤ cap s) (c1 : hg h (71 + 2 * s) 1 = nI (2 * m)) (hN : N ≤ 7) (e8 : hg h 3 8 = nI N) : loopC Bp_readers_17 FU (nI s, nI 0, nI 0, h) = retI (nI (sumN N (rd2 (fun j => hg h (72 + 2 * s) j) m N))) h := by
  have s10 : s < 10 := by omega
  refine loop_for (N := N) (fun i => (nI s, nI (sumN i (rd2 (fun j => hg h (72 + 2 * s) j) m N)), nI i, h)) rfl (by show _ < 4096; omega) (fun i κ hi => ?_) (fun κ => ?_)
  · have H : loopC (Bp_readers_35 κ) FU (nI s, nI (sumN i (rd2 (fun j => hg h (72 + 2 * s) j) m N)), nI i, nI (i + 1), h) = κ (nI s, nI (sumN (i + 1) (rd2 (fun j => hg h (72 + 2 * s) j) m N)), nI (i + 1), h) := by
      refine loop_for (N := N - (i + 1)) (fun k => (nI s, nI (sumN i (rd2 (fun j => hg h (72 + 2 * s) j) m N) + cnt k (fun j => rdB (fun j => hg h (72 + 2 * s) j) m (2 ^ i ||| 2 ^ (i + 1 + j)))), nI i, nI (i + 1 + k), h)) rfl (by show _ < 4096; omega) (fun k κ2 hk => ?_) (fun κ2 => ?_)
      · simp (disch := first | assumption | omega) only [Bp_readers_35, lit_0, lit_1, lit_2, lit_3, lit_4, lit_5, lit_6, lit_7, lit_8, lit_9, lit_10, lit_11, lit_12, lit_16, lit_17, lit_20, lit_31, lit_32, lit_40, lit_47, lit_48, lit_49, lit_57, lit_58, lit_60, lit_64, lit_68, lit_80, lit_97, lit_99, lit_100, lit_101, lit_104, lit_108, lit_109, lit_115, lit_117, lit_121, lit_127, lit_128, lit_140, lit_1000, lit_1000000, lit_1048576, bI_ret, bV_ret, bL_ret, bH_t, cond_true, z_0, z_1, retZ_tf, z_tf0, z_tf1, Decidable.not_not, Classical.not_not, nI_add, nI_clamp, n_le, n_lt, n_eq, nI_or, nI_and, z_sdf, of_nI, ite_not, m_i3, m_i99, m_i7, m_i1, m_i20, m_i2, m_i8, m_i15, m_i60, e8, oR_1, sR_1, c_bit, c_readsSo s10 hc c1, cnt_s k]
        rw [if_neg (by omega)]
        by_cases q : rdB (fun j => hg h (72 + 2 * s) j) m (2 ^ i ||| 2 ^ (i + 1 + k)) = true
        · simp only [q, if_true]
          rfl
        · simp only [q, if_false, Bool.false_eq_true]
          rfl
      · simp (disch := first | assumption | omega) only [Bp_readers_35, lit_0, lit_1, lit_2, lit_3, lit_4, lit_5, lit_6, lit_7, lit_8, lit_9, lit_10, lit_11, lit_12, lit_16, lit_17, lit_20, lit_31, lit_32, lit_40, lit_47, lit_48, lit_49, lit_57, lit_58, lit_60, lit_64, lit_68, lit_80, lit_97, lit_99, lit_100, lit_101, lit_104, lit_108, lit_109, lit_115, lit_117, lit_121, lit_127, lit_128, lit_140, lit_1000, lit_1000000, lit_1048576, bI_ret, bV_ret, bL_ret, bH_t, cond_true, z_0, z_1, retZ_tf, z_tf0, z_tf1, Decidable.not_not, Classical.not_not, nI_add, nI_clamp, n_le, n_lt, n_eq, nI_or, nI_and, z_sdf, of_nI, ite_not, m_i3, m_i99, m_i7, m_i1, m_i20, m_i2, m_i8, m_i15, m_i60, e8]
        rw [if_pos (by omega)]
        rfl
    simp (disch := first | assumption | omega) only [Bp_readers_17, lit_0, lit_1, lit_2, lit_3, lit_4, lit_5, lit_6, lit_7, lit_8, lit_9, lit_10, lit_11, lit_12, lit_16, lit_17, lit_20, lit_31, lit_32, lit_40, lit_47, lit_48, lit_49, lit_57, lit_58, lit_60, lit_64, lit_68, lit_80, lit_97, lit_99, lit_100, lit_101, lit_104, lit_108, lit_109, lit_115, lit_117, lit_121, lit_127, lit_128, lit_140, lit_1000, lit_1000000, lit_1048576, bI_ret, bV_ret, bL_ret, bH_t, cond_true, z_0, z_1, retZ_tf, z_tf0, z_tf1, Decidable.not_not, Classical.not_not, nI_add, nI_clamp, n_le, n_lt, n_eq, nI_or, nI_and, z_sdf, of_nI, ite_not, m_i3, m_i99, m_i7, m_i1, m_i20, m_i2, m_i8, m_i15, m_i60, e8, H]
    rw [if_neg (by omega)]
  · simp (disch := first | assumption | omega) only [Bp_readers_17, lit_0, lit_1, lit_2, lit_3, lit_4, lit_5, lit_6, lit_7, lit_8, lit_9, lit_10, lit_11, lit_12, lit_16, lit_17, lit_20, lit_31, lit_32, lit_40, lit_47, lit_48, lit_49, lit_57, lit_58, lit_60, lit_64, lit_68, lit_80, lit_97, lit_99, lit_100, lit_101, lit_104, lit_108, lit_109, lit_115, lit_117, lit_121, lit_127, lit_128, lit_140, lit_1000, lit_1000000, lit_1048576, bI_ret, bV_ret, bL_ret, bH_t, cond_true, z_0, z_1, retZ_tf, z_tf0, z_tf1, Decidable.not_not, Classical.not_not, nI_add, nI_clamp, n_le, n_lt, n_eq, nI_or, nI_and, z_sdf, of_nI, ite_not, m_i3, m_i99, m_i7, m_i1, m_i20, m_i2, m_i8, m_i15, m_i60, e8, Nat.le_refl, if_true]
theorem m_readersLoop (hs9 : s < 6) (hn : 2 * m ≤ 40) (e1 : hg h 180 s = nI (2 * m)) (hN : N ≤ 7) (e8 : hg h 178 8 = nI N) : loopC Mo_readers_17 FU (nI s, nI 0, nI 0, h) = retI (nI (sumN N (rd2 (fun j => hg h 181 (40 * s + j)) m N))) h := by
  refine loop_for (N := N) (fun i => (nI s, nI (sumN i (rd2 (fun j => hg h 181 (40 * s + j)) m N)), nI i, h)) rfl (by show _ < 4096; omega) (fun i κ hi => ?_) (fun κ => ?_)
  · have H : loopC (Mo_readers_32 κ) FU (nI s, nI (sumN i (rd2 (fun j => hg h 181 (40 * s + j)) m N)), nI i, nI (i + 1), h) = κ (nI s, nI (sumN (i + 1) (rd2 (fun j => hg h 181 (40 * s + j)) m N)), nI (i + 1), h) := by
      refine loop_for (N := N - (i + 1)) (fun k => (nI s, nI (sumN i (rd2 (fun j => hg h 181 (40 * s + j)) m N) + cnt k (fun j => rdB (fun j => hg h 181 (40 * s + j)) m (2 ^ i ||| 2 ^ (i + 1 + j)))), nI i, nI (i + 1 + k), h)) rfl (by show _ < 4096; omega) (fun k κ2 hk => ?_) (fun κ2 => ?_)
      · simp (disch := first | assumption | omega) only [Mo_readers_32, lit_0, lit_1, lit_2, lit_3, lit_4, lit_5, lit_6, lit_7, lit_8, lit_9, lit_10, lit_11, lit_12, lit_16, lit_17, lit_20, lit_31, lit_32, lit_40, lit_47, lit_48, lit_49, lit_57, lit_58, lit_60, lit_64, lit_68, lit_80, lit_97, lit_99, lit_100, lit_101, lit_104, lit_108, lit_109, lit_115, lit_117, lit_121, lit_127, lit_128, lit_140, lit_1000, lit_1000000, lit_1048576, bI_ret, bV_ret, bL_ret, bH_t, cond_true, z_0, z_1, retZ_tf, z_tf0, z_tf1, Decidable.not_not, Classical.not_not, nI_add, nI_clamp, n_le, n_lt, n_eq, nI_or, nI_and, z_sdf, of_nI, ite_not, m_i3, m_i99, m_i7, m_i1, m_i20, m_i2, m_i8, m_i15, m_i60, e8, z_bit, m_isRead hs9 hn e1, cnt_s k]
        rw [if_neg (by omega)]
        by_cases q : rdB (fun j => hg h 181 (40 * s + j)) m (2 ^ i ||| 2 ^ (i + 1 + k)) = true
        · simp only [q, if_true]
          rfl
        · simp only [q, if_false, Bool.false_eq_true]
          rfl
      · simp (disch := first | assumption | omega) only [Mo_readers_32, lit_0, lit_1, lit_2, lit_3, lit_4, lit_5, lit_6, lit_7, lit_8, lit_9, lit_10, lit_11, lit_12, lit_16, lit_17, lit_20, lit_31, lit_32, lit_40, lit_47, lit_48, lit_49, lit_57, lit_58, lit_60, lit_64, lit_68, lit_80, lit_97, lit_99, lit_100, lit_101, lit_104, lit_108, lit_109, lit_115, lit_117, lit_121, lit_127, lit_128, lit_140, lit_1000, lit_1000000, lit_1048576, bI_ret, bV_ret, bL_ret, bH_t, cond_true, z_0, z_1, retZ_tf, z_tf0, z_tf1, Decidable.not_not, Classical.not_not, nI_add, nI_clamp, n_le, n_lt, n_eq, nI_or, nI_and, z_sdf, of_nI, ite_not, m_i3, m_i99, m_i7, m_i1, m_i20, m_i2, m_i8, m_i15, m_i60, e8]
        rw [if_pos (by omega)]
        rfl
    simp (disch := first | assumption | omega) only [Mo_readers_17, lit_0, lit_1, lit_2, lit_3, lit_4, lit_5, lit_6, lit_7, lit_8, lit_9, lit_10, lit_11, lit_12, lit_16, lit_17, lit_20, lit_31, lit_32, lit_40, lit_47, lit_48, lit_49, lit_57, lit_58, lit_60, lit_64, lit_68, lit_80, lit_97, lit_99, lit_100, lit_101, lit_104, lit_108, lit_109, lit_115, lit_117, lit_121, lit_127, lit_128, lit_140, lit_1000, lit_1000000, lit_1048576, bI_ret, bV_ret, bL_ret, bH_t, cond_true, z_0, z_1, retZ_tf, z_tf0, z_tf1, Decidable.not_not, Classical.not_not, nI_add, nI_clamp, n_le, n_lt, n_eq, nI_or, nI_and, z_sdf, of_nI, ite_not, m_i3, m_i99, m_i7, m_i1, m_i20, m_i2, m_i8, m_i15, m_i60, e8, H]
    rw [if_neg (by omega)]
  · simp (disch := first | assumption | omega) only [Mo_readers_17, lit_0, lit_1, lit_2, lit_3, lit_4, lit_5, lit_6, lit_7, lit_8, lit_9, lit_10, lit_11, lit_12, lit_16, lit_17, lit_20, lit_31, lit_32, lit_40, lit_47, lit_48, lit_49, lit_57, lit_58, lit_60, lit_64, lit_68, lit_80, lit_97, lit_99, lit_100, lit_101, lit_104, lit_108, lit_109, lit_115, lit_117, lit_121, lit_127, lit_128, lit_140, lit_1000, lit_1000000, lit_1048576, bI_ret, bV_ret, bL_ret, bH_t, cond_true, z_0, z_1, retZ_tf, z_tf0, z_tf1, Decidable.not_not, Classical.not_not, nI_add, nI_clamp, n_le, n_lt, n_eq, nI_or, nI_and, z_sdf, of_nI, ite_not, m_i3, m_i99, m_i7, m_i1, m_i20, m_i2, m_i8, m_i15, m_i60, e8, Nat.le_refl, if_true]
end RDS
theorem ifz0 {ρ : Type} (a b : Option ρ) : (if nI 0 = (0 : Int32) then a else b) = a := if_pos rfl
theorem ifzm {ρ : Type} (a b : Option ρ) : (if -nI 1 = (0 : Int32) then a else b) = b := if_neg (by decide)
theorem g_reader (x : Int32) {h : Hp} (I : Inv h) : Ok (F_Bp_reader x) (F_Mo_reader x) h := by
  obtain ⟨-, -, v, w, r, m, -⟩ := id I
  rcases pairs_cases x I w r m with ⟨e1, e2⟩ | ⟨k, k1, k5, e1, e2⟩ | ⟨s, p, hs9, rfl, hp, c1, c2, c3, e1, e2⟩
  · refine fin_q I (h1 := h) (h2 := h) (x := -nI 1) ?_ (frS_rf h) (asked1 e2) (frS_rf h)
    unfold F_Bp_reader
    rw [e1, bI_ret]
    exact ifzm _ _
  · refine fin_f I (k := k) (h1 := h) k1 k5 ?_ (frS_rf h) fun g1 hg1 => asked3 k1 k5 (e2 g1 hg1)
    unfold F_Bp_reader
    rw [e1, c_found k1 k5, bI_ret]
    exact if_neg (by decide)
  · have hcap : cap s = 40 := if_pos hs9
    refine fin_q I (h1 := h) (h2 := h) ?_ (frS_rf h) ((asked0 (by decide) e2).trans (m_readerLoop hs9 hp c2 w.1 (M_n m))) (frS_rf h)
    unfold F_Bp_reader
    rw [e1, bI_ret]
    refine (ifz0 _ _).trans ((c_readerLoop hs9 (by omega) c1 w.1 (L_n r)).trans ?_)
    congr 2
    exact ms_cong fun x _ => rdB_cong c3
theorem g_readers (x : Int32) {h : Hp} (I : Inv h) : Ok (F_Bp_readers x) (F_Mo_readers x) h := by
  obtain ⟨-, -, v, w, r, m, -⟩ := id I
  rcases pairs_cases x I w r m with ⟨e1, e2⟩ | ⟨k, k1, k5, e1, e2⟩ | ⟨s, p, hs9, rfl, hp, c1, c2, c3, e1, e2⟩
  · refine fin_q I (h1 := h) (h2 := h) (x := -nI 1) ?_ (frS_rf h) (asked1 e2) (frS_rf h)
    unfold F_Bp_readers
    rw [e1, bI_ret]
    exact ifzm _ _
  · refine fin_f I (k := k) (h1 := h) k1 k5 ?_ (frS_rf h) fun g1 hg1 => asked3 k1 k5 (e2 g1 hg1)
    unfold F_Bp_readers
    rw [e1, c_found k1 k5, bI_ret]
    exact if_neg (by decide)
  · have hcap : cap s = 40 := if_pos hs9
    refine fin_q I (h1 := h) (h2 := h) ?_ (frS_rf h) ((asked0 (by decide) e2).trans (m_readersLoop hs9 hp c2 w.1 (M_n m))) (frS_rf h)
    unfold F_Bp_readers
    rw [e1, bI_ret]
    refine (ifz0 _ _).trans ((c_readersLoop hs9 (by omega) c1 w.1 (L_n r)).trans ?_)
    congr 2
    exact sumN_cong fun x _ => cnt_cong fun j _ => rdB_cong c3
/-! knows -/
def orN (f : Nat → Int32) : Nat → Nat
  | 0 => 0
  | i + 1 => orN f i ||| (f i).toNatClampNeg
theorem orN_lt {f : Nat → Int32} : ∀ {n : Nat}, (∀ i, i < n → inV (f i) 1 32) → orN f n < 32
  | 0, _ => (by show 0 < 32; decide)
  | n + 1, q => by
    obtain ⟨a, h1, h2, h3⟩ := inV_ex (by decide) (q n (Nat.lt_succ_self n))
    unfold orN
    rw [h3, nI_clamp (by omega)]
    exact or_lt (n := 5) (orN_lt fun i hi => q i (by omega)) h2
theorem orN_cong {f f' : Nat → Int32} : ∀ {n : Nat}, (∀ i, i < n → f i = f' i) → orN f n = orN f' n
  | 0, _ => rfl
  | n + 1, q => by
    unfold orN
    rw [orN_cong fun i hi => q i (by omega), q n (Nat.lt_succ_self n)]
theorem orN_s {f : Nat → Int32} {i : Nat} (q : inV (f i) 1 32) : nI (orN f i) ||| f i = nI (orN f (i + 1)) := by
  obtain ⟨a, h1, h2, h3⟩ := inV_ex (by decide) q
  show nI (orN f i) ||| f i = nI (orN f i ||| (f i).toNatClampNeg)
  rw [h3, nI_clamp (by omega), nI_or]
theorem sdf31_dec : ∀ c, c < 32 → sdf 31 c < 32 ∧ pop (sdf 31 c) = 5 - pop c ∧ pop c ≤ 5 := by decide +kernel
theorem kn_cases (f : Nat → Int32) (n : Nat) : (∀ i, i < n → inV (f i) 1 32) ∨ ∃ i, i < n ∧ ¬ inV (f i) 1 32 ∧ ∀ j, j < i → inV (f j) 1 32 := by
  by_cases c : anyB n (fun i => !inVb (f i) 1 32) = true
  · obtain ⟨i, h1, h2, h3⟩ := anyB_first c
    refine Or.inr ⟨i, h1, fun z => ?_, fun j hj => ?_⟩
    · have z : inVb (f i) 1 32 = true := z
      rw [z] at h2
      cases h2
    · have := h3 j hj
      rw [Bool.not_eq_false'] at this
      exact this
  · refine Or.inl fun i hi => ?_
    cases z : inVb (f i) 1 32 with
    | true => exact z
    | false => exact absurd (anyB_iff.mpr ⟨i, hi, by rw [z]; rfl⟩) c
section KNW
variable {h : Hp} {s n : Nat}
theorem c_knT {i : Nat} (s10 : s < 10) (hc : n ≤ cap s) (c1 : hg h (71 + 2 * s) 1 = nI n) (hi : i < n) (q : inV (hg h (72 + 2 * s) i) 1 32) (x : Int32) (κ : (Nat × Int32 × Int32 × Hp) → Res Hp) : Bp_knows_34 (71 + 2 * s, x, nI i, h) κ = κ (71 + 2 * s, x ||| hg h (72 + 2 * s) i, nI (i + 1), h) := by
  have hcap := cap_le s
  simp (disch := first | assumption | omega) only [Bp_knows_34, lit_0, lit_1, lit_2, lit_3, lit_4, lit_5, lit_6, lit_7, lit_8, lit_9, lit_10, lit_11, lit_12, lit_16, lit_17, lit_20, lit_31, lit_32, lit_40, lit_47, lit_48, lit_49, lit_57, lit_58, lit_60, lit_64, lit_68, lit_80, lit_97, lit_99, lit_100, lit_101, lit_104, lit_108, lit_109, lit_115, lit_117, lit_121, lit_127, lit_128, lit_140, lit_1000, lit_1000000, lit_1048576, bI_ret, bV_ret, bL_ret, bH_t, cond_true, z_0, z_1, retZ_tf, z_tf0, z_tf1, Decidable.not_not, Classical.not_not, nI_add, nI_clamp, n_le, n_lt, n_eq, nI_or, nI_and, z_sdf, of_nI, ite_not, m_i3, m_i99, m_i7, m_i1, m_i20, m_i2, m_i8, m_i15, m_i60, sh_F1 s10, sh_F0 s10, sh_R s10, c1, sh_A s10 (show i < cap s by omega), c_noTongues, if_pos q]
  rw [if_neg (by omega)]
theorem c_knF {i : Nat} (s10 : s < 10) (hc : n ≤ cap s) (c1 : hg h (71 + 2 * s) 1 = nI n) (hi : i < n) (q : ¬ inV (hg h (72 + 2 * s) i) 1 32) (x : Int32) (κ : (Nat × Int32 × Int32 × Hp) → Res Hp) : Bp_knows_34 (71 + 2 * s, x, nI i, h) κ = F_Bp_found (nI 3) h := by
  have hcap := cap_le s
  simp (disch := first | assumption | omega) only [Bp_knows_34, lit_0, lit_1, lit_2, lit_3, lit_4, lit_5, lit_6, lit_7, lit_8, lit_9, lit_10, lit_11, lit_12, lit_16, lit_17, lit_20, lit_31, lit_32, lit_40, lit_47, lit_48, lit_49, lit_57, lit_58, lit_60, lit_64, lit_68, lit_80, lit_97, lit_99, lit_100, lit_101, lit_104, lit_108, lit_109, lit_115, lit_117, lit_121, lit_127, lit_128, lit_140, lit_1000, lit_1000000, lit_1048576, bI_ret, bV_ret, bL_ret, bH_t, cond_true, z_0, z_1, retZ_tf, z_tf0, z_tf1, Decidable.not_not, Classical.not_not, nI_add, nI_clamp, n_le, n_lt, n_eq, nI_or, nI_and, z_sdf, of_nI, ite_not, m_i3, m_i99, m_i7, m_i1, m_i20, m_i2, m_i8, m_i15, m_i60, sh_F1 s10, sh_F0 s10, sh_R s10, c1, sh_A s10 (show i < cap s by omega), c_noTongues, if_neg q, found_b]
  rw [if_neg (by omega)]
theorem m_knT {i : Nat} (hs9 : s < 6) (hn : n ≤ 40) (e1 : hg h 180 s = nI n) (hi : i < n) (q : inV (hg h 181 (40 * s + i)) 1 32) (x : Int32) (κ : (Int32 × Int32 × Int32 × Hp) → Res Hp) : Mo_knows_17 (nI s, x, nI i, h) κ = κ (nI s, x ||| hg h 181 (40 * s + i), nI (i + 1), h) := by
  simp (disch := first | assumption | omega) only [Mo_knows_17, lit_0, lit_1, lit_2, lit_3, lit_4, lit_5, lit_6, lit_7, lit_8, lit_9, lit_10, lit_11, lit_12, lit_16, lit_17, lit_20, lit_31, lit_32, lit_40, lit_47, lit_48, lit_49, lit_57, lit_58, lit_60, lit_64, lit_68, lit_80, lit_97, lit_99, lit_100, lit_101, lit_104, lit_108, lit_109, lit_115, lit_117, lit_121, lit_127, lit_128, lit_140, lit_1000, lit_1000000, lit_1048576, bI_ret, bV_ret, bL_ret, bH_t, cond_true, z_0, z_1, retZ_tf, z_tf0, z_tf1, Decidable.not_not, Classical.not_not, nI_add, nI_clamp, n_le, n_lt, n_eq, nI_or, nI_and, z_sdf, of_nI, ite_not, m_i3, m_i99, m_i7, m_i1, m_i20, m_i2, m_i8, m_i15, m_i60, oA_180, e1, m_rowAt hs9 (show i < 40 by omega), m_isSet, if_pos q]
  rw [if_neg (by omega)]
theorem m_knF {i : Nat} (hs9 : s < 6) (hn : n ≤ 40) (e1 : hg h 180 s = nI n) (hi : i < n) (q : ¬ inV (hg h 181 (40 * s + i)) 1 32) (x : Int32) (κ : (Int32 × Int32 × Int32 × Hp) → Res Hp) : Mo_knows_17 (nI s, x, nI i, h) κ = F_Mo_meetWith (nI 3) h := by
  simp (disch := first | assumption | omega) only [Mo_knows_17, lit_0, lit_1, lit_2, lit_3, lit_4, lit_5, lit_6, lit_7, lit_8, lit_9, lit_10, lit_11, lit_12, lit_16, lit_17, lit_20, lit_31, lit_32, lit_40, lit_47, lit_48, lit_49, lit_57, lit_58, lit_60, lit_64, lit_68, lit_80, lit_97, lit_99, lit_100, lit_101, lit_104, lit_108, lit_109, lit_115, lit_117, lit_121, lit_127, lit_128, lit_140, lit_1000, lit_1000000, lit_1048576, bI_ret, bV_ret, bL_ret, bH_t, cond_true, z_0, z_1, retZ_tf, z_tf0, z_tf1, Decidable.not_not, Classical.not_not, nI_add, nI_clamp, n_le, n_lt, n_eq, nI_or, nI_and, z_sdf, of_nI, ite_not, m_i3, m_i99, m_i7, m_i1, m_i20, m_i2, m_i8, m_i15, m_i60, oA_180, e1, m_rowAt hs9 (show i < 40 by omega), m_isSet, if_neg q, meet_b]
  rw [if_neg (by omega)]
theorem c_knLoop (s10 : s < 10) (hc : n ≤ cap s) (c1 : hg h (71 + 2 * s) 1 = nI n) (q : ∀ i, i < n → inV (hg h (72 + 2 * s) i) 1 32) : loopC Bp_knows_34 FU (71 + 2 * s, nI 0, nI 0, h) = retI (nI (2 ^ (5 - pop (orN (fun j => hg h (72 + 2 * s) j) n)))) (hs h 0 11 (nI (sdf 31 (orN (fun j => hg h (72 + 2 * s) j) n)))) := by
  have hcap := cap_le s
  refine loop_for (N := n) (fun i => (71 + 2 * s, nI (orN (fun j => hg h (72 + 2 * s) j) i), nI i, h)) rfl (by show _ < 4096; omega) (fun i κ hi => ?_) (fun κ => ?_)
  · refine (c_knT s10 hc c1 hi (q i hi) _ κ).trans ?_
    rw [orN_s (f := fun j => hg h (72 + 2 * s) j) (q i hi)]
  · obtain ⟨d1, d2, d3⟩ := sdf31_dec _ (orN_lt (f := fun j => hg h (72 + 2 * s) j) q)
    simp (disch := first | assumption | omega) only [Bp_knows_34, lit_0, lit_1, lit_2, lit_3, lit_4, lit_5, lit_6, lit_7, lit_8, lit_9, lit_10, lit_11, lit_12, lit_16, lit_17, lit_20, lit_31, lit_32, lit_40, lit_47, lit_48, lit_49, lit_57, lit_58, lit_60, lit_64, lit_68, lit_80, lit_97, lit_99, lit_100, lit_101, lit_104, lit_108, lit_109, lit_115, lit_117, lit_121, lit_127, lit_128, lit_140, lit_1000, lit_1000000, lit_1048576, bI_ret, bV_ret, bL_ret, bH_t, cond_true, z_0, z_1, retZ_tf, z_tf0, z_tf1, Decidable.not_not, Classical.not_not, nI_add, nI_clamp, n_le, n_lt, n_eq, nI_or, nI_and, z_sdf, of_nI, ite_not, m_i3, m_i99, m_i7, m_i1, m_i20, m_i2, m_i8, m_i15, m_i60, sh_F1 s10, c1, hg_hs_eq, c_bits, d2, z_bit]
    rw [if_pos (Nat.le_refl n)]
theorem m_knLoop (hs9 : s < 6) (hn : n ≤ 40) (e1 : hg h 180 s = nI n) (q : ∀ i, i < n → inV (hg h 181 (40 * s + i)) 1 32) : loopC Mo_knows_17 FU (nI s, nI 0, nI 0, h) = retI (nI (2 ^ (5 - pop (orN (fun j => hg h 181 (40 * s + j)) n)))) (hs h 178 2 (nI (sdf 31 (orN (fun j => hg h 181 (40 * s + j)) n)))) := by
  refine loop_for (N := n) (fun i => (nI s, nI (orN (fun j => hg h 181 (40 * s + j)) i), nI i, h)) rfl (by show _ < 4096; omega) (fun i κ hi => ?_) (fun κ => ?_)
  · refine (m_knT hs9 hn e1 hi (q i hi) _ κ).trans ?_
    rw [orN_s (f := fun j => hg h 181 (40 * s + j)) (q i hi)]
  · have d0 := orN_lt (f := fun j => hg h 181 (40 * s + j)) q
    obtain ⟨d1, d2, d3⟩ := sdf31_dec _ d0
    simp (disch := first | assumption | omega) only [Mo_knows_17, F_Mo_ask, lit_0, lit_1, lit_2, lit_3, lit_4, lit_5, lit_6, lit_7, lit_8, lit_9, lit_10, lit_11, lit_12, lit_16, lit_17, lit_20, lit_31, lit_32, lit_40, lit_47, lit_48, lit_49, lit_57, lit_58, lit_60, lit_64, lit_68, lit_80, lit_97, lit_99, lit_100, lit_101, lit_104, lit_108, lit_109, lit_115, lit_117, lit_121, lit_127, lit_128, lit_140, lit_1000, lit_1000000, lit_1048576, bI_ret, bV_ret, bL_ret, bH_t, cond_true, z_0, z_1, retZ_tf, z_tf0, z_tf1, Decidable.not_not, Classical.not_not, nI_add, nI_clamp, n_le, n_lt, n_eq, nI_or, nI_and, z_sdf, of_nI, ite_not, m_i3, m_i99, m_i7, m_i1, m_i20, m_i2, m_i8, m_i15, m_i60, oA_180, e1, m_sizeOf (show orN (fun j => hg h 181 (40 * s + j)) n < 1024 by omega), nI_sb, z_bit]
    rw [if_pos (Nat.le_refl n)]
end KNW
theorem g_knows (x : Int32) {h : Hp} (I : Inv h) : Ok (F_Bp_knows x) (F_Mo_knows x) h := by
  by_cases hx : inR x 6
  · obtain ⟨s, hs9, rfl⟩ := inR_ex (by decide) hx
    have s10 : s < 10 := by omega
    rcases row_cases I hs9 with ⟨-, c2, c3⟩ | ⟨n, hn, c1, c2, c3, c4⟩
    · refine fin_f I (k := 1) (h1 := h) (by decide) (by decide) ?_ (frS_rf h) fun g1 hg1 => asked3 (by decide) (by decide) (m_askRow_g hs9 (by rw [hg1 180 s (by unfold scr; omega) (by unfold fpA; omega)]; exact c2))
      simp (disch := first | assumption | omega) only [F_Bp_knows, lit_0, lit_1, lit_2, lit_3, lit_4, lit_5, lit_6, lit_7, lit_8, lit_9, lit_10, lit_11, lit_12, lit_16, lit_17, lit_20, lit_31, lit_32, lit_40, lit_47, lit_48, lit_49, lit_57, lit_58, lit_60, lit_64, lit_68, lit_80, lit_97, lit_99, lit_100, lit_101, lit_104, lit_108, lit_109, lit_115, lit_117, lit_121, lit_127, lit_128, lit_140, lit_1000, lit_1000000, lit_1048576, bI_ret, bV_ret, bL_ret, bH_t, cond_true, z_0, z_1, retZ_tf, z_tf0, z_tf1, Decidable.not_not, Classical.not_not, nI_add, nI_clamp, n_le, n_lt, n_eq, nI_or, nI_and, z_sdf, of_nI, ite_not, m_i3, m_i99, m_i7, m_i1, m_i20, m_i2, m_i8, m_i15, m_i60, c_noRow, if_pos hx, oR_1, sR_1, sh_O s10, c_sheetIs_g s10 c3, found_b, if_true, not_false_iff]
      first | done | rw [if_neg id]
    · have eC : F_Bp_knows (nI s) h = loopC Bp_knows_34 FU (71 + 2 * s, nI 0, nI 0, h) := by
        simp (disch := first | assumption | omega) only [F_Bp_knows, lit_0, lit_1, lit_2, lit_3, lit_4, lit_5, lit_6, lit_7, lit_8, lit_9, lit_10, lit_11, lit_12, lit_16, lit_17, lit_20, lit_31, lit_32, lit_40, lit_47, lit_48, lit_49, lit_57, lit_58, lit_60, lit_64, lit_68, lit_80, lit_97, lit_99, lit_100, lit_101, lit_104, lit_108, lit_109, lit_115, lit_117, lit_121, lit_127, lit_128, lit_140, lit_1000, lit_1000000, lit_1048576, bI_ret, bV_ret, bL_ret, bH_t, cond_true, z_0, z_1, retZ_tf, z_tf0, z_tf1, Decidable.not_not, Classical.not_not, nI_add, nI_clamp, n_le, n_lt, n_eq, nI_or, nI_and, z_sdf, of_nI, ite_not, m_i3, m_i99, m_i7, m_i1, m_i20, m_i2, m_i8, m_i15, m_i60, c_noRow, if_pos hx, oR_1, sR_1, sh_O s10, c_sheetIs_t s10 c3, found_b, if_true, if_false, not_true]
      have eM : ∀ g1 : Hp, hg g1 180 s = nI n → F_Mo_knows (nI s) g1 = loopC Mo_knows_17 FU (nI s, nI 0, nI 0, g1) := fun g1 k1 => asked0 (by decide) (m_askRow_t hs9 (by omega) k1)
      rcases kn_cases (fun j => hg h (72 + 2 * s) j) n with q | ⟨i, hi, q1, q2⟩
      · have q' : ∀ i, i < n → inV (hg (hs h 0 11 (nI (sdf 31 (orN (fun j => hg h (72 + 2 * s) j) n)))) 181 (40 * s + i)) 1 32 := fun i hi => by
          rw [hg_hs_a (by decide), ← c4 i hi]; exact q i hi
        refine fin_t I (h1 := h) (h2 := hs h 0 11 (nI (sdf 31 (orN (fun j => hg h (72 + 2 * s) j) n)))) (x := nI (2 ^ (5 - pop (orN (fun j => hg h (72 + 2 * s) j) n)))) (a := nI (sdf 31 (orN (fun j => hg h (72 + 2 * s) j) n))) ?_ (frS_rf h) ?_ (frS_rf _)
        · rw [eC]
          exact c_knLoop s10 c3.1 c1 q
        · rw [eM _ ((hg_hs_a (by decide)).trans c2), m_knLoop hs9 hn ((hg_hs_a (by decide)).trans c2) q']
          have e5 : orN (fun j => hg (hs h 0 11 (nI (sdf 31 (orN (fun j => hg h (72 + 2 * s) j) n)))) 181 (40 * s + j)) n = orN (fun j => hg h (72 + 2 * s) j) n := orN_cong fun i hi => (hg_hs_a (by decide)).trans (c4 i hi).symm
          rw [e5]
      · refine fin_f I (k := 3) (h1 := h) (by decide) (by decide) ?_ (frS_rf h) fun g1 hg1 => ?_
        · have hcap := cap_le s
          rw [eC]
          refine loop_for (N := i) (fun i => (71 + 2 * s, nI (orN (fun j => hg h (72 + 2 * s) j) i), nI i, h)) rfl (by show _ < 4096; omega) (fun j κ hj => ?_) (fun κ => c_knF s10 c3.1 c1 hi q1 _ κ)
          refine (c_knT s10 c3.1 c1 (by omega) (q2 j hj) _ κ).trans ?_
          rw [orN_s (f := fun j => hg h (72 + 2 * s) j) (q2 j hj)]
        · have k1 : hg g1 180 s = nI n := by rw [hg1 180 s (by unfold scr; omega) (by unfold fpA; omega)]; exact c2
          have kv : ∀ j, j < n → hg g1 181 (40 * s + j) = hg h (72 + 2 * s) j := fun j hj => by rw [hg1 181 _ (by unfold scr; omega) (by unfold fpA; omega)]; exact (c4 j hj).symm
          rw [eM g1 k1]
          have q1' : ¬ inV (hg g1 181 (40 * s + i)) 1 32 := by rw [kv i hi]; exact q1
          have q2' : ∀ j, j < i → inV (hg g1 181 (40 * s + j)) 1 32 := fun j hj => by rw [kv j (by omega)]; exact q2 j hj
          refine loop_for (N := i) (fun i => (nI s, nI (orN (fun j => hg g1 181 (40 * s + j)) i), nI i, g1)) rfl (by show _ < 4096; omega) (fun j κ hj => ?_) (fun κ => m_knF hs9 hn k1 hi q1' _ κ)
          refine (m_knT hs9 hn k1 (by omega) (q2' j hj) _ κ).trans ?_
          rw [orN_s (f := fun j => hg g1 181 (40 * s + j)) (q2' j hj)]
  · refine fin_q I (h1 := h) (h2 := h) (x := -nI 1) ?_ (frS_rf h) (asked1 (m_askRow_b hx)) (frS_rf h)
    simp (disch := first | assumption | omega) only [F_Bp_knows, lit_0, lit_1, lit_2, lit_3, lit_4, lit_5, lit_6, lit_7, lit_8, lit_9, lit_10, lit_11, lit_12, lit_16, lit_17, lit_20, lit_31, lit_32, lit_40, lit_47, lit_48, lit_49, lit_57, lit_58, lit_60, lit_64, lit_68, lit_80, lit_97, lit_99, lit_100, lit_101, lit_104, lit_108, lit_109, lit_115, lit_117, lit_121, lit_127, lit_128, lit_140, lit_1000, lit_1000000, lit_1048576, bI_ret, bV_ret, bL_ret, bH_t, cond_true, z_0, z_1, retZ_tf, z_tf0, z_tf1, Decidable.not_not, Classical.not_not, nI_add, nI_clamp, n_le, n_lt, n_eq, nI_or, nI_and, z_sdf, of_nI, ite_not, m_i3, m_i99, m_i7, m_i1, m_i20, m_i2, m_i8, m_i15, m_i60, c_noRow, if_neg hx]
