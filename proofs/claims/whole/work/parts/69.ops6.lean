/-! OPERATIONS: tear, at, lay, put, mean -/
theorem asked3 {k : Nat} (h1 : 1 ≤ k) (h5 : k ≤ 5) {g : Hp} {r : Res Hp} {A : Int32 → Hp → Res Hp} (e : r = F_Mo_meetWith (nI k) g) : (bI r fun v g => if (0 : Int32) ≤ v then A v g else retI v g) = F_Mo_meetWith (nI k) g := by
  rw [e, m_meetWith h1 h5, bI_ret]
  exact if_neg (show ¬ (0 : Int32) ≤ -nI 3 by decide)
theorem asked1 {g : Hp} {r : Res Hp} {A : Int32 → Hp → Res Hp} (e : r = retI (-nI 1) g) : (bI r fun v g => if (0 : Int32) ≤ v then A v g else retI v g) = retI (-nI 1) g := by
  rw [e, bI_ret]
  exact if_neg (show ¬ (0 : Int32) ≤ -nI 1 by decide)
theorem asked0 {g : Hp} {r : Res Hp} {A : Int32 → Hp → Res Hp} {n : Nat} (hn : n < 2 ^ 31) (e : r = retI (nI n) g) : (bI r fun v g => if (0 : Int32) ≤ v then A v g else retI v g) = A (nI n) g := by
  rw [e, bI_ret]
  refine if_pos ?_
  show nI 0 ≤ nI n
  rw [nI_leI (by decide) hn]
  omega
theorem m_inN {n : Nat} (hn : n < 2 ^ 31) (x : Int32) (h : Hp) : F_Mo_in x (nI 0) (nI n - nI 1) h = retI (tf (inR x n)) h := by
  rw [m_in (lo := 0) (n := n) hn rfl, propext (inV0 _ _)]
  cases n with
  | zero => rfl
  | succ n => rw [nI_sb (by omega), nI_toInt (by omega)]; omega
section ASK
variable {g : Hp} {s n : Nat}
theorem m_askRow_b {x : Int32} (hx : ¬ inR x 6) : F_Mo_askedRow x g = retI (-nI 1) g := by
  simp (disch := first | assumption | omega) only [F_Mo_askedRow, lit_0, lit_1, lit_2, lit_3, lit_4, lit_5, lit_6, lit_7, lit_8, lit_9, lit_10, lit_11, lit_12, lit_16, lit_17, lit_20, lit_31, lit_32, lit_40, lit_47, lit_48, lit_49, lit_57, lit_58, lit_60, lit_64, lit_68, lit_80, lit_97, lit_99, lit_100, lit_101, lit_104, lit_108, lit_109, lit_115, lit_117, lit_121, lit_127, lit_128, lit_140, lit_1000, lit_1000000, lit_1048576, bI_ret, bV_ret, bL_ret, bH_t, cond_true, z_0, z_1, retZ_tf, z_tf0, z_tf1, Decidable.not_not, Classical.not_not, nI_add, nI_clamp, n_le, n_lt, n_eq, nI_or, nI_and, z_sdf, of_nI, ite_not, m_i3, m_i99, m_i7, m_i1, m_i20, m_i2, m_i8, m_i15, m_i60, m_isRow, if_neg hx]
theorem m_askRow_g (hs9 : s < 6) (e : hg g 180 s = -nI 9) : F_Mo_askedRow (nI s) g = F_Mo_meetWith (nI 1) g := by
  simp (disch := first | assumption | omega) only [F_Mo_askedRow, lit_0, lit_1, lit_2, lit_3, lit_4, lit_5, lit_6, lit_7, lit_8, lit_9, lit_10, lit_11, lit_12, lit_16, lit_17, lit_20, lit_31, lit_32, lit_40, lit_47, lit_48, lit_49, lit_57, lit_58, lit_60, lit_64, lit_68, lit_80, lit_97, lit_99, lit_100, lit_101, lit_104, lit_108, lit_109, lit_115, lit_117, lit_121, lit_127, lit_128, lit_140, lit_1000, lit_1000000, lit_1048576, bI_ret, bV_ret, bL_ret, bH_t, cond_true, z_0, z_1, retZ_tf, z_tf0, z_tf1, Decidable.not_not, Classical.not_not, nI_add, nI_clamp, n_le, n_lt, n_eq, nI_or, nI_and, z_sdf, of_nI, ite_not, m_i3, m_i99, m_i7, m_i1, m_i20, m_i2, m_i8, m_i15, m_i60, m_isRow, inR_nI, oA_180, e, meet_b]
  rw [if_pos hs9]
  exact if_neg (show ¬ nI 0 ≤ -nI 9 by decide)
theorem m_askRow_t (hs9 : s < 6) (hn : n ≤ 80) (e : hg g 180 s = nI n) : F_Mo_askedRow (nI s) g = retI (nI 0) g := by
  simp (disch := first | assumption | omega) only [F_Mo_askedRow, lit_0, lit_1, lit_2, lit_3, lit_4, lit_5, lit_6, lit_7, lit_8, lit_9, lit_10, lit_11, lit_12, lit_16, lit_17, lit_20, lit_31, lit_32, lit_40, lit_47, lit_48, lit_49, lit_57, lit_58, lit_60, lit_64, lit_68, lit_80, lit_97, lit_99, lit_100, lit_101, lit_104, lit_108, lit_109, lit_115, lit_117, lit_121, lit_127, lit_128, lit_140, lit_1000, lit_1000000, lit_1048576, bI_ret, bV_ret, bL_ret, bH_t, cond_true, z_0, z_1, retZ_tf, z_tf0, z_tf1, Decidable.not_not, Classical.not_not, nI_add, nI_clamp, n_le, n_lt, n_eq, nI_or, nI_and, z_sdf, of_nI, ite_not, m_i3, m_i99, m_i7, m_i1, m_i20, m_i2, m_i8, m_i15, m_i60, m_isRow, inR_nI, oA_180, e, meet_b]
  rw [if_pos hs9, if_pos (Nat.zero_le _)]
theorem m_askText_b {x : Int32} (hx : ¬ inR x 4) : F_Mo_askedText x g = retI (-nI 1) g := by
  simp (disch := first | assumption | omega) only [F_Mo_askedText, lit_0, lit_1, lit_2, lit_3, lit_4, lit_5, lit_6, lit_7, lit_8, lit_9, lit_10, lit_11, lit_12, lit_16, lit_17, lit_20, lit_31, lit_32, lit_40, lit_47, lit_48, lit_49, lit_57, lit_58, lit_60, lit_64, lit_68, lit_80, lit_97, lit_99, lit_100, lit_101, lit_104, lit_108, lit_109, lit_115, lit_117, lit_121, lit_127, lit_128, lit_140, lit_1000, lit_1000000, lit_1048576, bI_ret, bV_ret, bL_ret, bH_t, cond_true, z_0, z_1, retZ_tf, z_tf0, z_tf1, Decidable.not_not, Classical.not_not, nI_add, nI_clamp, n_le, n_lt, n_eq, nI_or, nI_and, z_sdf, of_nI, ite_not, m_i3, m_i99, m_i7, m_i1, m_i20, m_i2, m_i8, m_i15, m_i60, m_isText, if_neg hx]
theorem m_askText_g (hs9 : s < 4) (e : hg g 183 s = -nI 9) : F_Mo_askedText (nI s) g = F_Mo_meetWith (nI 1) g := by
  simp (disch := first | assumption | omega) only [F_Mo_askedText, lit_0, lit_1, lit_2, lit_3, lit_4, lit_5, lit_6, lit_7, lit_8, lit_9, lit_10, lit_11, lit_12, lit_16, lit_17, lit_20, lit_31, lit_32, lit_40, lit_47, lit_48, lit_49, lit_57, lit_58, lit_60, lit_64, lit_68, lit_80, lit_97, lit_99, lit_100, lit_101, lit_104, lit_108, lit_109, lit_115, lit_117, lit_121, lit_127, lit_128, lit_140, lit_1000, lit_1000000, lit_1048576, bI_ret, bV_ret, bL_ret, bH_t, cond_true, z_0, z_1, retZ_tf, z_tf0, z_tf1, Decidable.not_not, Classical.not_not, nI_add, nI_clamp, n_le, n_lt, n_eq, nI_or, nI_and, z_sdf, of_nI, ite_not, m_i3, m_i99, m_i7, m_i1, m_i20, m_i2, m_i8, m_i15, m_i60, m_isText, inR_nI, oA_183, e, meet_b]
  rw [if_pos hs9]
  exact if_neg (show ¬ nI 0 ≤ -nI 9 by decide)
theorem m_askText_t (hs9 : s < 4) (hn : n ≤ 80) (e : hg g 183 s = nI n) : F_Mo_askedText (nI s) g = retI (nI 0) g := by
  simp (disch := first | assumption | omega) only [F_Mo_askedText, lit_0, lit_1, lit_2, lit_3, lit_4, lit_5, lit_6, lit_7, lit_8, lit_9, lit_10, lit_11, lit_12, lit_16, lit_17, lit_20, lit_31, lit_32, lit_40, lit_47, lit_48, lit_49, lit_57, lit_58, lit_60, lit_64, lit_68, lit_80, lit_97, lit_99, lit_100, lit_101, lit_104, lit_108, lit_109, lit_115, lit_117, lit_121, lit_127, lit_128, lit_140, lit_1000, lit_1000000, lit_1048576, bI_ret, bV_ret, bL_ret, bH_t, cond_true, z_0, z_1, retZ_tf, z_tf0, z_tf1, Decidable.not_not, Classical.not_not, nI_add, nI_clamp, n_le, n_lt, n_eq, nI_or, nI_and, z_sdf, of_nI, ite_not, m_i3, m_i99, m_i7, m_i1, m_i20, m_i2, m_i8, m_i15, m_i60, m_isText, inR_nI, oA_183, e, meet_b]
  rw [if_pos hs9, if_pos (Nat.zero_le _)]
theorem m_at_b {x y : Int32} (hx : ¬ inR x 6) : F_Mo_at x y g = retI (-nI 1) g := asked1 (m_askRow_b hx)
theorem m_at_g {y : Int32} (hs9 : s < 6) (e : hg g 180 s = -nI 9) : F_Mo_at (nI s) y g = F_Mo_meetWith (nI 1) g := asked3 (by decide) (by decide) (m_askRow_g hs9 e)
theorem m_at_n {y : Int32} (hs9 : s < 6) (hn : n ≤ 80) (e : hg g 180 s = nI n) (hy : ¬ inR y n) : F_Mo_at (nI s) y g = F_Mo_meetWith (nI 2) g := by
  refine (asked0 (by decide) (m_askRow_t hs9 hn e)).trans ?_
  simp (disch := first | assumption | omega) only [lit_0, lit_1, lit_2, lit_3, lit_4, lit_5, lit_6, lit_7, lit_8, lit_9, lit_10, lit_11, lit_12, lit_16, lit_17, lit_20, lit_31, lit_32, lit_40, lit_47, lit_48, lit_49, lit_57, lit_58, lit_60, lit_64, lit_68, lit_80, lit_97, lit_99, lit_100, lit_101, lit_104, lit_108, lit_109, lit_115, lit_117, lit_121, lit_127, lit_128, lit_140, lit_1000, lit_1000000, lit_1048576, bI_ret, bV_ret, bL_ret, bH_t, cond_true, z_0, z_1, retZ_tf, z_tf0, z_tf1, Decidable.not_not, Classical.not_not, nI_add, nI_clamp, n_le, n_lt, n_eq, nI_or, nI_and, z_sdf, of_nI, ite_not, m_i3, m_i99, m_i7, m_i1, m_i20, m_i2, m_i8, m_i15, m_i60, oA_180, e, m_inN, if_neg hy, meet_b]
theorem m_at_t {j : Nat} (hs9 : s < 6) (hn : n ≤ 40) (e : hg g 180 s = nI n) (hj : j < n) : F_Mo_at (nI s) (nI j) g = retI (nI 1) (hs g 178 2 (hg g 181 (40 * s + j))) := by
  refine (asked0 (by decide) (m_askRow_t hs9 (by omega) e)).trans ?_
  simp (disch := first | assumption | omega) only [lit_0, lit_1, lit_2, lit_3, lit_4, lit_5, lit_6, lit_7, lit_8, lit_9, lit_10, lit_11, lit_12, lit_16, lit_17, lit_20, lit_31, lit_32, lit_40, lit_47, lit_48, lit_49, lit_57, lit_58, lit_60, lit_64, lit_68, lit_80, lit_97, lit_99, lit_100, lit_101, lit_104, lit_108, lit_109, lit_115, lit_117, lit_121, lit_127, lit_128, lit_140, lit_1000, lit_1000000, lit_1048576, bI_ret, bV_ret, bL_ret, bH_t, cond_true, z_0, z_1, retZ_tf, z_tf0, z_tf1, Decidable.not_not, Classical.not_not, nI_add, nI_clamp, n_le, n_lt, n_eq, nI_or, nI_and, z_sdf, of_nI, ite_not, m_i3, m_i99, m_i7, m_i1, m_i20, m_i2, m_i8, m_i15, m_i60, F_Mo_ask, oA_180, e, m_inN, inR_nI, m_rowAt hs9 (show j < 40 by omega)]
  rw [if_pos hj]
end ASK
section RO
variable {h : Hp} {s : Nat}
theorem row_cases (I : Inv h) (hs9 : s < 6) : (hg h (71 + 2 * s) 1 = -nI 1 ∧ hg h 180 s = -nI 9 ∧ gone s h) ∨ ∃ n, n ≤ 40 ∧ hg h (71 + 2 * s) 1 = nI n ∧ hg h 180 s = nI n ∧ there s n h ∧ ∀ j, j < n → hg h (72 + 2 * s) j = hg h 181 (40 * s + j) := by
  have hc : cap s = 40 := if_pos hs9
  have e1 : mSz h s = hg h 180 s := if_pos hs9
  have e2 : ∀ j, mVl h s j = hg h 181 (40 * s + j) := fun j => if_pos hs9
  rcases I.2.1 s (by omega) with c | ⟨n, c⟩
  · exact Or.inl ⟨c.1, e1 ▸ c.2, c⟩
  · exact Or.inr ⟨n, hc ▸ c.1, c.2.1, e1 ▸ c.2.2.1, c, fun j hj => (c.2.2.2 j hj).trans (e2 j)⟩
theorem text_cases (I : Inv h) (hs9 : s < 4) : (hg h (83 + 2 * s) 1 = -nI 1 ∧ hg h 183 s = -nI 9 ∧ gone (6 + s) h) ∨ ∃ n, n ≤ 80 ∧ hg h (83 + 2 * s) 1 = nI n ∧ hg h 183 s = nI n ∧ there (6 + s) n h ∧ ∀ j, j < n → hg h (84 + 2 * s) j = hg h 184 (80 * s + j) := by
  have hc : cap (6 + s) = 80 := if_neg (by omega)
  have e0 : 71 + 2 * (6 + s) = 83 + 2 * s := by omega
  have e00 : 72 + 2 * (6 + s) = 84 + 2 * s := by omega
  have e1 : mSz h (6 + s) = hg h 183 s := by unfold mSz; rw [if_neg (by omega), Nat.add_sub_cancel_left]
  have e2 : ∀ j, mVl h (6 + s) j = hg h 184 (80 * s + j) := fun j => by unfold mVl; rw [if_neg (by omega), Nat.add_sub_cancel_left]
  rcases I.2.1 (6 + s) (by omega) with c | ⟨n, c⟩
  · exact Or.inl ⟨e0 ▸ c.1, e1 ▸ c.2, c⟩
  · exact Or.inr ⟨n, hc ▸ c.1, e0 ▸ c.2.1, e1 ▸ c.2.2.1, c, fun j hj => e00 ▸ (c.2.2.2 j hj).trans (e2 j)⟩
end RO
theorem found_1 {h : Hp} {r : Res Hp} (e : r = F_Bp_found (nI 1) h) : r = F_Bp_found (nI 1) h := e
theorem g_tear (x : Int32) {h : Hp} (I : Inv h) : Ok (F_Bp_tear x) (F_Mo_tear x) h := by
  by_cases hx : inR x 6
  · obtain ⟨s, hs9, rfl⟩ := inR_ex (by decide) hx
    rcases row_cases I hs9 with ⟨-, c2, c3⟩ | ⟨n, hn, c1, c2, c3, c4⟩
    · refine fin_f I (k := 1) (h1 := h) (by decide) (by decide) ?_ (frS_rf h) fun g1 hg1 => asked3 (by decide) (by decide) (m_askRow_g hs9 (by rw [hg1 180 s (by unfold scr; omega) (by unfold fpA; omega)]; exact c2))
      simp (disch := first | assumption | omega) only [F_Bp_tear, lit_0, lit_1, lit_2, lit_3, lit_4, lit_5, lit_6, lit_7, lit_8, lit_9, lit_10, lit_11, lit_12, lit_16, lit_17, lit_20, lit_31, lit_32, lit_40, lit_47, lit_48, lit_49, lit_57, lit_58, lit_60, lit_64, lit_68, lit_80, lit_97, lit_99, lit_100, lit_101, lit_104, lit_108, lit_109, lit_115, lit_117, lit_121, lit_127, lit_128, lit_140, lit_1000, lit_1000000, lit_1048576, bI_ret, bV_ret, bL_ret, bH_t, cond_true, z_0, z_1, retZ_tf, z_tf0, z_tf1, Decidable.not_not, Classical.not_not, nI_add, nI_clamp, n_le, n_lt, n_eq, nI_or, nI_and, z_sdf, of_nI, ite_not, m_i3, m_i99, m_i7, m_i1, m_i20, m_i2, m_i8, m_i15, m_i60, c_noRow, if_pos hx, oR_1, sR_1, sh_O (show s < 10 by omega), c_sheetIs_g (show s < 10 by omega) c3, found_b, if_true, not_false_iff]
      first | done | rw [if_neg id]
    · refine ⟨(nI 1), hs h (71 + 2 * s) 1 (-nI 1), hs (hs h (71 + 2 * s) 1 (-nI 1)) 180 s (-nI 9), ?_, (asked0 (by decide) (m_askRow_t hs9 (by omega) ((hg_hs_a (by omega)).trans c2))).trans ?_, Inv_R I (s := s) (by omega) (CA_ag2 (s := s) I (fun a j n1 n2 => ?_) (by omega)) (Or.inl ⟨?_, ?_⟩) fun a j n1 n2 n3 => ?_⟩
      · simp (disch := first | assumption | omega) only [F_Bp_tear, lit_0, lit_1, lit_2, lit_3, lit_4, lit_5, lit_6, lit_7, lit_8, lit_9, lit_10, lit_11, lit_12, lit_16, lit_17, lit_20, lit_31, lit_32, lit_40, lit_47, lit_48, lit_49, lit_57, lit_58, lit_60, lit_64, lit_68, lit_80, lit_97, lit_99, lit_100, lit_101, lit_104, lit_108, lit_109, lit_115, lit_117, lit_121, lit_127, lit_128, lit_140, lit_1000, lit_1000000, lit_1048576, bI_ret, bV_ret, bL_ret, bH_t, cond_true, z_0, z_1, retZ_tf, z_tf0, z_tf1, Decidable.not_not, Classical.not_not, nI_add, nI_clamp, n_le, n_lt, n_eq, nI_or, nI_and, z_sdf, of_nI, ite_not, m_i3, m_i99, m_i7, m_i1, m_i20, m_i2, m_i8, m_i15, m_i60, c_noRow, if_pos hx, oR_1, sR_1, sh_O (show s < 10 by omega), sh_F1 (show s < 10 by omega), c_sheetIs_t (show s < 10 by omega) c3, if_true, if_false, not_true]
        rfl
      · simp (disch := first | assumption | omega) only [lit_0, lit_1, lit_2, lit_3, lit_4, lit_5, lit_6, lit_7, lit_8, lit_9, lit_10, lit_11, lit_12, lit_16, lit_17, lit_20, lit_31, lit_32, lit_40, lit_47, lit_48, lit_49, lit_57, lit_58, lit_60, lit_64, lit_68, lit_80, lit_97, lit_99, lit_100, lit_101, lit_104, lit_108, lit_109, lit_115, lit_117, lit_121, lit_127, lit_128, lit_140, lit_1000, lit_1000000, lit_1048576, bI_ret, bV_ret, bL_ret, bH_t, cond_true, z_0, z_1, retZ_tf, z_tf0, z_tf1, Decidable.not_not, Classical.not_not, nI_add, nI_clamp, n_le, n_lt, n_eq, nI_or, nI_and, z_sdf, of_nI, ite_not, m_i3, m_i99, m_i7, m_i1, m_i20, m_i2, m_i8, m_i15, m_i60, oA_180]
        rfl
      · rw [hg_hs2, if_neg (fun z => n2 (by unfold fpS; omega)), hg_hs_a (fun z => n2 (by unfold fpS; omega))]
      · rw [hg_hs_a (by omega), hg_hs_eq]
      · unfold mSz; rw [if_pos hs9, hg_hs_eq]
      · rw [hg_hs2, if_neg (fun z => n3 (by unfold fpS; omega)), hg_hs_a (fun z => n3 (by unfold fpS; omega))]
  · refine fin_q I (h1 := h) (h2 := h) (x := -nI 1) ?_ (frS_rf h) (asked1 (m_askRow_b hx)) (frS_rf h)
    simp (disch := first | assumption | omega) only [F_Bp_tear, lit_0, lit_1, lit_2, lit_3, lit_4, lit_5, lit_6, lit_7, lit_8, lit_9, lit_10, lit_11, lit_12, lit_16, lit_17, lit_20, lit_31, lit_32, lit_40, lit_47, lit_48, lit_49, lit_57, lit_58, lit_60, lit_64, lit_68, lit_80, lit_97, lit_99, lit_100, lit_101, lit_104, lit_108, lit_109, lit_115, lit_117, lit_121, lit_127, lit_128, lit_140, lit_1000, lit_1000000, lit_1048576, bI_ret, bV_ret, bL_ret, bH_t, cond_true, z_0, z_1, retZ_tf, z_tf0, z_tf1, Decidable.not_not, Classical.not_not, nI_add, nI_clamp, n_le, n_lt, n_eq, nI_or, nI_and, z_sdf, of_nI, ite_not, m_i3, m_i99, m_i7, m_i1, m_i20, m_i2, m_i8, m_i15, m_i60, c_noRow, if_neg hx]
theorem g_at (x y : Int32) {h : Hp} (I : Inv h) : Ok (F_Bp_at x y) (F_Mo_at x y) h := by
  by_cases hx : inR x 6
  · obtain ⟨s, hs9, rfl⟩ := inR_ex (by decide) hx
    have s10 : s < 10 := by omega
    rcases row_cases I hs9 with ⟨-, c2, c3⟩ | ⟨n, hn, c1, c2, c3, c4⟩
    · refine fin_f I (k := 1) (h1 := h) (by decide) (by decide) ?_ (frS_rf h) fun g1 hg1 => m_at_g hs9 (by rw [hg1 180 s (by unfold scr; omega) (by unfold fpA; omega)]; exact c2)
      simp (disch := first | assumption | omega) only [F_Bp_at, lit_0, lit_1, lit_2, lit_3, lit_4, lit_5, lit_6, lit_7, lit_8, lit_9, lit_10, lit_11, lit_12, lit_16, lit_17, lit_20, lit_31, lit_32, lit_40, lit_47, lit_48, lit_49, lit_57, lit_58, lit_60, lit_64, lit_68, lit_80, lit_97, lit_99, lit_100, lit_101, lit_104, lit_108, lit_109, lit_115, lit_117, lit_121, lit_127, lit_128, lit_140, lit_1000, lit_1000000, lit_1048576, bI_ret, bV_ret, bL_ret, bH_t, cond_true, z_0, z_1, retZ_tf, z_tf0, z_tf1, Decidable.not_not, Classical.not_not, nI_add, nI_clamp, n_le, n_lt, n_eq, nI_or, nI_and, z_sdf, of_nI, ite_not, m_i3, m_i99, m_i7, m_i1, m_i20, m_i2, m_i8, m_i15, m_i60, c_noRow, if_pos hx, oR_1, sR_1, sh_O s10, c_lackAt_g s10 c3, found_b]
      rw [if_neg (by decide)]
    · by_cases hy : inR y n
      · obtain ⟨j, hj, rfl⟩ := inR_ex (by omega) hy
        refine fin_t I (h1 := h) (h2 := hs h 0 11 (hg h (72 + 2 * s) j)) (x := nI 1) (a := hg h (72 + 2 * s) j) ?_ (frS_rf h) ?_ (frS_rf _)
        · simp (disch := first | assumption | omega) only [F_Bp_at, F_Bp_tell, lit_0, lit_1, lit_2, lit_3, lit_4, lit_5, lit_6, lit_7, lit_8, lit_9, lit_10, lit_11, lit_12, lit_16, lit_17, lit_20, lit_31, lit_32, lit_40, lit_47, lit_48, lit_49, lit_57, lit_58, lit_60, lit_64, lit_68, lit_80, lit_97, lit_99, lit_100, lit_101, lit_104, lit_108, lit_109, lit_115, lit_117, lit_121, lit_127, lit_128, lit_140, lit_1000, lit_1000000, lit_1048576, bI_ret, bV_ret, bL_ret, bH_t, cond_true, z_0, z_1, retZ_tf, z_tf0, z_tf1, Decidable.not_not, Classical.not_not, nI_add, nI_clamp, n_le, n_lt, n_eq, nI_or, nI_and, z_sdf, of_nI, ite_not, m_i3, m_i99, m_i7, m_i1, m_i20, m_i2, m_i8, m_i15, m_i60, c_noRow, if_pos hx, oR_1, sR_1, sh_O s10, sh_F0 s10, sh_R s10, sh_A s10 (Nat.lt_of_lt_of_le hj c3.1), c_lackAt_t s10 c3, if_pos hy, if_true]
        · rw [m_at_t hs9 hn ((hg_hs_a (by decide)).trans c2) hj, hg_hs_a (by decide), c4 j hj]
      · refine fin_f I (k := 2) (h1 := h) (by decide) (by decide) ?_ (frS_rf h) fun g1 hg1 => m_at_n hs9 (by omega) (by rw [hg1 180 s (by unfold scr; omega) (by unfold fpA; omega)]; exact c2) hy
        simp (disch := first | assumption | omega) only [F_Bp_at, lit_0, lit_1, lit_2, lit_3, lit_4, lit_5, lit_6, lit_7, lit_8, lit_9, lit_10, lit_11, lit_12, lit_16, lit_17, lit_20, lit_31, lit_32, lit_40, lit_47, lit_48, lit_49, lit_57, lit_58, lit_60, lit_64, lit_68, lit_80, lit_97, lit_99, lit_100, lit_101, lit_104, lit_108, lit_109, lit_115, lit_117, lit_121, lit_127, lit_128, lit_140, lit_1000, lit_1000000, lit_1048576, bI_ret, bV_ret, bL_ret, bH_t, cond_true, z_0, z_1, retZ_tf, z_tf0, z_tf1, Decidable.not_not, Classical.not_not, nI_add, nI_clamp, n_le, n_lt, n_eq, nI_or, nI_and, z_sdf, of_nI, ite_not, m_i3, m_i99, m_i7, m_i1, m_i20, m_i2, m_i8, m_i15, m_i60, c_noRow, if_pos hx, oR_1, sR_1, sh_O s10, c_lackAt_t s10 c3, if_neg hy, found_b]
        rw [if_neg (by decide)]
  · refine fin_q I (h1 := h) (h2 := h) (x := -nI 1) ?_ (frS_rf h) (m_at_b hx) (frS_rf h)
    simp (disch := first | assumption | omega) only [F_Bp_at, lit_0, lit_1, lit_2, lit_3, lit_4, lit_5, lit_6, lit_7, lit_8, lit_9, lit_10, lit_11, lit_12, lit_16, lit_17, lit_20, lit_31, lit_32, lit_40, lit_47, lit_48, lit_49, lit_57, lit_58, lit_60, lit_64, lit_68, lit_80, lit_97, lit_99, lit_100, lit_101, lit_104, lit_108, lit_109, lit_115, lit_117, lit_121, lit_127, lit_128, lit_140, lit_1000, lit_1000000, lit_1048576, bI_ret, bV_ret, bL_ret, bH_t, cond_true, z_0, z_1, retZ_tf, z_tf0, z_tf1, Decidable.not_not, Classical.not_not, nI_add, nI_clamp, n_le, n_lt, n_eq, nI_or, nI_and, z_sdf, of_nI, ite_not, m_i3, m_i99, m_i7, m_i1, m_i20, m_i2, m_i8, m_i15, m_i60, c_noRow, if_neg hx]
theorem g_lay (x y z : Int32) {h : Hp} (I : Inv h) : Ok (F_Bp_lay x y z) (F_Mo_lay x y z) h := by
  by_cases hx : inR x 6
  · obtain ⟨s, hs9, rfl⟩ := inR_ex (by decide) hx
    have s10 : s < 10 := by omega
    rcases row_cases I hs9 with ⟨-, c2, c3⟩ | ⟨n, hn, c1, c2, c3, c4⟩
    · refine fin_f I (k := 1) (h1 := h) (by decide) (by decide) ?_ (frS_rf h) fun g1 hg1 => asked3 (by decide) (by decide) (m_at_g hs9 (by rw [hg1 180 s (by unfold scr; omega) (by unfold fpA; omega)]; exact c2))
      simp (disch := first | assumption | omega) only [F_Bp_lay, lit_0, lit_1, lit_2, lit_3, lit_4, lit_5, lit_6, lit_7, lit_8, lit_9, lit_10, lit_11, lit_12, lit_16, lit_17, lit_20, lit_31, lit_32, lit_40, lit_47, lit_48, lit_49, lit_57, lit_58, lit_60, lit_64, lit_68, lit_80, lit_97, lit_99, lit_100, lit_101, lit_104, lit_108, lit_109, lit_115, lit_117, lit_121, lit_127, lit_128, lit_140, lit_1000, lit_1000000, lit_1048576, bI_ret, bV_ret, bL_ret, bH_t, cond_true, z_0, z_1, retZ_tf, z_tf0, z_tf1, Decidable.not_not, Classical.not_not, nI_add, nI_clamp, n_le, n_lt, n_eq, nI_or, nI_and, z_sdf, of_nI, ite_not, m_i3, m_i99, m_i7, m_i1, m_i20, m_i2, m_i8, m_i15, m_i60, c_noRow, if_pos hx, oR_1, sR_1, sh_O s10, c_lackAt_g s10 c3, found_b]
      rw [if_neg (by decide)]
    · by_cases hy : inR y n
      · obtain ⟨j, hj, rfl⟩ := inR_ex (by omega) hy
        have hk := c4 j hj
        refine ⟨(nI 1), hs (hs h (72 + 2 * s) j z) 0 11 (hg h (72 + 2 * s) j), hs (hs (hs (hs h (72 + 2 * s) j z) 0 11 (hg h (72 + 2 * s) j)) 178 2 (hg h (72 + 2 * s) j)) 181 (40 * s + j) z, ?_, (asked0 (by decide) (m_at_t hs9 hn ((hg_hs_a (by decide)).trans ((hg_hs_a (by omega)).trans c2)) hj)).trans ?_, Inv_R I (s := s) (by omega) (CA_told (s := s) I (a := hg h (72 + 2 * s) j) (by omega) ?_ ?_ (fun a i n1 n2 n3 n4 => ?_)) (Or.inr ⟨n, c3.1, ?_, ?_, fun i hi => ?_⟩) fun a i n1 n2 n3 => ?_⟩
        · simp (disch := first | assumption | omega) only [F_Bp_lay, F_Bp_tell, lit_0, lit_1, lit_2, lit_3, lit_4, lit_5, lit_6, lit_7, lit_8, lit_9, lit_10, lit_11, lit_12, lit_16, lit_17, lit_20, lit_31, lit_32, lit_40, lit_47, lit_48, lit_49, lit_57, lit_58, lit_60, lit_64, lit_68, lit_80, lit_97, lit_99, lit_100, lit_101, lit_104, lit_108, lit_109, lit_115, lit_117, lit_121, lit_127, lit_128, lit_140, lit_1000, lit_1000000, lit_1048576, bI_ret, bV_ret, bL_ret, bH_t, cond_true, z_0, z_1, retZ_tf, z_tf0, z_tf1, Decidable.not_not, Classical.not_not, nI_add, nI_clamp, n_le, n_lt, n_eq, nI_or, nI_and, z_sdf, of_nI, ite_not, m_i3, m_i99, m_i7, m_i1, m_i20, m_i2, m_i8, m_i15, m_i60, c_noRow, if_pos hx, oR_1, sR_1, sh_O s10, sh_F0 s10, sh_R s10, sh_A s10 (Nat.lt_of_lt_of_le hj c3.1), c_lackAt_t s10 c3, if_pos hy, if_true]
          rfl
        · rw [hg_hs_a (by decide), hg_hs_a (by omega), ← hk, m_setRow hs9 (by omega), bV_ret]
          rfl
        · rw [hg_hs_a (by decide), hg_hs_a (by decide), hg_hs_eq]
        · rw [hg_hs_a (by decide), hg_hs_eq]
        · rw [hg_hs2, if_neg (fun q => n2 (by unfold fpS; omega)), hg_hs2, if_neg n4, hg_hs2, if_neg n3, hg_hs_a (fun q => n2 (by unfold fpS; omega))]
        · rw [hg_hs_a (by omega), hg_hs_a (by omega), hg_hs_a (by omega), hg_hs_a (by omega)]; exact c1
        · unfold mSz; rw [if_pos hs9, hg_hs_a (by decide), hg_hs_a (by decide), hg_hs_a (by decide), hg_hs_a (by omega)]; exact c2
        · unfold mVl
          rw [if_pos hs9, hg_hs_a (by omega), hg_hs_a (by omega), hg_hs_a (by omega)]
          by_cases e : i = j
          · rw [e, hg_hs_eq, hg_hs_eq]
          · rw [hg_hs_k e, hg_hs_k (by omega), hg_hs_a (by decide), hg_hs_a (by decide), hg_hs_a (by omega)]
            exact c4 i hi
        · rw [hg_hs2, if_neg (fun q => n3 (by unfold fpS; omega)), hg_hs2, if_neg (fun q => n2 (by unfold fpA; omega)), hg_hs2, if_neg (fun q => n2 (by unfold fpA; omega)), hg_hs_a (fun q => n3 (by unfold fpS; omega))]
      · refine fin_f I (k := 2) (h1 := h) (by decide) (by decide) ?_ (frS_rf h) fun g1 hg1 => asked3 (by decide) (by decide) (m_at_n hs9 (by omega) (by rw [hg1 180 s (by unfold scr; omega) (by unfold fpA; omega)]; exact c2) hy)
        simp (disch := first | assumption | omega) only [F_Bp_lay, lit_0, lit_1, lit_2, lit_3, lit_4, lit_5, lit_6, lit_7, lit_8, lit_9, lit_10, lit_11, lit_12, lit_16, lit_17, lit_20, lit_31, lit_32, lit_40, lit_47, lit_48, lit_49, lit_57, lit_58, lit_60, lit_64, lit_68, lit_80, lit_97, lit_99, lit_100, lit_101, lit_104, lit_108, lit_109, lit_115, lit_117, lit_121, lit_127, lit_128, lit_140, lit_1000, lit_1000000, lit_1048576, bI_ret, bV_ret, bL_ret, bH_t, cond_true, z_0, z_1, retZ_tf, z_tf0, z_tf1, Decidable.not_not, Classical.not_not, nI_add, nI_clamp, n_le, n_lt, n_eq, nI_or, nI_and, z_sdf, of_nI, ite_not, m_i3, m_i99, m_i7, m_i1, m_i20, m_i2, m_i8, m_i15, m_i60, c_noRow, if_pos hx, oR_1, sR_1, sh_O s10, c_lackAt_t s10 c3, if_neg hy, found_b]
        rw [if_neg (by decide)]
  · refine fin_q I (h1 := h) (h2 := h) (x := -nI 1) ?_ (frS_rf h) (asked1 (m_at_b hx)) (frS_rf h)
    simp (disch := first | assumption | omega) only [F_Bp_lay, lit_0, lit_1, lit_2, lit_3, lit_4, lit_5, lit_6, lit_7, lit_8, lit_9, lit_10, lit_11, lit_12, lit_16, lit_17, lit_20, lit_31, lit_32, lit_40, lit_47, lit_48, lit_49, lit_57, lit_58, lit_60, lit_64, lit_68, lit_80, lit_97, lit_99, lit_100, lit_101, lit_104, lit_108, lit_109, lit_115, lit_117, lit_121, lit_127, lit_128, lit_140, lit_1000, lit_1000000, lit_1048576, bI_ret, bV_ret, bL_ret, bH_t, cond_true, z_0, z_1, retZ_tf, z_tf0, z_tf1, Decidable.not_not, Classical.not_not, nI_add, nI_clamp, n_le, n_lt, n_eq, nI_or, nI_and, z_sdf, of_nI, ite_not, m_i3, m_i99, m_i7, m_i1, m_i20, m_i2, m_i8, m_i15, m_i60, c_noRow, if_neg hx]
theorem g_put (x y z : Int32) {h : Hp} (I : Inv h) : Ok (F_Bp_put x y z) (F_Mo_put x y z) h := by
  by_cases hx : inR x 4
  · obtain ⟨s, hs9, rfl⟩ := inR_ex (by decide) hx
    have s10 : 6 + s < 10 := by omega
    have hc : cap (6 + s) = 80 := if_neg (by omega)
    rcases text_cases I hs9 with ⟨-, c2, c3⟩ | ⟨n, hn, c1, c2, c3, c4⟩
    · refine fin_f I (k := 1) (h1 := h) (by decide) (by decide) ?_ (frS_rf h) fun g1 hg1 => asked3 (by decide) (by decide) (m_askText_g hs9 (by rw [hg1 183 s (by unfold scr; omega) (by unfold fpA; omega)]; exact c2))
      simp (disch := first | assumption | omega) only [F_Bp_put, lit_0, lit_1, lit_2, lit_3, lit_4, lit_5, lit_6, lit_7, lit_8, lit_9, lit_10, lit_11, lit_12, lit_16, lit_17, lit_20, lit_31, lit_32, lit_40, lit_47, lit_48, lit_49, lit_57, lit_58, lit_60, lit_64, lit_68, lit_80, lit_97, lit_99, lit_100, lit_101, lit_104, lit_108, lit_109, lit_115, lit_117, lit_121, lit_127, lit_128, lit_140, lit_1000, lit_1000000, lit_1048576, bI_ret, bV_ret, bL_ret, bH_t, cond_true, z_0, z_1, retZ_tf, z_tf0, z_tf1, Decidable.not_not, Classical.not_not, nI_add, nI_clamp, n_le, n_lt, n_eq, nI_or, nI_and, z_sdf, of_nI, ite_not, m_i3, m_i99, m_i7, m_i1, m_i20, m_i2, m_i8, m_i15, m_i60, c_noText, if_pos hx, oR_2, sR_2, sh_t, sh_O s10, c_lackAt_g s10 c3, found_b]
      rw [if_neg (by decide)]
    · by_cases hy : inR y n
      · obtain ⟨j, hj, rfl⟩ := inR_ex (by omega) hy
        have hk := c4 j hj
        have e00 : 72 + 2 * (6 + s) = 84 + 2 * s := by omega
        have hA : okA (84 + 2 * s) 100 (nI j) = true := e00 ▸ sh_A s10 (Nat.lt_of_lt_of_le hj c3.1)
        refine ⟨(hg h (84 + 2 * s) j + nI 1000), hs h (84 + 2 * s) j z.toInt8.toInt32, hs (hs h (84 + 2 * s) j z.toInt8.toInt32) 184 (80 * s + j) z.toInt8.toInt32, ?_, (asked0 (by decide) (m_askText_t hs9 (by omega) ((hg_hs_a (by omega)).trans c2))).trans ?_, Inv_R I (s := 6 + s) (by omega) (CA_ag2 (s := 6 + s) I (fun a i n1 n2 => ?_) (by omega)) (Or.inr ⟨n, c3.1, ?_, ?_, fun i hi => ?_⟩) fun a i n1 n2 n3 => ?_⟩
        · simp (disch := first | assumption | omega) only [F_Bp_put, lit_0, lit_1, lit_2, lit_3, lit_4, lit_5, lit_6, lit_7, lit_8, lit_9, lit_10, lit_11, lit_12, lit_16, lit_17, lit_20, lit_31, lit_32, lit_40, lit_47, lit_48, lit_49, lit_57, lit_58, lit_60, lit_64, lit_68, lit_80, lit_97, lit_99, lit_100, lit_101, lit_104, lit_108, lit_109, lit_115, lit_117, lit_121, lit_127, lit_128, lit_140, lit_1000, lit_1000000, lit_1048576, bI_ret, bV_ret, bL_ret, bH_t, cond_true, z_0, z_1, retZ_tf, z_tf0, z_tf1, Decidable.not_not, Classical.not_not, nI_add, nI_clamp, n_le, n_lt, n_eq, nI_or, nI_and, z_sdf, of_nI, ite_not, m_i3, m_i99, m_i7, m_i1, m_i20, m_i2, m_i8, m_i15, m_i60, c_noText, if_pos hx, oR_2, sR_2, sh_t, sh_O s10, sh_F0 s10, sh_R s10, hA, c_lackAt_t s10 c3, if_pos hy, if_true, e00]
          rfl
        · simp (disch := first | assumption | omega) only [lit_0, lit_1, lit_2, lit_3, lit_4, lit_5, lit_6, lit_7, lit_8, lit_9, lit_10, lit_11, lit_12, lit_16, lit_17, lit_20, lit_31, lit_32, lit_40, lit_47, lit_48, lit_49, lit_57, lit_58, lit_60, lit_64, lit_68, lit_80, lit_97, lit_99, lit_100, lit_101, lit_104, lit_108, lit_109, lit_115, lit_117, lit_121, lit_127, lit_128, lit_140, lit_1000, lit_1000000, lit_1048576, bI_ret, bV_ret, bL_ret, bH_t, cond_true, z_0, z_1, retZ_tf, z_tf0, z_tf1, Decidable.not_not, Classical.not_not, nI_add, nI_clamp, n_le, n_lt, n_eq, nI_or, nI_and, z_sdf, of_nI, ite_not, m_i3, m_i99, m_i7, m_i1, m_i20, m_i2, m_i8, m_i15, m_i60, oA_183, hg_hs_a (show (183 : Nat) ≠ 84 + 2 * s by omega), hg_hs_a (show (184 : Nat) ≠ 84 + 2 * s by omega), c2, m_inN, inR_nI, nI_mul, oA_184' hs9 (show j < 80 by omega), ← hk]
          rw [if_pos hj]
          rfl
        · rw [hg_hs2, if_neg (fun q => n2 (by unfold fpS; omega)), hg_hs_a (fun q => n2 (by unfold fpS; omega))]
        · rw [hg_hs_a (by omega), hg_hs_a (by omega), show 71 + 2 * (6 + s) = 83 + 2 * s by omega]; exact c1
        · unfold mSz; rw [if_neg (by omega), Nat.add_sub_cancel_left, hg_hs_a (by decide), hg_hs_a (by omega)]; exact c2
        · unfold mVl
          rw [if_neg (by omega), Nat.add_sub_cancel_left, hg_hs_a (by omega), e00]
          by_cases e : i = j
          · rw [e, hg_hs_eq, hg_hs_eq]
          · rw [hg_hs_k e, hg_hs_k (by omega), hg_hs_a (by omega)]
            exact c4 i hi
        · rw [hg_hs2, if_neg (fun q => n3 (by unfold fpS; omega)), hg_hs_a (fun q => n3 (by unfold fpS; omega))]
      · refine fin_f I (k := 2) (h1 := h) (by decide) (by decide) ?_ (frS_rf h) fun g1 hg1 => (asked0 (by decide) (m_askText_t hs9 (by omega) ((by rw [hg1 183 s (by unfold scr; omega) (by unfold fpA; omega)]; exact c2 : hg g1 183 s = nI n)))).trans ?_
        · simp (disch := first | assumption | omega) only [F_Bp_put, lit_0, lit_1, lit_2, lit_3, lit_4, lit_5, lit_6, lit_7, lit_8, lit_9, lit_10, lit_11, lit_12, lit_16, lit_17, lit_20, lit_31, lit_32, lit_40, lit_47, lit_48, lit_49, lit_57, lit_58, lit_60, lit_64, lit_68, lit_80, lit_97, lit_99, lit_100, lit_101, lit_104, lit_108, lit_109, lit_115, lit_117, lit_121, lit_127, lit_128, lit_140, lit_1000, lit_1000000, lit_1048576, bI_ret, bV_ret, bL_ret, bH_t, cond_true, z_0, z_1, retZ_tf, z_tf0, z_tf1, Decidable.not_not, Classical.not_not, nI_add, nI_clamp, n_le, n_lt, n_eq, nI_or, nI_and, z_sdf, of_nI, ite_not, m_i3, m_i99, m_i7, m_i1, m_i20, m_i2, m_i8, m_i15, m_i60, c_noText, if_pos hx, oR_2, sR_2, sh_t, sh_O s10, c_lackAt_t s10 c3, if_neg hy, found_b]
          rw [if_neg (by decide)]
        · have e1 : hg g1 183 s = nI n := by rw [hg1 183 s (by unfold scr; omega) (by unfold fpA; omega)]; exact c2
          simp (disch := first | assumption | omega) only [lit_0, lit_1, lit_2, lit_3, lit_4, lit_5, lit_6, lit_7, lit_8, lit_9, lit_10, lit_11, lit_12, lit_16, lit_17, lit_20, lit_31, lit_32, lit_40, lit_47, lit_48, lit_49, lit_57, lit_58, lit_60, lit_64, lit_68, lit_80, lit_97, lit_99, lit_100, lit_101, lit_104, lit_108, lit_109, lit_115, lit_117, lit_121, lit_127, lit_128, lit_140, lit_1000, lit_1000000, lit_1048576, bI_ret, bV_ret, bL_ret, bH_t, cond_true, z_0, z_1, retZ_tf, z_tf0, z_tf1, Decidable.not_not, Classical.not_not, nI_add, nI_clamp, n_le, n_lt, n_eq, nI_or, nI_and, z_sdf, of_nI, ite_not, m_i3, m_i99, m_i7, m_i1, m_i20, m_i2, m_i8, m_i15, m_i60, oA_183, e1, m_inN, if_neg hy, meet_b]
  · refine fin_q I (h1 := h) (h2 := h) (x := -nI 1) ?_ (frS_rf h) (asked1 (m_askText_b hx)) (frS_rf h)
    simp (disch := first | assumption | omega) only [F_Bp_put, lit_0, lit_1, lit_2, lit_3, lit_4, lit_5, lit_6, lit_7, lit_8, lit_9, lit_10, lit_11, lit_12, lit_16, lit_17, lit_20, lit_31, lit_32, lit_40, lit_47, lit_48, lit_49, lit_57, lit_58, lit_60, lit_64, lit_68, lit_80, lit_97, lit_99, lit_100, lit_101, lit_104, lit_108, lit_109, lit_115, lit_117, lit_121, lit_127, lit_128, lit_140, lit_1000, lit_1000000, lit_1048576, bI_ret, bV_ret, bL_ret, bH_t, cond_true, z_0, z_1, retZ_tf, z_tf0, z_tf1, Decidable.not_not, Classical.not_not, nI_add, nI_clamp, n_le, n_lt, n_eq, nI_or, nI_and, z_sdf, of_nI, ite_not, m_i3, m_i99, m_i7, m_i1, m_i20, m_i2, m_i8, m_i15, m_i60, c_noText, if_neg hx]
/-! mean -/
def sm64 (f : Nat → Int32) : Nat → Int64
  | 0 => 0
  | i + 1 => sm64 f i + (f i).toInt64
theorem sm64_cong {f g : Nat → Int32} : ∀ n, (∀ i, i < n → f i = g i) → sm64 f n = sm64 g n
  | 0, _ => rfl
  | n + 1, h => by
    unfold sm64
    rw [sm64_cong n (fun i hi => h i (by omega)), h n (Nat.lt_succ_self n)]
theorem nz64 : ∀ n, n < 81 → n ≠ 0 → (nI n).toInt64 ≠ 0 := by decide +kernel
theorem c_sum {h : Hp} {s n : Nat} (hs9 : s < 10) (t : there s n h) : F_Sh_sum (71 + 2 * s) h = retL (sm64 (fun j => hg h (72 + 2 * s) j) n) h := by
  have hc := cap_le s
  have := t.1
  have c1 := t.2.1
  unfold F_Sh_sum
  refine loop_for (N := n) (fun i => (71 + 2 * s, sm64 (fun j => hg h (72 + 2 * s) j) i, nI i, h)) rfl (by show _ < 4096; omega) (fun i κ hi => ?_) (fun κ => ?_)
  · simp (disch := first | assumption | omega) only [Sh_sum_4, lit_0, lit_1, lit_2, lit_3, lit_4, lit_5, lit_6, lit_7, lit_8, lit_9, lit_10, lit_11, lit_12, lit_16, lit_17, lit_20, lit_31, lit_32, lit_40, lit_47, lit_48, lit_49, lit_57, lit_58, lit_60, lit_64, lit_68, lit_80, lit_97, lit_99, lit_100, lit_101, lit_104, lit_108, lit_109, lit_115, lit_117, lit_121, lit_127, lit_128, lit_140, lit_1000, lit_1000000, lit_1048576, bI_ret, bV_ret, bL_ret, bH_t, cond_true, z_0, z_1, retZ_tf, z_tf0, z_tf1, Decidable.not_not, Classical.not_not, nI_add, nI_clamp, n_le, n_lt, n_eq, nI_or, nI_and, z_sdf, of_nI, sh_F1 hs9, sh_F0 hs9, sh_R hs9, c1, sh_A hs9 (show i < cap s by omega)]
    rw [if_neg (by omega)]
    rfl
  · simp (disch := first | assumption | omega) only [Sh_sum_4, lit_0, lit_1, lit_2, lit_3, lit_4, lit_5, lit_6, lit_7, lit_8, lit_9, lit_10, lit_11, lit_12, lit_16, lit_17, lit_20, lit_31, lit_32, lit_40, lit_47, lit_48, lit_49, lit_57, lit_58, lit_60, lit_64, lit_68, lit_80, lit_97, lit_99, lit_100, lit_101, lit_104, lit_108, lit_109, lit_115, lit_117, lit_121, lit_127, lit_128, lit_140, lit_1000, lit_1000000, lit_1048576, bI_ret, bV_ret, bL_ret, bH_t, cond_true, z_0, z_1, retZ_tf, z_tf0, z_tf1, Decidable.not_not, Classical.not_not, nI_add, nI_clamp, n_le, n_lt, n_eq, nI_or, nI_and, z_sdf, of_nI, sh_F1 hs9, c1, Nat.le_refl, if_true]
theorem m_meanLoop {g : Hp} {s n : Nat} (hs9 : s < 6) (hn : n ≤ 40) (e : hg g 180 s = nI n) : loopC Mo_mean_17 FU (nI s, (0 : Int64), nI 0, g) = if n = 0 then F_Mo_meetWith (nI 4) g else retI (nI 1) (hs g 178 2 (sm64 (fun j => hg g 181 (40 * s + j)) n / (nI n).toInt64).toInt32) := by
  refine loop_for (N := n) (fun i => (nI s, sm64 (fun j => hg g 181 (40 * s + j)) i, nI i, g)) rfl (by show _ < 4096; omega) (fun i κ hi => ?_) (fun κ => ?_)
  · simp (disch := first | assumption | omega) only [Mo_mean_17, lit_0, lit_1, lit_2, lit_3, lit_4, lit_5, lit_6, lit_7, lit_8, lit_9, lit_10, lit_11, lit_12, lit_16, lit_17, lit_20, lit_31, lit_32, lit_40, lit_47, lit_48, lit_49, lit_57, lit_58, lit_60, lit_64, lit_68, lit_80, lit_97, lit_99, lit_100, lit_101, lit_104, lit_108, lit_109, lit_115, lit_117, lit_121, lit_127, lit_128, lit_140, lit_1000, lit_1000000, lit_1048576, bI_ret, bV_ret, bL_ret, bH_t, cond_true, z_0, z_1, retZ_tf, z_tf0, z_tf1, Decidable.not_not, Classical.not_not, nI_add, nI_clamp, n_le, n_lt, n_eq, nI_or, nI_and, z_sdf, of_nI, oA_180, e, m_rowAt hs9 (show i < 40 by omega)]
    rw [if_neg (by omega)]
    rfl
  · simp (disch := first | assumption | omega) only [Mo_mean_17, F_Mo_ask, lit_0, lit_1, lit_2, lit_3, lit_4, lit_5, lit_6, lit_7, lit_8, lit_9, lit_10, lit_11, lit_12, lit_16, lit_17, lit_20, lit_31, lit_32, lit_40, lit_47, lit_48, lit_49, lit_57, lit_58, lit_60, lit_64, lit_68, lit_80, lit_97, lit_99, lit_100, lit_101, lit_104, lit_108, lit_109, lit_115, lit_117, lit_121, lit_127, lit_128, lit_140, lit_1000, lit_1000000, lit_1048576, bI_ret, bV_ret, bL_ret, bH_t, cond_true, z_0, z_1, retZ_tf, z_tf0, z_tf1, Decidable.not_not, Classical.not_not, nI_add, nI_clamp, n_le, n_lt, n_eq, nI_or, nI_and, z_sdf, of_nI, oA_180, e, meet_b]
    rw [if_pos (Nat.le_refl n)]
    by_cases z : n = 0
    · rw [if_pos z, if_pos z]
    · rw [if_neg z, if_neg z]
      exact if_neg (nz64 n (by omega) z)
theorem g_mean (x : Int32) {h : Hp} (I : Inv h) : Ok (F_Bp_mean x) (F_Mo_mean x) h := by
  by_cases hx : inR x 6
  · obtain ⟨s, hs9, rfl⟩ := inR_ex (by decide) hx
    have s10 : s < 10 := by omega
    rcases row_cases I hs9 with ⟨-, c2, c3⟩ | ⟨n, hn, c1, c2, c3, c4⟩
    · refine fin_f I (k := 1) (h1 := h) (by decide) (by decide) ?_ (frS_rf h) fun g1 hg1 => asked3 (by decide) (by decide) (m_askRow_g hs9 (by rw [hg1 180 s (by unfold scr; omega) (by unfold fpA; omega)]; exact c2))
      simp (disch := first | assumption | omega) only [F_Bp_mean, lit_0, lit_1, lit_2, lit_3, lit_4, lit_5, lit_6, lit_7, lit_8, lit_9, lit_10, lit_11, lit_12, lit_16, lit_17, lit_20, lit_31, lit_32, lit_40, lit_47, lit_48, lit_49, lit_57, lit_58, lit_60, lit_64, lit_68, lit_80, lit_97, lit_99, lit_100, lit_101, lit_104, lit_108, lit_109, lit_115, lit_117, lit_121, lit_127, lit_128, lit_140, lit_1000, lit_1000000, lit_1048576, bI_ret, bV_ret, bL_ret, bH_t, cond_true, z_0, z_1, retZ_tf, z_tf0, z_tf1, Decidable.not_not, Classical.not_not, nI_add, nI_clamp, n_le, n_lt, n_eq, nI_or, nI_and, z_sdf, of_nI, ite_not, m_i3, m_i99, m_i7, m_i1, m_i20, m_i2, m_i8, m_i15, m_i60, c_noRow, if_pos hx, oR_1, sR_1, sh_O s10, c_sheetIs_g s10 c3, found_b, if_true, not_false_iff]
      first | done | rw [if_neg id]
    · have hm : ∀ g, hg g 180 s = nI n → F_Mo_mean (nI s) g = loopC Mo_mean_17 FU (nI s, (0 : Int64), nI 0, g) := fun g e => asked0 (by decide) (m_askRow_t hs9 (by omega) e)
      by_cases z : n = 0
      · refine fin_f I (k := 4) (h1 := h) (by decide) (by decide) ?_ (frS_rf h) fun g1 hg1 => ?_
        · simp (disch := first | assumption | omega) only [F_Bp_mean, lit_0, lit_1, lit_2, lit_3, lit_4, lit_5, lit_6, lit_7, lit_8, lit_9, lit_10, lit_11, lit_12, lit_16, lit_17, lit_20, lit_31, lit_32, lit_40, lit_47, lit_48, lit_49, lit_57, lit_58, lit_60, lit_64, lit_68, lit_80, lit_97, lit_99, lit_100, lit_101, lit_104, lit_108, lit_109, lit_115, lit_117, lit_121, lit_127, lit_128, lit_140, lit_1000, lit_1000000, lit_1048576, bI_ret, bV_ret, bL_ret, bH_t, cond_true, z_0, z_1, retZ_tf, z_tf0, z_tf1, Decidable.not_not, Classical.not_not, nI_add, nI_clamp, n_le, n_lt, n_eq, nI_or, nI_and, z_sdf, of_nI, ite_not, m_i3, m_i99, m_i7, m_i1, m_i20, m_i2, m_i8, m_i15, m_i60, c_noRow, if_pos hx, oR_1, sR_1, sh_O s10, sh_F1 s10, c1, c_sheetIs_t s10 c3, found_b, if_true, if_false, not_true]
          first | exact if_pos z | (rw [if_pos z]; rfl)
        · have e1 : hg g1 180 s = nI n := by rw [hg1 180 s (by unfold scr; omega) (by unfold fpA; omega)]; exact c2
          rw [hm g1 e1, m_meanLoop hs9 hn e1, if_pos z]
      · have e1 : ∀ a, hg (hs h 0 11 a) 180 s = nI n := fun a => (hg_hs_a (by decide)).trans c2
        refine fin_t I (h1 := h) (h2 := hs h 0 11 (sm64 (fun j => hg h (72 + 2 * s) j) n / (nI n).toInt64).toInt32) (x := nI 1) (a := (sm64 (fun j => hg h (72 + 2 * s) j) n / (nI n).toInt64).toInt32) ?_ (frS_rf h) ?_ (frS_rf _)
        · simp (disch := first | assumption | omega) only [F_Bp_mean, F_Bp_tell, lit_0, lit_1, lit_2, lit_3, lit_4, lit_5, lit_6, lit_7, lit_8, lit_9, lit_10, lit_11, lit_12, lit_16, lit_17, lit_20, lit_31, lit_32, lit_40, lit_47, lit_48, lit_49, lit_57, lit_58, lit_60, lit_64, lit_68, lit_80, lit_97, lit_99, lit_100, lit_101, lit_104, lit_108, lit_109, lit_115, lit_117, lit_121, lit_127, lit_128, lit_140, lit_1000, lit_1000000, lit_1048576, bI_ret, bV_ret, bL_ret, bH_t, cond_true, z_0, z_1, retZ_tf, z_tf0, z_tf1, Decidable.not_not, Classical.not_not, nI_add, nI_clamp, n_le, n_lt, n_eq, nI_or, nI_and, z_sdf, of_nI, ite_not, m_i3, m_i99, m_i7, m_i1, m_i20, m_i2, m_i8, m_i15, m_i60, c_noRow, if_pos hx, oR_1, sR_1, sh_O s10, sh_F1 s10, c1, c_sheetIs_t s10 c3, c_sum s10 c3, found_b, if_true, if_false, not_true]
          first
            | exact (if_neg z).trans (if_neg (nz64 n (by omega) z))
            | (rw [if_neg z]; exact if_neg (nz64 n (by omega) z))
        · rw [hm _ (e1 _), m_meanLoop hs9 hn (e1 _), if_neg z, sm64_cong n (g := fun j => hg h (72 + 2 * s) j) (fun i hi => (hg_hs_a (by decide)).trans (c4 i hi).symm)]
  · refine fin_q I (h1 := h) (h2 := h) (x := -nI 1) ?_ (frS_rf h) (asked1 (m_askRow_b hx)) (frS_rf h)
    simp (disch := first | assumption | omega) only [F_Bp_mean, lit_0, lit_1, lit_2, lit_3, lit_4, lit_5, lit_6, lit_7, lit_8, lit_9, lit_10, lit_11, lit_12, lit_16, lit_17, lit_20, lit_31, lit_32, lit_40, lit_47, lit_48, lit_49, lit_57, lit_58, lit_60, lit_64, lit_68, lit_80, lit_97, lit_99, lit_100, lit_101, lit_104, lit_108, lit_109, lit_115, lit_117, lit_121, lit_127, lit_128, lit_140, lit_1000, lit_1000000, lit_1048576, bI_ret, bV_ret, bL_ret, bH_t, cond_true, z_0, z_1, retZ_tf, z_tf0, z_tf1, Decidable.not_not, Classical.not_not, nI_add, nI_clamp, n_le, n_lt, n_eq, nI_or, nI_and, z_sdf, of_nI, ite_not, m_i3, m_i99, m_i7, m_i1, m_i20, m_i2, m_i8, m_i15, m_i60, c_noRow, if_neg hx]
