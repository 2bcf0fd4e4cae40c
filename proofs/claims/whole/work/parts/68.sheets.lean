/-! SHEETS: rows and texts, on both sides -/
def fpS (s a j : Nat) : Prop := a = 71 + 2 * s ∨ a = 72 + 2 * s ∨ (s < 6 ∧ ((a = 180 ∧ j = s) ∨ (a = 181 ∧ 40 * s ≤ j ∧ j < 40 * s + 40))) ∨ (6 ≤ s ∧ ((a = 183 ∧ j + 6 = s) ∨ (a = 184 ∧ 80 * s ≤ j + 480 ∧ j + 480 < 80 * s + 80)))
def CS1 (s : Nat) (h : Hp) : Prop := gone s h ∨ ∃ n, there s n h
theorem Inv_R {h h' : Hp} (I : Inv h) {s : Nat} (hs9 : s < 10) (c : CA h') (c1 : CS1 s h') (q : ∀ a j, ¬ scr a j → ¬ fpA a j → ¬ fpS s a j → hg h' a j = hg h a j) : Inv h' := by
  obtain ⟨-, I2, v, w, r, m, k⟩ := I
  refine ⟨c, fun t ht => ?_, v, w, CLd_ag r (fun a j h1 h2 => q a j (by unfold scr; omega) (by unfold fpA; omega) (by unfold fpS; omega)) (wf_l w), MLd_ag m fun a j f => q a j (by unfold fpM at f; unfold scr; omega) (by unfold fpM at f; unfold fpA; omega) (by unfold fpM at f; unfold fpS; omega), CK_ag k fun a j z => q a j (by unfold scr; omega) (by unfold fpA; omega) (by unfold fpS; omega)⟩
  by_cases e : t = s
  · rw [e]; exact c1
  · have e1 : mSz h' t = mSz h t := by unfold mSz; split <;> exact q _ _ (by unfold scr; omega) (by unfold fpA; omega) (by unfold fpS; omega)
    have e2 : ∀ j, j < cap t → mVl h' t j = mVl h t j := fun j hj => by
      unfold cap at hj
      unfold mVl
      split
      · next z => rw [if_pos z] at hj; exact q _ _ (by unfold scr; omega) (by unfold fpA; omega) (by unfold fpS; omega)
      · next z => rw [if_neg z] at hj; exact q _ _ (by unfold scr; omega) (by unfold fpA; omega) (by unfold fpS; omega)
    have e3 : ∀ a j, a = 71 + 2 * t ∨ a = 72 + 2 * t → hg h' a j = hg h a j := fun a j z => q a j (by unfold scr; omega) (by unfold fpA; omega) (by unfold fpS; omega)
    rcases I2 t ht with c | ⟨n, c1, c2, c3, c4⟩
    · exact Or.inl ⟨(e3 _ _ (Or.inl rfl)).trans c.1, e1.trans c.2⟩
    · exact Or.inr ⟨n, c1, (e3 _ _ (Or.inl rfl)).trans c2, e1.trans c3, fun j hj => by rw [e3 _ _ (Or.inr rfl), e2 j (by omega)]; exact c4 j hj⟩
theorem CA_ag2 {h h' : Hp} {s : Nat} (I : Inv h) (q : ∀ a j, ¬ scr a j → ¬ fpS s a j → hg h' a j = hg h a j) (hs9 : s < 10) : CA h' := CA_ag I.1 fun a j z => q a j (by unfold fpA at z; unfold scr; omega) (by unfold fpA at z; unfold fpS; omega)
/-- told, and nothing else of the answers -/
theorem CA_told {h h' : Hp} {s : Nat} (I : Inv h) {a : Int32} (hs9 : s < 10) (t1 : hg h' 0 11 = a) (t2 : hg h' 178 2 = a) (q : ∀ a j, ¬ scr a j → ¬ fpS s a j → ¬ (a = 0 ∧ j = 11) → ¬ (a = 178 ∧ j = 2) → hg h' a j = hg h a j) : CA h' := by
  refine ⟨t1.trans t2.symm, ?_, fun f h1 h2 => ?_⟩
  · rw [q 0 10 (by unfold scr; omega) (by unfold fpS; omega) (by omega) (by omega), q 178 0 (by unfold scr; omega) (by unfold fpS; omega) (by omega) (by omega)]
    exact I.1.2.1
  · rw [q 70 f (by unfold scr; omega) (by unfold fpS; omega) (by omega) (by omega), q 179 f (by unfold scr; omega) (by unfold fpS; omega) (by omega) (by omega)]
    exact I.1.2.2 f h1 h2
section SHC
variable {h : Hp} {s n : Nat}
theorem c_sheetIs (hs9 : s < 10) : F_Sh_isThere (71 + 2 * s) h = retI (tf (¬ hg h (71 + 2 * s) 1 = -nI 1)) h := by
  unfold F_Sh_isThere
  rw [sh_F1 hs9, cond_true, retZ_0, retZ_1]
  by_cases q : hg h (71 + 2 * s) 1 = -nI 1
  · rw [tf_f (fun z => z q)]
    exact if_pos q
  · rw [tf_t q]
    exact if_neg q
theorem n_m1 {n : Nat} (hn : n < 2 ^ 31) : (nI n = -nI 1) = False := propext ⟨fun z => by
  have h1 := eq_toInt.mp z
  rw [nI_toInt hn] at h1
  have h2 : (-nI 1).toInt = -1 := by decide
  omega, fun z => z.elim⟩
theorem c_sheetIs_t (hs9 : s < 10) (t : there s n h) : F_Sh_isThere (71 + 2 * s) h = retI (tf True) h := by
  have hc := cap_le s
  have := t.1
  rw [c_sheetIs hs9, t.2.1, n_m1 (by omega)]
  simp only [not_false_iff]
theorem c_sheetIs_g (hs9 : s < 10) (t : gone s h) : F_Sh_isThere (71 + 2 * s) h = retI (tf False) h := by
  rw [c_sheetIs hs9, t.1]
  simp only [not_true]
theorem c_lackAt_g (hs9 : s < 10) (t : gone s h) (x : Int32) : F_Sh_lackAt (71 + 2 * s) x h = retI (nI 1) h := by
  unfold F_Sh_lackAt
  rw [sh_O hs9, cond_true, c_sheetIs_g hs9 t, bI_ret, tf_f id]
  exact if_pos rfl
theorem c_lackAt_t (hs9 : s < 10) (t : there s n h) (x : Int32) : F_Sh_lackAt (71 + 2 * s) x h = retI (if inR x n then nI 0 else nI 2) h := by
  have hc := cap_le s
  have := t.1
  unfold F_Sh_lackAt
  rw [sh_O hs9, cond_true, c_sheetIs_t hs9 t, bI_ret, tf_t trivial, sh_F1 hs9, t.2.1]
  refine Eq.trans (if_neg (by decide)) ?_
  refine Eq.trans (ite_lt (k := n) (by omega)) ?_
  by_cases q : inR x n
  · rw [if_pos q, if_pos q]; rfl
  · rw [if_neg q, if_neg q]; rfl
theorem c_renew {x : Int32} (hs9 : s < 10) (hn : n ≤ cap s) : ∃ h', F_Sh_renew (71 + 2 * s) (nI n) x h = retV h' ∧ hg h' (71 + 2 * s) 1 = nI n ∧ (∀ j, j < n → hg h' (72 + 2 * s) j = x) ∧ ∀ a j, a ≠ 71 + 2 * s → a ≠ 72 + 2 * s → hg h' a j = hg h a j := by
  have hc := cap_le s
  unfold F_Sh_renew
  rw [sh_F0 hs9, cond_true, sh_R hs9, sh_L hs9, cond_true, sh_F1 hs9, cond_true, sh_N hs9, bH_t]
  have e0 : (if (Int32.ofNat (cap s)) < nI n then Int32.ofNat (cap s) else nI n) = nI n := if_neg (by
    show ¬ nI (cap s) < nI n
    rw [nI_ltI (by omega) (by omega)]; omega)
  rw [e0]
  refine loop_inv (N := n) (R := fun o => ∃ h', o = retV h' ∧ hg h' (71 + 2 * s) 1 = nI n ∧ (∀ j, j < n → hg h' (72 + 2 * s) j = x) ∧ ∀ a j, a ≠ 71 + 2 * s → a ≠ 72 + 2 * s → hg h' a j = hg h a j) (fun i st => ∃ g, st = (71 + 2 * s, x, nI i, g) ∧ hg g (71 + 2 * s) 1 = nI n ∧ (∀ j, j < i → hg g (72 + 2 * s) j = x) ∧ ∀ a j, a ≠ 71 + 2 * s → a ≠ 72 + 2 * s → hg g a j = hg h a j) ⟨_, rfl, hg_hs_eq _ _ _ _, fun j hj => absurd hj (Nat.not_lt_zero j), fun a j h1 h2 => hg_hs_a h1⟩ (by show _ < 4096; omega) ?_ ?_
  · rintro i st hi ⟨g, rfl, p1, p2, p3⟩
    refine ⟨_, ⟨hs g (72 + 2 * s) i x, rfl, (hg_hs_a (by omega)).trans p1, fun j hj => ?_, fun a j h1 h2 => (hg_hs_a h2).trans (p3 a j h1 h2)⟩, fun κ => ?_⟩
    · by_cases e : j = i
      · rw [e, hg_hs_eq]
      · rw [hg_hs_k e]; exact p2 j (by omega)
    · simp (disch := first | assumption | omega) only [Sh_renew_15, lit_0, lit_1, lit_2, lit_3, lit_4, lit_5, lit_6, lit_7, lit_8, lit_9, lit_10, lit_11, lit_12, lit_16, lit_17, lit_20, lit_31, lit_32, lit_40, lit_47, lit_48, lit_49, lit_57, lit_58, lit_60, lit_64, lit_68, lit_80, lit_97, lit_99, lit_100, lit_101, lit_104, lit_108, lit_109, lit_115, lit_117, lit_121, lit_127, lit_128, lit_140, lit_1000, lit_1000000, lit_1048576, bI_ret, bV_ret, bL_ret, bH_t, cond_true, z_0, z_1, retZ_tf, z_tf0, z_tf1, Decidable.not_not, Classical.not_not, nI_add, nI_clamp, n_le, n_lt, n_eq, nI_or, nI_and, z_sdf, of_nI, sh_F1 hs9, sh_F0 hs9, sh_R hs9, p1, sh_A hs9 (show i < cap s by omega)]
      rw [if_neg (by omega)]
  · rintro st ⟨g, rfl, p1, p2, p3⟩ κ
    refine ⟨g, ?_, p1, p2, p3⟩
    simp (disch := first | assumption | omega) only [Sh_renew_15, lit_0, lit_1, lit_2, lit_3, lit_4, lit_5, lit_6, lit_7, lit_8, lit_9, lit_10, lit_11, lit_12, lit_16, lit_17, lit_20, lit_31, lit_32, lit_40, lit_47, lit_48, lit_49, lit_57, lit_58, lit_60, lit_64, lit_68, lit_80, lit_97, lit_99, lit_100, lit_101, lit_104, lit_108, lit_109, lit_115, lit_117, lit_121, lit_127, lit_128, lit_140, lit_1000, lit_1000000, lit_1048576, bI_ret, bV_ret, bL_ret, bH_t, cond_true, z_0, z_1, retZ_tf, z_tf0, z_tf1, Decidable.not_not, Classical.not_not, nI_add, nI_clamp, n_le, n_lt, n_eq, nI_or, nI_and, z_sdf, of_nI, sh_F1 hs9, p1, Nat.le_refl, if_true]
end SHC
section SHM
variable {h : Hp} {s n : Nat}
theorem oA_181' {s j : Nat} (h1 : s < 6) (h2 : j < 40) : okA 181 100 (nI (40 * s + j)) = true := okA_t 240 (by decide +kernel) (by decide +kernel) (by omega) (by decide)
theorem oA_184' {s j : Nat} (h1 : s < 4) (h2 : j < 80) : okA 184 100 (nI (80 * s + j)) = true := okA_t 320 (by decide +kernel) (by decide +kernel) (by omega) (by decide)
theorem m_setRow {x : Int32} {j : Nat} (h1 : s < 6) (h2 : j < 40) : F_Mo_setRow (nI s) (nI j) x h = retV (hs h 181 (40 * s + j) x) := by
  unfold F_Mo_setRow
  simp (disch := first | assumption | omega) only [lit_0, lit_1, lit_2, lit_3, lit_4, lit_5, lit_6, lit_7, lit_8, lit_9, lit_10, lit_11, lit_12, lit_16, lit_17, lit_20, lit_31, lit_32, lit_40, lit_47, lit_48, lit_49, lit_57, lit_58, lit_60, lit_64, lit_68, lit_80, lit_97, lit_99, lit_100, lit_101, lit_104, lit_108, lit_109, lit_115, lit_117, lit_121, lit_127, lit_128, lit_140, lit_1000, lit_1000000, lit_1048576, bI_ret, bV_ret, bL_ret, bH_t, cond_true, z_0, z_1, retZ_tf, z_tf0, z_tf1, Decidable.not_not, Classical.not_not, nI_add, nI_clamp, n_le, n_lt, n_eq, nI_or, nI_and, z_sdf, of_nI, nI_mul, oA_181' h1 h2]
theorem m_rowAt {j : Nat} (h1 : s < 6) (h2 : j < 40) : F_Mo_rowAt (nI s) (nI j) h = retI (hg h 181 (40 * s + j)) h := by
  unfold F_Mo_rowAt
  simp (disch := first | assumption | omega) only [lit_0, lit_1, lit_2, lit_3, lit_4, lit_5, lit_6, lit_7, lit_8, lit_9, lit_10, lit_11, lit_12, lit_16, lit_17, lit_20, lit_31, lit_32, lit_40, lit_47, lit_48, lit_49, lit_57, lit_58, lit_60, lit_64, lit_68, lit_80, lit_97, lit_99, lit_100, lit_101, lit_104, lit_108, lit_109, lit_115, lit_117, lit_121, lit_127, lit_128, lit_140, lit_1000, lit_1000000, lit_1048576, bI_ret, bV_ret, bL_ret, bH_t, cond_true, z_0, z_1, retZ_tf, z_tf0, z_tf1, Decidable.not_not, Classical.not_not, nI_add, nI_clamp, n_le, n_lt, n_eq, nI_or, nI_and, z_sdf, of_nI, nI_mul, oA_181' h1 h2]
theorem m_rowNew (h1 : s < 6) (hn : n ≤ 40) : ∃ h', F_Mo_row (nI s) (nI n) h = retI (nI n) h' ∧ hg h' 180 s = nI n ∧ (∀ j, j < 40 → hg h' 181 (40 * s + j) = nI 0) ∧ ∀ a j, ¬ (a = 180 ∧ j = s) → ¬ (a = 181 ∧ 40 * s ≤ j ∧ j < 40 * s + 40) → hg h' a j = hg h a j := by
  unfold F_Mo_row
  simp (disch := first | assumption | omega) only [lit_0, lit_1, lit_2, lit_3, lit_4, lit_5, lit_6, lit_7, lit_8, lit_9, lit_10, lit_11, lit_12, lit_16, lit_17, lit_20, lit_31, lit_32, lit_40, lit_47, lit_48, lit_49, lit_57, lit_58, lit_60, lit_64, lit_68, lit_80, lit_97, lit_99, lit_100, lit_101, lit_104, lit_108, lit_109, lit_115, lit_117, lit_121, lit_127, lit_128, lit_140, lit_1000, lit_1000000, lit_1048576, bI_ret, bV_ret, bL_ret, bH_t, cond_true, z_0, z_1, retZ_tf, z_tf0, z_tf1, Decidable.not_not, Classical.not_not, nI_add, nI_clamp, n_le, n_lt, n_eq, nI_or, nI_and, z_sdf, of_nI, m_isRow, inR_nI, oA_180, ite_not]
  rw [if_pos h1, if_pos hn, if_pos (Nat.zero_le _)]
  refine loop_inv (N := 40) (R := fun o => ∃ h', o = retI (nI n) h' ∧ hg h' 180 s = nI n ∧ (∀ j, j < 40 → hg h' 181 (40 * s + j) = nI 0) ∧ ∀ a j, ¬ (a = 180 ∧ j = s) → ¬ (a = 181 ∧ 40 * s ≤ j ∧ j < 40 * s + 40) → hg h' a j = hg h a j) (fun i st => ∃ g, st = (nI s, nI n, nI i, g) ∧ hg g 180 s = nI n ∧ (∀ j, j < i → hg g 181 (40 * s + j) = nI 0) ∧ ∀ a j, ¬ (a = 180 ∧ j = s) → ¬ (a = 181 ∧ 40 * s ≤ j ∧ j < 40 * s + 40) → hg g a j = hg h a j) ⟨_, rfl, hg_hs_eq _ _ _ _, fun j hj => absurd hj (Nat.not_lt_zero j), fun a j h1 h2 => by rw [hg_hs2, if_neg h1]⟩ (by show _ < 4096; omega) ?_ ?_
  · rintro i st hi ⟨g, rfl, p1, p2, p3⟩
    refine ⟨_, ⟨hs g 181 (40 * s + i) (nI 0), rfl, (hg_hs_a (by decide)).trans p1, fun j hj => ?_, fun a j h1 h2 => by rw [hg_hs2, if_neg (by omega)]; exact p3 a j h1 h2⟩, fun κ => ?_⟩
    · by_cases e : j = i
      · rw [e, hg_hs_eq]
      · rw [hg_hs_k (by omega)]; exact p2 j (by omega)
    · simp (disch := first | assumption | omega) only [Mo_row_34, lit_0, lit_1, lit_2, lit_3, lit_4, lit_5, lit_6, lit_7, lit_8, lit_9, lit_10, lit_11, lit_12, lit_16, lit_17, lit_20, lit_31, lit_32, lit_40, lit_47, lit_48, lit_49, lit_57, lit_58, lit_60, lit_64, lit_68, lit_80, lit_97, lit_99, lit_100, lit_101, lit_104, lit_108, lit_109, lit_115, lit_117, lit_121, lit_127, lit_128, lit_140, lit_1000, lit_1000000, lit_1048576, bI_ret, bV_ret, bL_ret, bH_t, cond_true, z_0, z_1, retZ_tf, z_tf0, z_tf1, Decidable.not_not, Classical.not_not, nI_add, nI_clamp, n_le, n_lt, n_eq, nI_or, nI_and, z_sdf, of_nI, m_setRow h1 hi]
      rw [if_neg (by omega)]
  · rintro st ⟨g, rfl, p1, p2, p3⟩ κ
    refine ⟨g, ?_, p1, p2, p3⟩
    simp (disch := first | assumption | omega) only [Mo_row_34, lit_0, lit_1, lit_2, lit_3, lit_4, lit_5, lit_6, lit_7, lit_8, lit_9, lit_10, lit_11, lit_12, lit_16, lit_17, lit_20, lit_31, lit_32, lit_40, lit_47, lit_48, lit_49, lit_57, lit_58, lit_60, lit_64, lit_68, lit_80, lit_97, lit_99, lit_100, lit_101, lit_104, lit_108, lit_109, lit_115, lit_117, lit_121, lit_127, lit_128, lit_140, lit_1000, lit_1000000, lit_1048576, bI_ret, bV_ret, bL_ret, bH_t, cond_true, z_0, z_1, retZ_tf, z_tf0, z_tf1, Decidable.not_not, Classical.not_not, nI_add, nI_clamp, n_le, n_lt, n_eq, nI_or, nI_and, z_sdf, of_nI, Nat.le_refl, if_true]
theorem m_textNew (h1 : s < 4) (hn : n ≤ 80) : ∃ h', F_Mo_text (nI s) (nI n) h = retI (nI n) h' ∧ hg h' 183 s = nI n ∧ (∀ j, j < 80 → hg h' 184 (80 * s + j) = nI 32) ∧ ∀ a j, ¬ (a = 183 ∧ j = s) → ¬ (a = 184 ∧ 80 * s ≤ j ∧ j < 80 * s + 80) → hg h' a j = hg h a j := by
  unfold F_Mo_text
  simp (disch := first | assumption | omega) only [lit_0, lit_1, lit_2, lit_3, lit_4, lit_5, lit_6, lit_7, lit_8, lit_9, lit_10, lit_11, lit_12, lit_16, lit_17, lit_20, lit_31, lit_32, lit_40, lit_47, lit_48, lit_49, lit_57, lit_58, lit_60, lit_64, lit_68, lit_80, lit_97, lit_99, lit_100, lit_101, lit_104, lit_108, lit_109, lit_115, lit_117, lit_121, lit_127, lit_128, lit_140, lit_1000, lit_1000000, lit_1048576, bI_ret, bV_ret, bL_ret, bH_t, cond_true, z_0, z_1, retZ_tf, z_tf0, z_tf1, Decidable.not_not, Classical.not_not, nI_add, nI_clamp, n_le, n_lt, n_eq, nI_or, nI_and, z_sdf, of_nI, m_isText, inR_nI, oA_183, ite_not]
  rw [if_pos h1, if_pos hn, if_pos (Nat.zero_le _)]
  refine loop_inv (N := 80) (R := fun o => ∃ h', o = retI (nI n) h' ∧ hg h' 183 s = nI n ∧ (∀ j, j < 80 → hg h' 184 (80 * s + j) = nI 32) ∧ ∀ a j, ¬ (a = 183 ∧ j = s) → ¬ (a = 184 ∧ 80 * s ≤ j ∧ j < 80 * s + 80) → hg h' a j = hg h a j) (fun i st => ∃ g, st = (nI s, nI n, nI i, g) ∧ hg g 183 s = nI n ∧ (∀ j, j < i → hg g 184 (80 * s + j) = nI 32) ∧ ∀ a j, ¬ (a = 183 ∧ j = s) → ¬ (a = 184 ∧ 80 * s ≤ j ∧ j < 80 * s + 80) → hg g a j = hg h a j) ⟨_, rfl, hg_hs_eq _ _ _ _, fun j hj => absurd hj (Nat.not_lt_zero j), fun a j h1 h2 => by rw [hg_hs2, if_neg h1]⟩ (by show _ < 4096; omega) ?_ ?_
  · rintro i st hi ⟨g, rfl, p1, p2, p3⟩
    refine ⟨_, ⟨hs g 184 (80 * s + i) (nI 32), rfl, (hg_hs_a (by decide)).trans p1, fun j hj => ?_, fun a j h1 h2 => by rw [hg_hs2, if_neg (by omega)]; exact p3 a j h1 h2⟩, fun κ => ?_⟩
    · by_cases e : j = i
      · rw [e, hg_hs_eq]
      · rw [hg_hs_k (by omega)]; exact p2 j (by omega)
    · simp (disch := first | assumption | omega) only [Mo_text_34, lit_0, lit_1, lit_2, lit_3, lit_4, lit_5, lit_6, lit_7, lit_8, lit_9, lit_10, lit_11, lit_12, lit_16, lit_17, lit_20, lit_31, lit_32, lit_40, lit_47, lit_48, lit_49, lit_57, lit_58, lit_60, lit_64, lit_68, lit_80, lit_97, lit_99, lit_100, lit_101, lit_104, lit_108, lit_109, lit_115, lit_117, lit_121, lit_127, lit_128, lit_140, lit_1000, lit_1000000, lit_1048576, bI_ret, bV_ret, bL_ret, bH_t, cond_true, z_0, z_1, retZ_tf, z_tf0, z_tf1, Decidable.not_not, Classical.not_not, nI_add, nI_clamp, n_le, n_lt, n_eq, nI_or, nI_and, z_sdf, of_nI, nI_mul, oA_184' h1 hi]
      rw [if_neg (by omega)]
  · rintro st ⟨g, rfl, p1, p2, p3⟩ κ
    refine ⟨g, ?_, p1, p2, p3⟩
    simp (disch := first | assumption | omega) only [Mo_text_34, lit_0, lit_1, lit_2, lit_3, lit_4, lit_5, lit_6, lit_7, lit_8, lit_9, lit_10, lit_11, lit_12, lit_16, lit_17, lit_20, lit_31, lit_32, lit_40, lit_47, lit_48, lit_49, lit_57, lit_58, lit_60, lit_64, lit_68, lit_80, lit_97, lit_99, lit_100, lit_101, lit_104, lit_108, lit_109, lit_115, lit_117, lit_121, lit_127, lit_128, lit_140, lit_1000, lit_1000000, lit_1048576, bI_ret, bV_ret, bL_ret, bH_t, cond_true, z_0, z_1, retZ_tf, z_tf0, z_tf1, Decidable.not_not, Classical.not_not, nI_add, nI_clamp, n_le, n_lt, n_eq, nI_or, nI_and, z_sdf, of_nI, Nat.le_refl, if_true]
end SHM
/-! row, text -/
theorem m_meetW5 (h : Hp) : F_Mo_meetWith (nI 5) h = retI (-nI 3) (hs (hs h 178 0 (nI 5)) 179 5 (hg h 179 5 + nI 1)) := m_meetWith (by decide) (by decide) h
theorem ret_b (r : Res Hp) (e : ∃ x g, r = retI x g) : (bI r fun v h => retI v h) = r := by
  obtain ⟨x, g, rfl⟩ := e
  exact bI_ret _ _ _
theorem found_b {k : Nat} (h1 : 1 ≤ k) (h5 : k ≤ 5) (h : Hp) : (bI (F_Bp_found (nI k) h) fun v h => retI v h) = F_Bp_found (nI k) h := ret_b _ ⟨_, _, c_found h1 h5 h⟩
theorem meet_b {k : Nat} (h1 : 1 ≤ k) (h5 : k ≤ 5) (h : Hp) : (bI (F_Mo_meetWith (nI k) h) fun v h => retI v h) = F_Mo_meetWith (nI k) h := ret_b _ ⟨_, _, m_meetWith h1 h5 h⟩
theorem n_split {x : Int32} {k : Nat} (hk : k < 2 ^ 31) : (x ≤ nI k) = False ∨ ((x ≤ nI k) = True ∧ (nI 0 ≤ x) = False) ∨ ∃ a, a ≤ k ∧ x = nI a := by
  have q1 : (nI 0 ≤ x) ↔ 0 ≤ x.toInt := le_toInt
  have q2 : (x ≤ nI k) ↔ x.toInt ≤ (k : Int) := by rw [le_toInt, nI_toInt hk]
  by_cases c : x ≤ nI k
  · by_cases d : nI 0 ≤ x
    · obtain ⟨a, h1, h2⟩ := inR_ex (x := x) (n := k + 1) (by omega) (inR_iff.mpr (by rw [q1] at d; rw [q2] at c; omega))
      exact Or.inr (Or.inr ⟨a, by omega, h2⟩)
    · exact Or.inr (Or.inl ⟨propext ⟨fun _ => trivial, fun _ => c⟩, propext ⟨d, fun z => z.elim⟩⟩)
  · exact Or.inl (propext ⟨c, fun z => z.elim⟩)
theorem g_row (x y : Int32) {h : Hp} (I : Inv h) : Ok (F_Bp_row x y) (F_Mo_row x y) h := by
  by_cases hx : inR x 6
  · obtain ⟨s, hs9, rfl⟩ := inR_ex (by decide) hx
    rcases n_split (x := y) (k := 40) (by decide) with q | ⟨q1, q2⟩ | ⟨n, hn, rfl⟩
    · refine fin_q I (h1 := h) (h2 := h) (x := -nI 1) ?_ (frS_rf h) ?_ (frS_rf h)
      · simp (disch := first | assumption | omega) only [F_Bp_row, lit_0, lit_1, lit_2, lit_3, lit_4, lit_5, lit_6, lit_7, lit_8, lit_9, lit_10, lit_11, lit_12, lit_16, lit_17, lit_20, lit_31, lit_32, lit_40, lit_47, lit_48, lit_49, lit_57, lit_58, lit_60, lit_64, lit_68, lit_80, lit_97, lit_99, lit_100, lit_101, lit_104, lit_108, lit_109, lit_115, lit_117, lit_121, lit_127, lit_128, lit_140, lit_1000, lit_1000000, lit_1048576, bI_ret, bV_ret, bL_ret, bH_t, cond_true, z_0, z_1, retZ_tf, z_tf0, z_tf1, Decidable.not_not, Classical.not_not, nI_add, nI_clamp, n_le, n_lt, n_eq, nI_or, nI_and, z_sdf, of_nI, ite_not, m_i3, m_i99, m_i7, m_i1, m_i20, m_i2, m_i8, m_i15, m_i60, c_noRow, if_pos hx, q, if_false]
      · simp (disch := first | assumption | omega) only [F_Mo_row, lit_0, lit_1, lit_2, lit_3, lit_4, lit_5, lit_6, lit_7, lit_8, lit_9, lit_10, lit_11, lit_12, lit_16, lit_17, lit_20, lit_31, lit_32, lit_40, lit_47, lit_48, lit_49, lit_57, lit_58, lit_60, lit_64, lit_68, lit_80, lit_97, lit_99, lit_100, lit_101, lit_104, lit_108, lit_109, lit_115, lit_117, lit_121, lit_127, lit_128, lit_140, lit_1000, lit_1000000, lit_1048576, bI_ret, bV_ret, bL_ret, bH_t, cond_true, z_0, z_1, retZ_tf, z_tf0, z_tf1, Decidable.not_not, Classical.not_not, nI_add, nI_clamp, n_le, n_lt, n_eq, nI_or, nI_and, z_sdf, of_nI, ite_not, m_i3, m_i99, m_i7, m_i1, m_i20, m_i2, m_i8, m_i15, m_i60, m_isRow, if_pos hx, q, if_false]
    · refine fin_f I (k := 5) (h1 := h) (by decide) (by decide) ?_ (frS_rf h) fun g1 hg1 => ?_
      · simp (disch := first | assumption | omega) only [F_Bp_row, lit_0, lit_1, lit_2, lit_3, lit_4, lit_5, lit_6, lit_7, lit_8, lit_9, lit_10, lit_11, lit_12, lit_16, lit_17, lit_20, lit_31, lit_32, lit_40, lit_47, lit_48, lit_49, lit_57, lit_58, lit_60, lit_64, lit_68, lit_80, lit_97, lit_99, lit_100, lit_101, lit_104, lit_108, lit_109, lit_115, lit_117, lit_121, lit_127, lit_128, lit_140, lit_1000, lit_1000000, lit_1048576, bI_ret, bV_ret, bL_ret, bH_t, cond_true, z_0, z_1, retZ_tf, z_tf0, z_tf1, Decidable.not_not, Classical.not_not, nI_add, nI_clamp, n_le, n_lt, n_eq, nI_or, nI_and, z_sdf, of_nI, ite_not, m_i3, m_i99, m_i7, m_i1, m_i20, m_i2, m_i8, m_i15, m_i60, c_noRow, if_pos hx, q1, q2, if_true, if_false, found_b]
      · simp (disch := first | assumption | omega) only [F_Mo_row, lit_0, lit_1, lit_2, lit_3, lit_4, lit_5, lit_6, lit_7, lit_8, lit_9, lit_10, lit_11, lit_12, lit_16, lit_17, lit_20, lit_31, lit_32, lit_40, lit_47, lit_48, lit_49, lit_57, lit_58, lit_60, lit_64, lit_68, lit_80, lit_97, lit_99, lit_100, lit_101, lit_104, lit_108, lit_109, lit_115, lit_117, lit_121, lit_127, lit_128, lit_140, lit_1000, lit_1000000, lit_1048576, bI_ret, bV_ret, bL_ret, bH_t, cond_true, z_0, z_1, retZ_tf, z_tf0, z_tf1, Decidable.not_not, Classical.not_not, nI_add, nI_clamp, n_le, n_lt, n_eq, nI_or, nI_and, z_sdf, of_nI, ite_not, m_i3, m_i99, m_i7, m_i1, m_i20, m_i2, m_i8, m_i15, m_i60, m_isRow, if_pos hx, q1, q2, if_true, if_false, meet_b]
    · have hc : cap s = 40 := if_pos hs9
      obtain ⟨h1, c1, c2, c3, c4⟩ := c_renew (h := h) (s := s) (n := n) (x := nI 0) (by omega) (by omega)
      obtain ⟨h2, d1, d2, d3, d4⟩ := m_rowNew (h := h1) (s := s) (n := n) hs9 hn
      have fr : ∀ a j, ¬ scr a j → ¬ fpS s a j → hg h2 a j = hg h a j := fun a j n1 n2 => by
        rw [d4 a j (fun z => n2 (by unfold fpS; omega)) (fun z => n2 (by unfold fpS; omega)), c4 a j (fun z => n2 (by unfold fpS; omega)) (fun z => n2 (by unfold fpS; omega))]
      refine ⟨_, h1, h2, ?_, d1, Inv_R I (s := s) (by omega) (CA_ag2 I fr (by omega)) (Or.inr ⟨n, by omega, ?_, ?_, fun j hj => ?_⟩) fun a j n1 n2 n3 => fr a j n1 n3⟩
      · simp (disch := first | assumption | omega) only [F_Bp_row, lit_0, lit_1, lit_2, lit_3, lit_4, lit_5, lit_6, lit_7, lit_8, lit_9, lit_10, lit_11, lit_12, lit_16, lit_17, lit_20, lit_31, lit_32, lit_40, lit_47, lit_48, lit_49, lit_57, lit_58, lit_60, lit_64, lit_68, lit_80, lit_97, lit_99, lit_100, lit_101, lit_104, lit_108, lit_109, lit_115, lit_117, lit_121, lit_127, lit_128, lit_140, lit_1000, lit_1000000, lit_1048576, bI_ret, bV_ret, bL_ret, bH_t, cond_true, z_0, z_1, retZ_tf, z_tf0, z_tf1, Decidable.not_not, Classical.not_not, nI_add, nI_clamp, n_le, n_lt, n_eq, nI_or, nI_and, z_sdf, of_nI, ite_not, m_i3, m_i99, m_i7, m_i1, m_i20, m_i2, m_i8, m_i15, m_i60, c_noRow, if_pos hx, oR_1, sR_1, sh_O (show s < 10 by omega), c1]
        rw [if_pos hn, if_pos (Nat.zero_le _)]
        rfl
      · rw [d4 _ _ (by omega) (by omega)]; exact c2
      · unfold mSz; rw [if_pos hs9]; exact d2
      · unfold mVl
        rw [if_pos hs9, d3 j (by omega), d4 _ _ (by omega) (by omega)]
        exact c3 j hj
  · refine fin_q I (h1 := h) (h2 := h) (x := -nI 1) ?_ (frS_rf h) ?_ (frS_rf h)
    · simp (disch := first | assumption | omega) only [F_Bp_row, lit_0, lit_1, lit_2, lit_3, lit_4, lit_5, lit_6, lit_7, lit_8, lit_9, lit_10, lit_11, lit_12, lit_16, lit_17, lit_20, lit_31, lit_32, lit_40, lit_47, lit_48, lit_49, lit_57, lit_58, lit_60, lit_64, lit_68, lit_80, lit_97, lit_99, lit_100, lit_101, lit_104, lit_108, lit_109, lit_115, lit_117, lit_121, lit_127, lit_128, lit_140, lit_1000, lit_1000000, lit_1048576, bI_ret, bV_ret, bL_ret, bH_t, cond_true, z_0, z_1, retZ_tf, z_tf0, z_tf1, Decidable.not_not, Classical.not_not, nI_add, nI_clamp, n_le, n_lt, n_eq, nI_or, nI_and, z_sdf, of_nI, ite_not, m_i3, m_i99, m_i7, m_i1, m_i20, m_i2, m_i8, m_i15, m_i60, c_noRow, if_neg hx]
    · simp (disch := first | assumption | omega) only [F_Mo_row, lit_0, lit_1, lit_2, lit_3, lit_4, lit_5, lit_6, lit_7, lit_8, lit_9, lit_10, lit_11, lit_12, lit_16, lit_17, lit_20, lit_31, lit_32, lit_40, lit_47, lit_48, lit_49, lit_57, lit_58, lit_60, lit_64, lit_68, lit_80, lit_97, lit_99, lit_100, lit_101, lit_104, lit_108, lit_109, lit_115, lit_117, lit_121, lit_127, lit_128, lit_140, lit_1000, lit_1000000, lit_1048576, bI_ret, bV_ret, bL_ret, bH_t, cond_true, z_0, z_1, retZ_tf, z_tf0, z_tf1, Decidable.not_not, Classical.not_not, nI_add, nI_clamp, n_le, n_lt, n_eq, nI_or, nI_and, z_sdf, of_nI, ite_not, m_i3, m_i99, m_i7, m_i1, m_i20, m_i2, m_i8, m_i15, m_i60, m_isRow, if_neg hx]
theorem g_text (x y : Int32) {h : Hp} (I : Inv h) : Ok (F_Bp_text x y) (F_Mo_text x y) h := by
  by_cases hx : inR x 4
  · obtain ⟨s, hs9, rfl⟩ := inR_ex (by decide) hx
    rcases n_split (x := y) (k := 80) (by decide) with q | ⟨q1, q2⟩ | ⟨n, hn, rfl⟩
    · refine fin_q I (h1 := h) (h2 := h) (x := -nI 1) ?_ (frS_rf h) ?_ (frS_rf h)
      · simp (disch := first | assumption | omega) only [F_Bp_text, lit_0, lit_1, lit_2, lit_3, lit_4, lit_5, lit_6, lit_7, lit_8, lit_9, lit_10, lit_11, lit_12, lit_16, lit_17, lit_20, lit_31, lit_32, lit_40, lit_47, lit_48, lit_49, lit_57, lit_58, lit_60, lit_64, lit_68, lit_80, lit_97, lit_99, lit_100, lit_101, lit_104, lit_108, lit_109, lit_115, lit_117, lit_121, lit_127, lit_128, lit_140, lit_1000, lit_1000000, lit_1048576, bI_ret, bV_ret, bL_ret, bH_t, cond_true, z_0, z_1, retZ_tf, z_tf0, z_tf1, Decidable.not_not, Classical.not_not, nI_add, nI_clamp, n_le, n_lt, n_eq, nI_or, nI_and, z_sdf, of_nI, ite_not, m_i3, m_i99, m_i7, m_i1, m_i20, m_i2, m_i8, m_i15, m_i60, c_noText, if_pos hx, q, if_false]
      · simp (disch := first | assumption | omega) only [F_Mo_text, lit_0, lit_1, lit_2, lit_3, lit_4, lit_5, lit_6, lit_7, lit_8, lit_9, lit_10, lit_11, lit_12, lit_16, lit_17, lit_20, lit_31, lit_32, lit_40, lit_47, lit_48, lit_49, lit_57, lit_58, lit_60, lit_64, lit_68, lit_80, lit_97, lit_99, lit_100, lit_101, lit_104, lit_108, lit_109, lit_115, lit_117, lit_121, lit_127, lit_128, lit_140, lit_1000, lit_1000000, lit_1048576, bI_ret, bV_ret, bL_ret, bH_t, cond_true, z_0, z_1, retZ_tf, z_tf0, z_tf1, Decidable.not_not, Classical.not_not, nI_add, nI_clamp, n_le, n_lt, n_eq, nI_or, nI_and, z_sdf, of_nI, ite_not, m_i3, m_i99, m_i7, m_i1, m_i20, m_i2, m_i8, m_i15, m_i60, m_isText, if_pos hx, q, if_false]
    · refine fin_f I (k := 5) (h1 := h) (by decide) (by decide) ?_ (frS_rf h) fun g1 hg1 => ?_
      · simp (disch := first | assumption | omega) only [F_Bp_text, lit_0, lit_1, lit_2, lit_3, lit_4, lit_5, lit_6, lit_7, lit_8, lit_9, lit_10, lit_11, lit_12, lit_16, lit_17, lit_20, lit_31, lit_32, lit_40, lit_47, lit_48, lit_49, lit_57, lit_58, lit_60, lit_64, lit_68, lit_80, lit_97, lit_99, lit_100, lit_101, lit_104, lit_108, lit_109, lit_115, lit_117, lit_121, lit_127, lit_128, lit_140, lit_1000, lit_1000000, lit_1048576, bI_ret, bV_ret, bL_ret, bH_t, cond_true, z_0, z_1, retZ_tf, z_tf0, z_tf1, Decidable.not_not, Classical.not_not, nI_add, nI_clamp, n_le, n_lt, n_eq, nI_or, nI_and, z_sdf, of_nI, ite_not, m_i3, m_i99, m_i7, m_i1, m_i20, m_i2, m_i8, m_i15, m_i60, c_noText, if_pos hx, q1, q2, if_true, if_false, found_b]
      · simp (disch := first | assumption | omega) only [F_Mo_text, lit_0, lit_1, lit_2, lit_3, lit_4, lit_5, lit_6, lit_7, lit_8, lit_9, lit_10, lit_11, lit_12, lit_16, lit_17, lit_20, lit_31, lit_32, lit_40, lit_47, lit_48, lit_49, lit_57, lit_58, lit_60, lit_64, lit_68, lit_80, lit_97, lit_99, lit_100, lit_101, lit_104, lit_108, lit_109, lit_115, lit_117, lit_121, lit_127, lit_128, lit_140, lit_1000, lit_1000000, lit_1048576, bI_ret, bV_ret, bL_ret, bH_t, cond_true, z_0, z_1, retZ_tf, z_tf0, z_tf1, Decidable.not_not, Classical.not_not, nI_add, nI_clamp, n_le, n_lt, n_eq, nI_or, nI_and, z_sdf, of_nI, ite_not, m_i3, m_i99, m_i7, m_i1, m_i20, m_i2, m_i8, m_i15, m_i60, m_isText, if_pos hx, q1, q2, if_true, if_false, meet_b]
    · have hc : cap (6 + s) = 80 := if_neg (by omega)
      obtain ⟨h1, c1, c2, c3, c4⟩ := c_renew (h := h) (s := 6 + s) (n := n) (x := nI 32) (by omega) (by omega)
      obtain ⟨h2, d1, d2, d3, d4⟩ := m_textNew (h := h1) (s := s) (n := n) hs9 hn
      have fr : ∀ a j, ¬ scr a j → ¬ fpS (6 + s) a j → hg h2 a j = hg h a j := fun a j n1 n2 => by
        rw [d4 a j (fun z => n2 (by unfold fpS; omega)) (fun z => n2 (by unfold fpS; omega)), c4 a j (fun z => n2 (by unfold fpS; omega)) (fun z => n2 (by unfold fpS; omega))]
      refine ⟨_, h1, h2, ?_, d1, Inv_R I (s := 6 + s) (by omega) (CA_ag2 I fr (by omega)) (Or.inr ⟨n, by omega, ?_, ?_, fun j hj => ?_⟩) fun a j n1 n2 n3 => fr a j n1 n3⟩
      · simp (disch := first | assumption | omega) only [F_Bp_text, lit_0, lit_1, lit_2, lit_3, lit_4, lit_5, lit_6, lit_7, lit_8, lit_9, lit_10, lit_11, lit_12, lit_16, lit_17, lit_20, lit_31, lit_32, lit_40, lit_47, lit_48, lit_49, lit_57, lit_58, lit_60, lit_64, lit_68, lit_80, lit_97, lit_99, lit_100, lit_101, lit_104, lit_108, lit_109, lit_115, lit_117, lit_121, lit_127, lit_128, lit_140, lit_1000, lit_1000000, lit_1048576, bI_ret, bV_ret, bL_ret, bH_t, cond_true, z_0, z_1, retZ_tf, z_tf0, z_tf1, Decidable.not_not, Classical.not_not, nI_add, nI_clamp, n_le, n_lt, n_eq, nI_or, nI_and, z_sdf, of_nI, ite_not, m_i3, m_i99, m_i7, m_i1, m_i20, m_i2, m_i8, m_i15, m_i60, c_noText, if_pos hx, oR_2, sR_2, sh_t, sh_O (show 6 + s < 10 by omega), c1]
        rw [if_pos hn, if_pos (Nat.zero_le _)]
        rfl
      · rw [d4 _ _ (by omega) (by omega)]; exact c2
      · unfold mSz; rw [if_neg (by omega), Nat.add_sub_cancel_left]; exact d2
      · unfold mVl
        rw [if_neg (by omega), Nat.add_sub_cancel_left, d3 j (by omega), d4 _ _ (by omega) (by omega)]
        exact c3 j hj
  · refine fin_q I (h1 := h) (h2 := h) (x := -nI 1) ?_ (frS_rf h) ?_ (frS_rf h)
    · simp (disch := first | assumption | omega) only [F_Bp_text, lit_0, lit_1, lit_2, lit_3, lit_4, lit_5, lit_6, lit_7, lit_8, lit_9, lit_10, lit_11, lit_12, lit_16, lit_17, lit_20, lit_31, lit_32, lit_40, lit_47, lit_48, lit_49, lit_57, lit_58, lit_60, lit_64, lit_68, lit_80, lit_97, lit_99, lit_100, lit_101, lit_104, lit_108, lit_109, lit_115, lit_117, lit_121, lit_127, lit_128, lit_140, lit_1000, lit_1000000, lit_1048576, bI_ret, bV_ret, bL_ret, bH_t, cond_true, z_0, z_1, retZ_tf, z_tf0, z_tf1, Decidable.not_not, Classical.not_not, nI_add, nI_clamp, n_le, n_lt, n_eq, nI_or, nI_and, z_sdf, of_nI, ite_not, m_i3, m_i99, m_i7, m_i1, m_i20, m_i2, m_i8, m_i15, m_i60, c_noText, if_neg hx]
    · simp (disch := first | assumption | omega) only [F_Mo_text, lit_0, lit_1, lit_2, lit_3, lit_4, lit_5, lit_6, lit_7, lit_8, lit_9, lit_10, lit_11, lit_12, lit_16, lit_17, lit_20, lit_31, lit_32, lit_40, lit_47, lit_48, lit_49, lit_57, lit_58, lit_60, lit_64, lit_68, lit_80, lit_97, lit_99, lit_100, lit_101, lit_104, lit_108, lit_109, lit_115, lit_117, lit_121, lit_127, lit_128, lit_140, lit_1000, lit_1000000, lit_1048576, bI_ret, bV_ret, bL_ret, bH_t, cond_true, z_0, z_1, retZ_tf, z_tf0, z_tf1, Decidable.not_not, Classical.not_not, nI_add, nI_clamp, n_le, n_lt, n_eq, nI_or, nI_and, z_sdf, of_nI, ite_not, m_i3, m_i99, m_i7, m_i1, m_i20, m_i2, m_i8, m_i15, m_i60, m_isText, if_neg hx]
