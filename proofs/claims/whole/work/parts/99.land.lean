/-! OPERATION: land -/
section LAND
variable {g : Hp}
theorem c_land3 : ∃ h', loopC Bp_land_61 FU (nI 0, g) = retI (hg g 3 8) h' ∧ (∀ k, k < 3 → hg h' 62 k = nI 0) ∧ ∀ a j, a ≠ 62 → hg h' a j = hg g a j := by
  refine loop_inv (N := 3) (R := fun r => ∃ h', r = retI (hg g 3 8) h' ∧ (∀ k, k < 3 → hg h' 62 k = nI 0) ∧ ∀ a j, a ≠ 62 → hg h' a j = hg g a j) (fun i st => ∃ g1, st = (nI i, g1) ∧ (∀ k, k < i → hg g1 62 k = nI 0) ∧ ∀ a j, a ≠ 62 → hg g1 a j = hg g a j) ⟨g, rfl, fun k hk => absurd hk (Nat.not_lt_zero k), fun _ _ _ => rfl⟩ (by show _ < 4096; omega) ?_ ?_
  · rintro i st hi ⟨g1, rfl, p1, p2⟩
    refine ⟨_, ⟨hs g1 62 i (nI 0), rfl, fun k hk => ?_, fun a j n => ?_⟩, fun κ => ?_⟩
    · by_cases z : k = i
      · rw [z, hg_hs_eq]
      · rw [hg_hs_k z]; exact p1 k (by omega)
    · rw [hg_hs_a n]; exact p2 a j n
    · simp (disch := first | assumption | omega) only [Bp_land_61, lit_0, lit_1, lit_2, lit_3, lit_4, lit_5, lit_6, lit_7, lit_8, lit_9, lit_10, lit_11, lit_12, lit_16, lit_17, lit_20, lit_31, lit_32, lit_40, lit_47, lit_48, lit_49, lit_57, lit_58, lit_60, lit_64, lit_68, lit_80, lit_97, lit_99, lit_100, lit_101, lit_104, lit_108, lit_109, lit_115, lit_117, lit_121, lit_127, lit_128, lit_140, lit_1000, lit_1000000, lit_1048576, bI_ret, bV_ret, bL_ret, bH_t, cond_true, z_0, z_1, retZ_tf, z_tf0, z_tf1, Decidable.not_not, Classical.not_not, nI_add, nI_clamp, n_le, n_lt, n_eq, nI_or, nI_and, z_sdf, of_nI, oA_62, nar0]
      rw [if_neg (by omega)]
  · rintro st ⟨g1, rfl, p1, p2⟩ κ
    refine ⟨g1, ?_, p1, p2⟩
    simp (disch := first | assumption | omega) only [Bp_land_61, lit_0, lit_1, lit_2, lit_3, lit_4, lit_5, lit_6, lit_7, lit_8, lit_9, lit_10, lit_11, lit_12, lit_16, lit_17, lit_20, lit_31, lit_32, lit_40, lit_47, lit_48, lit_49, lit_57, lit_58, lit_60, lit_64, lit_68, lit_80, lit_97, lit_99, lit_100, lit_101, lit_104, lit_108, lit_109, lit_115, lit_117, lit_121, lit_127, lit_128, lit_140, lit_1000, lit_1000000, lit_1048576, bI_ret, bV_ret, bL_ret, bH_t, cond_true, z_0, z_1, retZ_tf, z_tf0, z_tf1, Decidable.not_not, Classical.not_not, nI_add, nI_clamp, n_le, n_lt, n_eq, nI_or, nI_and, z_sdf, of_nI, Nat.le_refl, if_true]
    rw [p2 3 8 (by omega)]
theorem m_land3 : ∃ h', loopC Mo_land_117 FU (nI 0, g) = retI (hg g 178 8) h' ∧ (∀ k, k < 3 → hg h' 192 (140 * k) = -nI 9) ∧ ∀ a j, a ≠ 192 → hg h' a j = hg g a j := by
  refine loop_inv (N := 3) (R := fun r => ∃ h', r = retI (hg g 178 8) h' ∧ (∀ k, k < 3 → hg h' 192 (140 * k) = -nI 9) ∧ ∀ a j, a ≠ 192 → hg h' a j = hg g a j) (fun i st => ∃ g1, st = (nI i, g1) ∧ (∀ k, k < i → hg g1 192 (140 * k) = -nI 9) ∧ ∀ a j, a ≠ 192 → hg g1 a j = hg g a j) ⟨g, rfl, fun k hk => absurd hk (Nat.not_lt_zero k), fun _ _ _ => rfl⟩ (by show _ < 4096; omega) ?_ ?_
  · rintro i st hi ⟨g1, rfl, p1, p2⟩
    have o0 := oA_192' hi (show 0 < 140 by decide)
    rw [Nat.add_zero] at o0
    refine ⟨_, ⟨hs g1 192 (140 * i) (-nI 9), rfl, fun k hk => ?_, fun a j n => ?_⟩, fun κ => ?_⟩
    · by_cases z : k = i
      · rw [z, hg_hs_eq]
      · rw [hg_hs_k (by omega)]; exact p1 k (by omega)
    · rw [hg_hs_a n]; exact p2 a j n
    · simp (disch := first | assumption | omega) only [Mo_land_117, lit_0, lit_1, lit_2, lit_3, lit_4, lit_5, lit_6, lit_7, lit_8, lit_9, lit_10, lit_11, lit_12, lit_16, lit_17, lit_20, lit_31, lit_32, lit_40, lit_47, lit_48, lit_49, lit_57, lit_58, lit_60, lit_64, lit_68, lit_80, lit_97, lit_99, lit_100, lit_101, lit_104, lit_108, lit_109, lit_115, lit_117, lit_121, lit_127, lit_128, lit_140, lit_1000, lit_1000000, lit_1048576, bI_ret, bV_ret, bL_ret, bH_t, cond_true, z_0, z_1, retZ_tf, z_tf0, z_tf1, Decidable.not_not, Classical.not_not, nI_add, nI_clamp, n_le, n_lt, n_eq, nI_or, nI_and, z_sdf, of_nI, nI_mul, o0]
      rw [if_neg (by omega)]
  · rintro st ⟨g1, rfl, p1, p2⟩ κ
    refine ⟨g1, ?_, p1, p2⟩
    simp (disch := first | assumption | omega) only [Mo_land_117, lit_0, lit_1, lit_2, lit_3, lit_4, lit_5, lit_6, lit_7, lit_8, lit_9, lit_10, lit_11, lit_12, lit_16, lit_17, lit_20, lit_31, lit_32, lit_40, lit_47, lit_48, lit_49, lit_57, lit_58, lit_60, lit_64, lit_68, lit_80, lit_97, lit_99, lit_100, lit_101, lit_104, lit_108, lit_109, lit_115, lit_117, lit_121, lit_127, lit_128, lit_140, lit_1000, lit_1000000, lit_1048576, bI_ret, bV_ret, bL_ret, bH_t, cond_true, z_0, z_1, retZ_tf, z_tf0, z_tf1, Decidable.not_not, Classical.not_not, nI_add, nI_clamp, n_le, n_lt, n_eq, nI_or, nI_and, z_sdf, of_nI, Nat.le_refl, if_true]
    rw [p2 178 8 (by omega)]
theorem m_land2 : ∃ h', loopC Mo_land_81 FU (nI 0, g) = retI (hg g 178 8) h' ∧ (∀ j, j < 48 → hg h' 187 j = hg g 191 j) ∧ hg h' 178 13 = nI 0 ∧ hg h' 178 14 = nI 0 ∧ (∀ k, k < 3 → hg h' 192 (140 * k) = -nI 9) ∧ ∀ a j, a ≠ 192 → a ≠ 187 → ¬ (a = 178 ∧ (j = 13 ∨ j = 14)) → hg h' a j = hg g a j := by
  refine loop_inv (N := 48) (R := fun r => ∃ h', r = retI (hg g 178 8) h' ∧ (∀ j, j < 48 → hg h' 187 j = hg g 191 j) ∧ hg h' 178 13 = nI 0 ∧ hg h' 178 14 = nI 0 ∧ (∀ k, k < 3 → hg h' 192 (140 * k) = -nI 9) ∧ ∀ a j, a ≠ 192 → a ≠ 187 → ¬ (a = 178 ∧ (j = 13 ∨ j = 14)) → hg h' a j = hg g a j) (fun i st => ∃ g1, st = (nI i, g1) ∧ (∀ j, j < i → hg g1 187 j = hg g 191 j) ∧ ∀ a j, a ≠ 187 → hg g1 a j = hg g a j) ⟨g, rfl, fun k hk => absurd hk (Nat.not_lt_zero k), fun _ _ _ => rfl⟩ (by show _ < 4096; omega) ?_ ?_
  · rintro i st hi ⟨g1, rfl, p1, p2⟩
    have o1 : okA 191 100 (nI i) = true := okA_t 48 (by decide +kernel) (by decide +kernel) hi (by decide)
    refine ⟨_, ⟨hs g1 187 i (hg g1 191 i), rfl, fun k hk => ?_, fun a j n => ?_⟩, fun κ => ?_⟩
    · by_cases z : k = i
      · rw [z, hg_hs_eq]; exact p2 _ _ (by decide)
      · rw [hg_hs_k z]; exact p1 k (by omega)
    · rw [hg_hs_a n]; exact p2 a j n
    · simp (disch := first | assumption | omega) only [Mo_land_81, lit_0, lit_1, lit_2, lit_3, lit_4, lit_5, lit_6, lit_7, lit_8, lit_9, lit_10, lit_11, lit_12, lit_16, lit_17, lit_20, lit_31, lit_32, lit_40, lit_47, lit_48, lit_49, lit_57, lit_58, lit_60, lit_64, lit_68, lit_80, lit_97, lit_99, lit_100, lit_101, lit_104, lit_108, lit_109, lit_115, lit_117, lit_121, lit_127, lit_128, lit_140, lit_1000, lit_1000000, lit_1048576, bI_ret, bV_ret, bL_ret, bH_t, cond_true, z_0, z_1, retZ_tf, z_tf0, z_tf1, Decidable.not_not, Classical.not_not, nI_add, nI_clamp, n_le, n_lt, n_eq, nI_or, nI_and, z_sdf, of_nI, o1, oA_187]
      rw [if_neg (by omega)]
  · rintro st ⟨g1, rfl, p1, p2⟩ κ
    obtain ⟨g2, s1, s2, s3⟩ := m_land3 (g := hs (hs g1 178 13 (nI 0)) 178 14 (nI 0))
    refine ⟨g2, ?_, fun j hj => ?_, ?_, ?_, s2, fun a j n1 n2 n3 => ?_⟩
    · simp (disch := first | assumption | omega) only [Mo_land_81, lit_0, lit_1, lit_2, lit_3, lit_4, lit_5, lit_6, lit_7, lit_8, lit_9, lit_10, lit_11, lit_12, lit_16, lit_17, lit_20, lit_31, lit_32, lit_40, lit_47, lit_48, lit_49, lit_57, lit_58, lit_60, lit_64, lit_68, lit_80, lit_97, lit_99, lit_100, lit_101, lit_104, lit_108, lit_109, lit_115, lit_117, lit_121, lit_127, lit_128, lit_140, lit_1000, lit_1000000, lit_1048576, bI_ret, bV_ret, bL_ret, bH_t, cond_true, z_0, z_1, retZ_tf, z_tf0, z_tf1, Decidable.not_not, Classical.not_not, nI_add, nI_clamp, n_le, n_lt, n_eq, nI_or, nI_and, z_sdf, of_nI, Nat.le_refl, if_true, s1]
      rw [hg_hs_k (by decide), hg_hs_k (by decide), p2 178 8 (by omega)]
    · rw [s3 _ _ (by decide), hg_hs_a (by decide), hg_hs_a (by decide)]; exact p1 j hj
    · rw [s3 _ _ (by decide), hg_hs_k (by decide), hg_hs_eq]
    · rw [s3 _ _ (by decide), hg_hs_eq]
    · rw [s3 _ _ n1, hg_hs2, if_neg (by omega), hg_hs2, if_neg (by omega)]; exact p2 a j n2
theorem m_land1 : ∃ h', loopC Mo_land_43 FU (nI 0, g) = retI (hg g 178 8) h' ∧ (∀ j, j < 7 → hg h' 185 j = hg g 189 j ∧ hg h' 186 j = hg g 190 j) ∧ (∀ j, j < 48 → hg h' 187 j = hg g 191 j) ∧ hg h' 178 13 = nI 0 ∧ hg h' 178 14 = nI 0 ∧ (∀ k, k < 3 → hg h' 192 (140 * k) = -nI 9) ∧ ∀ a j, a ≠ 192 → ¬ (185 ≤ a ∧ a ≤ 187) → ¬ (a = 178 ∧ (j = 13 ∨ j = 14)) → hg h' a j = hg g a j := by
  refine loop_inv (N := 7) (R := fun r => ∃ h', r = retI (hg g 178 8) h' ∧ (∀ j, j < 7 → hg h' 185 j = hg g 189 j ∧ hg h' 186 j = hg g 190 j) ∧ (∀ j, j < 48 → hg h' 187 j = hg g 191 j) ∧ hg h' 178 13 = nI 0 ∧ hg h' 178 14 = nI 0 ∧ (∀ k, k < 3 → hg h' 192 (140 * k) = -nI 9) ∧ ∀ a j, a ≠ 192 → ¬ (185 ≤ a ∧ a ≤ 187) → ¬ (a = 178 ∧ (j = 13 ∨ j = 14)) → hg h' a j = hg g a j) (fun i st => ∃ g1, st = (nI i, g1) ∧ (∀ j, j < i → hg g1 185 j = hg g 189 j ∧ hg g1 186 j = hg g 190 j) ∧ ∀ a j, a ≠ 185 → a ≠ 186 → hg g1 a j = hg g a j) ⟨g, rfl, fun k hk => absurd hk (Nat.not_lt_zero k), fun _ _ _ _ => rfl⟩ (by show _ < 4096; omega) ?_ ?_
  · rintro i st hi ⟨g1, rfl, p1, p2⟩
    refine ⟨_, ⟨hs (hs g1 185 i (hg g1 189 i)) 186 i (hg g1 190 i), rfl, fun k hk => ⟨?_, ?_⟩, fun a j n1 n2 => ?_⟩, fun κ => ?_⟩
    · rw [hg_hs_a (by decide)]
      by_cases z : k = i
      · rw [z, hg_hs_eq]; exact p2 _ _ (by decide) (by decide)
      · rw [hg_hs_k z]; exact (p1 k (by omega)).1
    · by_cases z : k = i
      · rw [z, hg_hs_eq]; exact p2 _ _ (by decide) (by decide)
      · rw [hg_hs_k z, hg_hs_a (by decide)]; exact (p1 k (by omega)).2
    · rw [hg_hs_a n2, hg_hs_a n1]; exact p2 a j n1 n2
    · simp (disch := first | assumption | omega) only [Mo_land_43, lit_0, lit_1, lit_2, lit_3, lit_4, lit_5, lit_6, lit_7, lit_8, lit_9, lit_10, lit_11, lit_12, lit_16, lit_17, lit_20, lit_31, lit_32, lit_40, lit_47, lit_48, lit_49, lit_57, lit_58, lit_60, lit_64, lit_68, lit_80, lit_97, lit_99, lit_100, lit_101, lit_104, lit_108, lit_109, lit_115, lit_117, lit_121, lit_127, lit_128, lit_140, lit_1000, lit_1000000, lit_1048576, bI_ret, bV_ret, bL_ret, bH_t, cond_true, z_0, z_1, retZ_tf, z_tf0, z_tf1, Decidable.not_not, Classical.not_not, nI_add, nI_clamp, n_le, n_lt, n_eq, nI_or, nI_and, z_sdf, of_nI, oA_185, oA_186, oA_189, oA_190, hg_hs_a]
      rw [if_neg (by omega)]
  · rintro st ⟨g1, rfl, p1, p2⟩ κ
    obtain ⟨g2, s1, s2, s3, s4, s5, s6⟩ := m_land2 (g := g1)
    refine ⟨g2, ?_, fun j hj => ⟨?_, ?_⟩, fun j hj => ?_, s3, s4, s5, fun a j n1 n2 n3 => ?_⟩
    · simp (disch := first | assumption | omega) only [Mo_land_43, lit_0, lit_1, lit_2, lit_3, lit_4, lit_5, lit_6, lit_7, lit_8, lit_9, lit_10, lit_11, lit_12, lit_16, lit_17, lit_20, lit_31, lit_32, lit_40, lit_47, lit_48, lit_49, lit_57, lit_58, lit_60, lit_64, lit_68, lit_80, lit_97, lit_99, lit_100, lit_101, lit_104, lit_108, lit_109, lit_115, lit_117, lit_121, lit_127, lit_128, lit_140, lit_1000, lit_1000000, lit_1048576, bI_ret, bV_ret, bL_ret, bH_t, cond_true, z_0, z_1, retZ_tf, z_tf0, z_tf1, Decidable.not_not, Classical.not_not, nI_add, nI_clamp, n_le, n_lt, n_eq, nI_or, nI_and, z_sdf, of_nI, Nat.le_refl, if_true, s1]
      rw [p2 178 8 (by omega) (by omega)]
    · rw [s6 _ _ (by decide) (by decide) (by omega)]; exact (p1 j hj).1
    · rw [s6 _ _ (by decide) (by decide) (by omega)]; exact (p1 j hj).2
    · rw [s2 j hj]; exact p2 _ _ (by decide) (by decide)
    · rw [s6 a j n1 (by omega) n3]; exact p2 a j (by omega) (by omega)
end LAND
theorem g_land (x : Int32) {h : Hp} (I : Inv h) : Ok (F_Bp_land x) (F_Mo_land x) h := by
  by_cases hx : inR x 4
  · obtain ⟨t, ht, rfl⟩ := inR_ex (by decide) hx
    have s10 : 6 + t < 10 := by omega
    rcases text_cases I ht with ⟨c1, c2, c3⟩ | ⟨n, hn, c1, c2, c3, c4⟩
    · refine fin_f I (k := 1) (h1 := h) (by decide) (by decide) ?_ (frS_rf h) fun g1 hg1 => asked3 (by decide) (by decide) (m_askText_g ht (by rw [hg1 183 t (by unfold scr; omega) (by unfold fpA; omega)]; exact c2))
      simp (disch := first | assumption | omega) only [F_Bp_land, lit_0, lit_1, lit_2, lit_3, lit_4, lit_5, lit_6, lit_7, lit_8, lit_9, lit_10, lit_11, lit_12, lit_16, lit_17, lit_20, lit_31, lit_32, lit_40, lit_47, lit_48, lit_49, lit_57, lit_58, lit_60, lit_64, lit_68, lit_80, lit_97, lit_99, lit_100, lit_101, lit_104, lit_108, lit_109, lit_115, lit_117, lit_121, lit_127, lit_128, lit_140, lit_1000, lit_1000000, lit_1048576, bI_ret, bV_ret, bL_ret, bH_t, cond_true, z_0, z_1, retZ_tf, z_tf0, z_tf1, Decidable.not_not, Classical.not_not, nI_add, nI_clamp, n_le, n_lt, n_eq, nI_or, nI_and, z_sdf, of_nI, ite_not, m_i3, m_i99, m_i7, m_i1, m_i20, m_i2, m_i8, m_i15, m_i60, c_noText, if_pos hx, oR_2, sR_2, sh_t, sh_O s10, c_sheetIs_g s10 c3, found_b, if_true, not_false_iff]
      first | done | rw [if_neg id]
    · have cC : CT t n (fun j => hg h (84 + 2 * t) j) h := ⟨c1, fun _ _ => rfl⟩
      obtain ⟨r, h1, h2, a1, a2, a3, a4, a5⟩ := parse ht hn cC (show MT t n (fun j => hg h (84 + 2 * t) j) h from ⟨c2, fun j hj => (c4 j hj).symm⟩)
      have S1 := frS_P a3
      have a1' : F_Re_faultOf (71 + 2 * (6 + t)) h = retI r h1 := by rw [← sh_t]; exact a1
      have eC : F_Bp_land (nI t) h = if r = (-9 : Int32) then (bV (F_La_takeFrom 3 32 h1) fun h7 => loopC Bp_land_61 FU ((0 : Int32), h7)) else retI (-4 : Int32) h1 := by
        have b0 := c_noText (nI t) h
        rw [tf_f (fun z => z hx)] at b0
        have b1 := c_sheetIs_t s10 c3
        rw [tf_t trivial] at b1
        unfold F_Bp_land
        rw [b0, bI_ret, if_pos rfl, oR_2 ht, cond_true, nI_clamp (by omega), sR_2 ht, sh_t, sh_O s10, cond_true, b1, bI_ret, if_neg one0, cond_true, a1', bI_ret]
      have eM : ∀ g : Hp, hg g 183 t = nI n → F_Mo_land (nI t) g = (bI (F_Mo_goesOn (nI t) g) fun v4 h3 => if v4 = (-9 : Int32) then (bH (hs h3 178 8 (hg h3 178 17)) fun h5 => bH (hs h5 178 11 (hg h5 178 18)) fun h6 => loopC Mo_land_43 FU ((0 : Int32), h6)) else retI (-4 : Int32) h3) := fun g k1 => asked0 (by decide) (m_askText_t ht hn k1)
      have MTo : ∀ g : Hp, (∀ a j, a = 183 ∨ a = 184 → hg g a j = hg h a j) → MT t n (fun j => hg h (84 + 2 * t) j) g := fun g q => ⟨(q _ _ (by omega)).trans c2, fun j hj => (q _ _ (by omega)).trans (c4 j hj).symm⟩
      by_cases q : r = -9
      · obtain ⟨-, v, w, rC, rM⟩ := (a5.resolve_right (fun ⟨p, p1, p2⟩ => (nI_eq9 (show p < 2 ^ 31 by omega)).mp (p2.symm.trans q)))
        rw [if_pos q] at eC
        obtain ⟨g3, t1, t2, t3⟩ := c_takeFrom isL_3 isL_32 (by decide) w.1 rC
        obtain ⟨g4, u1, u2, u3⟩ := c_land3 (g := g3)
        have e38 : hg g3 3 8 = nI (v 0 0) := L_n t2
        have eC2 : F_Bp_land (nI t) h = retI (nI (v 0 0)) g4 := by
          rw [eC, t1, bV_ret, ← e38]
          exact u1
        have g4o : ∀ a j, ¬ (3 ≤ a ∧ a ≤ 31) → a ≠ 62 → hg g4 a j = hg h1 a j := fun a j n1 n2 => (u3 a j n2).trans (t3 a j (by omega))
        have g4h : ∀ a j, ¬ scr a j → ¬ (3 ≤ a ∧ a ≤ 31) → a ≠ 62 → hg g4 a j = hg h a j := fun a j n0 n1 n2 => (g4o a j n1 n2).trans (S1 a j n0)
        obtain ⟨r', h1', g5, b1, b2, b3, b4, b5⟩ := parse ht hn cC (MTo g4 fun a j z => g4h a j (by unfold scr; omega) (by omega) (by omega))
        obtain ⟨er, eh⟩ := retI_inj (a1.symm.trans b1)
        rw [← er, ← eh] at b1 b5
        rw [← er] at b2
        obtain ⟨-, u, wu, ruC, ruM⟩ := (b5.resolve_right (fun ⟨p, p1, p2⟩ => (nI_eq9 (show p < 2 ^ 31 by omega)).mp (p2.symm.trans q)))
        obtain ⟨g3', t1', t2', t3'⟩ := c_takeFrom isL_3 isL_32 (by decide) wu.1 ruC
        have e3 := retV_inj (t1'.symm.trans t1)
        rw [e3] at t2'
        have hn7 := wu.1.1
        have hm16 := wf_m wu.1
        have S5 := frS_Q b4
        have e0 : nI (v 0 0) = nI (u 0 0) := e38.symm.trans (L_n t2')
        obtain ⟨k1, k2, k3, k4⟩ := ruM
        obtain ⟨g6, s1, s2, s3, s4, s5, s6, s7⟩ := m_land1 (g := hs (hs g5 178 8 (nI (u 0 0))) 178 11 (nI (u 3 0)))
        have e6 : hg (hs (hs g5 178 8 (nI (u 0 0))) 178 11 (nI (u 3 0))) 178 8 = nI (u 0 0) := by rw [hg_hs_k (by decide), hg_hs_eq]
        rw [e6] at s1
        have g6o : ∀ a j, ¬ scr a j → a ≠ 192 → ¬ (185 ≤ a ∧ a ≤ 187) → ¬ (a = 178 ∧ (j = 8 ∨ j = 11 ∨ j = 13 ∨ j = 14)) → hg g6 a j = hg g4 a j := fun a j n0 n1 n2 n3 => by
          rw [s7 a j n1 n2 (by omega), hg_hs2, if_neg (by omega), hg_hs2, if_neg (by omega)]
          exact S5 a j n0
        have fr : ∀ a j, ¬ scr a j → ¬ (3 ≤ a ∧ a ≤ 31) → a ≠ 62 → a ≠ 192 → ¬ (185 ≤ a ∧ a ≤ 187) → ¬ (a = 178 ∧ (j = 8 ∨ j = 11 ∨ j = 13 ∨ j = 14)) → hg g6 a j = hg h a j := fun a j n0 n1 n2 n3 n4 n5 => (g6o a j n0 n3 n4 n5).trans (g4h a j n0 n1 n2)
        have G5 : ∀ a j, a ≠ 178 → hg (hs (hs g5 178 8 (nI (u 0 0))) 178 11 (nI (u 3 0))) a j = hg g5 a j := fun a j n => by rw [hg_hs_a n, hg_hs_a n]
        refine ⟨(nI (u 0 0)), g4, g6, eC2.trans (by rw [e0]; rfl), ?_, CA_ag I.1 fun a j z => fr a j (by unfold fpA at z; unfold scr; omega) (by unfold fpA at z; omega) (by unfold fpA at z; omega) (by unfold fpA at z; omega) (by unfold fpA at z; omega) (by unfold fpA at z; omega), CS_ag I.2.1 fun a j z => fr a j (by unfold scr; omega) (by omega) (by omega) (by omega) (by omega) (by omega), u, wu.1, CLd_ag t2' (fun a j z1 z2 => (g6o a j (by unfold scr; omega) (by omega) (by omega) (by omega)).trans (u3 a j (by omega))) (by have := wu.2.2; omega), ?_, fun k hk => Or.inl ⟨?_, s6 k hk⟩⟩
        · rw [eM g4 (MTo g4 fun a j z => g4h a j (by unfold scr; omega) (by omega) (by omega)).1, b2, bI_ret, if_pos q, k1, bH_t, hg_hs_k (show (18 : Nat) ≠ 8 by decide), k2, bH_t]
          exact s1
        · refine ⟨⟨?_, ?_, ?_, ?_⟩, fun x hx => ⟨?_, ?_⟩, fun m hm => ⟨?_, ?_, ?_⟩, fun l hl => absurd hl (by have := wu.2.2; omega)⟩
          · rw [s7 _ _ (by decide) (by decide) (by decide)]; exact e6
          · rw [s7 _ _ (by decide) (by decide) (by decide), hg_hs_eq]
          · rw [s5, wu.2.2]
          · rw [s4, wu.2.1]
          · rw [(s2 x (by omega)).1, G5 _ _ (by decide)]; exact (k3 x hx).1
          · rw [(s2 x (by omega)).2, G5 _ _ (by decide)]; exact (k3 x hx).2
          · rw [s3 _ (by omega), G5 _ _ (by decide)]; exact (k4 m hm).1
          · rw [s3 _ (by omega), G5 _ _ (by decide)]; exact (k4 m hm).2.1
          · rw [s3 _ (by omega), G5 _ _ (by decide)]; exact (k4 m hm).2.2
        · rw [g6o _ _ (by unfold scr; omega) (by decide) (by decide) (by omega)]
          exact u2 k hk
      · rw [if_neg q] at eC
        have cM1 := MTo h1 fun a j z => S1 a j (by unfold scr; omega)
        obtain ⟨r', h1', h3, b1, b2, b3, b4, b5⟩ := parse ht hn cC cM1
        obtain ⟨rfl, rfl⟩ := retI_inj (a1.symm.trans b1)
        refine fin_q I (h1 := h1) (h2 := h3) (x := -4) eC S1 ?_ (frS_Q b4)
        rw [eM h1 cM1.1, b2, bI_ret, if_neg q]
  · refine fin_q I (h1 := h) (h2 := h) (x := -nI 1) ?_ (frS_rf h) (asked1 (m_askText_b hx)) (frS_rf h)
    simp (disch := first | assumption | omega) only [F_Bp_land, lit_0, lit_1, lit_2, lit_3, lit_4, lit_5, lit_6, lit_7, lit_8, lit_9, lit_10, lit_11, lit_12, lit_16, lit_17, lit_20, lit_31, lit_32, lit_40, lit_47, lit_48, lit_49, lit_57, lit_58, lit_60, lit_64, lit_68, lit_80, lit_97, lit_99, lit_100, lit_101, lit_104, lit_108, lit_109, lit_115, lit_117, lit_121, lit_127, lit_128, lit_140, lit_1000, lit_1000000, lit_1048576, bI_ret, bV_ret, bL_ret, bH_t, cond_true, z_0, z_1, retZ_tf, z_tf0, z_tf1, Decidable.not_not, Classical.not_not, nI_add, nI_clamp, n_le, n_lt, n_eq, nI_or, nI_and, z_sdf, of_nI, ite_not, m_i3, m_i99, m_i7, m_i1, m_i20, m_i2, m_i8, m_i15, m_i60, c_noText, if_neg hx]
