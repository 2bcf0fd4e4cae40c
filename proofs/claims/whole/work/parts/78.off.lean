/-! OPERATION: off -/
section TIEA
variable {v : LV} {N o : Nat} {h : Hp}
theorem la_c15 (hL : isL o) : shC (o + 15) = 100 ∧ shN (o + 15) = 7 := ⟨(okL_of hL).2.2.2.2.2.2.2.2.2.1.1, (okL_of hL).2.2.2.2.2.2.2.2.2.1.2⟩
theorem la_cm (hL : isL o) {t : Nat} (ht : t < 8) : shC (o + 7 + t) = 100 ∧ shN (o + 7 + t) = 7 := ((okL_of hL).2.2.2.2.2.2.2.2.2.2.2.1 t ht).2
theorem c_tieLoop (hL : isL o) (hN : N ≤ 16) (e9 : hg h o 9 = nI N) (hk : ∀ k, k < N → (hg h (o + 3) k = nI (v 4 k) ∧ hg h (o + 4) k = nI (v 5 k) ∧ hg h (o + 5) k = nI (v 6 k)) ∧ v 4 k < 7 ∧ v 5 k < 7 ∧ v 4 k ≠ v 5 k ∧ v 6 k < 8) (T : TieN v 0 o h) : ∃ h', loopC La_tieAll_34 FU (o, nI 0, h) = retV h' ∧ TieN v N o h' ∧ frT o h h' := by
  refine loop_inv (N := N) (R := fun r => ∃ h', r = retV h' ∧ TieN v N o h' ∧ frT o h h') (fun i st => ∃ g, st = (o, nI i, g) ∧ TieN v i o g ∧ frT o h g) ⟨h, rfl, T, fun _ _ _ => rfl⟩ (by show _ < 4096; omega) ?_ ?_
  · rintro i st hi ⟨g, rfl, p1, p2⟩
    obtain ⟨⟨k1, k2, k3⟩, k4, k5, k6, k7⟩ := hk i hi
    obtain ⟨g2, t1, t2, t3⟩ := c_tie hL k4 k5 k6 k7 p1
    have f9 : hg g o 9 = nI N := (p2 _ _ (by omega)).trans e9
    have f3 : hg g (o + 3) i = nI (v 4 i) := (p2 _ _ (by omega)).trans k1
    have f4 : hg g (o + 4) i = nI (v 5 i) := (p2 _ _ (by omega)).trans k2
    have f5 : hg g (o + 5) i = nI (v 6 i) := (p2 _ _ (by omega)).trans k3
    refine ⟨_, ⟨g2, rfl, t2, fun a j q => (t3 a j q).trans (p2 a j q)⟩, fun κ => ?_⟩
    simp (disch := first | assumption | omega) only [La_tieAll_34, la_O, la_f0, la_f1, la_f2, la_f3, la_f4, la_f5, la_f6, la_f7, la_f8, la_f9, la_f10, la_f11, la_r0, la_r1, la_r2, la_r3, la_r4, la_r5, la_r6, la_r7, la_a1, la_a2, la_a3, la_a4, la_a5, la_a6, la_a15, la_a16, la_m, la_am, le_r, lit_0, lit_1, lit_2, lit_3, lit_4, lit_5, lit_6, lit_7, lit_8, lit_9, lit_10, lit_11, lit_12, lit_16, lit_17, lit_20, lit_31, lit_32, lit_40, lit_47, lit_48, lit_49, lit_57, lit_58, lit_60, lit_64, lit_68, lit_80, lit_97, lit_99, lit_100, lit_101, lit_104, lit_108, lit_109, lit_115, lit_117, lit_121, lit_127, lit_128, lit_140, lit_1000, lit_1000000, lit_1048576, bI_ret, bV_ret, bL_ret, bH_t, cond_true, z_0, z_1, retZ_tf, z_tf0, z_tf1, Decidable.not_not, Classical.not_not, nI_add, nI_clamp, n_le, n_lt, n_eq, nI_or, nI_and, z_sdf, of_nI, f9, f3, f4, f5, t1]
    rw [if_neg (by omega)]
  · rintro st ⟨g, rfl, p1, p2⟩ κ
    have f9 : hg g o 9 = nI N := (p2 _ _ (by omega)).trans e9
    refine ⟨g, ?_, p1, p2⟩
    simp (disch := first | assumption | omega) only [La_tieAll_34, la_O, la_f0, la_f1, la_f2, la_f3, la_f4, la_f5, la_f6, la_f7, la_f8, la_f9, la_f10, la_f11, la_r0, la_r1, la_r2, la_r3, la_r4, la_r5, la_r6, la_r7, la_a1, la_a2, la_a3, la_a4, la_a5, la_a6, la_a15, la_a16, la_m, la_am, le_r, lit_0, lit_1, lit_2, lit_3, lit_4, lit_5, lit_6, lit_7, lit_8, lit_9, lit_10, lit_11, lit_12, lit_16, lit_17, lit_20, lit_31, lit_32, lit_40, lit_47, lit_48, lit_49, lit_57, lit_58, lit_60, lit_64, lit_68, lit_80, lit_97, lit_99, lit_100, lit_101, lit_104, lit_108, lit_109, lit_115, lit_117, lit_121, lit_127, lit_128, lit_140, lit_1000, lit_1000000, lit_1048576, bI_ret, bV_ret, bL_ret, bH_t, cond_true, z_0, z_1, retZ_tf, z_tf0, z_tf1, Decidable.not_not, Classical.not_not, nI_add, nI_clamp, n_le, n_lt, n_eq, nI_or, nI_and, z_sdf, of_nI, f9, Nat.le_refl, if_true]
theorem c_tieAll (hL : isL o) (hN : N ≤ 16) (e9 : hg h o 9 = nI N) (hk : ∀ k, k < N → (hg h (o + 3) k = nI (v 4 k) ∧ hg h (o + 4) k = nI (v 5 k) ∧ hg h (o + 5) k = nI (v 6 k)) ∧ v 4 k < 7 ∧ v 5 k < 7 ∧ v 4 k ≠ v 5 k ∧ v 6 k < 8) : ∃ h', F_La_tieAll o h = retV h' ∧ TieN v N o h' ∧ frT o h h' := by
  obtain ⟨h1, a1, a2, a3⟩ := c_arrFill (h := h) (x := nI 0) (la_c15 hL).1 (la_c15 hL).2 (by decide)
  unfold F_La_tieAll
  simp (disch := first | assumption | omega) only [la_O, la_f0, la_f1, la_f2, la_f3, la_f4, la_f5, la_f6, la_f7, la_f8, la_f9, la_f10, la_f11, la_r0, la_r1, la_r2, la_r3, la_r4, la_r5, la_r6, la_r7, la_a1, la_a2, la_a3, la_a4, la_a5, la_a6, la_a15, la_a16, la_m, la_am, le_r, lit_0, lit_1, lit_2, lit_3, lit_4, lit_5, lit_6, lit_7, lit_8, lit_9, lit_10, lit_11, lit_12, lit_16, lit_17, lit_20, lit_31, lit_32, lit_40, lit_47, lit_48, lit_49, lit_57, lit_58, lit_60, lit_64, lit_68, lit_80, lit_97, lit_99, lit_100, lit_101, lit_104, lit_108, lit_109, lit_115, lit_117, lit_121, lit_127, lit_128, lit_140, lit_1000, lit_1000000, lit_1048576, bI_ret, bV_ret, bL_ret, bH_t, cond_true, z_0, z_1, retZ_tf, z_tf0, z_tf1, Decidable.not_not, Classical.not_not, nI_add, nI_clamp, n_le, n_lt, n_eq, nI_or, nI_and, z_sdf, of_nI, a1]
  refine loop_inv (N := 8) (R := fun r => ∃ h', r = retV h' ∧ TieN v N o h' ∧ frT o h h') (fun i st => ∃ g, st = (o, nI i, g) ∧ (∀ x, x < 7 → hg g (o + 15) x = nI 0) ∧ (∀ t x, t < i → x < 7 → hg g (o + 7 + t) x = nI 0) ∧ frT o h g) ⟨h1, rfl, a2, fun t x ht => absurd ht (Nat.not_lt_zero t), fun a j q => a3 a j (by omega)⟩ (by show _ < 4096; omega) ?_ ?_
  · rintro i st hi ⟨g, rfl, p1, p2, p3⟩
    obtain ⟨g2, b1, b2, b3⟩ := c_arrFill (h := g) (x := nI 0) (la_cm hL hi).1 (la_cm hL hi).2 (by decide)
    have m1 := la_m hL hi
    refine ⟨_, ⟨g2, rfl, fun x hx => (b3 _ _ (by omega)).trans (p1 x hx), fun t x ht hx => ?_, fun a j q => (b3 _ _ (by omega)).trans (p3 a j q)⟩, fun κ => ?_⟩
    · by_cases e : t = i
      · rw [e]; exact b2 x hx
      · rw [b3 _ _ (by omega)]; exact p2 t x (by omega) hx
    · simp (disch := first | assumption | omega) only [La_tieAll_10, la_O, la_f0, la_f1, la_f2, la_f3, la_f4, la_f5, la_f6, la_f7, la_f8, la_f9, la_f10, la_f11, la_r0, la_r1, la_r2, la_r3, la_r4, la_r5, la_r6, la_r7, la_a1, la_a2, la_a3, la_a4, la_a5, la_a6, la_a15, la_a16, la_m, la_am, le_r, lit_0, lit_1, lit_2, lit_3, lit_4, lit_5, lit_6, lit_7, lit_8, lit_9, lit_10, lit_11, lit_12, lit_16, lit_17, lit_20, lit_31, lit_32, lit_40, lit_47, lit_48, lit_49, lit_57, lit_58, lit_60, lit_64, lit_68, lit_80, lit_97, lit_99, lit_100, lit_101, lit_104, lit_108, lit_109, lit_115, lit_117, lit_121, lit_127, lit_128, lit_140, lit_1000, lit_1000000, lit_1048576, bI_ret, bV_ret, bL_ret, bH_t, cond_true, z_0, z_1, retZ_tf, z_tf0, z_tf1, Decidable.not_not, Classical.not_not, nI_add, nI_clamp, n_le, n_lt, n_eq, nI_or, nI_and, z_sdf, of_nI, m1, b1]
      rw [if_neg (by omega)]
  · rintro st ⟨g, rfl, p1, p2, p3⟩ κ
    have z : ∀ P : Nat → Bool, (∀ y, P y = false) → nI 0 = nI (ms 7 P) := fun P hP => by rw [ms_0.mpr (fun i _ => hP i)]
    obtain ⟨g2, t1, t2, t3⟩ := c_tieLoop (h := g) (v := v) hL hN ((p3 _ _ (by omega)).trans e9) (fun k hk2 => ⟨⟨(p3 _ _ (by omega)).trans (hk k hk2).1.1, (p3 _ _ (by omega)).trans (hk k hk2).1.2.1, (p3 _ _ (by omega)).trans (hk k hk2).1.2.2⟩, (hk k hk2).2⟩) ⟨fun t x ht hx => (p2 t x ht hx).trans (z _ fun _ => rfl), fun x hx => (p1 x hx).trans (z _ fun _ => rfl)⟩
    refine ⟨g2, ?_, t2, fun a j q => (t3 a j q).trans (p3 a j q)⟩
    simp (disch := first | assumption | omega) only [La_tieAll_10, lit_0, lit_1, lit_2, lit_3, lit_4, lit_5, lit_6, lit_7, lit_8, lit_9, lit_10, lit_11, lit_12, lit_16, lit_17, lit_20, lit_31, lit_32, lit_40, lit_47, lit_48, lit_49, lit_57, lit_58, lit_60, lit_64, lit_68, lit_80, lit_97, lit_99, lit_100, lit_101, lit_104, lit_108, lit_109, lit_115, lit_117, lit_121, lit_127, lit_128, lit_140, lit_1000, lit_1000000, lit_1048576, bI_ret, bV_ret, bL_ret, bH_t, cond_true, z_0, z_1, retZ_tf, z_tf0, z_tf1, Decidable.not_not, Classical.not_not, nI_add, nI_clamp, n_le, n_lt, n_eq, nI_or, nI_and, z_sdf, of_nI, Nat.le_refl, if_true]
    exact t1
end TIEA
