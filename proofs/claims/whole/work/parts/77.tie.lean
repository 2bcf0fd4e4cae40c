/-! THE TABLES of who meets whom, in a land of the given one -/
def TieN (v : LV) (n o : Nat) (h : Hp) : Prop := (∀ t x, t < 8 → x < 7 → hg h (o + 7 + t) x = nI (ms 7 (fun y => anyB n (fun k => v 6 k == t && pr v k x y)))) ∧ ∀ x, x < 7 → hg h (o + 15) x = nI (ms 7 (fun y => anyB n (fun k => pr v k x y)))
def frT (o : Nat) (h h' : Hp) : Prop := ∀ a j, ¬ (o + 7 ≤ a ∧ a ≤ o + 15) → hg h' a j = hg h a j
section TIE
variable {v : LV} {n o : Nat} {h : Hp}
theorem c_tie (hL : isL o) (ha : v 4 n < 7) (hb : v 5 n < 7) (hab : v 4 n ≠ v 5 n) (ht : v 6 n < 8) (T : TieN v n o h) : ∃ h', F_La_tie o (nI (v 4 n)) (nI (v 5 n)) (nI (v 6 n)) h = retV h' ∧ TieN v (n + 1) o h' ∧ frT o h h' := by
  have hne : ∀ i, i < 8 → o + 15 ≠ o + 7 + i := fun i hi => by omega
  refine ⟨hs (hs (hs (hs h (o + 7 + v 6 n) (v 4 n) (nI (ms 7 (fun y => anyB n (fun k => v 6 k == v 6 n && pr v k (v 4 n) y)) ||| 2 ^ v 5 n))) (o + 7 + v 6 n) (v 5 n) (nI (ms 7 (fun y => anyB n (fun k => v 6 k == v 6 n && pr v k (v 5 n) y)) ||| 2 ^ v 4 n))) (o + 15) (v 4 n) (nI (ms 7 (fun y => anyB n (fun k => pr v k (v 4 n) y)) ||| 2 ^ v 5 n))) (o + 15) (v 5 n) (nI (ms 7 (fun y => anyB n (fun k => pr v k (v 5 n) y)) ||| 2 ^ v 4 n)), ?_, ⟨fun t x ht2 hx => ?_, fun x hx => ?_⟩, fun a j q => ?_⟩
  · have e1 := T.1 (v 6 n) (v 4 n) ht ha
    have e2 := T.1 (v 6 n) (v 5 n) ht hb
    have e3 := T.2 (v 4 n) ha
    have e4 := T.2 (v 5 n) hb
    have m1 := la_m hL ht
    have k1 := la_am hL ht ha
    have k2 := la_am hL ht hb
    unfold F_La_tie
    simp (disch := first | assumption | omega) only [la_O, la_f0, la_f1, la_f2, la_f3, la_f4, la_f5, la_f6, la_f7, la_f8, la_f9, la_f10, la_f11, la_r0, la_r1, la_r2, la_r3, la_r4, la_r5, la_r6, la_r7, la_a1, la_a2, la_a3, la_a4, la_a5, la_a6, la_a15, la_a16, la_m, la_am, le_r, lit_0, lit_1, lit_2, lit_3, lit_4, lit_5, lit_6, lit_7, lit_8, lit_9, lit_10, lit_11, lit_12, lit_16, lit_17, lit_20, lit_31, lit_32, lit_40, lit_47, lit_48, lit_49, lit_57, lit_58, lit_60, lit_64, lit_68, lit_80, lit_97, lit_99, lit_100, lit_101, lit_104, lit_108, lit_109, lit_115, lit_117, lit_121, lit_127, lit_128, lit_140, lit_1000, lit_1000000, lit_1048576, bI_ret, bV_ret, bL_ret, bH_t, cond_true, z_0, z_1, retZ_tf, z_tf0, z_tf1, Decidable.not_not, Classical.not_not, nI_add, nI_clamp, n_le, n_lt, n_eq, nI_or, nI_and, z_sdf, of_nI, m1, k1, k2, e1, e2, e3, e4, c_bit, hg_hs_a, hg_hs_k]
  · show _ = nI (ms 7 (fun y => anyB n (fun k => v 6 k == t && pr v k x y) || (v 6 n == t && pr v n x y)))
    rw [hg_hs_a (by omega), hg_hs_a (by omega)]
    by_cases q : t = v 6 n
    · subst q
      simp only [beq_self_eq_true, Bool.true_and]
      rw [ms_pr _ x ha hb]
      by_cases q1 : x = v 5 n
      · subst q1
        rw [hg_hs_eq, if_neg hab, if_pos rfl, Nat.or_zero]
      · rw [hg_hs_k q1]
        by_cases q2 : x = v 4 n
        · subst q2
          rw [hg_hs_eq, if_pos rfl, if_neg (fun z => hab z.symm), Nat.or_zero]
        · rw [hg_hs_k q2, if_neg (fun z => q2 z.symm), if_neg (fun z => q1 z.symm), Nat.or_zero, Nat.or_zero]
          exact T.1 _ x ht2 hx
    · rw [hg_hs_a (by omega), hg_hs_a (by omega), T.1 t x ht2 hx, beq_eq_false_iff_ne.mpr (fun z => q z.symm)]
      simp only [Bool.false_and, Bool.or_false]
  · show _ = nI (ms 7 (fun y => anyB n (fun k => pr v k x y) || pr v n x y))
    rw [ms_pr _ x ha hb]
    by_cases q1 : x = v 5 n
    · subst q1
      rw [hg_hs_eq, if_neg hab, if_pos rfl, Nat.or_zero]
    · rw [hg_hs_k q1]
      by_cases q2 : x = v 4 n
      · subst q2
        rw [hg_hs_eq, if_pos rfl, if_neg (fun z => hab z.symm), Nat.or_zero]
      · rw [hg_hs_k q2, if_neg (fun z => q2 z.symm), if_neg (fun z => q1 z.symm), Nat.or_zero, Nat.or_zero, hg_hs_a (by omega), hg_hs_a (by omega)]
        exact T.2 x hx
  · rw [hg_hs_a (by omega), hg_hs_a (by omega), hg_hs_a (by omega), hg_hs_a (by omega)]
theorem c_arrFill {q N : Nat} {x : Int32} (qC : shC q = 100) (qN : shN q = N) (hN : N < 100) : ∃ h', F_Jarr_fill q x h = retV h' ∧ (∀ j, j < N → hg h' q j = x) ∧ ∀ a j, a ≠ q → hg h' a j = hg h a j := by
  unfold F_Jarr_fill
  rw [okN_of qC, cond_true, qN]
  refine loop_inv (N := N) (R := fun r => ∃ h', r = retV h' ∧ (∀ j, j < N → hg h' q j = x) ∧ ∀ a j, a ≠ q → hg h' a j = hg h a j) (fun i st => ∃ g, st = (q, x, nI i, nI N, g) ∧ (∀ j, j < i → hg g q j = x) ∧ ∀ a j, a ≠ q → hg g a j = hg h a j) ⟨h, rfl, fun j hj => absurd hj (Nat.not_lt_zero j), fun _ _ _ => rfl⟩ (by show _ < 4096; omega) ?_ ?_
  · rintro i st hi ⟨g, rfl, p2, p3⟩
    have qA : okA q 100 (nI i) = true := okA_t N qC qN hi (by omega)
    refine ⟨_, ⟨hs g q i x, rfl, fun j hj => ?_, fun a j h1 => (hg_hs_a h1).trans (p3 a j h1)⟩, fun κ => ?_⟩
    · by_cases e : j = i
      · rw [e, hg_hs_eq]
      · rw [hg_hs_k e]; exact p2 j (by omega)
    · simp (disch := first | assumption | omega) only [Jarr_fill_5, lit_0, lit_1, lit_2, lit_3, lit_4, lit_5, lit_6, lit_7, lit_8, lit_9, lit_10, lit_11, lit_12, lit_16, lit_17, lit_20, lit_31, lit_32, lit_40, lit_47, lit_48, lit_49, lit_57, lit_58, lit_60, lit_64, lit_68, lit_80, lit_97, lit_99, lit_100, lit_101, lit_104, lit_108, lit_109, lit_115, lit_117, lit_121, lit_127, lit_128, lit_140, lit_1000, lit_1000000, lit_1048576, bI_ret, bV_ret, bL_ret, bH_t, cond_true, z_0, z_1, retZ_tf, z_tf0, z_tf1, Decidable.not_not, Classical.not_not, nI_add, nI_clamp, n_le, n_lt, n_eq, nI_or, nI_and, z_sdf, of_nI, qA]
      rw [if_neg (by omega)]
  · rintro st ⟨g, rfl, p2, p3⟩ κ
    refine ⟨g, ?_, p2, p3⟩
    simp (disch := first | assumption | omega) only [Jarr_fill_5, lit_0, lit_1, lit_2, lit_3, lit_4, lit_5, lit_6, lit_7, lit_8, lit_9, lit_10, lit_11, lit_12, lit_16, lit_17, lit_20, lit_31, lit_32, lit_40, lit_47, lit_48, lit_49, lit_57, lit_58, lit_60, lit_64, lit_68, lit_80, lit_97, lit_99, lit_100, lit_101, lit_104, lit_108, lit_109, lit_115, lit_117, lit_121, lit_127, lit_128, lit_140, lit_1000, lit_1000000, lit_1048576, bI_ret, bV_ret, bL_ret, bH_t, cond_true, z_0, z_1, retZ_tf, z_tf0, z_tf1, Decidable.not_not, Classical.not_not, nI_add, nI_clamp, n_le, n_lt, n_eq, nI_or, nI_and, z_sdf, of_nI, Nat.le_refl, if_true]
end TIE
