/-! OPERATION: digest -/
def mx (y : Int64) (x : Int32) : Int64 := (31 : Int64) * y + x.toInt64
def mxs (y : Int64) (f : Nat → Int32) : Nat → Int64
  | 0 => y
  | n + 1 => mx (mxs y f n) (f n)
def itN (F : Nat → Int64 → Int64) : Nat → Int64 → Int64
  | 0, y => y
  | n + 1, y => F n (itN F n y)
theorem mxs_cong {y : Int64} {f g : Nat → Int32} : ∀ {n : Nat}, (∀ i, i < n → f i = g i) → mxs y f n = mxs y g n
  | 0, _ => rfl
  | n + 1, q => by
    show mx (mxs y f n) (f n) = mx (mxs y g n) (g n)
    rw [mxs_cong fun i hi => q i (by omega), q n (Nat.lt_succ_self n)]
theorem itN_cong {F G : Nat → Int64 → Int64} {y : Int64} : ∀ {n : Nat}, (∀ i z, i < n → F i z = G i z) → itN F n y = itN G n y
  | 0, _ => rfl
  | n + 1, q => by
    show F n (itN F n y) = G n (itN G n y)
    rw [itN_cong fun i z hi => q i z (by omega), q n _ (Nat.lt_succ_self n)]
theorem mxs3 (y : Int64) (f : Nat → Int32) : ∀ n, mxs y f (3 * n) = itN (fun m y => mx (mx (mx y (f (3 * m))) (f (3 * m + 1))) (f (3 * m + 2))) n y
  | 0 => rfl
  | n + 1 => by
    show mx (mx (mx (mxs y f (3 * n)) (f (3 * n))) (f (3 * n + 1))) (f (3 * n + 2)) = _
    rw [mxs3 y f n]
    rfl
def dgS (h : Hp) (s : Nat) (y : Int64) : Int64 := mxs (mx y (hg h (71 + 2 * s) 1)) (fun j => hg h (72 + 2 * s) j) (hg h (71 + 2 * s) 1).toNatClampNeg
def kpV (h : Hp) (k : Nat) : Int32 := if hg h 62 k = nI 0 then -nI 1 else hg h (91 + 29 * k) 11
def dgH (v : LV) (x : Nat) (y : Int64) : Int64 := mxs y (fun a => nI (fct v x a)) 4
def dgM (v : LV) (m : Nat) (y : Int64) : Int64 := mx (mx (mx y (nI (v 4 m))) (nI (v 5 m))) (nI (v 6 m))
def dgE (v : LV) (l : Nat) (y : Int64) : Int64 := mxs (mx (mx y (nI (v 9 l))) (nI (v 10 l))) (fun j => nI (v (20 + l) j)) (v 11 l)
def dgL (v : LV) (y : Int64) : Int64 := itN (dgE v) (v 8 0) (itN (dgM v) (v 3 0) (itN (dgH v) (v 0 0) y))
def dgA (v : LV) (h : Hp) : Int64 := itN (fun t => dgS h (6 + t)) 4 (itN (dgS h) 6 (mxs (dgL v (mxs 17 (fun a => nI (tlV v h a)) 9)) (kpV h) 3))
section DGC
variable {v : LV} {h : Hp}
theorem c_shDig {s : Nat} (s10 : s < 10) (c : gone s h ∨ ∃ n, there s n h) (y : Int64) : F_Sh_digestFrom (71 + 2 * s) y h = retL (dgS h s y) h := by
  have hcap := cap_le s
  unfold F_Sh_digestFrom dgS
  rw [sh_F1 s10, cond_true]
  rcases c with c | ⟨n, c⟩
  · rw [c.1, show (-nI 1).toNatClampNeg = 0 by decide]
    refine loop_for (N := 0) (fun _ => (71 + 2 * s, mx y (-nI 1), nI 0, h)) rfl (by show _ < 4096; omega) (fun i κ hi => absurd hi (Nat.not_lt_zero i)) (fun κ => ?_)
    simp (disch := first | assumption | omega) only [Sh_digestFrom_15, lit_0, lit_1, lit_2, lit_3, lit_4, lit_5, lit_6, lit_7, lit_8, lit_9, lit_10, lit_11, lit_12, lit_16, lit_17, lit_20, lit_31, lit_32, lit_40, lit_47, lit_48, lit_49, lit_57, lit_58, lit_60, lit_64, lit_68, lit_80, lit_97, lit_99, lit_100, lit_101, lit_104, lit_108, lit_109, lit_115, lit_117, lit_121, lit_127, lit_128, lit_140, lit_1000, lit_1000000, lit_1048576, bI_ret, bV_ret, bL_ret, bH_t, cond_true, z_0, z_1, retZ_tf, z_tf0, z_tf1, Decidable.not_not, Classical.not_not, nI_add, nI_clamp, n_le, n_lt, n_eq, nI_or, nI_and, z_sdf, of_nI, sh_F1 s10, c.1]
    exact if_pos (by decide)
  · have hn := c.1
    rw [c.2.1, nI_clamp (by omega)]
    refine loop_for (N := n) (fun i => (71 + 2 * s, mxs (mx y (nI n)) (fun j => hg h (72 + 2 * s) j) i, nI i, h)) rfl (by show _ < 4096; omega) (fun i κ hi => ?_) (fun κ => ?_)
    · simp (disch := first | assumption | omega) only [Sh_digestFrom_15, lit_0, lit_1, lit_2, lit_3, lit_4, lit_5, lit_6, lit_7, lit_8, lit_9, lit_10, lit_11, lit_12, lit_16, lit_17, lit_20, lit_31, lit_32, lit_40, lit_47, lit_48, lit_49, lit_57, lit_58, lit_60, lit_64, lit_68, lit_80, lit_97, lit_99, lit_100, lit_101, lit_104, lit_108, lit_109, lit_115, lit_117, lit_121, lit_127, lit_128, lit_140, lit_1000, lit_1000000, lit_1048576, bI_ret, bV_ret, bL_ret, bH_t, cond_true, z_0, z_1, retZ_tf, z_tf0, z_tf1, Decidable.not_not, Classical.not_not, nI_add, nI_clamp, n_le, n_lt, n_eq, nI_or, nI_and, z_sdf, of_nI, sh_F1 s10, sh_F0 s10, sh_R s10, c.2.1, sh_A s10 (show i < cap s by omega)]
      rw [if_neg (by omega)]
      rfl
    · simp (disch := first | assumption | omega) only [Sh_digestFrom_15, lit_0, lit_1, lit_2, lit_3, lit_4, lit_5, lit_6, lit_7, lit_8, lit_9, lit_10, lit_11, lit_12, lit_16, lit_17, lit_20, lit_31, lit_32, lit_40, lit_47, lit_48, lit_49, lit_57, lit_58, lit_60, lit_64, lit_68, lit_80, lit_97, lit_99, lit_100, lit_101, lit_104, lit_108, lit_109, lit_115, lit_117, lit_121, lit_127, lit_128, lit_140, lit_1000, lit_1000000, lit_1048576, bI_ret, bV_ret, bL_ret, bH_t, cond_true, z_0, z_1, retZ_tf, z_tf0, z_tf1, Decidable.not_not, Classical.not_not, nI_add, nI_clamp, n_le, n_lt, n_eq, nI_or, nI_and, z_sdf, of_nI, sh_F1 s10, c.2.1]
      exact if_pos (Nat.le_refl n)
theorem c_dgE (w : WF v) (r : CLd 3 v h) (y : Int64) : loopC La_digestFrom_117 FU (3, y, nI 0, h) = retL (itN (dgE v) (v 8 0) y) h := by
  have h4 := wf_l w
  have hL := isL_3
  refine loop_for (N := v 8 0) (fun i => (3, itN (dgE v) i y, nI i, h)) rfl (by show _ < 4096; omega) (fun i κ hi => ?_) (fun κ => ?_)
  · have h7 := wf_l7 w hi
    have E := isE_of isL_3 (show i < 4 by omega)
    have e := L_e r hi
    have H : ∀ z, loopC (La_digestFrom_165 κ) FU (3, z, nI i, nI 0, h) = κ (3, mxs z (fun j => nI (v (20 + i) j)) (v 11 i), nI (i + 1), h) := fun z => by
      refine loop_for (N := v 11 i) (fun j => (3, mxs z (fun j => nI (v (20 + i) j)) j, nI i, nI j, h)) rfl (by show _ < 4096; omega) (fun j κ2 hj => ?_) (fun κ2 => ?_)
      · have a1 := le_a1 E (show j < 7 by omega)
        have eT := E_th e hj
        simp (disch := first | assumption | omega) only [La_digestFrom_165, la_O, la_f0, la_f1, la_f2, la_f3, la_f4, la_f5, la_f6, la_f7, la_f8, la_f9, la_f10, la_f11, la_r0, la_r1, la_r2, la_r3, la_r4, la_r5, la_r6, la_r7, la_a1, la_a2, la_a3, la_a4, la_a5, la_a6, la_a15, la_a16, la_m, la_am, le_r, lit_0, lit_1, lit_2, lit_3, lit_4, lit_5, lit_6, lit_7, lit_8, lit_9, lit_10, lit_11, lit_12, lit_16, lit_17, lit_20, lit_31, lit_32, lit_40, lit_47, lit_48, lit_49, lit_57, lit_58, lit_60, lit_64, lit_68, lit_80, lit_97, lit_99, lit_100, lit_101, lit_104, lit_108, lit_109, lit_115, lit_117, lit_121, lit_127, lit_128, lit_140, lit_1000, lit_1000000, lit_1048576, bI_ret, bV_ret, bL_ret, bH_t, cond_true, z_0, z_1, retZ_tf, z_tf0, z_tf1, Decidable.not_not, Classical.not_not, nI_add, nI_clamp, n_le, n_lt, n_eq, nI_or, nI_and, z_sdf, of_nI, le_f2 E, le_f0 E, le_r0 E, a1, E_len e, eT]
        rw [if_neg (by omega)]
        rfl
      · simp (disch := first | assumption | omega) only [La_digestFrom_165, la_O, la_f0, la_f1, la_f2, la_f3, la_f4, la_f5, la_f6, la_f7, la_f8, la_f9, la_f10, la_f11, la_r0, la_r1, la_r2, la_r3, la_r4, la_r5, la_r6, la_r7, la_a1, la_a2, la_a3, la_a4, la_a5, la_a6, la_a15, la_a16, la_m, la_am, le_r, lit_0, lit_1, lit_2, lit_3, lit_4, lit_5, lit_6, lit_7, lit_8, lit_9, lit_10, lit_11, lit_12, lit_16, lit_17, lit_20, lit_31, lit_32, lit_40, lit_47, lit_48, lit_49, lit_57, lit_58, lit_60, lit_64, lit_68, lit_80, lit_97, lit_99, lit_100, lit_101, lit_104, lit_108, lit_109, lit_115, lit_117, lit_121, lit_127, lit_128, lit_140, lit_1000, lit_1000000, lit_1048576, bI_ret, bV_ret, bL_ret, bH_t, cond_true, z_0, z_1, retZ_tf, z_tf0, z_tf1, Decidable.not_not, Classical.not_not, nI_add, nI_clamp, n_le, n_lt, n_eq, nI_or, nI_and, z_sdf, of_nI, le_f2 E, E_len e]
        exact if_pos (Nat.le_refl _)
    simp (disch := first | assumption | omega) only [La_digestFrom_117, la_O, la_f0, la_f1, la_f2, la_f3, la_f4, la_f5, la_f6, la_f7, la_f8, la_f9, la_f10, la_f11, la_r0, la_r1, la_r2, la_r3, la_r4, la_r5, la_r6, la_r7, la_a1, la_a2, la_a3, la_a4, la_a5, la_a6, la_a15, la_a16, la_m, la_am, le_r, lit_0, lit_1, lit_2, lit_3, lit_4, lit_5, lit_6, lit_7, lit_8, lit_9, lit_10, lit_11, lit_12, lit_16, lit_17, lit_20, lit_31, lit_32, lit_40, lit_47, lit_48, lit_49, lit_57, lit_58, lit_60, lit_64, lit_68, lit_80, lit_97, lit_99, lit_100, lit_101, lit_104, lit_108, lit_109, lit_115, lit_117, lit_121, lit_127, lit_128, lit_140, lit_1000, lit_1000000, lit_1048576, bI_ret, bV_ret, bL_ret, bH_t, cond_true, z_0, z_1, retZ_tf, z_tf0, z_tf1, Decidable.not_not, Classical.not_not, nI_add, nI_clamp, n_le, n_lt, n_eq, nI_or, nI_and, z_sdf, of_nI, L_l r, le_f3 E, le_f4 E, E_to e, E_in e, H]
    rw [if_neg (by omega)]
    rfl
  · simp (disch := first | assumption | omega) only [La_digestFrom_117, la_O, la_f0, la_f1, la_f2, la_f3, la_f4, la_f5, la_f6, la_f7, la_f8, la_f9, la_f10, la_f11, la_r0, la_r1, la_r2, la_r3, la_r4, la_r5, la_r6, la_r7, la_a1, la_a2, la_a3, la_a4, la_a5, la_a6, la_a15, la_a16, la_m, la_am, le_r, lit_0, lit_1, lit_2, lit_3, lit_4, lit_5, lit_6, lit_7, lit_8, lit_9, lit_10, lit_11, lit_12, lit_16, lit_17, lit_20, lit_31, lit_32, lit_40, lit_47, lit_48, lit_49, lit_57, lit_58, lit_60, lit_64, lit_68, lit_80, lit_97, lit_99, lit_100, lit_101, lit_104, lit_108, lit_109, lit_115, lit_117, lit_121, lit_127, lit_128, lit_140, lit_1000, lit_1000000, lit_1048576, bI_ret, bV_ret, bL_ret, bH_t, cond_true, z_0, z_1, retZ_tf, z_tf0, z_tf1, Decidable.not_not, Classical.not_not, nI_add, nI_clamp, n_le, n_lt, n_eq, nI_or, nI_and, z_sdf, of_nI, L_l r]
    exact if_pos (Nat.le_refl _)
theorem c_dgM (w : WF v) (r : CLd 3 v h) (y : Int64) : loopC La_digestFrom_54 FU (3, y, nI 0, h) = retL (itN (dgE v) (v 8 0) (itN (dgM v) (v 3 0) y)) h := by
  have hm := wf_m w
  have hL := isL_3
  refine loop_for (N := v 3 0) (fun i => (3, itN (dgM v) i y, nI i, h)) rfl (by show _ < 4096; omega) (fun i κ hi => ?_) (fun κ => ?_)
  · simp (disch := first | assumption | omega) only [La_digestFrom_54, la_O, la_f0, la_f1, la_f2, la_f3, la_f4, la_f5, la_f6, la_f7, la_f8, la_f9, la_f10, la_f11, la_r0, la_r1, la_r2, la_r3, la_r4, la_r5, la_r6, la_r7, la_a1, la_a2, la_a3, la_a4, la_a5, la_a6, la_a15, la_a16, la_m, la_am, le_r, lit_0, lit_1, lit_2, lit_3, lit_4, lit_5, lit_6, lit_7, lit_8, lit_9, lit_10, lit_11, lit_12, lit_16, lit_17, lit_20, lit_31, lit_32, lit_40, lit_47, lit_48, lit_49, lit_57, lit_58, lit_60, lit_64, lit_68, lit_80, lit_97, lit_99, lit_100, lit_101, lit_104, lit_108, lit_109, lit_115, lit_117, lit_121, lit_127, lit_128, lit_140, lit_1000, lit_1000000, lit_1048576, bI_ret, bV_ret, bL_ret, bH_t, cond_true, z_0, z_1, retZ_tf, z_tf0, z_tf1, Decidable.not_not, Classical.not_not, nI_add, nI_clamp, n_le, n_lt, n_eq, nI_or, nI_and, z_sdf, of_nI, L_m r, L_a r hi, L_b r hi, L_t r hi]
    rw [if_neg (by omega)]
    rfl
  · simp (disch := first | assumption | omega) only [La_digestFrom_54, la_O, la_f0, la_f1, la_f2, la_f3, la_f4, la_f5, la_f6, la_f7, la_f8, la_f9, la_f10, la_f11, la_r0, la_r1, la_r2, la_r3, la_r4, la_r5, la_r6, la_r7, la_a1, la_a2, la_a3, la_a4, la_a5, la_a6, la_a15, la_a16, la_m, la_am, le_r, lit_0, lit_1, lit_2, lit_3, lit_4, lit_5, lit_6, lit_7, lit_8, lit_9, lit_10, lit_11, lit_12, lit_16, lit_17, lit_20, lit_31, lit_32, lit_40, lit_47, lit_48, lit_49, lit_57, lit_58, lit_60, lit_64, lit_68, lit_80, lit_97, lit_99, lit_100, lit_101, lit_104, lit_108, lit_109, lit_115, lit_117, lit_121, lit_127, lit_128, lit_140, lit_1000, lit_1000000, lit_1048576, bI_ret, bV_ret, bL_ret, bH_t, cond_true, z_0, z_1, retZ_tf, z_tf0, z_tf1, Decidable.not_not, Classical.not_not, nI_add, nI_clamp, n_le, n_lt, n_eq, nI_or, nI_and, z_sdf, of_nI, L_m r, c_dgE w r]
    exact if_pos (Nat.le_refl _)
theorem c_dgL (w : WF v) (r : CLd 3 v h) (y : Int64) : F_La_digestFrom 3 y h = retL (dgL v y) h := by
  have hn := w.1
  have hL := isL_3
  unfold F_La_digestFrom dgL
  refine loop_for (N := v 0 0) (fun i => (3, itN (dgH v) i y, nI i, h)) rfl (by show _ < 4096; omega) (fun i κ hi => ?_) (fun κ => ?_)
  · have H : ∀ z, loopC (La_digestFrom_17 κ) FU (3, z, nI i, nI 0, h) = κ (3, mxs z (fun a => nI (fct v i a)) 4, nI (i + 1), h) := fun z => by
      refine loop_for (N := 4) (fun j => (3, mxs z (fun a => nI (fct v i a)) j, nI i, nI j, h)) rfl (by show _ < 4096; omega) (fun j κ2 hj => ?_) (fun κ2 => ?_)
      · simp (disch := first | assumption | omega) only [La_digestFrom_17, la_O, la_f0, la_f1, la_f2, la_f3, la_f4, la_f5, la_f6, la_f7, la_f8, la_f9, la_f10, la_f11, la_r0, la_r1, la_r2, la_r3, la_r4, la_r5, la_r6, la_r7, la_a1, la_a2, la_a3, la_a4, la_a5, la_a6, la_a15, la_a16, la_m, la_am, le_r, lit_0, lit_1, lit_2, lit_3, lit_4, lit_5, lit_6, lit_7, lit_8, lit_9, lit_10, lit_11, lit_12, lit_16, lit_17, lit_20, lit_31, lit_32, lit_40, lit_47, lit_48, lit_49, lit_57, lit_58, lit_60, lit_64, lit_68, lit_80, lit_97, lit_99, lit_100, lit_101, lit_104, lit_108, lit_109, lit_115, lit_117, lit_121, lit_127, lit_128, lit_140, lit_1000, lit_1000000, lit_1048576, bI_ret, bV_ret, bL_ret, bH_t, cond_true, z_0, z_1, retZ_tf, z_tf0, z_tf1, Decidable.not_not, Classical.not_not, nI_add, nI_clamp, n_le, n_lt, n_eq, nI_or, nI_and, z_sdf, of_nI, c_factOf isL_3 w r hi hj]
        rw [if_neg (by omega)]
        rfl
      · simp (disch := first | assumption | omega) only [La_digestFrom_17, la_O, la_f0, la_f1, la_f2, la_f3, la_f4, la_f5, la_f6, la_f7, la_f8, la_f9, la_f10, la_f11, la_r0, la_r1, la_r2, la_r3, la_r4, la_r5, la_r6, la_r7, la_a1, la_a2, la_a3, la_a4, la_a5, la_a6, la_a15, la_a16, la_m, la_am, le_r, lit_0, lit_1, lit_2, lit_3, lit_4, lit_5, lit_6, lit_7, lit_8, lit_9, lit_10, lit_11, lit_12, lit_16, lit_17, lit_20, lit_31, lit_32, lit_40, lit_47, lit_48, lit_49, lit_57, lit_58, lit_60, lit_64, lit_68, lit_80, lit_97, lit_99, lit_100, lit_101, lit_104, lit_108, lit_109, lit_115, lit_117, lit_121, lit_127, lit_128, lit_140, lit_1000, lit_1000000, lit_1048576, bI_ret, bV_ret, bL_ret, bH_t, cond_true, z_0, z_1, retZ_tf, z_tf0, z_tf1, Decidable.not_not, Classical.not_not, nI_add, nI_clamp, n_le, n_lt, n_eq, nI_or, nI_and, z_sdf, of_nI]
        exact if_pos (by decide)
    simp (disch := first | assumption | omega) only [La_digestFrom_5, la_O, la_f0, la_f1, la_f2, la_f3, la_f4, la_f5, la_f6, la_f7, la_f8, la_f9, la_f10, la_f11, la_r0, la_r1, la_r2, la_r3, la_r4, la_r5, la_r6, la_r7, la_a1, la_a2, la_a3, la_a4, la_a5, la_a6, la_a15, la_a16, la_m, la_am, le_r, lit_0, lit_1, lit_2, lit_3, lit_4, lit_5, lit_6, lit_7, lit_8, lit_9, lit_10, lit_11, lit_12, lit_16, lit_17, lit_20, lit_31, lit_32, lit_40, lit_47, lit_48, lit_49, lit_57, lit_58, lit_60, lit_64, lit_68, lit_80, lit_97, lit_99, lit_100, lit_101, lit_104, lit_108, lit_109, lit_115, lit_117, lit_121, lit_127, lit_128, lit_140, lit_1000, lit_1000000, lit_1048576, bI_ret, bV_ret, bL_ret, bH_t, cond_true, z_0, z_1, retZ_tf, z_tf0, z_tf1, Decidable.not_not, Classical.not_not, nI_add, nI_clamp, n_le, n_lt, n_eq, nI_or, nI_and, z_sdf, of_nI, L_n r, H]
    rw [if_neg (by omega)]
    rfl
  · simp (disch := first | assumption | omega) only [La_digestFrom_5, la_O, la_f0, la_f1, la_f2, la_f3, la_f4, la_f5, la_f6, la_f7, la_f8, la_f9, la_f10, la_f11, la_r0, la_r1, la_r2, la_r3, la_r4, la_r5, la_r6, la_r7, la_a1, la_a2, la_a3, la_a4, la_a5, la_a6, la_a15, la_a16, la_m, la_am, le_r, lit_0, lit_1, lit_2, lit_3, lit_4, lit_5, lit_6, lit_7, lit_8, lit_9, lit_10, lit_11, lit_12, lit_16, lit_17, lit_20, lit_31, lit_32, lit_40, lit_47, lit_48, lit_49, lit_57, lit_58, lit_60, lit_64, lit_68, lit_80, lit_97, lit_99, lit_100, lit_101, lit_104, lit_108, lit_109, lit_115, lit_117, lit_121, lit_127, lit_128, lit_140, lit_1000, lit_1000000, lit_1048576, bI_ret, bV_ret, bL_ret, bH_t, cond_true, z_0, z_1, retZ_tf, z_tf0, z_tf1, Decidable.not_not, Classical.not_not, nI_add, nI_clamp, n_le, n_lt, n_eq, nI_or, nI_and, z_sdf, of_nI, L_n r, c_dgM w r]
    exact if_pos (Nat.le_refl _)
theorem c_dg4 (cs : CS h) (y : Int64) : loopC Bp_digest_110 FU (y, nI 0, h) = retL (itN (fun t => dgS h (6 + t)) 4 y) h := by
  refine loop_for (N := 4) (fun i => (itN (fun t => dgS h (6 + t)) i y, nI i, h)) rfl (by show _ < 4096; omega) (fun i κ hi => ?_) (fun κ => ?_)
  · have s10 : 6 + i < 10 := by omega
    have e := c_shDig s10 (cs _ s10)
    simp (disch := first | assumption | omega) only [Bp_digest_110, lit_0, lit_1, lit_2, lit_3, lit_4, lit_5, lit_6, lit_7, lit_8, lit_9, lit_10, lit_11, lit_12, lit_16, lit_17, lit_20, lit_31, lit_32, lit_40, lit_47, lit_48, lit_49, lit_57, lit_58, lit_60, lit_64, lit_68, lit_80, lit_97, lit_99, lit_100, lit_101, lit_104, lit_108, lit_109, lit_115, lit_117, lit_121, lit_127, lit_128, lit_140, lit_1000, lit_1000000, lit_1048576, bI_ret, bV_ret, bL_ret, bH_t, cond_true, z_0, z_1, retZ_tf, z_tf0, z_tf1, Decidable.not_not, Classical.not_not, nI_add, nI_clamp, n_le, n_lt, n_eq, nI_or, nI_and, z_sdf, of_nI, oR_2, sR_2, sh_t, sh_O s10, e]
    rw [if_neg (by omega)]
    rfl
  · simp (disch := first | assumption | omega) only [Bp_digest_110, lit_0, lit_1, lit_2, lit_3, lit_4, lit_5, lit_6, lit_7, lit_8, lit_9, lit_10, lit_11, lit_12, lit_16, lit_17, lit_20, lit_31, lit_32, lit_40, lit_47, lit_48, lit_49, lit_57, lit_58, lit_60, lit_64, lit_68, lit_80, lit_97, lit_99, lit_100, lit_101, lit_104, lit_108, lit_109, lit_115, lit_117, lit_121, lit_127, lit_128, lit_140, lit_1000, lit_1000000, lit_1048576, bI_ret, bV_ret, bL_ret, bH_t, cond_true, z_0, z_1, retZ_tf, z_tf0, z_tf1, Decidable.not_not, Classical.not_not, nI_add, nI_clamp, n_le, n_lt, n_eq, nI_or, nI_and, z_sdf, of_nI]
    exact if_pos (by decide)
theorem c_dg3 (cs : CS h) (y : Int64) : loopC Bp_digest_85 FU (y, nI 0, h) = retL (itN (fun t => dgS h (6 + t)) 4 (itN (dgS h) 6 y)) h := by
  refine loop_for (N := 6) (fun i => (itN (dgS h) i y, nI i, h)) rfl (by show _ < 4096; omega) (fun i κ hi => ?_) (fun κ => ?_)
  · have s10 : i < 10 := by omega
    have e := c_shDig s10 (cs _ s10)
    simp (disch := first | assumption | omega) only [Bp_digest_85, lit_0, lit_1, lit_2, lit_3, lit_4, lit_5, lit_6, lit_7, lit_8, lit_9, lit_10, lit_11, lit_12, lit_16, lit_17, lit_20, lit_31, lit_32, lit_40, lit_47, lit_48, lit_49, lit_57, lit_58, lit_60, lit_64, lit_68, lit_80, lit_97, lit_99, lit_100, lit_101, lit_104, lit_108, lit_109, lit_115, lit_117, lit_121, lit_127, lit_128, lit_140, lit_1000, lit_1000000, lit_1048576, bI_ret, bV_ret, bL_ret, bH_t, cond_true, z_0, z_1, retZ_tf, z_tf0, z_tf1, Decidable.not_not, Classical.not_not, nI_add, nI_clamp, n_le, n_lt, n_eq, nI_or, nI_and, z_sdf, of_nI, oR_1, sR_1, sh_O s10, e]
    rw [if_neg (by omega)]
    rfl
  · simp (disch := first | assumption | omega) only [Bp_digest_85, lit_0, lit_1, lit_2, lit_3, lit_4, lit_5, lit_6, lit_7, lit_8, lit_9, lit_10, lit_11, lit_12, lit_16, lit_17, lit_20, lit_31, lit_32, lit_40, lit_47, lit_48, lit_49, lit_57, lit_58, lit_60, lit_64, lit_68, lit_80, lit_97, lit_99, lit_100, lit_101, lit_104, lit_108, lit_109, lit_115, lit_117, lit_121, lit_127, lit_128, lit_140, lit_1000, lit_1000000, lit_1048576, bI_ret, bV_ret, bL_ret, bH_t, cond_true, z_0, z_1, retZ_tf, z_tf0, z_tf1, Decidable.not_not, Classical.not_not, nI_add, nI_clamp, n_le, n_lt, n_eq, nI_or, nI_and, z_sdf, of_nI, c_dg4 cs]
    exact if_pos (by decide)
theorem c_dg2 (cs : CS h) (y : Int64) : loopC Bp_digest_42 FU (y, nI 0, h) = retL (itN (fun t => dgS h (6 + t)) 4 (itN (dgS h) 6 (mxs y (kpV h) 3))) h := by
  refine loop_for (N := 3) (fun i => (mxs y (kpV h) i, nI i, h)) rfl (by show _ < 4096; omega) (fun i κ hi => ?_) (fun κ => ?_)
  · have f11 := la_f11 (isL_k hi)
    have o1 := oR_61 hi
    have o2 := sR_61 hi
    simp (disch := first | assumption | omega) only [Bp_digest_42, lit_0, lit_1, lit_2, lit_3, lit_4, lit_5, lit_6, lit_7, lit_8, lit_9, lit_10, lit_11, lit_12, lit_16, lit_17, lit_20, lit_31, lit_32, lit_40, lit_47, lit_48, lit_49, lit_57, lit_58, lit_60, lit_64, lit_68, lit_80, lit_97, lit_99, lit_100, lit_101, lit_104, lit_108, lit_109, lit_115, lit_117, lit_121, lit_127, lit_128, lit_140, lit_1000, lit_1000000, lit_1048576, bI_ret, bV_ret, bL_ret, bH_t, cond_true, z_0, z_1, retZ_tf, z_tf0, z_tf1, Decidable.not_not, Classical.not_not, nI_add, nI_clamp, n_le, n_lt, n_eq, nI_or, nI_and, z_sdf, of_nI, oA_62, o1, o2, f11]
    rw [if_neg (by omega)]
    by_cases q : hg h 62 i = nI 0
    · have e : kpV h i = -nI 1 := if_pos q
      rw [if_pos q]
      show _ = κ (mx (mxs y (kpV h) i) (kpV h i), nI (i + 1), h)
      rw [e]
      rfl
    · have e : kpV h i = hg h (91 + 29 * i) 11 := if_neg q
      rw [if_neg q]
      show _ = κ (mx (mxs y (kpV h) i) (kpV h i), nI (i + 1), h)
      rw [e]
      rfl
  · simp (disch := first | assumption | omega) only [Bp_digest_42, lit_0, lit_1, lit_2, lit_3, lit_4, lit_5, lit_6, lit_7, lit_8, lit_9, lit_10, lit_11, lit_12, lit_16, lit_17, lit_20, lit_31, lit_32, lit_40, lit_47, lit_48, lit_49, lit_57, lit_58, lit_60, lit_64, lit_68, lit_80, lit_97, lit_99, lit_100, lit_101, lit_104, lit_108, lit_109, lit_115, lit_117, lit_121, lit_127, lit_128, lit_140, lit_1000, lit_1000000, lit_1048576, bI_ret, bV_ret, bL_ret, bH_t, cond_true, z_0, z_1, retZ_tf, z_tf0, z_tf1, Decidable.not_not, Classical.not_not, nI_add, nI_clamp, n_le, n_lt, n_eq, nI_or, nI_and, z_sdf, of_nI, c_dg3 cs]
    exact if_pos (by decide)
theorem c_digest (w : WF v) (r : CLd 3 v h) (cs : CS h) : F_Bp_digest h = retL (dgA v h) h := by
  unfold F_Bp_digest
  refine loop_for (N := 9) (fun i => (mxs 17 (fun a => nI (tlV v h a)) i, nI i, h)) rfl (by show _ < 4096; omega) (fun i κ hi => ?_) (fun κ => ?_)
  · simp (disch := first | assumption | omega) only [Bp_digest_6, lit_0, lit_1, lit_2, lit_3, lit_4, lit_5, lit_6, lit_7, lit_8, lit_9, lit_10, lit_11, lit_12, lit_16, lit_17, lit_20, lit_31, lit_32, lit_40, lit_47, lit_48, lit_49, lit_57, lit_58, lit_60, lit_64, lit_68, lit_80, lit_97, lit_99, lit_100, lit_101, lit_104, lit_108, lit_109, lit_115, lit_117, lit_121, lit_127, lit_128, lit_140, lit_1000, lit_1000000, lit_1048576, bI_ret, bV_ret, bL_ret, bH_t, cond_true, z_0, z_1, retZ_tf, z_tf0, z_tf1, Decidable.not_not, Classical.not_not, nI_add, nI_clamp, n_le, n_lt, n_eq, nI_or, nI_and, z_sdf, of_nI, c_count w r hi]
    rw [if_neg (by omega)]
    rfl
  · simp (disch := first | assumption | omega) only [Bp_digest_6, lit_0, lit_1, lit_2, lit_3, lit_4, lit_5, lit_6, lit_7, lit_8, lit_9, lit_10, lit_11, lit_12, lit_16, lit_17, lit_20, lit_31, lit_32, lit_40, lit_47, lit_48, lit_49, lit_57, lit_58, lit_60, lit_64, lit_68, lit_80, lit_97, lit_99, lit_100, lit_101, lit_104, lit_108, lit_109, lit_115, lit_117, lit_121, lit_127, lit_128, lit_140, lit_1000, lit_1000000, lit_1048576, bI_ret, bV_ret, bL_ret, bH_t, cond_true, z_0, z_1, retZ_tf, z_tf0, z_tf1, Decidable.not_not, Classical.not_not, nI_add, nI_clamp, n_le, n_lt, n_eq, nI_or, nI_and, z_sdf, of_nI, c_dgL w r, c_dg2 cs]
    exact if_pos (by decide)
end DGC
