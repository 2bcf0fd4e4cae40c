/-! THE READING, the given one's steps -/
theorem nI_cl {c : Int32} {a : Nat} (ha : a < 2 ^ 31) (e : c = nI a) : c.toNatClampNeg = a := by rw [e, nI_clamp ha]
section CSTEP
variable {v : LV} {g : Hp} {t n p : Nat} {f : Nat → Int32}
theorem c_rdStep (ht : t < 4) (hn : n ≤ 80) (c : CT t n f g) (hp : p < n) (κ : (Nat × Int32 × Hp) → Res Hp) : Re_faultOf_14 (83 + 2 * t, nI p, g) κ = bI (F_Re_takes (f p) g) fun v h => if v = 0 then retI (nI p) h else κ (83 + 2 * t, nI (p + 1), h) := by
  have s10 : 6 + t < 10 := by omega
  have hcap : cap (6 + t) = 80 := if_neg (by omega)
  have e0 : 71 + 2 * (6 + t) = 83 + 2 * t := by omega
  have e1 : 72 + 2 * (6 + t) = 84 + 2 * t := by omega
  have f1 := sh_F1 s10
  have f0 := sh_F0 s10
  have fR := sh_R s10
  have fA := sh_A s10 (show p < cap (6 + t) by omega)
  rw [e0] at f1 f0 fR
  rw [e1] at fR fA
  unfold Re_faultOf_14
  dsimp only
  rw [f1, cond_true, c.1, if_neg (nle_nI (by omega) (by omega) (by omega)), f0, cond_true, fR, fA, cond_true, nI_clamp (by omega), c.2 p hp, nI_s]
theorem c_rdEnd (ht : t < 4) (hn : n ≤ 80) (c : CT t n f g) (κ : (Nat × Int32 × Hp) → Res Hp) : Re_faultOf_14 (83 + 2 * t, nI n, g) κ = if hg g 63 1 < 2 then retI (-9) g else retI (nI n) g := by
  have s10 : 6 + t < 10 := by omega
  have e0 : 71 + 2 * (6 + t) = 83 + 2 * t := by omega
  have f1 := sh_F1 s10
  rw [e0] at f1
  unfold Re_faultOf_14
  dsimp only
  rw [f1, cond_true, c.1, if_pos (le_nI (by omega) (by omega) (Nat.le_refl n)), cond_true]
theorem tk_0 {c : Int32} (e : hg g 63 1 = 0) : F_Re_takes c g = bI (F_Re_takesStart c g) fun v h => retZ v h := by
  unfold F_Re_takes
  by_cases a : c < 48
  · rw [if_pos a, e, if_neg (show ¬ (0 : Int32) = 1 by decide), if_neg (show ¬ (0 : Int32) = 2 by decide), if_neg (show ¬ (0 : Int32) = 3 by decide), if_neg (show ¬ (0 : Int32) = 4 by decide)]
  · by_cases b : 57 < c
    · rw [if_neg a, if_pos b, e, if_neg (show ¬ (0 : Int32) = 1 by decide), if_neg (show ¬ (0 : Int32) = 2 by decide), if_neg (show ¬ (0 : Int32) = 3 by decide), if_neg (show ¬ (0 : Int32) = 4 by decide)]
    · rw [if_neg a, if_neg b, e, if_neg (show ¬ (0 : Int32) = 1 by decide), if_neg (show ¬ (0 : Int32) = 2 by decide), if_neg (show ¬ (0 : Int32) = 3 by decide), if_neg (show ¬ (0 : Int32) = 4 by decide)]
theorem tk_1 {c : Int32} (e : hg g 63 1 = 1) : F_Re_takes c g = bI (F_Re_takesTongue (fg c) g) fun v h => if v = 0 then (bI (F_Re_takesStart c h) fun v4 h3 => if v4 = 0 then retZ 0 h3 else retZ 1 h3) else retZ 1 h := by
  unfold F_Re_takes fg
  by_cases a : c < 48
  · rw [if_pos a, if_pos a, e, if_pos rfl]
  · by_cases b : 57 < c
    · rw [if_neg a, if_neg a, if_pos b, if_pos b, e, if_pos rfl]
    · rw [if_neg a, if_neg a, if_neg b, if_neg b, e, if_pos rfl]
theorem tk_2 {c : Int32} (e : hg g 63 1 = 2) : F_Re_takes c g = bI (F_Re_takesOne (fg c) g) fun v h => retZ v h := by
  unfold F_Re_takes fg
  by_cases a : c < 48
  · rw [if_pos a, if_pos a, e, if_neg (show ¬ (2 : Int32) = 1 by decide), if_pos rfl]
  · by_cases b : 57 < c
    · rw [if_neg a, if_neg a, if_pos b, if_pos b, e, if_neg (show ¬ (2 : Int32) = 1 by decide), if_pos rfl]
    · rw [if_neg a, if_neg a, if_neg b, if_neg b, e, if_neg (show ¬ (2 : Int32) = 1 by decide), if_pos rfl]
theorem tk_3 {c : Int32} (e : hg g 63 1 = 3) : F_Re_takes c g = bI (F_Re_takesOther (fg c) g) fun v h => retZ v h := by
  unfold F_Re_takes fg
  by_cases a : c < 48
  · rw [if_pos a, if_pos a, e, if_neg (show ¬ (3 : Int32) = 1 by decide), if_neg (show ¬ (3 : Int32) = 2 by decide), if_pos rfl]
  · by_cases b : 57 < c
    · rw [if_neg a, if_neg a, if_pos b, if_pos b, e, if_neg (show ¬ (3 : Int32) = 1 by decide), if_neg (show ¬ (3 : Int32) = 2 by decide), if_pos rfl]
    · rw [if_neg a, if_neg a, if_neg b, if_neg b, e, if_neg (show ¬ (3 : Int32) = 1 by decide), if_neg (show ¬ (3 : Int32) = 2 by decide), if_pos rfl]
theorem tk_4 {c : Int32} (e : hg g 63 1 = 4) : F_Re_takes c g = bI (F_Re_takesTime (fg c) g) fun v h => retZ v h := by
  unfold F_Re_takes fg
  by_cases a : c < 48
  · rw [if_pos a, if_pos a, e, if_neg (show ¬ (4 : Int32) = 1 by decide), if_neg (show ¬ (4 : Int32) = 2 by decide), if_neg (show ¬ (4 : Int32) = 3 by decide), if_pos rfl]
  · by_cases b : 57 < c
    · rw [if_neg a, if_neg a, if_pos b, if_pos b, e, if_neg (show ¬ (4 : Int32) = 1 by decide), if_neg (show ¬ (4 : Int32) = 2 by decide), if_neg (show ¬ (4 : Int32) = 3 by decide), if_pos rfl]
    · rw [if_neg a, if_neg a, if_neg b, if_neg b, e, if_neg (show ¬ (4 : Int32) = 1 by decide), if_neg (show ¬ (4 : Int32) = 2 by decide), if_neg (show ¬ (4 : Int32) = 3 by decide), if_pos rfl]
theorem one0 : ¬ (1 : Int32) = 0 := by decide
/-- a place where the item begins -/
theorem c_begin (ht : t < 4) (hn : n ≤ 80) (c : CT t n f g) (hp : p < n) (st : hg g 63 1 = 0 ∨ (hg g 63 1 = 1 ∧ fg (f p) = -9)) {b : Int32} {h' : Hp} (hb : b = 0 ∨ b = 1) (e : F_Re_takesStart (f p) g = retI b h') (κ : (Nat × Int32 × Hp) → Res Hp) : Re_faultOf_14 (83 + 2 * t, nI p, g) κ = if b = 0 then retI (nI p) h' else κ (83 + 2 * t, nI (p + 1), h') := by
  rw [c_rdStep ht hn c hp]
  rcases st with st | ⟨st, e9⟩
  · rw [tk_0 st, e, bI_ret]
    rcases hb with rfl | rfl
    · rw [retZ_0, bI_ret]
    · rw [retZ_1, bI_ret]
  · have eT : F_Re_takesTongue (-9) g = retI 0 g := by
      unfold F_Re_takesTongue
      rw [c_noTongue, bI_ret, tf_t (show ¬ inR (-9) 5 by decide)]
      exact (if_neg one0).trans (retZ_0 g)
    rw [tk_1 st, e9, eT, bI_ret, if_pos rfl, e, bI_ret]
    rcases hb with rfl | rfl
    · rw [if_pos rfl, retZ_0, bI_ret]
    · rw [if_neg one0, retZ_1, bI_ret]
theorem st_blank : F_Re_takesStart 32 g = retI 1 (hs g 63 1 0) := by
  unfold F_Re_takesStart
  rw [if_pos rfl, bH_t, retZ_1]
theorem st_m (r : CLd 32 v g) (hm : v 3 0 ≤ 16) : F_Re_takesStart 109 g = retI (if 16 ≤ v 3 0 then 0 else 1) (hs g 63 1 2) := by
  have e9 : hg (hs g 63 1 2) 32 9 = nI (v 3 0) := (hg_hs_a (by decide)).trans (L_m r)
  unfold F_Re_takesStart
  rw [if_neg (by decide), if_pos rfl, bH_t, e9]
  by_cases q : 16 ≤ v 3 0
  · rw [if_pos (show (16 : Int32) ≤ nI (v 3 0) from le_nI (b := 16) (by omega) (by decide) q), if_pos q, retZ_0]
  · rw [if_neg (show ¬ (16 : Int32) ≤ nI (v 3 0) from nle_nI (b := 16) (by omega) (by decide) q), if_neg q, retZ_1]
theorem st_no {c : Int32} (w : WF v) (r : CLd 32 v g) (h1 : ¬ c = 32) (h2 : ¬ c = 109) (q : kd c = 9 ∨ 0 < v 3 0 ∨ ¬ v 0 0 < 7) : F_Re_takesStart c g = retI 0 g := by
  have e9 : hg g 32 9 = nI (v 3 0) := L_m r
  have e8 : hg g 32 8 = nI (v 0 0) := L_n r
  have hn := w.1
  have hm := wf_m w
  unfold F_Re_takesStart
  rw [if_neg h1, if_neg h2, c_kindBy, bI_ret]
  by_cases a : kd c = 9
  · rw [kv_9 a, if_pos rfl, retZ_0]
  · have k6 := kd_lt c
    have k9 : ¬ nI (kd c) = (-9 : Int32) := fun z => (nI_eq9 (show kd c < 2 ^ 31 by omega)).mp z
    rw [kv_n a, if_neg k9, e9]
    by_cases b : 0 < v 3 0
    · have : (0 : Int32) < nI (v 3 0) := (nI_ltI (a := 0) (by decide) (by omega)).mpr b
      rw [if_pos this, retZ_0]
    · have b2 : ¬ (0 : Int32) < nI (v 3 0) := fun z => b ((nI_ltI (a := 0) (by decide) (by omega)).mp z)
      have b3 : ¬ nI (v 0 0) < (7 : Int32) := fun z => by
        have := (nI_ltI (b := 7) (by omega) (by decide)).mp z
        omega
      rw [if_neg b2, e8, if_neg b3, retZ_0]
theorem st_hand {c : Int32} (w : WFp v) (r : CLd 32 v g) (h1 : ¬ c = 32) (h2 : ¬ c = 109) (h3 : ¬ kd c = 9) (h4 : v 3 0 = 0) (h5 : v 0 0 < 7) : ∃ g1, F_Re_takesStart c g = retI 1 g1 ∧ CLd 32 (hnd v (kd c) 0) g1 ∧ hg g1 63 1 = nI 1 ∧ hg g1 63 2 = -nI 9 ∧ frP g g1 := by
  have e9 : hg g 32 9 = nI 0 := (L_m r).trans (by rw [h4])
  have e8 : hg g 32 8 = nI (v 0 0) := L_n r
  have k6 := kd_lt c
  have k9 : ¬ nI (kd c) = (-9 : Int32) := fun z => (nI_eq9 (show kd c < 2 ^ 31 by omega)).mp z
  have b2 : ¬ (0 : Int32) < nI 0 := by decide
  have b3 : nI (v 0 0) < (7 : Int32) := (nI_ltI (b := 7) (by omega) (by decide)).mpr h5
  have hL : isL 32 := isL_32
  have eA : F_La_addHand 32 (nI (kd c)) g = retV (hs (hs (hs g (32 + 1) (v 0 0) (nI (kd c))) (32 + 2) (v 0 0) (nI 0)) 32 8 (nI (v 0 0 + 1))) := by
    unfold F_La_addHand
    simp (disch := first | assumption | omega) only [la_O, la_f0, la_f1, la_f2, la_f3, la_f4, la_f5, la_f6, la_f7, la_f8, la_f9, la_f10, la_f11, la_r0, la_r1, la_r2, la_r3, la_r4, la_r5, la_r6, la_r7, la_a1, la_a2, la_a3, la_a4, la_a5, la_a6, la_a15, la_a16, la_m, la_am, le_r, lit_0, lit_1, lit_2, lit_3, lit_4, lit_5, lit_6, lit_7, lit_8, lit_9, lit_10, lit_11, lit_12, lit_16, lit_17, lit_20, lit_31, lit_32, lit_40, lit_47, lit_48, lit_49, lit_57, lit_58, lit_60, lit_64, lit_68, lit_80, lit_97, lit_99, lit_100, lit_101, lit_104, lit_108, lit_109, lit_115, lit_117, lit_121, lit_127, lit_128, lit_140, lit_1000, lit_1000000, lit_1048576, bI_ret, bV_ret, bL_ret, bH_t, cond_true, z_0, z_1, retZ_tf, z_tf0, z_tf1, Decidable.not_not, Classical.not_not, nI_add, nI_clamp, n_le, n_lt, n_eq, nI_or, nI_and, z_sdf, of_nI, e8, hg_hs_a]
    rw [if_neg (by omega)]
  refine ⟨hs (hs (hs (hs (hs g (32 + 1) (v 0 0) (nI (kd c))) (32 + 2) (v 0 0) (nI 0)) 32 8 (nI (v 0 0 + 1))) 63 1 1) 63 2 (-9), ?_, CLd_hnd w r ?_ ?_ ?_ (fun a j n1 n2 n3 n4 => ?_), ?_, hg_hs_eq _ _ _ _, fun a j n1 n2 => ?_⟩
  · unfold F_Re_takesStart
    rw [if_neg h1, if_neg h2, c_kindBy, bI_ret, kv_n h3, if_neg k9, e9, if_neg b2, e8, if_pos b3, eA, bV_ret, bH_t, bH_t, retZ_1]
  · rw [hg_hs_a (by decide), hg_hs_a (by decide), hg_hs_eq]
  · rw [hg_hs_a (by decide), hg_hs_a (by decide), hg_hs_a (by decide), hg_hs_a (by decide)]
    exact hg_hs_eq _ _ _ _
  · rw [hg_hs_a (by decide), hg_hs_a (by decide), hg_hs_a (by decide)]
    exact hg_hs_eq _ _ _ _
  · rw [hg_hs_a n4, hg_hs_a n4, hg_hs2, if_neg n1, hg_hs2, if_neg n3, hg_hs2, if_neg n2]
  · rw [hg_hs_k (by decide), hg_hs_eq]; rfl
  · rw [hg_hs_a n2, hg_hs_a n2, hg_hs_a (by omega), hg_hs_a (by omega), hg_hs_a (by omega)]
end CSTEP
