/-! THE READING of a meeting, on both sides -/
section MEET
variable {v : LV} {g : Hp} {t n p : Nat} {f : Nat → Int32}
theorem c_one (ht : t < 4) (hn : n ≤ 80) (c : CT t n f g) (hp : p < n) (w : WF v) (r : CLd 32 v g) (st : hg g 63 1 = 2) (κ : (Nat × Int32 × Hp) → Res Hp) : Re_faultOf_14 (83 + 2 * t, nI p, g) κ = if inRb (fg (f p)) (v 0 0) = true then κ (83 + 2 * t, nI (p + 1), hs (hs g 63 3 (fg (f p))) 63 1 3) else retI (nI p) (hs (hs g 63 3 (fg (f p))) 63 1 3) := by
  rw [c_rdStep ht hn c hp, tk_2 st]
  unfold F_Re_takesOne
  rw [bH_t, bH_t, c_lacks isL_32 w (CLd_63 w (CLd_63 w r)), bI_ret]
  by_cases q : inRb (fg (f p)) (v 0 0) = true
  · rw [tf_f (fun z => z q), if_pos rfl, retZ_1, bI_ret, retZ_1, bI_ret, if_neg one0, if_pos q]
  · rw [tf_t q, if_neg one0, retZ_0, bI_ret, retZ_0, bI_ret, if_pos rfl, if_neg q]
theorem c_other (ht : t < 4) (hn : n ≤ 80) (c : CT t n f g) (hp : p < n) (w : WF v) (r : CLd 32 v g) (st : hg g 63 1 = 3) (κ : (Nat × Int32 × Hp) → Res Hp) : Re_faultOf_14 (83 + 2 * t, nI p, g) κ = if inRb (fg (f p)) (v 0 0) = true ∧ ¬ fg (f p) = hg g 63 3 then κ (83 + 2 * t, nI (p + 1), hs (hs g 63 4 (fg (f p))) 63 1 4) else retI (nI p) (hs (hs g 63 4 (fg (f p))) 63 1 4) := by
  have e3 : hg (hs (hs g 63 4 (fg (f p))) 63 1 4) 63 3 = hg g 63 3 := by rw [hg_hs_k (by decide), hg_hs_k (by decide)]
  rw [c_rdStep ht hn c hp, tk_3 st]
  unfold F_Re_takesOther
  rw [bH_t, bH_t, c_lacks isL_32 w (CLd_63 w (CLd_63 w r)), bI_ret]
  by_cases q : inRb (fg (f p)) (v 0 0) = true
  · rw [tf_f (fun z => z q), if_pos rfl, e3]
    by_cases z : fg (f p) = hg g 63 3
    · rw [if_pos z, retZ_0, bI_ret, retZ_0, bI_ret, if_pos rfl, if_neg (fun y => y.2 z)]
    · rw [if_neg z, retZ_1, bI_ret, retZ_1, bI_ret, if_neg one0, if_pos ⟨q, z⟩]
  · rw [tf_t q, if_neg one0, retZ_0, bI_ret, retZ_0, bI_ret, if_pos rfl, if_neg (fun y => q y.1)]
theorem tie_mtgo {o a b s : Nat} {h g : Hp} (r : CLd o v h) (e : ∀ p j, o + 7 ≤ p → p ≤ o + 15 → hg g p j = hg h p j) : TieN (mtg v a b s) (v 3 0) o g := by
  have k4 : ∀ k, k < v 3 0 → mtg v a b s 4 k = v 4 k := fun k hk => mtg_k hk (by decide)
  have k5 : ∀ k, k < v 3 0 → mtg v a b s 5 k = v 5 k := fun k hk => mtg_k hk (by decide)
  have k6 : ∀ k, k < v 3 0 → mtg v a b s 6 k = v 6 k := fun k hk => mtg_k hk (by decide)
  have hp : ∀ k x y, k < v 3 0 → pr (mtg v a b s) k x y = pr v k x y := fun k x y hk => by unfold pr; rw [k4 k hk, k5 k hk]
  refine ⟨fun s x hs9 hx => ?_, fun x hx => ?_⟩
  · rw [e _ _ (by omega) (by omega), L_mH r hs9 hx]
    congr 1
    exact ms_cong fun y _ => anyB_cong fun k hk => by rw [k6 k hk, hp k x y hk]
  · rw [e _ _ (by omega) (by omega), L_mE r hx]
    congr 1
    exact ms_cong fun y _ => anyB_cong fun k hk => by rw [hp k x y hk]
theorem CLd_mtg32 {a b s : Nat} {h g : Hp} (w : WFp v) (r : CLd 32 v h) (T : TieN (mtg v a b s) (v 3 0 + 1) 32 g) (e9 : hg g 32 9 = nI (v 3 0 + 1)) (e4 : hg g 35 (v 3 0) = nI a) (e5 : hg g 36 (v 3 0) = nI b) (e6 : hg g 37 (v 3 0) = nI s) (e : ∀ p j, ¬ (p = 32 ∧ j = 9) → ¬ (35 ≤ p ∧ p ≤ 37 ∧ j = v 3 0) → ¬ (39 ≤ p ∧ p ≤ 47) → hg g p j = hg h p j) : CLd 32 (mtg v a b s) g := by
  have o : ∀ f i, (f < 3 ∨ 6 < f) → mtg v a b s f i = v f i := fun f i q => mtg_o q
  obtain ⟨⟨a1, a2, a3, a4⟩, b0, c, d, f5, f⟩ := r
  unfold CLd metH met
  rw [mtg_3, o 0 0 (by omega), o 7 0 (by omega), o 8 0 (by omega)]
  refine ⟨⟨?_, e9, ?_, ?_⟩, fun y hy => ?_, fun k hk => ?_, fun s y hs9 hy => T.1 s y hs9 hy, fun y hy => T.2 y hy, fun l hl => absurd hl (by have := w.2.2; omega)⟩
  · rw [e _ _ (by omega) (by omega) (by omega)]; exact a1
  · rw [e _ _ (by omega) (by omega) (by omega)]; exact a3
  · rw [e _ _ (by omega) (by omega) (by omega)]; exact a4
  · rw [o 1 y (by omega), o 2 y (by omega), e _ _ (by omega) (by omega) (by omega), e _ _ (by omega) (by omega) (by omega)]; exact b0 y hy
  · by_cases q : k = v 3 0
    · subst q
      rw [mtg_4, mtg_5, mtg_6]
      exact ⟨e4, e5, e6⟩
    · have hk' : k < v 3 0 := by omega
      rw [mtg_k hk' (by decide), mtg_k hk' (by decide), mtg_k hk' (by decide), e _ _ (by omega) (by omega) (by omega), e _ _ (by omega) (by omega) (by omega), e _ _ (by omega) (by omega) (by omega)]
      exact c k hk'
theorem c_add32 {a b s : Nat} {h : Hp} (w : WFp v) (r : CLd 32 v h) (hm : v 3 0 < 16) (ha : a < v 0 0) (hb : b < v 0 0) (hab : a ≠ b) (hs8 : s < 8) : ∃ g, F_La_addMeeting 32 (nI a) (nI b) (nI s) h = retV g ∧ CLd 32 (mtg v a b s) g ∧ ∀ p j, ¬ (32 ≤ p ∧ p ≤ 60) → hg g p j = hg h p j := by
  have hn := w.1.1
  have e9 : hg h 32 9 = nI (v 3 0) := L_m r
  have q4 : mtg v a b s 4 (v 3 0) = a := mtg_4
  have q5 : mtg v a b s 5 (v 3 0) = b := mtg_5
  have q6 : mtg v a b s 6 (v 3 0) = s := mtg_6
  have T0 : TieN (mtg v a b s) (v 3 0) 32 (hs (hs (hs h (32 + 3) (v 3 0) (nI a)) (32 + 4) (v 3 0) (nI b)) (32 + 5) (v 3 0) (nI s)) := tie_mtgo r fun p j h1 h2 => by
    rw [hg_hs_a (by omega), hg_hs_a (by omega), hg_hs_a (by omega)]
  obtain ⟨g, t1, t2, t3⟩ := c_tie isL_32 (by rw [q4]; omega) (by rw [q5]; omega) (by rw [q4, q5]; exact hab) (by rw [q6]; exact hs8) T0
  rw [q4, q5, q6] at t1
  have f9 : hg g 32 9 = nI (v 3 0) := by
    rw [t3 _ _ (by omega), hg_hs_a (by decide), hg_hs_a (by decide), hg_hs_a (by decide)]
    exact e9
  have T1 : TieN (mtg v a b s) (v 3 0 + 1) 32 (hs g 32 9 (nI (v 3 0 + 1))) := ⟨fun s x h1 h2 => by rw [hg_hs_a (by omega)]; exact t2.1 s x h1 h2, fun x hx => by rw [hg_hs_a (by omega)]; exact t2.2 x hx⟩
  refine ⟨hs g 32 9 (nI (v 3 0 + 1)), ?_, CLd_mtg32 w r T1 (hg_hs_eq _ _ _ _) ?_ ?_ ?_ (fun p j n1 n2 n3 => ?_), fun p j n1 => ?_⟩
  · have a3 := la_a3 isL_32 hm
    have a4 := la_a4 isL_32 hm
    have a5 := la_a5 isL_32 hm
    unfold F_La_addMeeting
    simp (disch := first | assumption | omega) only [la_O isL_32, la_f2 isL_32, la_f3 isL_32, la_f4 isL_32, la_f9 isL_32, la_r2 isL_32, la_r3 isL_32, la_r4 isL_32, lit_0, lit_1, lit_2, lit_3, lit_4, lit_5, lit_6, lit_7, lit_8, lit_9, lit_10, lit_11, lit_12, lit_16, lit_17, lit_20, lit_31, lit_32, lit_40, lit_47, lit_48, lit_49, lit_57, lit_58, lit_60, lit_64, lit_68, lit_80, lit_97, lit_99, lit_100, lit_101, lit_104, lit_108, lit_109, lit_115, lit_117, lit_121, lit_127, lit_128, lit_140, lit_1000, lit_1000000, lit_1048576, bI_ret, bV_ret, bL_ret, bH_t, cond_true, z_0, z_1, retZ_tf, z_tf0, z_tf1, Decidable.not_not, Classical.not_not, nI_add, nI_clamp, n_le, n_lt, n_eq, nI_or, nI_and, z_sdf, of_nI, a3, a4, a5, e9, hg_hs_a, t1, f9]
    rw [if_neg (by omega)]
  · rw [hg_hs_a (by decide), t3 _ _ (by omega), hg_hs_a (by decide), hg_hs_a (by decide)]
    exact hg_hs_eq _ _ _ _
  · rw [hg_hs_a (by decide), t3 _ _ (by omega), hg_hs_a (by decide)]
    exact hg_hs_eq _ _ _ _
  · rw [hg_hs_a (by decide), t3 _ _ (by omega)]
    exact hg_hs_eq _ _ _ _
  · rw [hg_hs2, if_neg n1, t3 _ _ (by omega), hg_hs2, if_neg (by omega), hg_hs2, if_neg (by omega), hg_hs2, if_neg (by omega)]
  · rw [hg_hs_a (by omega), t3 _ _ (by omega), hg_hs_a (by omega), hg_hs_a (by omega), hg_hs_a (by omega)]
theorem c_timeF (ht : t < 4) (hn : n ≤ 80) (c : CT t n f g) (hp : p < n) (st : hg g 63 1 = 4) (q : ¬ inR (fg (f p)) 8) (κ : (Nat × Int32 × Hp) → Res Hp) : Re_faultOf_14 (83 + 2 * t, nI p, g) κ = retI (nI p) g := by
  have e : F_Re_takesTime (fg (f p)) g = retI 0 g := by
    unfold F_Re_takesTime
    rw [retZ_0]
    exact (ite_lt (k := 8) (by decide)).trans (if_neg q)
  rw [c_rdStep ht hn c hp, tk_4 st, e, bI_ret, retZ_0, bI_ret, if_pos rfl]
theorem c_timeT {a b s : Nat} (ht : t < 4) (hn : n ≤ 80) (c : CT t n f g) (hp : p < n) (w : WFp v) (r : CLd 32 v g) (st : hg g 63 1 = 4) (e3 : hg g 63 3 = nI a) (e4 : hg g 63 4 = nI b) (q : fg (f p) = nI s) (hm : v 3 0 < 16) (ha : a < v 0 0) (hb : b < v 0 0) (hab : a ≠ b) (hs8 : s < 8) : ∃ g1, (∀ κ, Re_faultOf_14 (83 + 2 * t, nI p, g) κ = κ (83 + 2 * t, nI (p + 1), g1)) ∧ CLd 32 (mtg v a b s) g1 ∧ hg g1 63 1 = 0 ∧ frP g g1 := by
  obtain ⟨g2, t1, t2, t3⟩ := c_add32 w r hm ha hb hab hs8
  refine ⟨hs g2 63 1 0, fun κ => ?_, CLd_ag t2 (fun a j h1 h2 => hg_hs_a (by omega)) (by rw [mtg_o (by omega)]; have := w.2.2; omega), hg_hs_eq _ _ _ _, fun a j n1 n2 => (hg_hs_a n2).trans (t3 a j n1)⟩
  have e : F_Re_takesTime (nI s) g = retI 1 (hs g2 63 1 0) := by
    unfold F_Re_takesTime
    rw [if_neg (show ¬ nI s < (0 : Int32) from fun z => by have := (nI_ltI (b := 0) (by omega) (by decide)).mp z; omega), if_pos (show nI s < (8 : Int32) from (nI_ltI (b := 8) (by omega) (by decide)).mpr hs8), e3, e4, t1, bV_ret, bH_t, retZ_1]
  rw [c_rdStep ht hn c hp, tk_4 st, q, e, bI_ret, retZ_1, bI_ret, if_neg one0]
/-! the reference's -/
def sgn (n : Nat) (f : Nat → Int32) (p : Nat) : Int32 := if p < n then f p else -9
theorem m_here (ht : t < 4) (hn : n ≤ 80) (c : MT t n f g) (e16 : hg g 178 16 = nI p) (hp : p ≤ n) : F_Mo_here (nI t) g = retI (sgn n f p) g := by
  unfold F_Mo_here sgn
  rw [oA_183 ht, cond_true, nI_clamp (by omega), c.1, e16]
  by_cases q : p < n
  · rw [if_neg (nle_nI (by omega) (by omega) (by omega)), show (80 : Int32) * nI t = nI (80 * t) from nI_mul 80 t, nI_add, oA_184' ht (show p < 80 by omega), cond_true, nI_clamp (by omega), c.2 p q, if_pos q]
  · rw [if_pos (le_nI (by omega) (by omega) (by omega)), if_neg q]
theorem sgn_in {m : Nat} (hm : m ≤ 10) (q : ¬ p < n) : ¬ inR (sgn n f p - 48) m := by
  unfold sgn
  rw [if_neg q, inR_iff, show ((-9 : Int32) - 48).toInt = -57 by decide]
  omega
theorem oA_191' {k j : Nat} (h1 : k < 16) (h2 : j < 3) : okA 191 100 (nI (3 * k + j)) = true := okA_t 48 (by decide +kernel) (by decide +kernel) (by omega) (by decide)
theorem m_rm0 (ht : t < 4) (hn : n ≤ 80) (c : MT t n f g) (e16 : hg g 178 16 = nI p) (hp : p ≤ n) (w : WF v) (r : RLd v g) (hm : v 3 0 < 16) (κ : (Int32 × Int32 × Int32 × Hp) → Res Hp) : Mo_readsMeeting_30 (nI t, nI (3 * v 3 0), 0, g) κ = if inRb (sgn n f p - 48) (v 0 0) = true then κ (nI t, nI (3 * v 3 0), 1, hs (hs g 191 (3 * v 3 0) (sgn n f p - 48)) 178 16 (nI (p + 1))) else retI 0 g := by
  have hn7 := w.1
  have o0 := oA_191' hm (show 0 < 3 by decide)
  rw [Nat.add_zero] at o0
  have eI : F_Mo_in (sgn n f p - 48) 0 (nI (v 0 0) - 1) g = retI (tf (inR (sgn n f p - 48) (v 0 0))) g := m_inN (show v 0 0 < 2 ^ 31 by omega) _ g
  unfold Mo_readsMeeting_30
  dsimp only
  rw [if_neg (show ¬ (3 : Int32) ≤ 0 by decide), m_here ht hn c e16 hp, bI_ret, if_neg (show ¬ (0 : Int32) = 2 by decide), r.1, eI, bI_ret]
  by_cases q : inRb (sgn n f p - 48) (v 0 0) = true
  · rw [tf_t q, if_neg one0, if_neg (show ¬ (0 : Int32) = 1 by decide), show nI (3 * v 3 0) + 0 = nI (3 * v 3 0) from nI_add _ 0, o0, cond_true, bH_t, bH_t, nI_clamp (by omega), hg_hs_a (show (178 : Nat) ≠ 191 by decide), e16, nI_s, if_pos q]
    rfl
  · rw [tf_f q, if_pos rfl, retZ_0, if_neg q]
theorem m_rm1 (ht : t < 4) (hn : n ≤ 80) (c : MT t n f g) (e16 : hg g 178 16 = nI p) (hp : p ≤ n) (w : WF v) (r : RLd v g) (hm : v 3 0 < 16) (κ : (Int32 × Int32 × Int32 × Hp) → Res Hp) : Mo_readsMeeting_30 (nI t, nI (3 * v 3 0), 1, g) κ = if inRb (sgn n f p - 48) (v 0 0) = true ∧ ¬ sgn n f p - 48 = hg g 191 (3 * v 3 0) then κ (nI t, nI (3 * v 3 0), 2, hs (hs g 191 (3 * v 3 0 + 1) (sgn n f p - 48)) 178 16 (nI (p + 1))) else retI 0 g := by
  have hn7 := w.1
  have o0 := oA_191' hm (show 0 < 3 by decide)
  have o1 := oA_191' hm (show 1 < 3 by decide)
  rw [Nat.add_zero] at o0
  have eI : F_Mo_in (sgn n f p - 48) 0 (nI (v 0 0) - 1) g = retI (tf (inR (sgn n f p - 48) (v 0 0))) g := m_inN (show v 0 0 < 2 ^ 31 by omega) _ g
  unfold Mo_readsMeeting_30
  dsimp only
  rw [if_neg (show ¬ (3 : Int32) ≤ 1 by decide), m_here ht hn c e16 hp, bI_ret, if_neg (show ¬ (1 : Int32) = 2 by decide), r.1, eI, bI_ret]
  by_cases q : inRb (sgn n f p - 48) (v 0 0) = true
  · rw [tf_t q, if_neg one0, if_pos rfl, o0, cond_true, nI_clamp (show 3 * v 3 0 < 2 ^ 31 by omega)]
    by_cases z : sgn n f p - 48 = hg g 191 (3 * v 3 0)
    · rw [if_pos z, retZ_0, if_neg (fun y => y.2 z)]
    · rw [if_neg z, show nI (3 * v 3 0) + 1 = nI (3 * v 3 0 + 1) from nI_add _ 1, o1, cond_true, bH_t, bH_t, nI_clamp (by omega), hg_hs_a (show (178 : Nat) ≠ 191 by decide), e16, nI_s, if_pos ⟨q, z⟩]
      rfl
  · rw [tf_f q, if_pos rfl, retZ_0, if_neg (fun y => q y.1)]
theorem m_rm2 (ht : t < 4) (hn : n ≤ 80) (c : MT t n f g) (e16 : hg g 178 16 = nI p) (hp : p ≤ n) (hm : v 3 0 < 16) (κ : (Int32 × Int32 × Int32 × Hp) → Res Hp) : Mo_readsMeeting_30 (nI t, nI (3 * v 3 0), 2, g) κ = if inRb (sgn n f p - 48) 8 = true then κ (nI t, nI (3 * v 3 0), 3, hs (hs g 191 (3 * v 3 0 + 2) (sgn n f p - 48)) 178 16 (nI (p + 1))) else retI 0 g := by
  have o2 := oA_191' hm (show 2 < 3 by decide)
  have eI : F_Mo_in (sgn n f p - 48) 0 7 g = retI (tf (inR (sgn n f p - 48) 8)) g := m_i7 _ g
  unfold Mo_readsMeeting_30
  dsimp only
  rw [if_neg (show ¬ (3 : Int32) ≤ 2 by decide), m_here ht hn c e16 hp, bI_ret, if_pos rfl, eI, bI_ret]
  by_cases q : inRb (sgn n f p - 48) 8 = true
  · rw [tf_t q, if_neg one0, if_neg (show ¬ (2 : Int32) = 1 by decide), show nI (3 * v 3 0) + 2 = nI (3 * v 3 0 + 2) from nI_add _ 2, o2, cond_true, bH_t, bH_t, nI_clamp (by omega), hg_hs_a (show (178 : Nat) ≠ 191 by decide), e16, nI_s, if_pos q]
    rfl
  · rw [tf_f q, if_pos rfl, retZ_0, if_neg q]
theorem m_rm3 (e18 : hg g 178 18 = nI (v 3 0)) (κ : (Int32 × Int32 × Int32 × Hp) → Res Hp) : Mo_readsMeeting_30 (nI t, nI (3 * v 3 0), 3, g) κ = retI 1 (hs g 178 18 (nI (v 3 0 + 1))) := by
  unfold Mo_readsMeeting_30
  dsimp only
  rw [if_pos (show (3 : Int32) ≤ 3 by decide), bH_t, retZ_1, e18, nI_s]
theorem RLd_191 {c : Nat} {x : Int32} (hc : c < 3) (r : RLd v g) : RLd v (hs g 191 (3 * v 3 0 + c) x) := by
  obtain ⟨a1, a2, b, d⟩ := r
  refine ⟨?_, ?_, fun x hx => ?_, fun m hm => ?_⟩
  · rw [hg_hs_a (by decide)]; exact a1
  · rw [hg_hs_a (by decide)]; exact a2
  · rw [hg_hs_a (by decide), hg_hs_a (by decide)]; exact b x hx
  · rw [hg_hs_k (by omega), hg_hs_k (by omega), hg_hs_k (by omega)]; exact d m hm
theorem RLd_mtg {a b s : Nat} (r : RLd v g) (e0 : hg g 191 (3 * v 3 0) = nI a) (e1 : hg g 191 (3 * v 3 0 + 1) = nI b) (e2 : hg g 191 (3 * v 3 0 + 2) = nI s) : RLd (mtg v a b s) (hs g 178 18 (nI (v 3 0 + 1))) := by
  obtain ⟨a1, a2, b0, d⟩ := r
  unfold RLd
  rw [mtg_3, mtg_o (f := 0) (by omega)]
  refine ⟨?_, hg_hs_eq _ _ _ _, fun x hx => ?_, fun m hm => ?_⟩
  · rw [hg_hs_k (by decide)]; exact a1
  · rw [mtg_o (by omega), mtg_o (by omega), hg_hs_a (by decide), hg_hs_a (by decide)]; exact b0 x hx
  · rw [hg_hs_a (by decide), hg_hs_a (by decide), hg_hs_a (by decide)]
    by_cases z : m = v 3 0
    · subst z
      rw [mtg_4, mtg_5, mtg_6]
      exact ⟨e0, e1, e2⟩
    · have hm' : m < v 3 0 := by omega
      rw [mtg_k hm' (by decide), mtg_k hm' (by decide), mtg_k hm' (by decide)]
      exact d m hm'
end MEET
