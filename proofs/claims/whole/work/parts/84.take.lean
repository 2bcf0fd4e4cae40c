/-! A LAND taken from another one -/
theorem isL_dis {o p : Nat} (ho : isL o) (hp : isL p) (h : o ≠ p) : o + 29 ≤ p ∨ p + 29 ≤ o := by unfold isL at ho hp; omega
theorem okC_0 {a b n : Nat} (h1 : shC a = 100) (h2 : shC b = 100) (h3 : shN a = n) (h4 : shN b = n) (hn : n ≤ 80) : okC a (nI 0) b (nI 0) (nI n) = true := by
  have ng : ∀ i, i ≤ 80 → decide (nI i < 0) = false := fun i hi => decide_eq_false (by show ¬ nI i < nI 0; rw [nI_ltI (by omega) (by decide)]; omega)
  unfold okC
  rw [h1, h2, h3, h4, ng 0 (by omega), ng n hn, nI_clamp (by decide), nI_clamp (by omega), Nat.ble_eq.mpr (show 0 + n ≤ n by omega)]
  rfl
theorem hcp_0 {h : Hp} {p q n : Nat} (hn : n < 2 ^ 31) (d k : Nat) : hg (hcp h p (nI 0) q (nI 0) (nI n)) d k = if d = q ∧ k < n then hg h p k else hg h d k := by
  rw [hcp_g (by decide) (by decide) hn]
  by_cases e : d = q
  · subst e
    by_cases f : k < n
    · rw [if_pos rfl, if_pos (by omega), if_pos ⟨rfl, f⟩, Nat.sub_zero, Nat.zero_add]
    · rw [if_pos rfl, if_neg (by omega), if_neg (fun z => f z.2)]
  · rw [if_neg e, if_neg (fun z => e z.1)]
theorem CLe_ag {q k : Nat} {v : LV} {h h' : Hp} (c : CLe q v k h) (e : ∀ a j, q ≤ a → a ≤ q + 2 → hg h' a j = hg h a j) : CLe q v k h' := by
  obtain ⟨c1, c2, c3, c4⟩ := c
  exact ⟨(e _ _ (by omega) (by omega)).trans c1, (e _ _ (by omega) (by omega)).trans c2, (e _ _ (by omega) (by omega)).trans c3, fun j hj => ⟨(e _ _ (by omega) (by omega)).trans (c4 j hj).1, (e _ _ (by omega) (by omega)).trans (c4 j hj).2⟩⟩
def leT (h : Hp) (q p a b c : Nat) : Hp := hs (hs (hs (hcp (hcp h (p + 1) (nI 0) (q + 1) (nI 0) (nI 7)) (p + 2) (nI 0) (q + 2) (nI 0) (nI 7)) q 2 (nI a)) q 3 (nI b)) q 4 (nI c)
theorem c_leTake {q p k : Nat} {v : LV} {h : Hp} (hq : isE q) (hp : isE p) (hd : q + 3 ≤ p ∨ p + 3 ≤ q) (e : CLe p v k h) (h7 : v 11 k ≤ 7) : ∃ h', F_Le_takeFrom q p h = retV h' ∧ CLe q v k h' ∧ ∀ a j, ¬ (q ≤ a ∧ a ≤ q + 2) → hg h' a j = hg h a j := by
  obtain ⟨e1, e2, e3, e4⟩ := e
  have o1 : okC (p + 1) (nI 0) (q + 1) (nI 0) (nI 7) = true := okC_0 (okE hp).2.2.2.1 (okE hq).2.2.2.1 (okE hp).2.2.2.2.1 (okE hq).2.2.2.2.1 (by decide)
  have o2 : okC (p + 2) (nI 0) (q + 2) (nI 0) (nI 7) = true := okC_0 (okE hp).2.2.2.2.2.1 (okE hq).2.2.2.2.2.1 (okE hp).2.2.2.2.2.2.1 (okE hq).2.2.2.2.2.2.1 (by decide)
  have f : ∀ j, hg (hcp (hcp h (p + 1) (nI 0) (q + 1) (nI 0) (nI 7)) (p + 2) (nI 0) (q + 2) (nI 0) (nI 7)) p j = hg h p j := fun j => by
    rw [hcp_0 (by decide), if_neg (by omega), hcp_0 (by decide), if_neg (by omega)]
  have f2 := (f 2).trans e1
  have f3 := (f 3).trans e2
  have f4 := (f 4).trans e3
  refine ⟨leT h q p (v 11 k) (v 9 k) (v 10 k), ?_, ⟨?_, ?_, ?_, fun j hj => ⟨?_, ?_⟩⟩, fun a j n => ?_⟩
  · unfold F_Le_takeFrom
    simp (disch := first | assumption | omega) only [lit_0, lit_1, lit_2, lit_3, lit_4, lit_5, lit_6, lit_7, lit_8, lit_9, lit_10, lit_11, lit_12, lit_16, lit_17, lit_20, lit_31, lit_32, lit_40, lit_47, lit_48, lit_49, lit_57, lit_58, lit_60, lit_64, lit_68, lit_80, lit_97, lit_99, lit_100, lit_101, lit_104, lit_108, lit_109, lit_115, lit_117, lit_121, lit_127, lit_128, lit_140, lit_1000, lit_1000000, lit_1048576, bI_ret, bV_ret, bL_ret, bH_t, cond_true, z_0, z_1, retZ_tf, z_tf0, z_tf1, Decidable.not_not, Classical.not_not, nI_add, nI_clamp, n_le, n_lt, n_eq, nI_or, nI_and, z_sdf, of_nI, le_f0 hp, le_f1 hp, le_f2 hp, le_f3 hp, le_f4 hp, le_f0 hq, le_f1 hq, le_f2 hq, le_f3 hq, le_f4 hq, le_r0 hp, le_r1 hp, le_r0 hq, le_r1 hq, o1, o2, hg_hs_a, f2, f3, f4]
    rfl
  · unfold leT
    rw [hg_hs_k (by decide), hg_hs_k (by decide), hg_hs_eq]
  · unfold leT
    rw [hg_hs_k (by decide), hg_hs_eq]
  · unfold leT
    rw [hg_hs_eq]
  · unfold leT
    rw [hg_hs_a (by omega), hg_hs_a (by omega), hg_hs_a (by omega), hcp_0 (by decide), if_neg (by omega), hcp_0 (by decide), if_pos (by omega)]
    exact (e4 j hj).1
  · unfold leT
    rw [hg_hs_a (by omega), hg_hs_a (by omega), hg_hs_a (by omega), hcp_0 (by decide), if_pos (by omega), hcp_0 (by decide), if_neg (by omega)]
    exact (e4 j hj).2
  · unfold leT
    rw [hg_hs_a (by omega), hg_hs_a (by omega), hg_hs_a (by omega), hcp_0 (by decide), if_neg (by omega), hcp_0 (by decide), if_neg (by omega)]
def cp5 (h : Hp) (o p : Nat) : Hp := hcp (hcp (hcp (hcp (hcp h (p + 1) (nI 0) (o + 1) (nI 0) (nI 7)) (p + 2) (nI 0) (o + 2) (nI 0) (nI 7)) (p + 3) (nI 0) (o + 3) (nI 0) (nI 16)) (p + 4) (nI 0) (o + 4) (nI 0) (nI 16)) (p + 5) (nI 0) (o + 5) (nI 0) (nI 16)
section CP5
variable {h : Hp} {o p : Nat}
theorem cp5_o {a j : Nat} (n : ¬ (o + 1 ≤ a ∧ a ≤ o + 5)) : hg (cp5 h o p) a j = hg h a j := by
  unfold cp5
  rw [hcp_0 (by decide), if_neg (by omega), hcp_0 (by decide), if_neg (by omega), hcp_0 (by decide), if_neg (by omega), hcp_0 (by decide), if_neg (by omega), hcp_0 (by decide), if_neg (by omega)]
theorem cp5_1 (hd : o + 29 ≤ p ∨ p + 29 ≤ o) {j : Nat} (hj : j < 7) : hg (cp5 h o p) (o + 1) j = hg h (p + 1) j := by
  unfold cp5
  rw [hcp_0 (by decide), if_neg (by omega), hcp_0 (by decide), if_neg (by omega), hcp_0 (by decide), if_neg (by omega), hcp_0 (by decide), if_neg (by omega), hcp_0 (by decide), if_pos (by omega)]
theorem cp5_2 (hd : o + 29 ≤ p ∨ p + 29 ≤ o) {j : Nat} (hj : j < 7) : hg (cp5 h o p) (o + 2) j = hg h (p + 2) j := by
  unfold cp5
  rw [hcp_0 (by decide), if_neg (by omega), hcp_0 (by decide), if_neg (by omega), hcp_0 (by decide), if_neg (by omega), hcp_0 (by decide), if_pos (by omega), hcp_0 (by decide), if_neg (by omega)]
theorem cp5_3 (hd : o + 29 ≤ p ∨ p + 29 ≤ o) {j : Nat} (hj : j < 16) : hg (cp5 h o p) (o + 3) j = hg h (p + 3) j := by
  unfold cp5
  rw [hcp_0 (by decide), if_neg (by omega), hcp_0 (by decide), if_neg (by omega), hcp_0 (by decide), if_pos (by omega), hcp_0 (by decide), if_neg (by omega), hcp_0 (by decide), if_neg (by omega)]
theorem cp5_4 (hd : o + 29 ≤ p ∨ p + 29 ≤ o) {j : Nat} (hj : j < 16) : hg (cp5 h o p) (o + 4) j = hg h (p + 4) j := by
  unfold cp5
  rw [hcp_0 (by decide), if_neg (by omega), hcp_0 (by decide), if_pos (by omega), hcp_0 (by decide), if_neg (by omega), hcp_0 (by decide), if_neg (by omega), hcp_0 (by decide), if_neg (by omega)]
theorem cp5_5 (hd : o + 29 ≤ p ∨ p + 29 ≤ o) {j : Nat} (hj : j < 16) : hg (cp5 h o p) (o + 5) j = hg h (p + 5) j := by
  unfold cp5
  rw [hcp_0 (by decide), if_pos (by omega), hcp_0 (by decide), if_neg (by omega), hcp_0 (by decide), if_neg (by omega), hcp_0 (by decide), if_neg (by omega), hcp_0 (by decide), if_neg (by omega)]
theorem c_takeFrom {v : LV} (ho : isL o) (hp : isL p) (hop : o ≠ p) (w : WF v) (r : CLd p v h) : ∃ h', F_La_takeFrom o p h = retV h' ∧ CLd o v h' ∧ ∀ a j, ¬ (o ≤ a ∧ a ≤ o + 28) → hg h' a j = hg h a j := by
  have hd := isL_dis ho hp hop
  have hn := w.1
  have hm := wf_m w
  have hl4 := wf_l w
  have O := okL_of ho
  have P := okL_of hp
  have q1 : okC (p + 1) (nI 0) (o + 1) (nI 0) (nI 7) = true := okC_0 (P.2.2.2.2.2.2.1 0 (by decide)).1 (O.2.2.2.2.2.2.1 0 (by decide)).1 (P.2.2.2.2.2.2.1 0 (by decide)).2 (O.2.2.2.2.2.2.1 0 (by decide)).2 (by decide)
  have q2 : okC (p + 2) (nI 0) (o + 2) (nI 0) (nI 7) = true := okC_0 (P.2.2.2.2.2.2.1 1 (by decide)).1 (O.2.2.2.2.2.2.1 1 (by decide)).1 (P.2.2.2.2.2.2.1 1 (by decide)).2 (O.2.2.2.2.2.2.1 1 (by decide)).2 (by decide)
  have q3 : okC (p + 3) (nI 0) (o + 3) (nI 0) (nI 16) = true := okC_0 (P.2.2.2.2.2.2.2.1 0 (by decide)).1 (O.2.2.2.2.2.2.2.1 0 (by decide)).1 (P.2.2.2.2.2.2.2.1 0 (by decide)).2 (O.2.2.2.2.2.2.2.1 0 (by decide)).2 (by decide)
  have q4 : okC (p + 4) (nI 0) (o + 4) (nI 0) (nI 16) = true := okC_0 (P.2.2.2.2.2.2.2.1 1 (by decide)).1 (O.2.2.2.2.2.2.2.1 1 (by decide)).1 (P.2.2.2.2.2.2.2.1 1 (by decide)).2 (O.2.2.2.2.2.2.2.1 1 (by decide)).2 (by decide)
  have q5 : okC (p + 5) (nI 0) (o + 5) (nI 0) (nI 16) = true := okC_0 (P.2.2.2.2.2.2.2.1 2 (by decide)).1 (O.2.2.2.2.2.2.2.1 2 (by decide)).1 (P.2.2.2.2.2.2.2.1 2 (by decide)).2 (O.2.2.2.2.2.2.2.1 2 (by decide)).2 (by decide)
  have e0 : F_La_takeFrom o p h = loopC La_takeFrom_77 FU (o, p, nI 0, cp5 h o p) := by
    unfold F_La_takeFrom
    simp (disch := first | assumption | omega) only [la_f0 ho, la_f1 ho, la_f2 ho, la_f3 ho, la_f4 ho, la_f0 hp, la_f1 hp, la_f2 hp, la_f3 hp, la_f4 hp, la_r0 ho, la_r1 ho, la_r2 ho, la_r3 ho, la_r4 ho, la_r0 hp, la_r1 hp, la_r2 hp, la_r3 hp, la_r4 hp, lit_0, lit_1, lit_2, lit_3, lit_4, lit_5, lit_6, lit_7, lit_8, lit_9, lit_10, lit_11, lit_12, lit_16, lit_17, lit_20, lit_31, lit_32, lit_40, lit_47, lit_48, lit_49, lit_57, lit_58, lit_60, lit_64, lit_68, lit_80, lit_97, lit_99, lit_100, lit_101, lit_104, lit_108, lit_109, lit_115, lit_117, lit_121, lit_127, lit_128, lit_140, lit_1000, lit_1000000, lit_1048576, bI_ret, bV_ret, bL_ret, bH_t, cond_true, z_0, z_1, retZ_tf, z_tf0, z_tf1, Decidable.not_not, Classical.not_not, nI_add, nI_clamp, n_le, n_lt, n_eq, nI_or, nI_and, z_sdf, of_nI, q1, q2, q3, q4, q5]
    rfl
  rw [e0]
  refine loop_inv (N := v 8 0) (R := fun r => ∃ h', r = retV h' ∧ CLd o v h' ∧ ∀ a j, ¬ (o ≤ a ∧ a ≤ o + 28) → hg h' a j = hg h a j) (fun i st => ∃ g, st = (o, p, nI i, g) ∧ (∀ l, l < i → CLe (o + 17 + 3 * l) v l g) ∧ ∀ a j, ¬ (o + 17 ≤ a ∧ a ≤ o + 28) → hg g a j = hg (cp5 h o p) a j) ⟨_, rfl, fun l hl => absurd hl (Nat.not_lt_zero l), fun _ _ _ => rfl⟩ (by show _ < 4096; omega) ?_ ?_
  · rintro i st hi ⟨g, rfl, p1, p2⟩
    have i4 : i < 4 := by omega
    have hq := isE_of ho i4
    have hq2 := isE_of hp i4
    have ex : CLe (p + 17 + 3 * i) v i g := CLe_ag (L_e r hi) fun a j h1 h2 => (p2 a j (by omega)).trans (cp5_o (by omega))
    obtain ⟨g2, t1, t2, t3⟩ := c_leTake hq hq2 (by omega) ex (wf_l7 w hi)
    have e10 : hg g p 10 = nI (v 8 0) := (p2 _ _ (by omega)).trans ((cp5_o (by omega)).trans (L_l r))
    refine ⟨_, ⟨g2, rfl, fun l hl => ?_, fun a j n => (t3 a j (by omega)).trans (p2 a j n)⟩, fun κ => ?_⟩
    · by_cases z : l = i
      · rw [z]; exact t2
      · exact CLe_ag (p1 l (by omega)) fun a j h1 h2 => t3 a j (by omega)
    · have k1 := le_O hq
      have k2 := le_r ho i4
      have k3 := le_r hp i4
      have k4 := la_a16 ho i4
      have k5 := la_a16 hp i4
      simp (disch := first | assumption | omega) only [La_takeFrom_77, la_f7 ho, la_f7 hp, la_r7 ho, la_r7 hp, la_f10 hp, k1, k2, k3, k4, k5, lit_0, lit_1, lit_2, lit_3, lit_4, lit_5, lit_6, lit_7, lit_8, lit_9, lit_10, lit_11, lit_12, lit_16, lit_17, lit_20, lit_31, lit_32, lit_40, lit_47, lit_48, lit_49, lit_57, lit_58, lit_60, lit_64, lit_68, lit_80, lit_97, lit_99, lit_100, lit_101, lit_104, lit_108, lit_109, lit_115, lit_117, lit_121, lit_127, lit_128, lit_140, lit_1000, lit_1000000, lit_1048576, bI_ret, bV_ret, bL_ret, bH_t, cond_true, z_0, z_1, retZ_tf, z_tf0, z_tf1, Decidable.not_not, Classical.not_not, nI_add, nI_clamp, n_le, n_lt, n_eq, nI_or, nI_and, z_sdf, of_nI, e10, t1]
      rw [if_neg (by omega)]
  · rintro st ⟨g, rfl, p1, p2⟩ κ
    have e8 : hg g p 8 = nI (v 0 0) := (p2 _ _ (by omega)).trans ((cp5_o (by omega)).trans (L_n r))
    have e9 : hg g p 9 = nI (v 3 0) := (p2 _ _ (by omega)).trans ((cp5_o (by omega)).trans (L_m r))
    have e10 : hg g p 10 = nI (v 8 0) := (p2 _ _ (by omega)).trans ((cp5_o (by omega)).trans (L_l r))
    have e11 : hg g p 11 = nI (v 7 0) := (p2 _ _ (by omega)).trans ((cp5_o (by omega)).trans (L_h r))
    have hG : ∃ G, G = hs (hs (hs (hs g o 8 (nI (v 0 0))) o 9 (nI (v 3 0))) o 10 (nI (v 8 0))) o 11 (nI (v 7 0)) := ⟨_, rfl⟩
    obtain ⟨G, hG⟩ := hG
    have Go : ∀ a j, ¬ (a = o ∧ 8 ≤ j ∧ j ≤ 11) → hg G a j = hg g a j := fun a j n => by
      rw [hG, hg_hs2, if_neg (by omega), hg_hs2, if_neg (by omega), hg_hs2, if_neg (by omega), hg_hs2, if_neg (by omega)]
    have G8 : hg G o 8 = nI (v 0 0) := by rw [hG, hg_hs_k (by decide), hg_hs_k (by decide), hg_hs_k (by decide), hg_hs_eq]
    have G9 : hg G o 9 = nI (v 3 0) := by rw [hG, hg_hs_k (by decide), hg_hs_k (by decide), hg_hs_eq]
    have G10 : hg G o 10 = nI (v 8 0) := by rw [hG, hg_hs_k (by decide), hg_hs_eq]
    have G11 : hg G o 11 = nI (v 7 0) := by rw [hG, hg_hs_eq]
    have GA : ∀ c, 1 ≤ c → c ≤ 5 → ∀ j, hg G (o + c) j = hg (cp5 h o p) (o + c) j := fun c h1 h2 j => (Go _ _ (by omega)).trans (p2 _ _ (by omega))
    have M3 : ∀ k, k < v 3 0 → hg G (o + 3) k = nI (v 4 k) ∧ hg G (o + 4) k = nI (v 5 k) ∧ hg G (o + 5) k = nI (v 6 k) := fun k hk => by
      refine ⟨?_, ?_, ?_⟩
      · rw [GA 3 (by decide) (by decide), cp5_3 hd (by omega)]; exact L_a r hk
      · rw [GA 4 (by decide) (by decide), cp5_4 hd (by omega)]; exact L_b r hk
      · rw [GA 5 (by decide) (by decide), cp5_5 hd (by omega)]; exact L_t r hk
    obtain ⟨h2, t1, t2, t3⟩ := c_tieAll (v := v) (N := v 3 0) (h := G) ho hm G9 (fun k hk => ⟨M3 k hk, Nat.lt_of_lt_of_le (wf_a w hk) hn, Nat.lt_of_lt_of_le (wf_b w hk) hn, wf_ab w hk, wf_t w hk⟩)
    refine ⟨h2, ?_, ⟨⟨?_, ?_, ?_, ?_⟩, fun x hx => ⟨?_, ?_⟩, fun k hk => ⟨?_, ?_, ?_⟩, fun t x ht hx => t2.1 t x ht hx, fun x hx => t2.2 x hx, fun k hk => ?_⟩, fun a j n => ?_⟩
    · rw [hG] at t1
      simp (disch := first | assumption | omega) only [La_takeFrom_77, la_O ho, la_f8 ho, la_f9 ho, la_f10 ho, la_f11 ho, la_f8 hp, la_f9 hp, la_f10 hp, la_f11 hp, lit_0, lit_1, lit_2, lit_3, lit_4, lit_5, lit_6, lit_7, lit_8, lit_9, lit_10, lit_11, lit_12, lit_16, lit_17, lit_20, lit_31, lit_32, lit_40, lit_47, lit_48, lit_49, lit_57, lit_58, lit_60, lit_64, lit_68, lit_80, lit_97, lit_99, lit_100, lit_101, lit_104, lit_108, lit_109, lit_115, lit_117, lit_121, lit_127, lit_128, lit_140, lit_1000, lit_1000000, lit_1048576, bI_ret, bV_ret, bL_ret, bH_t, cond_true, z_0, z_1, retZ_tf, z_tf0, z_tf1, Decidable.not_not, Classical.not_not, nI_add, nI_clamp, n_le, n_lt, n_eq, nI_or, nI_and, z_sdf, of_nI, hg_hs_a, e8, e9, e10, e11, t1]
      rw [if_pos (Nat.le_refl _)]
    · rw [t3 _ _ (by omega)]; exact G8
    · rw [t3 _ _ (by omega)]; exact G9
    · rw [t3 _ _ (by omega)]; exact G10
    · rw [t3 _ _ (by omega)]; exact G11
    · rw [t3 _ _ (by omega), GA 1 (by decide) (by decide), cp5_1 hd (by omega)]; exact L_k r hx
    · rw [t3 _ _ (by omega), GA 2 (by decide) (by decide), cp5_2 hd (by omega)]; exact L_w r hx
    · rw [t3 _ _ (by omega)]; exact (M3 k hk).1
    · rw [t3 _ _ (by omega)]; exact (M3 k hk).2.1
    · rw [t3 _ _ (by omega)]; exact (M3 k hk).2.2
    · exact CLe_ag (p1 k hk) fun a j h1 h2 => (t3 a j (by omega)).trans (Go a j (by omega))
    · rw [t3 a j (by omega), Go a j (by omega), p2 a j (by omega)]
      exact cp5_o (by omega)
end CP5
