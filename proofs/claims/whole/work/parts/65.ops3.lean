/-! OPERATIONS: forget, tongue, parts, best -/
theorem CLd_0 {v : LV} {h : Hp} (w : WF v) (r : CLd 3 v h) {k : Nat} {x : Int32} : CLd 3 v (hs h 0 k x) := CLd_ag r (fun a j h1 h2 => hg_hs_a (by omega)) (wf_l w)
theorem g_forget (x y T : Int32) {h : Hp} (I : Inv h) : Ok (F_Bp_forget x y T) (F_Mo_forget x y T) h := by
  obtain ⟨-, -, v, w, r, m, -⟩ := id I
  have hn := w.1
  by_cases hx : inR x (v 0 0) ∧ inR y (v 0 0) ∧ x ≠ y
  · by_cases hT : inV T 1 32
    · obtain ⟨a, b, ha, hb, hab, rfl, rfl⟩ := two_ex hn hx
      obtain ⟨T, hT1, hT2, rfl⟩ := inV_ex (by decide) hT
      obtain ⟨h1, c1, c2, c3⟩ := c_price1 w r hT2
      obtain ⟨h2, d1, d2, d3, d4⟩ := c_find w (CLd_C w r c3) c2 ha hb hab
      have f2 : frC h h2 := frC_tr c3 d2
      have hlen := aw_len w a b T 1
      by_cases c : aw v a b T 1 = []
      · obtain ⟨h3, e1, e2, e3⟩ := m_setWays (fg := 1) w (MLd_S m (frS_C f2)) ha hb hab hT2 (by decide)
        have e1 : F_Mo_setWays (nI a) (nI b) (nI T) (nI 1) h2 = retV h3 := e1
        have m2 := MLd_S m (frS_C f2)
        refine fin_q I (h1 := h2) (h2 := h3) (x := -nI 9) ?_ (frS_C f2) ?_ (frS_W e3)
        · rw [tf_f (fun z => z c)] at d1
          simp (disch := first | assumption | omega) only [F_Bp_forget, lit_0, lit_1, lit_2, lit_3, lit_4, lit_5, lit_6, lit_7, lit_8, lit_9, lit_10, lit_11, lit_12, lit_16, lit_17, lit_20, lit_31, lit_32, lit_40, lit_47, lit_48, lit_49, lit_57, lit_58, lit_60, lit_64, lit_68, lit_80, lit_97, lit_99, lit_100, lit_101, lit_104, lit_108, lit_109, lit_115, lit_117, lit_121, lit_127, lit_128, lit_140, lit_1000, lit_1000000, lit_1048576, bI_ret, bV_ret, bL_ret, bH_t, cond_true, z_0, z_1, retZ_tf, z_tf0, z_tf1, Decidable.not_not, Classical.not_not, nI_add, nI_clamp, n_le, n_lt, n_eq, nI_or, nI_and, z_sdf, of_nI, ite_not, m_i3, m_i99, m_i7, m_i1, m_i20, m_i2, m_i8, m_i15, m_i60, c_noPair w r, c_noTongues, if_pos hx, if_pos hT, c1, d1, if_true]
        · have h27 : hg h3 178 27 = nI 0 := by rw [e2.1, c]; rfl
          simp (disch := first | assumption | omega) only [F_Mo_forget, lit_0, lit_1, lit_2, lit_3, lit_4, lit_5, lit_6, lit_7, lit_8, lit_9, lit_10, lit_11, lit_12, lit_16, lit_17, lit_20, lit_31, lit_32, lit_40, lit_47, lit_48, lit_49, lit_57, lit_58, lit_60, lit_64, lit_68, lit_80, lit_97, lit_99, lit_100, lit_101, lit_104, lit_108, lit_109, lit_115, lit_117, lit_121, lit_127, lit_128, lit_140, lit_1000, lit_1000000, lit_1048576, bI_ret, bV_ret, bL_ret, bH_t, cond_true, z_0, z_1, retZ_tf, z_tf0, z_tf1, Decidable.not_not, Classical.not_not, nI_add, nI_clamp, n_le, n_lt, n_eq, nI_or, nI_and, z_sdf, of_nI, ite_not, m_i3, m_i99, m_i7, m_i1, m_i20, m_i2, m_i8, m_i15, m_i60, m_isAsk w m2, if_pos (And.intro hx hT), e1, h27, if_true]
      · obtain ⟨p, p1, p2, p3⟩ := d4 c
        have q1 := c_whoPay w d3 ha hb hab p2 p3
        generalize hS : pst (prc v T) (fun k => (a :: p).getD k 0) (p.length - 1) = S at q1
        have hp3 : HP v T 1 (hs h2 0 11 (nI S)) := HP_ag d3 (fun j => hg_hs_a (by decide))
        have hf3 : FW a p (hs h2 0 11 (nI S)) := ⟨(hg_hs_a (by decide)).trans p3.1, fun k hk => (hg_hs_a (by decide)).trans (p3.2 k hk)⟩
        have q2 := c_wholePrice w hp3 ha hb hab p2 hf3
        have m2 : MLd v (hs h2 0 11 (nI S)) := MLd_0 (MLd_S m (frS_C f2))
        obtain ⟨h3, e1, e2, e3⟩ := m_setWays (fg := 1) w m2 ha hb hab hT2 (by decide)
        have e1 : F_Mo_setWays (nI a) (nI b) (nI T) (nI 1) (hs h2 0 11 (nI S)) = retV h3 := e1
        have hB := e2.2.2.2
        rw [p1] at hB
        obtain ⟨b1, b2, b3, b4, b5⟩ := hB
        have h0 : (aw v a b T 1).length ≠ 0 := fun e => c (List.eq_nil_of_length_eq_zero e)
        obtain ⟨s, hs9, g1, g2, g3, g4, g5⟩ := aw_facts w ha hb hab p2
        refine fin_t I (h1 := h2) (h2 := h3) (x := nI (wt (prc v T) p)) (a := nI S) ?_ (frS_C f2) ?_ (frS_W e3)
        · rw [tf_t c] at d1
          simp (disch := first | assumption | omega) only [F_Bp_forget, lit_0, lit_1, lit_2, lit_3, lit_4, lit_5, lit_6, lit_7, lit_8, lit_9, lit_10, lit_11, lit_12, lit_16, lit_17, lit_20, lit_31, lit_32, lit_40, lit_47, lit_48, lit_49, lit_57, lit_58, lit_60, lit_64, lit_68, lit_80, lit_97, lit_99, lit_100, lit_101, lit_104, lit_108, lit_109, lit_115, lit_117, lit_121, lit_127, lit_128, lit_140, lit_1000, lit_1000000, lit_1048576, bI_ret, bV_ret, bL_ret, bH_t, cond_true, z_0, z_1, retZ_tf, z_tf0, z_tf1, Decidable.not_not, Classical.not_not, nI_add, nI_clamp, n_le, n_lt, n_eq, nI_or, nI_and, z_sdf, of_nI, ite_not, m_i3, m_i99, m_i7, m_i1, m_i20, m_i2, m_i8, m_i15, m_i60, c_noPair w r, c_noTongues, if_pos hx, if_pos hT, c1, d1, q1, q2]
          rw [if_neg (by decide)]
        · simp (disch := first | assumption | omega) only [F_Mo_forget, lit_0, lit_1, lit_2, lit_3, lit_4, lit_5, lit_6, lit_7, lit_8, lit_9, lit_10, lit_11, lit_12, lit_16, lit_17, lit_20, lit_31, lit_32, lit_40, lit_47, lit_48, lit_49, lit_57, lit_58, lit_60, lit_64, lit_68, lit_80, lit_97, lit_99, lit_100, lit_101, lit_104, lit_108, lit_109, lit_115, lit_117, lit_121, lit_127, lit_128, lit_140, lit_1000, lit_1000000, lit_1048576, bI_ret, bV_ret, bL_ret, bH_t, cond_true, z_0, z_1, retZ_tf, z_tf0, z_tf1, Decidable.not_not, Classical.not_not, nI_add, nI_clamp, n_le, n_lt, n_eq, nI_or, nI_and, z_sdf, of_nI, ite_not, m_i3, m_i99, m_i7, m_i1, m_i20, m_i2, m_i8, m_i15, m_i60, m_isAsk w m2, if_pos (And.intro hx hT), e1, e2.1, if_neg h0]
          have m3 := MLd_W m2 e3
          refine loop_for (N := p.length - 1) (fun i => (nI T, nI (pst (prc v T) (fun k => (a :: p).getD k 0) i), nI (1 + i), h3)) rfl (by show _ < 4096; omega) (fun i κ hi => ?_) (fun κ => ?_)
          · have k1 := b5 (1 + i) (by omega)
            have k2 := g2 (1 + i) (by omega)
            have k3 := m_costOf w m3 k2 hT2
            have k4 : pop (brs v ((a :: p).getD (1 + i) 0) T) ≤ 10 := pop_le10 _
            simp (disch := first | assumption | omega) only [Mo_forget_36, lit_0, lit_1, lit_2, lit_3, lit_4, lit_5, lit_6, lit_7, lit_8, lit_9, lit_10, lit_11, lit_12, lit_16, lit_17, lit_20, lit_31, lit_32, lit_40, lit_47, lit_48, lit_49, lit_57, lit_58, lit_60, lit_64, lit_68, lit_80, lit_97, lit_99, lit_100, lit_101, lit_104, lit_108, lit_109, lit_115, lit_117, lit_121, lit_127, lit_128, lit_140, lit_1000, lit_1000000, lit_1048576, bI_ret, bV_ret, bL_ret, bH_t, cond_true, z_0, z_1, retZ_tf, z_tf0, z_tf1, Decidable.not_not, Classical.not_not, nI_add, nI_clamp, n_le, n_lt, n_eq, nI_or, nI_and, z_sdf, of_nI, oA_194, b4, nI_sb, Nat.add_sub_cancel, k1, k3, z_bit, or_0]
            rw [if_neg (by omega), Nat.add_assoc 1 i 1]
            have e9 : pst (prc v T) (fun k => (a :: p).getD k 0) (i + 1) = pst (prc v T) (fun k => (a :: p).getD k 0) i ||| (if 0 < prc v T ((a :: p).getD (1 + i) 0) then 2 ^ ((a :: p).getD (1 + i) 0) else 0) := rfl
            rw [e9]
            by_cases z : pop (brs v ((a :: p).getD (1 + i) 0) T) ≤ 0
            · rw [if_pos z, if_neg (show ¬ 0 < prc v T ((a :: p).getD (1 + i) 0) by unfold prc; omega), Nat.or_zero]
            · rw [if_neg z, if_pos (show 0 < prc v T ((a :: p).getD (1 + i) 0) by unfold prc; omega)]
          · simp (disch := first | assumption | omega) only [Mo_forget_36, F_Mo_ask, lit_0, lit_1, lit_2, lit_3, lit_4, lit_5, lit_6, lit_7, lit_8, lit_9, lit_10, lit_11, lit_12, lit_16, lit_17, lit_20, lit_31, lit_32, lit_40, lit_47, lit_48, lit_49, lit_57, lit_58, lit_60, lit_64, lit_68, lit_80, lit_97, lit_99, lit_100, lit_101, lit_104, lit_108, lit_109, lit_115, lit_117, lit_121, lit_127, lit_128, lit_140, lit_1000, lit_1000000, lit_1048576, bI_ret, bV_ret, bL_ret, bH_t, cond_true, z_0, z_1, retZ_tf, z_tf0, z_tf1, Decidable.not_not, Classical.not_not, nI_add, nI_clamp, n_le, n_lt, n_eq, nI_or, nI_and, z_sdf, of_nI, b4, b3, nI_sb, Nat.add_sub_cancel, hS]
            rw [if_pos (by omega)]
    · have hno : ¬ ((inR x (v 0 0) ∧ inR y (v 0 0) ∧ x ≠ y) ∧ inV T 1 32) := fun z => hT z.2
      refine fin_q I (h1 := h) (h2 := h) (x := -nI 1) ?_ (frS_rf h) ?_ (frS_rf h)
      · simp (disch := first | assumption | omega) only [F_Bp_forget, lit_0, lit_1, lit_2, lit_3, lit_4, lit_5, lit_6, lit_7, lit_8, lit_9, lit_10, lit_11, lit_12, lit_16, lit_17, lit_20, lit_31, lit_32, lit_40, lit_47, lit_48, lit_49, lit_57, lit_58, lit_60, lit_64, lit_68, lit_80, lit_97, lit_99, lit_100, lit_101, lit_104, lit_108, lit_109, lit_115, lit_117, lit_121, lit_127, lit_128, lit_140, lit_1000, lit_1000000, lit_1048576, bI_ret, bV_ret, bL_ret, bH_t, cond_true, z_0, z_1, retZ_tf, z_tf0, z_tf1, Decidable.not_not, Classical.not_not, nI_add, nI_clamp, n_le, n_lt, n_eq, nI_or, nI_and, z_sdf, of_nI, ite_not, m_i3, m_i99, m_i7, m_i1, m_i20, m_i2, m_i8, m_i15, m_i60, c_noPair w r, c_noTongues, if_pos hx, if_neg hT]
      · simp (disch := first | assumption | omega) only [F_Mo_forget, lit_0, lit_1, lit_2, lit_3, lit_4, lit_5, lit_6, lit_7, lit_8, lit_9, lit_10, lit_11, lit_12, lit_16, lit_17, lit_20, lit_31, lit_32, lit_40, lit_47, lit_48, lit_49, lit_57, lit_58, lit_60, lit_64, lit_68, lit_80, lit_97, lit_99, lit_100, lit_101, lit_104, lit_108, lit_109, lit_115, lit_117, lit_121, lit_127, lit_128, lit_140, lit_1000, lit_1000000, lit_1048576, bI_ret, bV_ret, bL_ret, bH_t, cond_true, z_0, z_1, retZ_tf, z_tf0, z_tf1, Decidable.not_not, Classical.not_not, nI_add, nI_clamp, n_le, n_lt, n_eq, nI_or, nI_and, z_sdf, of_nI, ite_not, m_i3, m_i99, m_i7, m_i1, m_i20, m_i2, m_i8, m_i15, m_i60, m_isAsk w m, if_neg hno]
  · have hno : ¬ ((inR x (v 0 0) ∧ inR y (v 0 0) ∧ x ≠ y) ∧ inV T 1 32) := fun z => hx z.1
    refine fin_q I (h1 := h) (h2 := h) (x := -nI 1) ?_ (frS_rf h) ?_ (frS_rf h)
    · simp (disch := first | assumption | omega) only [F_Bp_forget, lit_0, lit_1, lit_2, lit_3, lit_4, lit_5, lit_6, lit_7, lit_8, lit_9, lit_10, lit_11, lit_12, lit_16, lit_17, lit_20, lit_31, lit_32, lit_40, lit_47, lit_48, lit_49, lit_57, lit_58, lit_60, lit_64, lit_68, lit_80, lit_97, lit_99, lit_100, lit_101, lit_104, lit_108, lit_109, lit_115, lit_117, lit_121, lit_127, lit_128, lit_140, lit_1000, lit_1000000, lit_1048576, bI_ret, bV_ret, bL_ret, bH_t, cond_true, z_0, z_1, retZ_tf, z_tf0, z_tf1, Decidable.not_not, Classical.not_not, nI_add, nI_clamp, n_le, n_lt, n_eq, nI_or, nI_and, z_sdf, of_nI, ite_not, m_i3, m_i99, m_i7, m_i1, m_i20, m_i2, m_i8, m_i15, m_i60, c_noPair w r, if_neg hx]
    · simp (disch := first | assumption | omega) only [F_Mo_forget, lit_0, lit_1, lit_2, lit_3, lit_4, lit_5, lit_6, lit_7, lit_8, lit_9, lit_10, lit_11, lit_12, lit_16, lit_17, lit_20, lit_31, lit_32, lit_40, lit_47, lit_48, lit_49, lit_57, lit_58, lit_60, lit_64, lit_68, lit_80, lit_97, lit_99, lit_100, lit_101, lit_104, lit_108, lit_109, lit_115, lit_117, lit_121, lit_127, lit_128, lit_140, lit_1000, lit_1000000, lit_1048576, bI_ret, bV_ret, bL_ret, bH_t, cond_true, z_0, z_1, retZ_tf, z_tf0, z_tf1, Decidable.not_not, Classical.not_not, nI_add, nI_clamp, n_le, n_lt, n_eq, nI_or, nI_and, z_sdf, of_nI, ite_not, m_i3, m_i99, m_i7, m_i1, m_i20, m_i2, m_i8, m_i15, m_i60, m_isAsk w m, if_neg hno]
/-! the least so far: (which, how much) -/
def ost (o : Option (Nat × Nat)) (i c : Nat) : Option (Nat × Nat) := match o with
  | none => some (i, c)
  | some p => if c < p.2 then some (i, c) else some p
def oI (o : Option (Nat × Nat)) : Int32 := match o with
  | none => -nI 9
  | some p => nI p.1
def oL (d : Nat) (o : Option (Nat × Nat)) : Int32 := match o with
  | none => nI d
  | some p => nI p.2
def oB (o : Option (Nat × Nat)) : Prop := ∀ p, o = some p → p.1 < 1000 ∧ p.2 < 1000
theorem ost_B {o : Option (Nat × Nat)} {i c : Nat} (h : oB o) (hi : i < 1000) (hc : c < 1000) : oB (ost o i c) := by
  intro p hp
  cases o with
  | none => cases hp; exact ⟨hi, hc⟩
  | some q =>
    unfold ost at hp
    dsimp only at hp
    split at hp
    · cases hp; exact ⟨hi, hc⟩
    · exact h p hp
theorem ost_if {α : Type} {o : Option (Nat × Nat)} {i c d : Nat} (h : oB o) (hc : c < d) (hd : d < 2 ^ 31) (K : Int32 → Int32 → α) : (if oL d o ≤ nI c then K (oI o) (oL d o) else K (nI i) (nI c)) = K (oI (ost o i c)) (oL d (ost o i c)) := by
  cases o with
  | none =>
    show (if nI d ≤ nI c then _ else _) = _
    rw [if_neg (by rw [nI_leI hd (by omega)]; omega)]
    rfl
  | some p =>
    have hp := h p rfl
    show (if nI p.2 ≤ nI c then _ else _) = _
    unfold ost
    dsimp only
    by_cases q : c < p.2
    · rw [if_pos q, if_neg (by rw [nI_leI (by omega) (by omega)]; omega)]
      rfl
    · rw [if_neg q, if_pos (by rw [nI_leI (by omega) (by omega)]; omega)]
theorem oI_9 {o : Option (Nat × Nat)} (h : oB o) : (oI o = -nI 9) = (o = none) := by
  cases o with
  | none => exact propext ⟨fun _ => rfl, fun _ => rfl⟩
  | some p =>
    have hp := h p rfl
    show (nI p.1 = -nI 9) = _
    rw [nI_eq9 (by omega)]
    exact propext ⟨fun z => z.elim, fun z => by cases z⟩
/-- the soonest tongue so far -/
def tgO (v : LV) (x y hr : Nat) : Nat → Option (Nat × Nat)
  | 0 => none
  | t + 1 => if (v 2 x &&& v 2 y).testBit t = true ∧ snN v x y (2 ^ t) hr < snK hr then ost (tgO v x y hr t) t (snN v x y (2 ^ t) hr + 1) else tgO v x y hr t
theorem snK_le (hr : Nat) : snK hr ≤ 40 := Nat.min_le_left _ _
theorem tgO_B (v : LV) (x y hr : Nat) : ∀ t, t ≤ 5 → oB (tgO v x y hr t)
  | 0, _ => fun p hp => by cases hp
  | t + 1, h => by
    unfold tgO
    split
    · next c =>
      have := snK_le hr
      exact ost_B (tgO_B v x y hr t (by omega)) (by omega) (by omega)
    · exact tgO_B v x y hr t (by omega)
theorem g_tongue (x y t : Int32) {h : Hp} (I : Inv h) : Ok (F_Bp_tongue x y t) (F_Mo_tongue x y t) h := by
  obtain ⟨-, -, v, w, r, m, -⟩ := id I
  have hn := w.1
  by_cases hx : inR x (v 0 0) ∧ inR y (v 0 0) ∧ x ≠ y
  · by_cases ht : inR t 100
    · obtain ⟨a, b, ha, hb, hab, rfl, rfl⟩ := two_ex hn hx
      obtain ⟨hr, hr2, rfl⟩ := inR_ex (by decide) ht
      have hw1 := wf_w w ha
      have hand : v 2 a &&& v 2 b < 2 ^ 31 := Nat.lt_of_le_of_lt Nat.and_le_left (by omega)
      have hKl := snK_le hr
      have cl1 : ∀ g, CLd 3 v g → ∀ κfin, (∀ κ, Bp_tongue_50 (nI a, nI b, nI hr, nI (v 2 a &&& v 2 b), oI (tgO v a b hr 5), oL 100 (tgO v a b hr 5), nI 5, g) κ = κfin) → loopC Bp_tongue_50 FU (nI a, nI b, nI hr, nI (v 2 a &&& v 2 b), -nI 9, nI 100, nI 0, g) = κfin := by
        intro g rg κfin hfin
        refine loop_for (N := 5) (fun i => (nI a, nI b, nI hr, nI (v 2 a &&& v 2 b), oI (tgO v a b hr i), oL 100 (tgO v a b hr i), nI i, g)) rfl (by show _ < 4096; omega) (fun i κ hi => ?_) hfin
        have e1 : tgO v a b hr (i + 1) = if (v 2 a &&& v 2 b).testBit i = true ∧ snN v a b (2 ^ i) hr < snK hr then ost (tgO v a b hr i) i (snN v a b (2 ^ i) hr + 1) else tgO v a b hr i := rfl
        have hB := tgO_B v a b hr i (by omega)
        simp (disch := first | assumption | omega) only [Bp_tongue_50, lit_0, lit_1, lit_2, lit_3, lit_4, lit_5, lit_6, lit_7, lit_8, lit_9, lit_10, lit_11, lit_12, lit_16, lit_17, lit_20, lit_31, lit_32, lit_40, lit_47, lit_48, lit_49, lit_57, lit_58, lit_60, lit_64, lit_68, lit_80, lit_97, lit_99, lit_100, lit_101, lit_104, lit_108, lit_109, lit_115, lit_117, lit_121, lit_127, lit_128, lit_140, lit_1000, lit_1000000, lit_1048576, bI_ret, bV_ret, bL_ret, bH_t, cond_true, z_0, z_1, retZ_tf, z_tf0, z_tf1, Decidable.not_not, Classical.not_not, nI_add, nI_clamp, n_le, n_lt, n_eq, nI_or, nI_and, z_sdf, of_nI, c_has, c_bit, c_soonest w rg ha hb (pow5 hi) hr2]
        rw [if_neg (by omega), e1]
        by_cases q : (v 2 a &&& v 2 b).testBit i = true
        · rw [if_neg (fun z => z q)]
          unfold soonV
          by_cases q2 : snN v a b (2 ^ i) hr < snK hr
          · have e9 : (nI (snN v a b (2 ^ i) hr + 1) = -nI 9) = False := nI_eq9 (by omega)
            have e2 : (if (v 2 a &&& v 2 b).testBit i = true ∧ snN v a b (2 ^ i) hr < snK hr then ost (tgO v a b hr i) i (snN v a b (2 ^ i) hr + 1) else tgO v a b hr i) = ost (tgO v a b hr i) i (snN v a b (2 ^ i) hr + 1) := if_pos ⟨q, q2⟩
            rw [e2]
            simp only [if_pos q2, e9, if_false]
            exact ost_if (K := fun p l => κ (nI a, nI b, nI hr, nI (v 2 a &&& v 2 b), p, l, nI (i + 1), g)) hB (by omega) (by decide)
          · rw [if_neg q2, if_pos rfl, if_neg (fun z => q2 z.2)]
        · rw [if_pos q, if_neg (fun z => q z.1)]
      have mo1 : ∀ g, MLd v g → ∀ κfin, (∀ κ, Mo_tongue_32 (nI a, nI b, nI hr, oI (tgO v a b hr 5), oL 1048576 (tgO v a b hr 5), nI 5, g) κ = κfin) → loopC Mo_tongue_32 FU (nI a, nI b, nI hr, -nI 9, nI 1048576, nI 0, g) = κfin := by
        intro g mg κfin hfin
        refine loop_for (N := 5) (fun i => (nI a, nI b, nI hr, oI (tgO v a b hr i), oL 1048576 (tgO v a b hr i), nI i, g)) rfl (by show _ < 4096; omega) (fun i κ hi => ?_) hfin
        have e1 : tgO v a b hr (i + 1) = if (v 2 a &&& v 2 b).testBit i = true ∧ snN v a b (2 ^ i) hr < snK hr then ost (tgO v a b hr i) i (snN v a b (2 ^ i) hr + 1) else tgO v a b hr i := rfl
        have hB := tgO_B v a b hr i (by omega)
        have ew := m_writes w mg ha hb (pow5 hi)
        rw [wrt_1, ← Nat.testBit_and] at ew
        simp (disch := first | assumption | omega) only [Mo_tongue_32, lit_0, lit_1, lit_2, lit_3, lit_4, lit_5, lit_6, lit_7, lit_8, lit_9, lit_10, lit_11, lit_12, lit_16, lit_17, lit_20, lit_31, lit_32, lit_40, lit_47, lit_48, lit_49, lit_57, lit_58, lit_60, lit_64, lit_68, lit_80, lit_97, lit_99, lit_100, lit_101, lit_104, lit_108, lit_109, lit_115, lit_117, lit_121, lit_127, lit_128, lit_140, lit_1000, lit_1000000, lit_1048576, bI_ret, bV_ret, bL_ret, bH_t, cond_true, z_0, z_1, retZ_tf, z_tf0, z_tf1, Decidable.not_not, Classical.not_not, nI_add, nI_clamp, n_le, n_lt, n_eq, nI_or, nI_and, z_sdf, of_nI, z_bit, ew, m_soonOf w mg ha hb hab (pow5 hi) hr2]
        rw [if_neg (by omega), e1]
        by_cases q : (v 2 a &&& v 2 b).testBit i = true
        · rw [if_neg (fun z => z q)]
          unfold soonV
          by_cases q2 : snN v a b (2 ^ i) hr < snK hr
          · have e9 : (nI (snN v a b (2 ^ i) hr + 1) = -nI 9) = False := nI_eq9 (by omega)
            have e2 : (if (v 2 a &&& v 2 b).testBit i = true ∧ snN v a b (2 ^ i) hr < snK hr then ost (tgO v a b hr i) i (snN v a b (2 ^ i) hr + 1) else tgO v a b hr i) = ost (tgO v a b hr i) i (snN v a b (2 ^ i) hr + 1) := if_pos ⟨q, q2⟩
            rw [e2]
            simp only [if_pos q2, e9, if_false]
            rw [← ost_if (K := fun p l => κ (nI a, nI b, nI hr, p, l, nI (i + 1), g)) (d := 1048576) hB (by omega) (by decide)]
            by_cases q3 : oL 1048576 (tgO v a b hr i) ≤ nI (snN v a b (2 ^ i) hr + 1)
            · simp only [if_pos q3]
            · simp only [if_neg q3]
          · simp only [if_neg q2, if_true]
            rw [if_neg (fun z => q2 z.2)]
        · rw [if_pos q, if_neg (fun z => q z.1)]
      have hB := tgO_B v a b hr 5 (Nat.le_refl _)
      cases hO : tgO v a b hr 5 with
      | none =>
        refine fin_q I (h1 := h) (h2 := h) (x := -nI 9) ?_ (frS_rf h) ?_ (frS_rf h)
        · simp (disch := first | assumption | omega) only [F_Bp_tongue, lit_0, lit_1, lit_2, lit_3, lit_4, lit_5, lit_6, lit_7, lit_8, lit_9, lit_10, lit_11, lit_12, lit_16, lit_17, lit_20, lit_31, lit_32, lit_40, lit_47, lit_48, lit_49, lit_57, lit_58, lit_60, lit_64, lit_68, lit_80, lit_97, lit_99, lit_100, lit_101, lit_104, lit_108, lit_109, lit_115, lit_117, lit_121, lit_127, lit_128, lit_140, lit_1000, lit_1000000, lit_1048576, bI_ret, bV_ret, bL_ret, bH_t, cond_true, z_0, z_1, retZ_tf, z_tf0, z_tf1, Decidable.not_not, Classical.not_not, nI_add, nI_clamp, n_le, n_lt, n_eq, nI_or, nI_and, z_sdf, of_nI, ite_not, m_i3, m_i99, m_i7, m_i1, m_i20, m_i2, m_i8, m_i15, m_i60, oA_18, oA_65, oA_66, oA_67, oA_69, oA_4, oA_5, c_noPair w r, c_noHour, if_pos hx, if_pos ht, L3_w r]
          refine cl1 h r _ fun κ => ?_
          rw [hO]
          simp (disch := first | assumption | omega) only [Bp_tongue_50, lit_0, lit_1, lit_2, lit_3, lit_4, lit_5, lit_6, lit_7, lit_8, lit_9, lit_10, lit_11, lit_12, lit_16, lit_17, lit_20, lit_31, lit_32, lit_40, lit_47, lit_48, lit_49, lit_57, lit_58, lit_60, lit_64, lit_68, lit_80, lit_97, lit_99, lit_100, lit_101, lit_104, lit_108, lit_109, lit_115, lit_117, lit_121, lit_127, lit_128, lit_140, lit_1000, lit_1000000, lit_1048576, bI_ret, bV_ret, bL_ret, bH_t, cond_true, z_0, z_1, retZ_tf, z_tf0, z_tf1, Decidable.not_not, Classical.not_not, nI_add, nI_clamp, n_le, n_lt, n_eq, nI_or, nI_and, z_sdf, of_nI, oI, Nat.le_refl, if_true]
        · simp (disch := first | assumption | omega) only [F_Mo_tongue, lit_0, lit_1, lit_2, lit_3, lit_4, lit_5, lit_6, lit_7, lit_8, lit_9, lit_10, lit_11, lit_12, lit_16, lit_17, lit_20, lit_31, lit_32, lit_40, lit_47, lit_48, lit_49, lit_57, lit_58, lit_60, lit_64, lit_68, lit_80, lit_97, lit_99, lit_100, lit_101, lit_104, lit_108, lit_109, lit_115, lit_117, lit_121, lit_127, lit_128, lit_140, lit_1000, lit_1000000, lit_1048576, bI_ret, bV_ret, bL_ret, bH_t, cond_true, z_0, z_1, retZ_tf, z_tf0, z_tf1, Decidable.not_not, Classical.not_not, nI_add, nI_clamp, n_le, n_lt, n_eq, nI_or, nI_and, z_sdf, of_nI, ite_not, m_i3, m_i99, m_i7, m_i1, m_i20, m_i2, m_i8, m_i15, m_i60, m_areTwo w m, if_pos hx, if_pos ht]
          refine mo1 h m _ fun κ => ?_
          rw [hO]
          simp (disch := first | assumption | omega) only [Mo_tongue_32, lit_0, lit_1, lit_2, lit_3, lit_4, lit_5, lit_6, lit_7, lit_8, lit_9, lit_10, lit_11, lit_12, lit_16, lit_17, lit_20, lit_31, lit_32, lit_40, lit_47, lit_48, lit_49, lit_57, lit_58, lit_60, lit_64, lit_68, lit_80, lit_97, lit_99, lit_100, lit_101, lit_104, lit_108, lit_109, lit_115, lit_117, lit_121, lit_127, lit_128, lit_140, lit_1000, lit_1000000, lit_1048576, bI_ret, bV_ret, bL_ret, bH_t, cond_true, z_0, z_1, retZ_tf, z_tf0, z_tf1, Decidable.not_not, Classical.not_not, nI_add, nI_clamp, n_le, n_lt, n_eq, nI_or, nI_and, z_sdf, of_nI, oI, Nat.le_refl, if_true]
      | some p =>
        have hp := hB p hO
        have m1 : MLd v (hs h 0 11 (nI p.2)) := MLd_0 m
        refine fin_t I (h1 := h) (h2 := hs h 0 11 (nI p.2)) (x := nI p.1) (a := nI p.2) ?_ (frS_rf h) ?_ (frS_rf _)
        · simp (disch := first | assumption | omega) only [F_Bp_tongue, lit_0, lit_1, lit_2, lit_3, lit_4, lit_5, lit_6, lit_7, lit_8, lit_9, lit_10, lit_11, lit_12, lit_16, lit_17, lit_20, lit_31, lit_32, lit_40, lit_47, lit_48, lit_49, lit_57, lit_58, lit_60, lit_64, lit_68, lit_80, lit_97, lit_99, lit_100, lit_101, lit_104, lit_108, lit_109, lit_115, lit_117, lit_121, lit_127, lit_128, lit_140, lit_1000, lit_1000000, lit_1048576, bI_ret, bV_ret, bL_ret, bH_t, cond_true, z_0, z_1, retZ_tf, z_tf0, z_tf1, Decidable.not_not, Classical.not_not, nI_add, nI_clamp, n_le, n_lt, n_eq, nI_or, nI_and, z_sdf, of_nI, ite_not, m_i3, m_i99, m_i7, m_i1, m_i20, m_i2, m_i8, m_i15, m_i60, oA_18, oA_65, oA_66, oA_67, oA_69, oA_4, oA_5, c_noPair w r, c_noHour, if_pos hx, if_pos ht, L3_w r]
          refine cl1 h r _ fun κ => ?_
          rw [hO]
          simp (disch := first | assumption | omega) only [Bp_tongue_50, lit_0, lit_1, lit_2, lit_3, lit_4, lit_5, lit_6, lit_7, lit_8, lit_9, lit_10, lit_11, lit_12, lit_16, lit_17, lit_20, lit_31, lit_32, lit_40, lit_47, lit_48, lit_49, lit_57, lit_58, lit_60, lit_64, lit_68, lit_80, lit_97, lit_99, lit_100, lit_101, lit_104, lit_108, lit_109, lit_115, lit_117, lit_121, lit_127, lit_128, lit_140, lit_1000, lit_1000000, lit_1048576, bI_ret, bV_ret, bL_ret, bH_t, cond_true, z_0, z_1, retZ_tf, z_tf0, z_tf1, Decidable.not_not, Classical.not_not, nI_add, nI_clamp, n_le, n_lt, n_eq, nI_or, nI_and, z_sdf, of_nI, oI, oL, nI_eq9, Nat.le_refl, if_true, if_false]
        · simp (disch := first | assumption | omega) only [F_Mo_tongue, lit_0, lit_1, lit_2, lit_3, lit_4, lit_5, lit_6, lit_7, lit_8, lit_9, lit_10, lit_11, lit_12, lit_16, lit_17, lit_20, lit_31, lit_32, lit_40, lit_47, lit_48, lit_49, lit_57, lit_58, lit_60, lit_64, lit_68, lit_80, lit_97, lit_99, lit_100, lit_101, lit_104, lit_108, lit_109, lit_115, lit_117, lit_121, lit_127, lit_128, lit_140, lit_1000, lit_1000000, lit_1048576, bI_ret, bV_ret, bL_ret, bH_t, cond_true, z_0, z_1, retZ_tf, z_tf0, z_tf1, Decidable.not_not, Classical.not_not, nI_add, nI_clamp, n_le, n_lt, n_eq, nI_or, nI_and, z_sdf, of_nI, ite_not, m_i3, m_i99, m_i7, m_i1, m_i20, m_i2, m_i8, m_i15, m_i60, m_areTwo w m1, if_pos hx, if_pos ht]
          refine mo1 _ m1 _ fun κ => ?_
          rw [hO]
          simp (disch := first | assumption | omega) only [Mo_tongue_32, F_Mo_ask, lit_0, lit_1, lit_2, lit_3, lit_4, lit_5, lit_6, lit_7, lit_8, lit_9, lit_10, lit_11, lit_12, lit_16, lit_17, lit_20, lit_31, lit_32, lit_40, lit_47, lit_48, lit_49, lit_57, lit_58, lit_60, lit_64, lit_68, lit_80, lit_97, lit_99, lit_100, lit_101, lit_104, lit_108, lit_109, lit_115, lit_117, lit_121, lit_127, lit_128, lit_140, lit_1000, lit_1000000, lit_1048576, bI_ret, bV_ret, bL_ret, bH_t, cond_true, z_0, z_1, retZ_tf, z_tf0, z_tf1, Decidable.not_not, Classical.not_not, nI_add, nI_clamp, n_le, n_lt, n_eq, nI_or, nI_and, z_sdf, of_nI, oI, oL, nI_eq9, Nat.le_refl, if_true, if_false]
    · refine fin_q I (h1 := h) (h2 := h) (x := -nI 1) ?_ (frS_rf h) ?_ (frS_rf h)
      · simp (disch := first | assumption | omega) only [F_Bp_tongue, lit_0, lit_1, lit_2, lit_3, lit_4, lit_5, lit_6, lit_7, lit_8, lit_9, lit_10, lit_11, lit_12, lit_16, lit_17, lit_20, lit_31, lit_32, lit_40, lit_47, lit_48, lit_49, lit_57, lit_58, lit_60, lit_64, lit_68, lit_80, lit_97, lit_99, lit_100, lit_101, lit_104, lit_108, lit_109, lit_115, lit_117, lit_121, lit_127, lit_128, lit_140, lit_1000, lit_1000000, lit_1048576, bI_ret, bV_ret, bL_ret, bH_t, cond_true, z_0, z_1, retZ_tf, z_tf0, z_tf1, Decidable.not_not, Classical.not_not, nI_add, nI_clamp, n_le, n_lt, n_eq, nI_or, nI_and, z_sdf, of_nI, ite_not, m_i3, m_i99, m_i7, m_i1, m_i20, m_i2, m_i8, m_i15, m_i60, c_noPair w r, c_noHour, if_pos hx, if_neg ht]
      · simp (disch := first | assumption | omega) only [F_Mo_tongue, lit_0, lit_1, lit_2, lit_3, lit_4, lit_5, lit_6, lit_7, lit_8, lit_9, lit_10, lit_11, lit_12, lit_16, lit_17, lit_20, lit_31, lit_32, lit_40, lit_47, lit_48, lit_49, lit_57, lit_58, lit_60, lit_64, lit_68, lit_80, lit_97, lit_99, lit_100, lit_101, lit_104, lit_108, lit_109, lit_115, lit_117, lit_121, lit_127, lit_128, lit_140, lit_1000, lit_1000000, lit_1048576, bI_ret, bV_ret, bL_ret, bH_t, cond_true, z_0, z_1, retZ_tf, z_tf0, z_tf1, Decidable.not_not, Classical.not_not, nI_add, nI_clamp, n_le, n_lt, n_eq, nI_or, nI_and, z_sdf, of_nI, ite_not, m_i3, m_i99, m_i7, m_i1, m_i20, m_i2, m_i8, m_i15, m_i60, m_areTwo w m, if_pos hx, if_neg ht]
  · refine fin_q I (h1 := h) (h2 := h) (x := -nI 1) ?_ (frS_rf h) ?_ (frS_rf h)
    · simp (disch := first | assumption | omega) only [F_Bp_tongue, lit_0, lit_1, lit_2, lit_3, lit_4, lit_5, lit_6, lit_7, lit_8, lit_9, lit_10, lit_11, lit_12, lit_16, lit_17, lit_20, lit_31, lit_32, lit_40, lit_47, lit_48, lit_49, lit_57, lit_58, lit_60, lit_64, lit_68, lit_80, lit_97, lit_99, lit_100, lit_101, lit_104, lit_108, lit_109, lit_115, lit_117, lit_121, lit_127, lit_128, lit_140, lit_1000, lit_1000000, lit_1048576, bI_ret, bV_ret, bL_ret, bH_t, cond_true, z_0, z_1, retZ_tf, z_tf0, z_tf1, Decidable.not_not, Classical.not_not, nI_add, nI_clamp, n_le, n_lt, n_eq, nI_or, nI_and, z_sdf, of_nI, ite_not, m_i3, m_i99, m_i7, m_i1, m_i20, m_i2, m_i8, m_i15, m_i60, c_noPair w r, if_neg hx]
    · simp (disch := first | assumption | omega) only [F_Mo_tongue, lit_0, lit_1, lit_2, lit_3, lit_4, lit_5, lit_6, lit_7, lit_8, lit_9, lit_10, lit_11, lit_12, lit_16, lit_17, lit_20, lit_31, lit_32, lit_40, lit_47, lit_48, lit_49, lit_57, lit_58, lit_60, lit_64, lit_68, lit_80, lit_97, lit_99, lit_100, lit_101, lit_104, lit_108, lit_109, lit_115, lit_117, lit_121, lit_127, lit_128, lit_140, lit_1000, lit_1000000, lit_1048576, bI_ret, bV_ret, bL_ret, bH_t, cond_true, z_0, z_1, retZ_tf, z_tf0, z_tf1, Decidable.not_not, Classical.not_not, nI_add, nI_clamp, n_le, n_lt, n_eq, nI_or, nI_and, z_sdf, of_nI, ite_not, m_i3, m_i99, m_i7, m_i1, m_i20, m_i2, m_i8, m_i15, m_i60, m_areTwo w m, if_neg hx]
