/-! OPERATION: off, the answers -/
section OFF
variable {v : LV} {n : Nat} {h : Hp}
theorem wf_vs3 (w : WF v) (hn : n ≤ v 3 0) : WF (vs v 3 0 n) := by
  obtain ⟨a1, a2, a3, a4, a5, a6, a7⟩ := w
  have e1 : ∀ k j, vs v 3 0 n (20 + k) j = v (20 + k) j := fun k j => vs_ne (by omega)
  have e2 : ∀ k j, vs v 3 0 n (30 + k) j = v (30 + k) j := fun k j => vs_ne (by omega)
  refine ⟨a1, a2, Nat.le_trans hn a3, fun k hk => ?_, a5, a6, fun k hk => ?_⟩
  · have hk : k < n := hk
    exact a4 k (by omega)
  · have := a7 k hk
    simp only [e1, e2]
    exact this
theorem CLd_vs3 {h' : Hp} (r : CLd 3 v h) (h4 : v 8 0 ≤ 4) (hn : n ≤ v 3 0) (e9 : hg h' 3 9 = nI n) (T : TieN v n 3 h') (e : ∀ a j, ¬ (a = 3 ∧ j = 9) → ¬ (10 ≤ a ∧ a ≤ 18) → hg h' a j = hg h a j) : CLd 3 (vs v 3 0 n) h' := by
  obtain ⟨⟨a1, a2, a3, a4⟩, b, c, d, e5, f⟩ := r
  refine ⟨⟨?_, ?_, ?_, ?_⟩, fun y hy => ⟨?_, ?_⟩, fun k hk => ?_, fun t y ht hy => T.1 t y ht hy, fun y hy => T.2 y hy, fun l hl => ?_⟩
  · rw [e _ _ (by omega) (by omega)]; exact a1
  · rw [e9, vs_eq]
  · rw [e _ _ (by omega) (by omega)]; exact a3
  · rw [e _ _ (by omega) (by omega)]; exact a4
  · rw [e _ _ (by omega) (by omega)]; exact (b y hy).1
  · rw [e _ _ (by omega) (by omega)]; exact (b y hy).2
  · have hk : k < n := hk
    have ck := c k (by omega)
    refine ⟨?_, ?_, ?_⟩
    · rw [e _ _ (by omega) (by omega)]; exact ck.1
    · rw [e _ _ (by omega) (by omega)]; exact ck.2.1
    · rw [e _ _ (by omega) (by omega)]; exact ck.2.2
  · have hl : l < v 8 0 := hl
    obtain ⟨g1, g2, g3, g4⟩ := f l hl
    refine ⟨?_, ?_, ?_, fun j hj => ⟨?_, ?_⟩⟩
    · rw [e _ _ (by omega) (by omega)]; exact g1
    · rw [e _ _ (by omega) (by omega)]; exact g2
    · rw [e _ _ (by omega) (by omega)]; exact g3
    · rw [e _ _ (by omega) (by omega)]
      exact (g4 j hj).1.trans (by rw [vs_ne (by omega)])
    · rw [e _ _ (by omega) (by omega)]
      exact (g4 j hj).2.trans (by rw [vs_ne (by omega)])
theorem MLd_vs3 (r : MLd v h) (hn : n ≤ v 3 0) : MLd (vs v 3 0 n) (hs h 178 11 (nI n)) := by
  have e : ∀ b j, ¬ (b = 178 ∧ j = 11) → hg (hs h 178 11 (nI n)) b j = hg h b j := fun b j q => by rw [hg_hs2, if_neg q]
  obtain ⟨⟨a1, a2, a3, a4⟩, b, c, f⟩ := r
  refine ⟨⟨?_, ?_, ?_, ?_⟩, fun y hy => ⟨?_, ?_⟩, fun k hk => ?_, fun k hk => ⟨?_, ?_, ?_, fun j hj => ⟨?_, ?_⟩⟩⟩
  · rw [e _ _ (by decide)]; exact a1
  · rw [vs_eq, hg_hs_eq]
  · rw [e _ _ (by decide)]; exact a3
  · rw [e _ _ (by decide)]; exact a4
  · rw [e _ _ (by omega)]; exact (b y hy).1
  · rw [e _ _ (by omega)]; exact (b y hy).2
  · have hk : k < n := hk
    have ck := c k (by omega)
    refine ⟨?_, ?_, ?_⟩
    · rw [e _ _ (by omega)]; exact ck.1
    · rw [e _ _ (by omega)]; exact ck.2.1
    · rw [e _ _ (by omega)]; exact ck.2.2
  · rw [e _ _ (by omega)]; exact (f k hk).1
  · rw [e _ _ (by omega)]; exact (f k hk).2.1
  · rw [e _ _ (by omega)]; exact (f k hk).2.2.1
  · rw [e _ _ (by omega)]
    exact ((f k hk).2.2.2 j hj).1.trans (by rw [vs_ne (by omega)])
  · rw [e _ _ (by omega)]
    exact ((f k hk).2.2.2 j hj).2.trans (by rw [vs_ne (by omega)])
end OFF
theorem g_off (x : Int32) {h : Hp} (I : Inv h) : Ok (F_Bp_off x) (F_Mo_off x) h := by
  obtain ⟨-, -, v, w, r, m, ck⟩ := id I
  have h4 := wf_l w
  have hm := wf_m w
  have h7 := w.1
  have i0 : inV x 0 (v 3 0 + 1) ↔ inR x (v 3 0 + 1) := inV0 _ _
  by_cases hx : inR x (v 3 0 + 1)
  · have hxv := i0.mpr hx
    obtain ⟨n, hn, rfl⟩ := inR_ex (by omega) hx
    have hn' : n ≤ v 3 0 := by omega
    obtain ⟨h2, t1, t2, t3⟩ := c_tieAll (v := v) (N := n) (h := hs h 3 9 (nI n)) isL_3 (by omega) (hg_hs_eq _ _ _ _) (fun k hk => by
      have a := wf_a w (show k < v 3 0 by omega)
      have b := wf_b w (show k < v 3 0 by omega)
      exact ⟨⟨(hg_hs_a (by decide)).trans (L_a r (by omega)), (hg_hs_a (by decide)).trans (L_b r (by omega)), (hg_hs_a (by decide)).trans (L_t r (by omega))⟩, by omega, by omega, wf_ab w (by omega), wf_t w (by omega)⟩)
    have fr2 : ∀ a j, ¬ (a = 3 ∧ j = 9) → ¬ (10 ≤ a ∧ a ≤ 18) → hg h2 a j = hg h a j := fun a j n1 n2 => by
      rw [t3 a j (by omega), hg_hs2, if_neg n1]
    have r' : CLd 3 (vs v 3 0 n) h2 := CLd_vs3 r h4 hn' ((t3 3 9 (by omega)).trans (hg_hs_eq _ _ _ _)) t2 fr2
    have m1 : MLd v h2 := MLd_ag m fun p j f => fr2 p j (by unfold fpM at f; omega) (by unfold fpM at f; omega)
    have fr : ∀ p j, ¬ fpL p j → hg (hs h2 178 11 (nI n)) p j = hg h p j := fun p j n1 => by
      rw [hg_hs2, if_neg (fun z => n1 (by unfold fpL; omega)), fr2 p j (fun z => n1 (by unfold fpL; omega)) (fun z => n1 (by unfold fpL; omega))]
    refine ⟨(nI (v 3 0 - n)), h2, hs h2 178 11 (nI n), ?_, ?_, Inv_L I (v := v) (CA_L I fun p j _ n1 => fr p j n1) (wf_vs3 w hn') (CLd_ag r' (fun p j h1 h2 => hg_hs_a (by omega)) h4) (MLd_vs3 m1 hn') ck rfl (fun _ _ => rfl) fun p j _ _ n1 => fr p j n1⟩
    · have e9 : hg h 3 9 = nI (v 3 0) := L_m r
      simp (disch := first | assumption | omega) only [F_Bp_off, lit_0, lit_1, lit_2, lit_3, lit_4, lit_5, lit_6, lit_7, lit_8, lit_9, lit_10, lit_11, lit_12, lit_16, lit_17, lit_20, lit_31, lit_32, lit_40, lit_47, lit_48, lit_49, lit_57, lit_58, lit_60, lit_64, lit_68, lit_80, lit_97, lit_99, lit_100, lit_101, lit_104, lit_108, lit_109, lit_115, lit_117, lit_121, lit_127, lit_128, lit_140, lit_1000, lit_1000000, lit_1048576, bI_ret, bV_ret, bL_ret, bH_t, cond_true, z_0, z_1, retZ_tf, z_tf0, z_tf1, Decidable.not_not, Classical.not_not, nI_add, nI_clamp, n_le, n_lt, n_eq, nI_or, nI_and, z_sdf, of_nI, ite_not, m_i3, m_i99, m_i7, m_i1, m_i20, m_i2, m_i8, m_i15, m_i60, e9, t1, nI_sb]
      rw [if_neg (Nat.not_lt_zero _), if_pos hn']
      rfl
    · simp (disch := first | assumption | omega) only [F_Mo_off, lit_0, lit_1, lit_2, lit_3, lit_4, lit_5, lit_6, lit_7, lit_8, lit_9, lit_10, lit_11, lit_12, lit_16, lit_17, lit_20, lit_31, lit_32, lit_40, lit_47, lit_48, lit_49, lit_57, lit_58, lit_60, lit_64, lit_68, lit_80, lit_97, lit_99, lit_100, lit_101, lit_104, lit_108, lit_109, lit_115, lit_117, lit_121, lit_127, lit_128, lit_140, lit_1000, lit_1000000, lit_1048576, bI_ret, bV_ret, bL_ret, bH_t, cond_true, z_0, z_1, retZ_tf, z_tf0, z_tf1, Decidable.not_not, Classical.not_not, nI_add, nI_clamp, n_le, n_lt, n_eq, nI_or, nI_and, z_sdf, of_nI, ite_not, m_i3, m_i99, m_i7, m_i1, m_i20, m_i2, m_i8, m_i15, m_i60, M_m m1, m_inI, nI_sb]
      first
        | (rw [if_pos hxv]; rfl)
        | (rw [if_pos hx]; rfl)
        | rfl
  · have hxv : ¬ inV x 0 (v 3 0 + 1) := fun z => hx (i0.mp z)
    have e9 : hg h 3 9 = nI (v 3 0) := L_m r
    refine fin_q I (h1 := h) (h2 := h) (x := -nI 1) ?_ (frS_rf h) ?_ (frS_rf h)
    · unfold F_Bp_off
      rw [e9]
      exact (ite_le (k := v 3 0) (by omega)).trans (if_neg hx)
    · simp (disch := first | assumption | omega) only [F_Mo_off, lit_0, lit_1, lit_2, lit_3, lit_4, lit_5, lit_6, lit_7, lit_8, lit_9, lit_10, lit_11, lit_12, lit_16, lit_17, lit_20, lit_31, lit_32, lit_40, lit_47, lit_48, lit_49, lit_57, lit_58, lit_60, lit_64, lit_68, lit_80, lit_97, lit_99, lit_100, lit_101, lit_104, lit_108, lit_109, lit_115, lit_117, lit_121, lit_127, lit_128, lit_140, lit_1000, lit_1000000, lit_1048576, bI_ret, bV_ret, bL_ret, bH_t, cond_true, z_0, z_1, retZ_tf, z_tf0, z_tf1, Decidable.not_not, Classical.not_not, nI_add, nI_clamp, n_le, n_lt, n_eq, nI_or, nI_and, z_sdf, of_nI, ite_not, m_i3, m_i99, m_i7, m_i1, m_i20, m_i2, m_i8, m_i15, m_i60, M_m m, m_inI]
      first
        | rw [if_neg hxv]
        | rw [if_neg hx]
