/-! OPERATIONS: where, hours, teach -/
def fpL (a j : Nat) : Prop := (3 ≤ a ∧ a ≤ 31) ∨ (185 ≤ a ∧ a ≤ 188) ∨ (a = 178 ∧ (j = 8 ∨ j = 11 ∨ j = 13 ∨ j = 14))
theorem Inv_L {h h' : Hp} (I : Inv h) {v v' : LV} (c : CA h') (w' : WF v') (r' : CLd 3 v' h') (m' : MLd v' h') (k : CK v h) (e0 : v' 0 0 = v 0 0) (e1 : ∀ x, x < v 0 0 → v' 1 x = v 1 x) (q : ∀ a j, ¬ scr a j → ¬ fpA a j → ¬ fpL a j → hg h' a j = hg h a j) : Inv h' := by
  refine ⟨c, CS_ag I.2.1 fun a j z => q a j (by unfold scr; omega) (by unfold fpA; omega) (by unfold fpL; omega), v', w', r', m', fun i hi => ?_⟩
  have k' : CK v h' := CK_ag k fun a j z => q a j (by unfold scr; omega) (by unfold fpA; omega) (by unfold fpL; omega)
  rcases k' i hi with c | ⟨u, c1, c2, c3, c0, c4, c5⟩
  · exact Or.inl c
  · exact Or.inr ⟨u, c1, c2, c3.trans e0.symm, e0 ▸ c0, fun x hx => (c4 x (e0 ▸ hx)).trans (e1 x (e0 ▸ hx)).symm, c5⟩
theorem CA_L {h h' : Hp} (I : Inv h) (q : ∀ a j, ¬ scr a j → ¬ fpL a j → hg h' a j = hg h a j) : CA h' := CA_ag I.1 fun a j z => q a j (by unfold fpA at z; unfold scr; omega) (by unfold fpA at z; unfold fpL; omega)
theorem m_askLet_b {g : Hp} {x : Int32} (hx : x < nI 0) : F_Mo_askedLetter x g = retI (-nI 1) g := by
  unfold F_Mo_askedLetter
  refine if_neg fun z => ?_
  rw [le_toInt] at z
  rw [lt_toInt] at hx
  have : (0 : Int32).toInt = 0 := rfl
  have h2 : (nI 0).toInt = 0 := rfl
  omega
theorem m_askLet_n {v : LV} {g : Hp} (r : MLd v g) (w : WF v) {a : Nat} (ha : a < 2 ^ 31) (hl : ¬ a < v 8 0) : F_Mo_askedLetter (nI a) g = F_Mo_meetWith (nI 2) g := by
  have h4 := wf_l w
  simp (disch := first | assumption | omega) only [F_Mo_askedLetter, lit_0, lit_1, lit_2, lit_3, lit_4, lit_5, lit_6, lit_7, lit_8, lit_9, lit_10, lit_11, lit_12, lit_16, lit_17, lit_20, lit_31, lit_32, lit_40, lit_47, lit_48, lit_49, lit_57, lit_58, lit_60, lit_64, lit_68, lit_80, lit_97, lit_99, lit_100, lit_101, lit_104, lit_108, lit_109, lit_115, lit_117, lit_121, lit_127, lit_128, lit_140, lit_1000, lit_1000000, lit_1048576, bI_ret, bV_ret, bL_ret, bH_t, cond_true, z_0, z_1, retZ_tf, z_tf0, z_tf1, Decidable.not_not, Classical.not_not, nI_add, nI_clamp, n_le, n_lt, n_eq, nI_or, nI_and, z_sdf, of_nI, M_l r, meet_b]
  rw [if_pos (Nat.zero_le _), if_neg hl]
theorem m_askLet_t {v : LV} {g : Hp} (r : MLd v g) (w : WF v) {a : Nat} (hl : a < v 8 0) : F_Mo_askedLetter (nI a) g = retI (nI 0) g := by
  have h4 := wf_l w
  simp (disch := first | assumption | omega) only [F_Mo_askedLetter, lit_0, lit_1, lit_2, lit_3, lit_4, lit_5, lit_6, lit_7, lit_8, lit_9, lit_10, lit_11, lit_12, lit_16, lit_17, lit_20, lit_31, lit_32, lit_40, lit_47, lit_48, lit_49, lit_57, lit_58, lit_60, lit_64, lit_68, lit_80, lit_97, lit_99, lit_100, lit_101, lit_104, lit_108, lit_109, lit_115, lit_117, lit_121, lit_127, lit_128, lit_140, lit_1000, lit_1000000, lit_1048576, bI_ret, bV_ret, bL_ret, bH_t, cond_true, z_0, z_1, retZ_tf, z_tf0, z_tf1, Decidable.not_not, Classical.not_not, nI_add, nI_clamp, n_le, n_lt, n_eq, nI_or, nI_and, z_sdf, of_nI, M_l r, meet_b]
  rw [if_pos (Nat.zero_le _), if_pos hl]
theorem le0_f {x : Int32} (hx : x < nI 0) : (nI 0 ≤ x) = False := propext ⟨fun z => by
  rw [le_toInt] at z
  rw [lt_toInt] at hx
  omega, fun z => z.elim⟩
theorem MLd_g1 {v : LV} {h g1 : Hp} (m : MLd v h) (hg1 : ∀ a j, ¬ scr a j → ¬ fpA a j → hg g1 a j = hg h a j) : MLd v g1 := MLd_ag m fun a j f => hg1 a j (by unfold fpM at f; unfold scr; omega) (by unfold fpM at f; unfold fpA; omega)
theorem L3_l {v : LV} {h : Hp} (r : CLd 3 v h) : hg h 3 10 = nI (v 8 0) := L_l r
theorem L3_h {v : LV} {h : Hp} (r : CLd 3 v h) : hg h 3 11 = nI (v 7 0) := L_h r
theorem g_where (l : Int32) {h : Hp} (I : Inv h) : Ok (F_Bp_where l) (F_Mo_where l) h := by
  obtain ⟨-, -, v, w, r, m, -⟩ := id I
  have h4 := wf_l w
  rcases x_neg (x := l) with hl | ⟨k, hk, rfl⟩
  · refine fin_q I (h1 := h) (h2 := h) (x := -nI 1) ?_ (frS_rf h) (asked1 (m_askLet_b hl)) (frS_rf h)
    simp (disch := first | assumption | omega) only [F_Bp_where, lit_0, lit_1, lit_2, lit_3, lit_4, lit_5, lit_6, lit_7, lit_8, lit_9, lit_10, lit_11, lit_12, lit_16, lit_17, lit_20, lit_31, lit_32, lit_40, lit_47, lit_48, lit_49, lit_57, lit_58, lit_60, lit_64, lit_68, lit_80, lit_97, lit_99, lit_100, lit_101, lit_104, lit_108, lit_109, lit_115, lit_117, lit_121, lit_127, lit_128, lit_140, lit_1000, lit_1000000, lit_1048576, bI_ret, bV_ret, bL_ret, bH_t, cond_true, z_0, z_1, retZ_tf, z_tf0, z_tf1, Decidable.not_not, Classical.not_not, nI_add, nI_clamp, n_le, n_lt, n_eq, nI_or, nI_and, z_sdf, of_nI, ite_not, m_i3, m_i99, m_i7, m_i1, m_i20, m_i2, m_i8, m_i15, m_i60, le0_f hl, if_false]
  · by_cases q : k < v 8 0
    · have h7 := wf_l7 w q
      have h1 := wf_l1 w q
      have m1 : MLd v (hs h 0 11 (nI (cam v k))) := MLd_0 m
      refine fin_t I (h1 := h) (h2 := hs h 0 11 (nI (cam v k))) (x := nI (hol v k)) (a := nI (cam v k)) ?_ (frS_rf h) ((asked0 (by decide) (m_askLet_t m1 w q)).trans ?_) (frS_rf _)
      · have E := le_3 w r q
        have E2 := le_3 w (CLd_0 w r (k := 11) (x := nI (cam v k))) q
        simp (disch := first | assumption | omega) only [F_Bp_where, lit_0, lit_1, lit_2, lit_3, lit_4, lit_5, lit_6, lit_7, lit_8, lit_9, lit_10, lit_11, lit_12, lit_16, lit_17, lit_20, lit_31, lit_32, lit_40, lit_47, lit_48, lit_49, lit_57, lit_58, lit_60, lit_64, lit_68, lit_80, lit_97, lit_99, lit_100, lit_101, lit_104, lit_108, lit_109, lit_115, lit_117, lit_121, lit_127, lit_128, lit_140, lit_1000, lit_1000000, lit_1048576, bI_ret, bV_ret, bL_ret, bH_t, cond_true, z_0, z_1, retZ_tf, z_tf0, z_tf1, Decidable.not_not, Classical.not_not, nI_add, nI_clamp, n_le, n_lt, n_eq, nI_or, nI_and, z_sdf, of_nI, ite_not, m_i3, m_i99, m_i7, m_i1, m_i20, m_i2, m_i8, m_i15, m_i60, L3_l r, oR_19, sR_19, le_O E.1, c_cameWhen E, c_holder E2]
        rw [if_pos (Nat.zero_le _), if_pos q]
      · have e1 : nI 10 + nI (v 11 k) - nI 1 = nI (10 + (v 11 k - 1)) := by
          rw [nI_add, nI_sb (by omega)]
          congr 1
          omega
        show (bI (F_Mo_letterOf (nI k) (nI 2) (hs h 0 11 (nI (cam v k)))) fun v4 h3 => bI (F_Mo_letterOf (nI k) (nI 10 + v4 - nI 1) h3) fun v6 h5 => bI (F_Mo_holderOf (nI k) h5) fun v8 h7 => bI (F_Mo_ask v6 v8 h7) fun v10 h9 => retI v10 h9) = _
        rw [m_len w m1 q, bI_ret, e1, m_ca w m1 q (show v 11 k - 1 < v 11 k by omega), bI_ret, m_holderOf w m1 q, bI_ret]
        unfold F_Mo_ask
        rw [bH_t, bI_ret]
        rfl
    · refine fin_f I (k := 2) (h1 := h) (by decide) (by decide) ?_ (frS_rf h) fun g1 hg1 => asked3 (by decide) (by decide) (m_askLet_n (MLd_g1 m hg1) w hk q)
      simp (disch := first | assumption | omega) only [F_Bp_where, lit_0, lit_1, lit_2, lit_3, lit_4, lit_5, lit_6, lit_7, lit_8, lit_9, lit_10, lit_11, lit_12, lit_16, lit_17, lit_20, lit_31, lit_32, lit_40, lit_47, lit_48, lit_49, lit_57, lit_58, lit_60, lit_64, lit_68, lit_80, lit_97, lit_99, lit_100, lit_101, lit_104, lit_108, lit_109, lit_115, lit_117, lit_121, lit_127, lit_128, lit_140, lit_1000, lit_1000000, lit_1048576, bI_ret, bV_ret, bL_ret, bH_t, cond_true, z_0, z_1, retZ_tf, z_tf0, z_tf1, Decidable.not_not, Classical.not_not, nI_add, nI_clamp, n_le, n_lt, n_eq, nI_or, nI_and, z_sdf, of_nI, ite_not, m_i3, m_i99, m_i7, m_i1, m_i20, m_i2, m_i8, m_i15, m_i60, L3_l r, found_b]
      rw [if_pos (Nat.zero_le _), if_neg q]
/-! hours -/
section HOUR
variable {v : LV} {h : Hp} {a : Nat}
theorem wf_vs7 (w : WF v) (ha : a ≤ 99) : WF (vs v 7 0 a) := by
  obtain ⟨a1, a2, a3, a4, a5, a6, a7⟩ := w
  refine ⟨a1, a2, a3, a4, ha, a6, fun k hk => ?_⟩
  have e1 : ∀ k j, vs v 7 0 a (20 + k) j = v (20 + k) j := fun k j => vs_ne (by omega)
  have e2 : ∀ k j, vs v 7 0 a (30 + k) j = v (30 + k) j := fun k j => vs_ne (by omega)
  have := a7 k hk
  simp only [e1, e2]
  exact this
theorem CLd_vs7 (r : CLd 3 v h) (h4 : v 8 0 ≤ 4) : CLd 3 (vs v 7 0 a) (hs h 3 11 (nI a)) := by
  have e : ∀ b j, ¬ (b = 3 ∧ j = 11) → hg (hs h 3 11 (nI a)) b j = hg h b j := fun b j q => by rw [hg_hs2, if_neg q]
  obtain ⟨⟨a1, a2, a3, a4⟩, b, c, d, e5, f⟩ := r
  refine ⟨⟨?_, ?_, ?_, ?_⟩, fun y hy => ⟨?_, ?_⟩, fun k hk => ⟨?_, ?_, ?_⟩, fun t y ht hy => ?_, fun y hy => ?_, fun k hk => ?_⟩
  · rw [e _ _ (by decide)]; exact a1
  · rw [e _ _ (by decide)]; exact a2
  · rw [e _ _ (by decide)]; exact a3
  · rw [vs_eq, hg_hs_eq]
  · rw [e _ _ (by omega)]; exact (b y hy).1
  · rw [e _ _ (by omega)]; exact (b y hy).2
  · rw [e _ _ (by omega)]; exact (c k hk).1
  · rw [e _ _ (by omega)]; exact (c k hk).2.1
  · rw [e _ _ (by omega)]; exact (c k hk).2.2
  · rw [e _ _ (by omega)]; exact d t y ht hy
  · rw [e _ _ (by omega)]; exact e5 y hy
  · have hk : k < v 8 0 := hk
    obtain ⟨g1, g2, g3, g4⟩ := f k hk
    refine ⟨?_, ?_, ?_, fun j hj => ⟨?_, ?_⟩⟩
    · rw [e _ _ (by omega)]; exact g1
    · rw [e _ _ (by omega)]; exact g2
    · rw [e _ _ (by omega)]; exact g3
    · rw [e _ _ (by omega)]
      exact (g4 j hj).1.trans (by rw [vs_ne (by omega)])
    · rw [e _ _ (by omega)]
      exact (g4 j hj).2.trans (by rw [vs_ne (by omega)])
theorem MLd_vs7 (r : MLd v h) : MLd (vs v 7 0 a) (hs h 178 13 (nI a)) := by
  have e : ∀ b j, ¬ (b = 178 ∧ j = 13) → hg (hs h 178 13 (nI a)) b j = hg h b j := fun b j q => by rw [hg_hs2, if_neg q]
  obtain ⟨⟨a1, a2, a3, a4⟩, b, c, f⟩ := r
  refine ⟨⟨?_, ?_, ?_, ?_⟩, fun y hy => ⟨?_, ?_⟩, fun k hk => ⟨?_, ?_, ?_⟩, fun k hk => ⟨?_, ?_, ?_, fun j hj => ⟨?_, ?_⟩⟩⟩
  · rw [e _ _ (by decide)]; exact a1
  · rw [e _ _ (by decide)]; exact a2
  · rw [e _ _ (by decide)]; exact a3
  · rw [vs_eq, hg_hs_eq]
  · rw [e _ _ (by omega)]; exact (b y hy).1
  · rw [e _ _ (by omega)]; exact (b y hy).2
  · rw [e _ _ (by omega)]; exact (c k hk).1
  · rw [e _ _ (by omega)]; exact (c k hk).2.1
  · rw [e _ _ (by omega)]; exact (c k hk).2.2
  · rw [e _ _ (by omega)]; exact (f k hk).1
  · rw [e _ _ (by omega)]; exact (f k hk).2.1
  · rw [e _ _ (by omega)]; exact (f k hk).2.2.1
  · rw [e _ _ (by omega)]
    exact ((f k hk).2.2.2 j hj).1.trans (by rw [vs_ne (by omega)])
  · rw [e _ _ (by omega)]
    exact ((f k hk).2.2.2 j hj).2.trans (by rw [vs_ne (by omega)])
end HOUR
theorem g_hours (x : Int32) {h : Hp} (I : Inv h) : Ok (F_Bp_hours x) (F_Mo_hours x) h := by
  obtain ⟨-, -, v, w, r, m, ck⟩ := id I
  have hh := wf_h w
  have h4 := wf_l w
  by_cases hx : inR x 21
  · obtain ⟨n, hn, rfl⟩ := inR_ex (by decide) hx
    have hxv : inV (nI n) 0 21 := (inV0 _ _).mpr hx
    by_cases q : v 7 0 + n ≤ 99
    · have fr : ∀ a j, ¬ fpL a j → hg (hs (hs h 3 11 (nI (v 7 0 + n))) 178 13 (nI (v 7 0 + n))) a j = hg h a j := fun a j n1 => by
        rw [hg_hs2, if_neg (fun z => n1 (by unfold fpL; omega)), hg_hs2, if_neg (fun z => n1 (by unfold fpL; omega))]
      have m1 : MLd v (hs h 3 11 (nI (v 7 0 + n))) := MLd_ag m fun a j f => hg_hs_a (by unfold fpM at f; omega)
      refine ⟨(nI (v 7 0 + n)), hs h 3 11 (nI (v 7 0 + n)), hs (hs h 3 11 (nI (v 7 0 + n))) 178 13 (nI (v 7 0 + n)), ?_, ?_, Inv_L I (v := v) (v' := vs v 7 0 (v 7 0 + n)) (CA_L I fun a j _ n1 => fr a j n1) (wf_vs7 w q) (CLd_ag (CLd_vs7 r h4) (fun a j h1 h2 => hg_hs_a (by omega)) h4) (MLd_vs7 m1) ck rfl (fun _ _ => rfl) fun a j _ _ n1 => fr a j n1⟩
      · simp (disch := first | assumption | omega) only [F_Bp_hours, lit_0, lit_1, lit_2, lit_3, lit_4, lit_5, lit_6, lit_7, lit_8, lit_9, lit_10, lit_11, lit_12, lit_16, lit_17, lit_20, lit_31, lit_32, lit_40, lit_47, lit_48, lit_49, lit_57, lit_58, lit_60, lit_64, lit_68, lit_80, lit_97, lit_99, lit_100, lit_101, lit_104, lit_108, lit_109, lit_115, lit_117, lit_121, lit_127, lit_128, lit_140, lit_1000, lit_1000000, lit_1048576, bI_ret, bV_ret, bL_ret, bH_t, cond_true, z_0, z_1, retZ_tf, z_tf0, z_tf1, Decidable.not_not, Classical.not_not, nI_add, nI_clamp, n_le, n_lt, n_eq, nI_or, nI_and, z_sdf, of_nI, ite_not, m_i3, m_i99, m_i7, m_i1, m_i20, m_i2, m_i8, m_i15, m_i60, L3_h r, hg_hs_eq]
        rw [if_neg (Nat.not_lt_zero _), if_pos (by omega), if_pos q]
        rfl
      · simp (disch := first | assumption | omega) only [F_Mo_hours, lit_0, lit_1, lit_2, lit_3, lit_4, lit_5, lit_6, lit_7, lit_8, lit_9, lit_10, lit_11, lit_12, lit_16, lit_17, lit_20, lit_31, lit_32, lit_40, lit_47, lit_48, lit_49, lit_57, lit_58, lit_60, lit_64, lit_68, lit_80, lit_97, lit_99, lit_100, lit_101, lit_104, lit_108, lit_109, lit_115, lit_117, lit_121, lit_127, lit_128, lit_140, lit_1000, lit_1000000, lit_1048576, bI_ret, bV_ret, bL_ret, bH_t, cond_true, z_0, z_1, retZ_tf, z_tf0, z_tf1, Decidable.not_not, Classical.not_not, nI_add, nI_clamp, n_le, n_lt, n_eq, nI_or, nI_and, z_sdf, of_nI, ite_not, m_i3, m_i99, m_i7, m_i1, m_i20, m_i2, m_i8, m_i15, m_i60, if_pos hxv, M_h m1, hg_hs_eq]
        first
          | (rw [if_pos hx, if_pos q]; rfl)
          | (rw [if_pos hxv, if_pos q]; rfl)
          | (rw [if_pos q]; rfl)
    · refine fin_q I (h1 := h) (h2 := h) (x := -nI 2) ?_ (frS_rf h) ?_ (frS_rf h)
      · simp (disch := first | assumption | omega) only [F_Bp_hours, lit_0, lit_1, lit_2, lit_3, lit_4, lit_5, lit_6, lit_7, lit_8, lit_9, lit_10, lit_11, lit_12, lit_16, lit_17, lit_20, lit_31, lit_32, lit_40, lit_47, lit_48, lit_49, lit_57, lit_58, lit_60, lit_64, lit_68, lit_80, lit_97, lit_99, lit_100, lit_101, lit_104, lit_108, lit_109, lit_115, lit_117, lit_121, lit_127, lit_128, lit_140, lit_1000, lit_1000000, lit_1048576, bI_ret, bV_ret, bL_ret, bH_t, cond_true, z_0, z_1, retZ_tf, z_tf0, z_tf1, Decidable.not_not, Classical.not_not, nI_add, nI_clamp, n_le, n_lt, n_eq, nI_or, nI_and, z_sdf, of_nI, ite_not, m_i3, m_i99, m_i7, m_i1, m_i20, m_i2, m_i8, m_i15, m_i60, L3_h r, hg_hs_eq]
        rw [if_neg (Nat.not_lt_zero _), if_pos (by omega), if_neg q]
      · simp (disch := first | assumption | omega) only [F_Mo_hours, lit_0, lit_1, lit_2, lit_3, lit_4, lit_5, lit_6, lit_7, lit_8, lit_9, lit_10, lit_11, lit_12, lit_16, lit_17, lit_20, lit_31, lit_32, lit_40, lit_47, lit_48, lit_49, lit_57, lit_58, lit_60, lit_64, lit_68, lit_80, lit_97, lit_99, lit_100, lit_101, lit_104, lit_108, lit_109, lit_115, lit_117, lit_121, lit_127, lit_128, lit_140, lit_1000, lit_1000000, lit_1048576, bI_ret, bV_ret, bL_ret, bH_t, cond_true, z_0, z_1, retZ_tf, z_tf0, z_tf1, Decidable.not_not, Classical.not_not, nI_add, nI_clamp, n_le, n_lt, n_eq, nI_or, nI_and, z_sdf, of_nI, ite_not, m_i3, m_i99, m_i7, m_i1, m_i20, m_i2, m_i8, m_i15, m_i60, if_pos hxv, M_h m, hg_hs_eq]
        first
          | (rw [if_pos hx, if_neg q])
          | (rw [if_pos hxv, if_neg q])
          | (rw [if_neg q])
  · have hxv : ¬ inV x 0 21 := fun z => hx ((inV0 _ _).mp z)
    refine fin_q I (h1 := h) (h2 := h) (x := -nI 1) ?_ (frS_rf h) ?_ (frS_rf h)
    · simp (disch := first | assumption | omega) only [F_Bp_hours, lit_0, lit_1, lit_2, lit_3, lit_4, lit_5, lit_6, lit_7, lit_8, lit_9, lit_10, lit_11, lit_12, lit_16, lit_17, lit_20, lit_31, lit_32, lit_40, lit_47, lit_48, lit_49, lit_57, lit_58, lit_60, lit_64, lit_68, lit_80, lit_97, lit_99, lit_100, lit_101, lit_104, lit_108, lit_109, lit_115, lit_117, lit_121, lit_127, lit_128, lit_140, lit_1000, lit_1000000, lit_1048576, bI_ret, bV_ret, bL_ret, bH_t, cond_true, z_0, z_1, retZ_tf, z_tf0, z_tf1, Decidable.not_not, Classical.not_not, nI_add, nI_clamp, n_le, n_lt, n_eq, nI_or, nI_and, z_sdf, of_nI, ite_not, m_i3, m_i99, m_i7, m_i1, m_i20, m_i2, m_i8, m_i15, m_i60]
      exact (ite_le (k := 20) (by decide)).trans (if_neg hx)
    · simp (disch := first | assumption | omega) only [F_Mo_hours, lit_0, lit_1, lit_2, lit_3, lit_4, lit_5, lit_6, lit_7, lit_8, lit_9, lit_10, lit_11, lit_12, lit_16, lit_17, lit_20, lit_31, lit_32, lit_40, lit_47, lit_48, lit_49, lit_57, lit_58, lit_60, lit_64, lit_68, lit_80, lit_97, lit_99, lit_100, lit_101, lit_104, lit_108, lit_109, lit_115, lit_117, lit_121, lit_127, lit_128, lit_140, lit_1000, lit_1000000, lit_1048576, bI_ret, bV_ret, bL_ret, bH_t, cond_true, z_0, z_1, retZ_tf, z_tf0, z_tf1, Decidable.not_not, Classical.not_not, nI_add, nI_clamp, n_le, n_lt, n_eq, nI_or, nI_and, z_sdf, of_nI, ite_not, m_i3, m_i99, m_i7, m_i1, m_i20, m_i2, m_i8, m_i15, m_i60, if_neg hxv, if_neg hx]
/-! teach -/
theorem g_teach (x t b : Int32) {h : Hp} (I : Inv h) : Ok (F_Bp_teach x t b) (F_Mo_teach x t b) h := by
  obtain ⟨-, -, v, w, r, m, ck⟩ := id I
  have hn := w.1
  have h4 := wf_l w
  by_cases hx : inR x (v 0 0)
  · by_cases ht : inR t 5
    · by_cases hb : inR b 2
      · have hbv : inV b 0 2 := (inV0 _ _).mpr hb
        obtain ⟨a, ha, rfl⟩ := inR_ex (by omega) hx
        obtain ⟨t, ht5, rfl⟩ := inR_ex (by decide) ht
        obtain ⟨b, hb2, rfl⟩ := inR_ex (by decide) hb
        have hw := wf_w w ha
        have fin : ∀ c, c < 32 → (∀ g, CLd 3 v g → F_Bp_teach (nI a) (nI t) (nI b) g = retI (nI (v 2 a) >>> nI (t &&& 31) &&& nI 1) (hs g 5 a (nI c))) → (∀ g, MLd v g → F_Mo_teach (nI a) (nI t) (nI b) g = retI (nI (v 2 a) >>> nI (t &&& 31) &&& nI 1) (hs g 186 a (nI c))) → Ok (F_Bp_teach (nI a) (nI t) (nI b)) (F_Mo_teach (nI a) (nI t) (nI b)) h := fun c hc e1 e2 => by
          have fr : ∀ p j, ¬ fpL p j → hg (hs (hs h 5 a (nI c)) 186 a (nI c)) p j = hg h p j := fun p j n1 => by
            rw [hg_hs2, if_neg (fun z => n1 (by unfold fpL; omega)), hg_hs2, if_neg (fun z => n1 (by unfold fpL; omega))]
          have m1 : MLd v (hs h 5 a (nI c)) := MLd_ag m fun p j f => hg_hs_a (by unfold fpM at f; omega)
          exact ⟨_, _, _, e1 h r, e2 _ m1, Inv_L I (v := v) (v' := vs v 2 a c) (CA_L I fun p j _ n1 => fr p j n1) (wf_vs2 w hc) (CLd_ag (CLd_vs2 r h4) (fun p j h1 h2 => hg_hs_a (by omega)) h4) (MLd_vs2 m1) ck rfl (fun _ _ => rfl) fun p j _ _ n1 => fr p j n1⟩
        have hbt : 2 ^ t < 32 := pow5 ht5
        by_cases q : b = 1
        · refine fin (v 2 a ||| 2 ^ t) (or_lt (n := 5) hw hbt) (fun g rg => ?_) fun g mg => ?_
          · simp (disch := first | assumption | omega) only [F_Bp_teach, lit_0, lit_1, lit_2, lit_3, lit_4, lit_5, lit_6, lit_7, lit_8, lit_9, lit_10, lit_11, lit_12, lit_16, lit_17, lit_20, lit_31, lit_32, lit_40, lit_47, lit_48, lit_49, lit_57, lit_58, lit_60, lit_64, lit_68, lit_80, lit_97, lit_99, lit_100, lit_101, lit_104, lit_108, lit_109, lit_115, lit_117, lit_121, lit_127, lit_128, lit_140, lit_1000, lit_1000000, lit_1048576, bI_ret, bV_ret, bL_ret, bH_t, cond_true, z_0, z_1, retZ_tf, z_tf0, z_tf1, Decidable.not_not, Classical.not_not, nI_add, nI_clamp, n_le, n_lt, n_eq, nI_or, nI_and, z_sdf, of_nI, ite_not, m_i3, m_i99, m_i7, m_i1, m_i20, m_i2, m_i8, m_i15, m_i60, oA_18, oA_65, oA_66, oA_67, oA_69, oA_4, oA_5, c_lacks isL_3 w rg, c_noTongue, if_pos hx, if_pos ht, L3_w rg, c_bit, q]
            rfl
          · simp (disch := first | assumption | omega) only [F_Mo_teach, lit_0, lit_1, lit_2, lit_3, lit_4, lit_5, lit_6, lit_7, lit_8, lit_9, lit_10, lit_11, lit_12, lit_16, lit_17, lit_20, lit_31, lit_32, lit_40, lit_47, lit_48, lit_49, lit_57, lit_58, lit_60, lit_64, lit_68, lit_80, lit_97, lit_99, lit_100, lit_101, lit_104, lit_108, lit_109, lit_115, lit_117, lit_121, lit_127, lit_128, lit_140, lit_1000, lit_1000000, lit_1048576, bI_ret, bV_ret, bL_ret, bH_t, cond_true, z_0, z_1, retZ_tf, z_tf0, z_tf1, Decidable.not_not, Classical.not_not, nI_add, nI_clamp, n_le, n_lt, n_eq, nI_or, nI_and, z_sdf, of_nI, ite_not, m_i3, m_i99, m_i7, m_i1, m_i20, m_i2, m_i8, m_i15, m_i60, oA_185, oA_186, oA_187, oA_188, oA_180, oA_183, oA_179, m_isOne w mg, m_isTongue, if_pos hx, if_pos ht, if_pos hb, if_pos hbv, M_w mg, z_bit]
            first
              | (rw [if_pos hb, if_pos q])
              | (rw [if_pos hbv, if_pos q])
              | (rw [if_pos q])
        · have hb0 : b = 0 := by omega
          refine fin (sdf (v 2 a) (2 ^ t)) (sdf_lt (n := 5) hw) (fun g rg => ?_) fun g mg => ?_
          · simp (disch := first | assumption | omega) only [F_Bp_teach, lit_0, lit_1, lit_2, lit_3, lit_4, lit_5, lit_6, lit_7, lit_8, lit_9, lit_10, lit_11, lit_12, lit_16, lit_17, lit_20, lit_31, lit_32, lit_40, lit_47, lit_48, lit_49, lit_57, lit_58, lit_60, lit_64, lit_68, lit_80, lit_97, lit_99, lit_100, lit_101, lit_104, lit_108, lit_109, lit_115, lit_117, lit_121, lit_127, lit_128, lit_140, lit_1000, lit_1000000, lit_1048576, bI_ret, bV_ret, bL_ret, bH_t, cond_true, z_0, z_1, retZ_tf, z_tf0, z_tf1, Decidable.not_not, Classical.not_not, nI_add, nI_clamp, n_le, n_lt, n_eq, nI_or, nI_and, z_sdf, of_nI, ite_not, m_i3, m_i99, m_i7, m_i1, m_i20, m_i2, m_i8, m_i15, m_i60, oA_18, oA_65, oA_66, oA_67, oA_69, oA_4, oA_5, c_lacks isL_3 w rg, c_noTongue, if_pos hx, if_pos ht, L3_w rg, c_bit, hb0]
            rfl
          · simp (disch := first | assumption | omega) only [F_Mo_teach, lit_0, lit_1, lit_2, lit_3, lit_4, lit_5, lit_6, lit_7, lit_8, lit_9, lit_10, lit_11, lit_12, lit_16, lit_17, lit_20, lit_31, lit_32, lit_40, lit_47, lit_48, lit_49, lit_57, lit_58, lit_60, lit_64, lit_68, lit_80, lit_97, lit_99, lit_100, lit_101, lit_104, lit_108, lit_109, lit_115, lit_117, lit_121, lit_127, lit_128, lit_140, lit_1000, lit_1000000, lit_1048576, bI_ret, bV_ret, bL_ret, bH_t, cond_true, z_0, z_1, retZ_tf, z_tf0, z_tf1, Decidable.not_not, Classical.not_not, nI_add, nI_clamp, n_le, n_lt, n_eq, nI_or, nI_and, z_sdf, of_nI, ite_not, m_i3, m_i99, m_i7, m_i1, m_i20, m_i2, m_i8, m_i15, m_i60, oA_185, oA_186, oA_187, oA_188, oA_180, oA_183, oA_179, m_isOne w mg, m_isTongue, if_pos hx, if_pos ht, if_pos hb, if_pos hbv, M_w mg, z_bit]
            first
              | (rw [if_pos hb, if_neg q])
              | (rw [if_pos hbv, if_neg q])
              | (rw [if_neg q])
      · have hbv : ¬ inV b 0 2 := fun z => hb ((inV0 _ _).mp z)
        refine fin_q I (h1 := h) (h2 := h) (x := -nI 1) ?_ (frS_rf h) ?_ (frS_rf h)
        · simp (disch := first | assumption | omega) only [F_Bp_teach, lit_0, lit_1, lit_2, lit_3, lit_4, lit_5, lit_6, lit_7, lit_8, lit_9, lit_10, lit_11, lit_12, lit_16, lit_17, lit_20, lit_31, lit_32, lit_40, lit_47, lit_48, lit_49, lit_57, lit_58, lit_60, lit_64, lit_68, lit_80, lit_97, lit_99, lit_100, lit_101, lit_104, lit_108, lit_109, lit_115, lit_117, lit_121, lit_127, lit_128, lit_140, lit_1000, lit_1000000, lit_1048576, bI_ret, bV_ret, bL_ret, bH_t, cond_true, z_0, z_1, retZ_tf, z_tf0, z_tf1, Decidable.not_not, Classical.not_not, nI_add, nI_clamp, n_le, n_lt, n_eq, nI_or, nI_and, z_sdf, of_nI, ite_not, m_i3, m_i99, m_i7, m_i1, m_i20, m_i2, m_i8, m_i15, m_i60, c_lacks isL_3 w r, c_noTongue, if_pos hx, if_pos ht]
          exact (ite_le (k := 1) (by decide)).trans (if_neg hb)
        · simp (disch := first | assumption | omega) only [F_Mo_teach, lit_0, lit_1, lit_2, lit_3, lit_4, lit_5, lit_6, lit_7, lit_8, lit_9, lit_10, lit_11, lit_12, lit_16, lit_17, lit_20, lit_31, lit_32, lit_40, lit_47, lit_48, lit_49, lit_57, lit_58, lit_60, lit_64, lit_68, lit_80, lit_97, lit_99, lit_100, lit_101, lit_104, lit_108, lit_109, lit_115, lit_117, lit_121, lit_127, lit_128, lit_140, lit_1000, lit_1000000, lit_1048576, bI_ret, bV_ret, bL_ret, bH_t, cond_true, z_0, z_1, retZ_tf, z_tf0, z_tf1, Decidable.not_not, Classical.not_not, nI_add, nI_clamp, n_le, n_lt, n_eq, nI_or, nI_and, z_sdf, of_nI, ite_not, m_i3, m_i99, m_i7, m_i1, m_i20, m_i2, m_i8, m_i15, m_i60, m_isOne w m, m_isTongue, if_pos hx, if_pos ht, if_neg hb, if_neg hbv]
    · refine fin_q I (h1 := h) (h2 := h) (x := -nI 1) ?_ (frS_rf h) ?_ (frS_rf h)
      · simp (disch := first | assumption | omega) only [F_Bp_teach, lit_0, lit_1, lit_2, lit_3, lit_4, lit_5, lit_6, lit_7, lit_8, lit_9, lit_10, lit_11, lit_12, lit_16, lit_17, lit_20, lit_31, lit_32, lit_40, lit_47, lit_48, lit_49, lit_57, lit_58, lit_60, lit_64, lit_68, lit_80, lit_97, lit_99, lit_100, lit_101, lit_104, lit_108, lit_109, lit_115, lit_117, lit_121, lit_127, lit_128, lit_140, lit_1000, lit_1000000, lit_1048576, bI_ret, bV_ret, bL_ret, bH_t, cond_true, z_0, z_1, retZ_tf, z_tf0, z_tf1, Decidable.not_not, Classical.not_not, nI_add, nI_clamp, n_le, n_lt, n_eq, nI_or, nI_and, z_sdf, of_nI, ite_not, m_i3, m_i99, m_i7, m_i1, m_i20, m_i2, m_i8, m_i15, m_i60, c_lacks isL_3 w r, c_noTongue, if_pos hx, if_neg ht]
      · simp (disch := first | assumption | omega) only [F_Mo_teach, lit_0, lit_1, lit_2, lit_3, lit_4, lit_5, lit_6, lit_7, lit_8, lit_9, lit_10, lit_11, lit_12, lit_16, lit_17, lit_20, lit_31, lit_32, lit_40, lit_47, lit_48, lit_49, lit_57, lit_58, lit_60, lit_64, lit_68, lit_80, lit_97, lit_99, lit_100, lit_101, lit_104, lit_108, lit_109, lit_115, lit_117, lit_121, lit_127, lit_128, lit_140, lit_1000, lit_1000000, lit_1048576, bI_ret, bV_ret, bL_ret, bH_t, cond_true, z_0, z_1, retZ_tf, z_tf0, z_tf1, Decidable.not_not, Classical.not_not, nI_add, nI_clamp, n_le, n_lt, n_eq, nI_or, nI_and, z_sdf, of_nI, ite_not, m_i3, m_i99, m_i7, m_i1, m_i20, m_i2, m_i8, m_i15, m_i60, m_isOne w m, m_isTongue, if_pos hx, if_neg ht]
  · refine fin_q I (h1 := h) (h2 := h) (x := -nI 1) ?_ (frS_rf h) ?_ (frS_rf h)
    · simp (disch := first | assumption | omega) only [F_Bp_teach, lit_0, lit_1, lit_2, lit_3, lit_4, lit_5, lit_6, lit_7, lit_8, lit_9, lit_10, lit_11, lit_12, lit_16, lit_17, lit_20, lit_31, lit_32, lit_40, lit_47, lit_48, lit_49, lit_57, lit_58, lit_60, lit_64, lit_68, lit_80, lit_97, lit_99, lit_100, lit_101, lit_104, lit_108, lit_109, lit_115, lit_117, lit_121, lit_127, lit_128, lit_140, lit_1000, lit_1000000, lit_1048576, bI_ret, bV_ret, bL_ret, bH_t, cond_true, z_0, z_1, retZ_tf, z_tf0, z_tf1, Decidable.not_not, Classical.not_not, nI_add, nI_clamp, n_le, n_lt, n_eq, nI_or, nI_and, z_sdf, of_nI, ite_not, m_i3, m_i99, m_i7, m_i1, m_i20, m_i2, m_i8, m_i15, m_i60, c_lacks isL_3 w r, if_neg hx]
    · simp (disch := first | assumption | omega) only [F_Mo_teach, lit_0, lit_1, lit_2, lit_3, lit_4, lit_5, lit_6, lit_7, lit_8, lit_9, lit_10, lit_11, lit_12, lit_16, lit_17, lit_20, lit_31, lit_32, lit_40, lit_47, lit_48, lit_49, lit_57, lit_58, lit_60, lit_64, lit_68, lit_80, lit_97, lit_99, lit_100, lit_101, lit_104, lit_108, lit_109, lit_115, lit_117, lit_121, lit_127, lit_128, lit_140, lit_1000, lit_1000000, lit_1048576, bI_ret, bV_ret, bL_ret, bH_t, cond_true, z_0, z_1, retZ_tf, z_tf0, z_tf1, Decidable.not_not, Classical.not_not, nI_add, nI_clamp, n_le, n_lt, n_eq, nI_or, nI_and, z_sdf, of_nI, ite_not, m_i3, m_i99, m_i7, m_i1, m_i20, m_i2, m_i8, m_i15, m_i60, m_isOne w m, if_neg hx]
