/-! THE READING of a whole text, both sides at once -/
section PARS
variable {v : LV} {g g' : Hp} {t n i : Nat} {f : Nat → Int32}
def Fin2 (n : Nat) (RC RM : Res Hp) (g g' : Hp) : Prop := ∃ r h1 h2, RC = retI r h1 ∧ RM = retI r h2 ∧ frP g h1 ∧ frQ g' h2 ∧ ((r = -9 ∧ ∃ v', WFp v' ∧ CLd 32 v' h1 ∧ RLd v' h2) ∨ ∃ p, p ≤ n ∧ r = nI p)
theorem Fin2_s {RC RM : Res Hp} {gA gB : Hp} (f1 : frP g gA) (f2 : frQ g' gB) (h : Fin2 n RC RM gA gB) : Fin2 n RC RM g g' := by
  obtain ⟨r, h1, h2, a1, a2, a3, a4, a5⟩ := h
  exact ⟨r, h1, h2, a1, a2, frP_tr f1 a3, frQ_tr f2 a4, a5⟩
theorem m_rhF (ht : t < 4) (hn : n ≤ 80) (c : MT t n f g) (hi : i < n) (w : WF v) (r : RLd v g) (e16 : hg g 178 16 = nI i) (q : kd (f i) = 9 ∨ 0 < v 3 0 ∨ ¬ v 0 0 < 7) : F_Mo_readsHand (nI t) g = retI 0 g := by
  have hn7 := w.1
  have hm := wf_m w
  have hv0 := m_here ht hn c e16 (Nat.le_of_lt hi)
  rw [show sgn n f i = f i from if_pos hi] at hv0
  unfold F_Mo_readsHand
  rw [hv0, bI_ret, m_kindOf, bI_ret]
  by_cases a : kd (f i) = 9
  · rw [kv_9 a, if_pos rfl, retZ_0]
  · have k6 := kd_lt (f i)
    have k9 : ¬ nI (kd (f i)) = (-9 : Int32) := fun z => (nI_eq9 (show kd (f i) < 2 ^ 31 by omega)).mp z
    rw [kv_n a, if_neg k9, r.2.1]
    by_cases b : 0 < v 3 0
    · rw [if_pos (show (0 : Int32) < nI (v 3 0) from (nI_ltI (a := 0) (by decide) (by omega)).mpr b), retZ_0]
    · have b3 : v 0 0 = 7 := by omega
      rw [if_neg (show ¬ (0 : Int32) < nI (v 3 0) from fun z => b ((nI_ltI (a := 0) (by decide) (by omega)).mp z)), r.1, b3, if_pos (show nI 7 = (7 : Int32) from rfl), retZ_0]
theorem m_rhT (ht : t < 4) (hn : n ≤ 80) (c : MT t n f g) (hi : i < n) (r : RLd v g) (e16 : hg g 178 16 = nI i) (h3 : ¬ kd (f i) = 9) (h4 : v 3 0 = 0) (h5 : v 0 0 < 7) : F_Mo_readsHand (nI t) g = loopC Mo_readsHand_45 FU (nI t, nI (kd (f i)), nI 0, hs g 178 16 (nI (i + 1))) := by
  have hv0 := m_here ht hn c e16 (Nat.le_of_lt hi)
  rw [show sgn n f i = f i from if_pos hi] at hv0
  have k6 := kd_lt (f i)
  have k9 : ¬ nI (kd (f i)) = (-9 : Int32) := fun z => (nI_eq9 (show kd (f i) < 2 ^ 31 by omega)).mp z
  have k7 : ¬ nI (v 0 0) = (7 : Int32) := fun z => by
    have := (nI_eq (a := v 0 0) (b := 7) (by omega) (by decide)).mp z
    omega
  unfold F_Mo_readsHand
  rw [hv0, bI_ret, m_kindOf, bI_ret, kv_n h3, if_neg k9, r.2.1, h4, if_neg (show ¬ (0 : Int32) < nI 0 by decide), r.1, if_neg k7, bH_t, e16, nI_s]
  rfl
theorem m_goStep (ht : t < 4) (hn : n ≤ 80) (c : MT t n f g) (hi : i < n) (e16 : hg g 178 16 = nI i) (κ : (Int32 × Hp) → Res Hp) : Mo_goesOn_15 (nI t, g) κ = if f i = 32 then κ (nI t, hs g 178 16 (nI (i + 1))) else if f i = 109 then (bI (F_Mo_readsMeeting (nI t) g) fun v8 h7 => if v8 = 0 then retI (hg h7 178 16) h7 else κ (nI t, h7)) else (bI (F_Mo_readsHand (nI t) g) fun v6 h5 => if v6 = 0 then retI (hg h5 178 16) h5 else κ (nI t, h5)) := by
  have hv0 := m_here ht hn c e16 (Nat.le_of_lt hi)
  rw [show sgn n f i = f i from if_pos hi] at hv0
  unfold Mo_goesOn_15
  dsimp only
  rw [oA_183 ht, cond_true, nI_clamp (by omega), c.1, e16, if_neg (nle_nI (by omega) (by omega) (by omega)), hv0, bI_ret]
  by_cases a : f i = 32
  · rw [if_pos a, if_pos a, bH_t, e16, nI_s]
  · rw [if_neg a, if_neg a, hv0, bI_ret]
theorem par (ht : t < 4) (hn : n ≤ 80) : ∀ (d i : Nat) (v : LV) (g g' : Hp) (K K' : Nat), i + d = n → d < K → d < K' → CT t n f g → MT t n f g' → WFp v → CLd 32 v g → RLd v g' → (hg g 63 1 = 0 ∨ (hg g 63 1 = 1 ∧ (i < n → fg (f i) = -9))) → hg g' 178 16 = nI i → Fin2 n (loopC Re_faultOf_14 K (83 + 2 * t, nI i, g)) (loopC Mo_goesOn_15 K' (nI t, g')) g g' := by
  intro d
  induction d using Nat.strongRecOn with
  | ind d ih =>
    intro i v g g' K K' hd hK hK' cC cM w rC rM st e16
    have hn7 := w.1.1
    have hm16 := wf_m w.1
    obtain ⟨k, rfl⟩ : ∃ k, K = k + 1 := ⟨K - 1, by omega⟩
    obtain ⟨k', rfl⟩ : ∃ k', K' = k' + 1 := ⟨K' - 1, by omega⟩
    rw [loopS, loopS]
    by_cases hi : i < n
    · have stA : hg g 63 1 = 0 ∨ (hg g 63 1 = 1 ∧ fg (f i) = -9) := st.imp id (fun z => ⟨z.1, z.2 hi⟩)
      rw [m_goStep ht hn cM hi e16]
      by_cases c32 : f i = 32
      · have eS : F_Re_takesStart (f i) g = retI 1 (hs g 63 1 0) := by rw [c32]; exact st_blank
        rw [c_begin ht hn cC hi stA (Or.inr rfl) eS, if_neg one0, if_pos c32]
        exact Fin2_s frP_63 (frQ_178 (by decide)) (ih (d - 1) (by omega) (i + 1) v _ _ k k' (by omega) (by omega) (by omega) (CT_P cC frP_63) (MT_Q cM (frQ_178 (by decide))) w (CLd_63 w.1 rC) (RLd_16 rM) (Or.inl (hg_hs_eq _ _ _ _)) (hg_hs_eq _ _ _ _))
      · rw [if_neg c32]
        by_cases c109 : f i = 109
        · rw [if_pos c109]
          by_cases hm : v 3 0 < 16
          · have eS : F_Re_takesStart (f i) g = retI 1 (hs g 63 1 2) := by
              rw [c109, st_m rC hm16, if_neg (by omega)]
            rw [c_begin ht hn cC hi stA (Or.inr rfl) eS, if_neg one0]
            rcases meeting ht hn cC cM w rC rM hi hm e16 with ⟨p, h1, h2, a1, a2, a3, a4, a5, a6⟩ | ⟨v', h1, h2, a1, a2, a3, a4, a5, a6, a7, a8, a9, b1⟩
            · rw [a2 k (by omega), a3, bI_ret, if_pos rfl, a4]
              exact ⟨nI p, h1, h2, rfl, rfl, frP_tr frP_63 a5, frQ_tr (frQ_178 (by decide)) a6, Or.inr ⟨p, a1, rfl⟩⟩
            · obtain ⟨k2, rfl⟩ : ∃ k2, k = k2 + 3 := ⟨k - 3, by omega⟩
              rw [a2 k2, a6, bI_ret, if_neg one0]
              have f1 : frP g h1 := frP_tr frP_63 a9
              have f2 : frQ g' h2 := frQ_tr (frQ_178 (by decide)) b1
              exact Fin2_s f1 f2 (ih (n - (i + 1 + 3)) (by omega) (i + 1 + 3) v' h1 h2 k2 k' (by omega) (by omega) (by omega) (CT_P cC f1) (MT_Q cM f2) a3 a4 a7 (Or.inl a5) a8)
          · have eS : F_Re_takesStart (f i) g = retI 0 (hs g 63 1 2) := by
              rw [c109, st_m rC hm16, if_pos (by omega)]
            have eR : F_Mo_readsMeeting (nI t) g' = retI 0 g' := by
              have : v 3 0 = 16 := by omega
              unfold F_Mo_readsMeeting
              rw [rM.2.1, this, if_pos (show nI 16 = (16 : Int32) from rfl), retZ_0]
            rw [c_begin ht hn cC hi stA (Or.inl rfl) eS, if_pos rfl, eR, bI_ret, if_pos rfl, e16]
            exact ⟨nI i, _, g', rfl, rfl, frP_63, frQ_rf _, Or.inr ⟨i, by omega, rfl⟩⟩
        · rw [if_neg c109]
          by_cases bad : kd (f i) = 9 ∨ 0 < v 3 0 ∨ ¬ v 0 0 < 7
          · rw [c_begin ht hn cC hi stA (Or.inl rfl) (st_no w.1 rC c32 c109 bad), if_pos rfl, m_rhF ht hn cM hi w.1 rM e16 bad, bI_ret, if_pos rfl, e16]
            exact ⟨nI i, g, g', rfl, rfl, frP_rf _, frQ_rf _, Or.inr ⟨i, by omega, rfl⟩⟩
          · have h3 : ¬ kd (f i) = 9 := fun z => bad (Or.inl z)
            have h4 : v 3 0 = 0 := by
              rcases Nat.eq_zero_or_pos (v 3 0) with z | z
              · exact z
              · exact absurd (Or.inr (Or.inl z)) bad
            have h5 : v 0 0 < 7 := by
              rcases Nat.lt_or_ge (v 0 0) 7 with z | z
              · exact z
              · exact absurd (Or.inr (Or.inr (by omega))) bad
            have k6 : kd (f i) < 6 := (kd_lt (f i)).resolve_right h3
            obtain ⟨gA, s1, s2, s3, s4, s5⟩ := st_hand w rC c32 c109 h3 h4 h5
            have fB : frQ g' (hs g' 178 16 (nI (i + 1))) := frQ_178 (by decide)
            rw [c_begin ht hn cC hi stA (Or.inr rfl) s1, if_neg one0, m_rhT ht hn cM hi rM e16 h3 h4 h5]
            rcases hand_figs ht hn w h5 k6 (n - (i + 1)) (i + 1) 0 (-nI 9) gA (hs g' 178 16 (nI (i + 1))) FU (by omega) (by show _ < 4096; omega) (CT_P cC s5) (MT_Q cM fB) s2 (RLd_16 rM) (by decide) (Or.inl ⟨rfl, rfl⟩) s3 s4 (hg_hs_eq _ _ _ _) with ⟨p, h1, h2, a1, a2, a3, a4, a5, a6⟩ | ⟨q2, S2, h1, h2, a1, a2, a3, a4, a5, a6, a7, a8, a9, b1, b2, b3⟩
            · rw [a2 k (by omega), a3, bI_ret, if_pos rfl, a4]
              exact ⟨nI p, h1, h2, rfl, rfl, frP_tr s5 a5, frQ_tr fB a6, Or.inr ⟨p, a1, rfl⟩⟩
            · have ek : loopC Re_faultOf_14 k (83 + 2 * t, nI (i + 1), gA) = loopC Re_faultOf_14 (k - (q2 - (i + 1))) (83 + 2 * t, nI q2, h1) := by
                have := a3 (k - (q2 - (i + 1)))
                rw [show k - (q2 - (i + 1)) + (q2 - (i + 1)) = k by omega] at this
                exact this
              rw [ek, a8, bI_ret, if_neg one0]
              have f1 : frP g h1 := frP_tr s5 b2
              have f2 : frQ g' h2 := frQ_tr fB b3
              exact Fin2_s f1 f2 (ih (n - q2) (by omega) q2 (hnd v (kd (f i)) S2) h1 h2 (k - (q2 - (i + 1))) k' (by omega) (by omega) (by omega) (CT_P cC f1) (MT_Q cM f2) (wf_hnd w h5 k6 a4) a5 a9 (Or.inr ⟨a6, a7⟩) b1)
    · have e : i = n := by omega
      subst e
      have st2 : hg g 63 1 < 2 := by
        rcases st with z | z
        · rw [z]; decide
        · rw [z.1]; decide
      have eM : Mo_goesOn_15 (nI t, g') (loopC Mo_goesOn_15 k') = retI (-9) g' := by
        unfold Mo_goesOn_15
        dsimp only
        rw [oA_183 ht, cond_true, nI_clamp (by omega), cM.1, e16, if_pos (le_nI (by omega) (by omega) (Nat.le_refl _))]
      rw [c_rdEnd ht hn cC, if_pos st2, eM]
      exact ⟨-9, g, g', rfl, rfl, frP_rf _, frQ_rf _, Or.inl ⟨rfl, v, w, rC, rM⟩⟩
/-- a land of nothing -/
def v00 : LV := fun _ _ => 0
theorem wf_v00 : WFp v00 := ⟨⟨Nat.zero_le _, fun x hx => absurd hx (Nat.not_lt_zero x), Nat.zero_le _, fun k hk => absurd hk (Nat.not_lt_zero k), Nat.zero_le _, Nat.zero_le _, fun k hk => absurd hk (Nat.not_lt_zero k)⟩, rfl, rfl⟩
theorem c_clear : ∃ h1, F_La_clear 32 g = retV h1 ∧ CLd 32 v00 h1 ∧ frP g h1 := by
  have hL := isL_32
  obtain ⟨h1, t1, t2, t3⟩ := c_tieAll (v := v00) (N := 0) (h := hs (hs (hs (hs g 32 8 (nI 0)) 32 9 (nI 0)) 32 10 (nI 0)) 32 11 (nI 0)) isL_32 (by decide) (by rw [hg_hs_k (by decide), hg_hs_k (by decide), hg_hs_eq]) (fun k hk => absurd hk (Nat.not_lt_zero k))
  refine ⟨h1, ?_, ⟨⟨?_, ?_, ?_, ?_⟩, fun x hx => absurd hx (Nat.not_lt_zero x), fun k hk => absurd hk (Nat.not_lt_zero k), fun t x ht hx => t2.1 t x ht hx, fun x hx => t2.2 x hx, fun k hk => absurd hk (Nat.not_lt_zero k)⟩, fun a j n1 n2 => ?_⟩
  · unfold F_La_clear
    simp (disch := first | assumption | omega) only [la_O, la_f0, la_f1, la_f2, la_f3, la_f4, la_f5, la_f6, la_f7, la_f8, la_f9, la_f10, la_f11, la_r0, la_r1, la_r2, la_r3, la_r4, la_r5, la_r6, la_r7, la_a1, la_a2, la_a3, la_a4, la_a5, la_a6, la_a15, la_a16, la_m, la_am, le_r, lit_0, lit_1, lit_2, lit_3, lit_4, lit_5, lit_6, lit_7, lit_8, lit_9, lit_10, lit_11, lit_12, lit_16, lit_17, lit_20, lit_31, lit_32, lit_40, lit_47, lit_48, lit_49, lit_57, lit_58, lit_60, lit_64, lit_68, lit_80, lit_97, lit_99, lit_100, lit_101, lit_104, lit_108, lit_109, lit_115, lit_117, lit_121, lit_127, lit_128, lit_140, lit_1000, lit_1000000, lit_1048576, bI_ret, bV_ret, bL_ret, bH_t, cond_true, z_0, z_1, retZ_tf, z_tf0, z_tf1, Decidable.not_not, Classical.not_not, nI_add, nI_clamp, n_le, n_lt, n_eq, nI_or, nI_and, z_sdf, of_nI, t1]
  · rw [t3 _ _ (by omega), hg_hs_k (by decide), hg_hs_k (by decide), hg_hs_k (by decide), hg_hs_eq]; rfl
  · rw [t3 _ _ (by omega), hg_hs_k (by decide), hg_hs_k (by decide), hg_hs_eq]; rfl
  · rw [t3 _ _ (by omega), hg_hs_k (by decide), hg_hs_eq]; rfl
  · rw [t3 _ _ (by omega), hg_hs_eq]; rfl
  · rw [t3 _ _ (by omega), hg_hs_a (by omega), hg_hs_a (by omega), hg_hs_a (by omega), hg_hs_a (by omega)]
theorem parse (ht : t < 4) (hn : n ≤ 80) (cC : CT t n f g) (cM : MT t n f g') : Fin2 n (F_Re_faultOf (83 + 2 * t) g) (F_Mo_goesOn (nI t) g') g g' := by
  obtain ⟨h1, c1, c2, c3⟩ := c_clear (g := g)
  have f1 : frP g (hs h1 63 1 0) := frP_tr c3 frP_63
  have f2 : frQ g' (hs (hs (hs g' 178 16 0) 178 17 0) 178 18 0) := frQ_tr (frQ_178 (by decide)) (frQ_tr (frQ_178 (by decide)) (frQ_178 (by decide)))
  have eC : F_Re_faultOf (83 + 2 * t) g = loopC Re_faultOf_14 FU (83 + 2 * t, nI 0, hs h1 63 1 0) := by
    unfold F_Re_faultOf
    rw [c1, bV_ret, bH_t]
    rfl
  have eM : F_Mo_goesOn (nI t) g' = loopC Mo_goesOn_15 FU (nI t, hs (hs (hs g' 178 16 0) 178 17 0) 178 18 0) := by
    unfold F_Mo_goesOn
    rw [bH_t, bH_t, bH_t]
  rw [eC, eM]
  refine Fin2_s f1 f2 (par ht hn n 0 v00 _ _ FU FU (by omega) (by show _ < 4096; omega) (by show _ < 4096; omega) (CT_P cC f1) (MT_Q cM f2) wf_v00 (CLd_63 wf_v00.1 c2) ⟨?_, ?_, fun x hx => absurd hx (Nat.not_lt_zero x), fun k hk => absurd hk (Nat.not_lt_zero k)⟩ (Or.inl (hg_hs_eq _ _ _ _)) ?_)
  · rw [hg_hs_k (by decide), hg_hs_eq]; rfl
  · rw [hg_hs_eq]; rfl
  · rw [hg_hs_k (by decide), hg_hs_k (by decide), hg_hs_eq]; rfl
end PARS
theorem frS_P {g h : Hp} (q : frP g h) : frS g h := fun a j n => q a j (fun z => n (by unfold scr; omega)) (fun z => n (by unfold scr; omega))
theorem frS_Q {g h : Hp} (q : frQ g h) : frS g h := fun a j n => q a j (fun z => n (by unfold scr; omega)) (fun z => n (by unfold scr; omega))
theorem retI_inj {x y : Int32} {g h : Hp} (e : retI x g = retI y h) : x = y ∧ g = h := by
  unfold retI at e
  injection e with e
  injection e with e1 e2
  injection e1 with e1
  injection e1 with e1
  exact ⟨e1, e2⟩
theorem retV_inj {g h : Hp} (e : retV g = retV h) : g = h := by
  unfold retV at e
  injection e with e
  injection e with e1 e2
theorem g_fault (x : Int32) {h : Hp} (I : Inv h) : Ok (F_Bp_fault x) (F_Mo_fault x) h := by
  by_cases hx : inR x 4
  · obtain ⟨t, ht, rfl⟩ := inR_ex (by decide) hx
    have s10 : 6 + t < 10 := by omega
    rcases text_cases I ht with ⟨c1, c2, c3⟩ | ⟨n, hn, c1, c2, c3, c4⟩
    · refine fin_f I (k := 1) (h1 := h) (by decide) (by decide) ?_ (frS_rf h) fun g1 hg1 => asked3 (by decide) (by decide) (m_askText_g ht (by rw [hg1 183 t (by unfold scr; omega) (by unfold fpA; omega)]; exact c2))
      simp (disch := first | assumption | omega) only [F_Bp_fault, lit_0, lit_1, lit_2, lit_3, lit_4, lit_5, lit_6, lit_7, lit_8, lit_9, lit_10, lit_11, lit_12, lit_16, lit_17, lit_20, lit_31, lit_32, lit_40, lit_47, lit_48, lit_49, lit_57, lit_58, lit_60, lit_64, lit_68, lit_80, lit_97, lit_99, lit_100, lit_101, lit_104, lit_108, lit_109, lit_115, lit_117, lit_121, lit_127, lit_128, lit_140, lit_1000, lit_1000000, lit_1048576, bI_ret, bV_ret, bL_ret, bH_t, cond_true, z_0, z_1, retZ_tf, z_tf0, z_tf1, Decidable.not_not, Classical.not_not, nI_add, nI_clamp, n_le, n_lt, n_eq, nI_or, nI_and, z_sdf, of_nI, ite_not, m_i3, m_i99, m_i7, m_i1, m_i20, m_i2, m_i8, m_i15, m_i60, c_noText, if_pos hx, oR_2, sR_2, sh_t, sh_O s10, c_sheetIs_g s10 c3, found_b, if_true, not_false_iff]
      first | done | rw [if_neg id]
    · have cC : CT t n (fun j => hg h (84 + 2 * t) j) h := ⟨c1, fun _ _ => rfl⟩
      obtain ⟨r, h1, h2, a1, a2, a3, a4, a5⟩ := parse ht hn cC (show MT t n (fun j => hg h (84 + 2 * t) j) h from ⟨c2, fun j hj => (c4 j hj).symm⟩)
      have S1 := frS_P a3
      have cM1 : MT t n (fun j => hg h (84 + 2 * t) j) h1 := ⟨(S1 _ _ (by unfold scr; omega)).trans c2, fun j hj => (S1 _ _ (by unfold scr; omega)).trans (c4 j hj).symm⟩
      obtain ⟨r', h1', h3, b1, b2, b3, b4, b5⟩ := parse ht hn cC cM1
      obtain ⟨rfl, rfl⟩ := retI_inj (a1.symm.trans b1)
      refine fin_q I (h1 := h1) (h2 := h3) (x := r) ?_ S1 ((asked0 (by decide) (m_askText_t ht hn cM1.1)).trans ?_) (frS_Q b4)
      · have a1' : F_Re_faultOf (71 + 2 * (6 + t)) h = retI r h1 := by rw [← sh_t]; exact a1
        simp (disch := first | assumption | omega) only [F_Bp_fault, lit_0, lit_1, lit_2, lit_3, lit_4, lit_5, lit_6, lit_7, lit_8, lit_9, lit_10, lit_11, lit_12, lit_16, lit_17, lit_20, lit_31, lit_32, lit_40, lit_47, lit_48, lit_49, lit_57, lit_58, lit_60, lit_64, lit_68, lit_80, lit_97, lit_99, lit_100, lit_101, lit_104, lit_108, lit_109, lit_115, lit_117, lit_121, lit_127, lit_128, lit_140, lit_1000, lit_1000000, lit_1048576, bI_ret, bV_ret, bL_ret, bH_t, cond_true, z_0, z_1, retZ_tf, z_tf0, z_tf1, Decidable.not_not, Classical.not_not, nI_add, nI_clamp, n_le, n_lt, n_eq, nI_or, nI_and, z_sdf, of_nI, ite_not, m_i3, m_i99, m_i7, m_i1, m_i20, m_i2, m_i8, m_i15, m_i60, c_noText, if_pos hx, oR_2, sR_2, sh_t, sh_O s10, c_sheetIs_t s10 c3, a1', if_true]
      · rw [b2, bI_ret]
  · refine fin_q I (h1 := h) (h2 := h) (x := -nI 1) ?_ (frS_rf h) (asked1 (m_askText_b hx)) (frS_rf h)
    simp (disch := first | assumption | omega) only [F_Bp_fault, lit_0, lit_1, lit_2, lit_3, lit_4, lit_5, lit_6, lit_7, lit_8, lit_9, lit_10, lit_11, lit_12, lit_16, lit_17, lit_20, lit_31, lit_32, lit_40, lit_47, lit_48, lit_49, lit_57, lit_58, lit_60, lit_64, lit_68, lit_80, lit_97, lit_99, lit_100, lit_101, lit_104, lit_108, lit_109, lit_115, lit_117, lit_121, lit_127, lit_128, lit_140, lit_1000, lit_1000000, lit_1048576, bI_ret, bV_ret, bL_ret, bH_t, cond_true, z_0, z_1, retZ_tf, z_tf0, z_tf1, Decidable.not_not, Classical.not_not, nI_add, nI_clamp, n_le, n_lt, n_eq, nI_or, nI_and, z_sdf, of_nI, ite_not, m_i3, m_i99, m_i7, m_i1, m_i20, m_i2, m_i8, m_i15, m_i60, c_noText, if_neg hx]
