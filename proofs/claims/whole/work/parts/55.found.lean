/-! THE GIVEN ONE'S find: it is the first best way -/
/-- sums and sets over places 1 .. i -/
def sm (w f : Nat → Nat) : Nat → Nat
  | 0 => 0
  | i + 1 => sm w f i + w (f (1 + i))
def pst (w f : Nat → Nat) : Nat → Nat
  | 0 => 0
  | i + 1 => pst w f i ||| (if 0 < w (f (1 + i)) then 2 ^ f (1 + i) else 0)
theorem sm_take (w : Nat → Nat) (x y : Nat) (s : List Nat) : ∀ i, i ≤ s.length → sm w (fun k => (x :: (s ++ [y])).getD k 0) i = lsum w (s.take i)
  | 0, _ => by rw [List.take_zero]; rfl
  | i + 1, h => by
    show sm w _ i + w ((x :: (s ++ [y])).getD (1 + i) 0) = _
    rw [sm_take w x y s i (by omega), List.take_succ, List.getElem?_eq_getElem (show i < s.length by omega)]
    show _ = lsum w (s.take i ++ [s[i]])
    rw [lsum_app, Nat.add_comm 1 i, List.getD_cons_succ, getD_app_lt (by omega), List.getD_eq_getElem?_getD, List.getElem?_eq_getElem (show i < s.length by omega)]
    rfl
theorem sm_wt (w : Nat → Nat) (x y : Nat) (s : List Nat) : sm w (fun k => (x :: (s ++ [y])).getD k 0) s.length = wt w (s ++ [y]) := by
  rw [sm_take w x y s _ (Nat.le_refl _), List.take_length, wt_app]
theorem pst_lt {w f : Nat → Nat} {n : Nat} : ∀ i, (∀ k, k < i → f (1 + k) < n) → pst w f i < 2 ^ n
  | 0, _ => Nat.two_pow_pos n
  | i + 1, h => by
    unfold pst
    refine or_lt (pst_lt i fun k hk => h k (by omega)) ?_
    split
    · exact Nat.pow_lt_pow_right (by decide) (h i (Nat.lt_succ_self i))
    · exact Nat.two_pow_pos n
section FOUND
variable {v : LV} {h : Hp}
/-- the way that was found last -/
def FW (x : Nat) (b : List Nat) (h : Hp) : Prop := hg h 64 5 = nI (b.length + 1) ∧ ∀ k, k < b.length + 1 → hg h 67 k = nI ((x :: b).getD k 0)
theorem aw_facts (w : WF v) {x y T fg : Nat} (hx : x < v 0 0) (hy : y < v 0 0) (hxy : x ≠ y) {b : List Nat} (hb : b ∈ aw v x y T fg) : ∃ s, b = s ++ [y] ∧ b.length + 1 ≤ v 0 0 ∧ (∀ k, k < b.length + 1 → (x :: b).getD k 0 < v 0 0) ∧ (∀ k, k < b.length → (x :: b).getD k 0 ≠ y) ∧ (x :: b).getD b.length 0 = y ∧ (∀ k, 1 ≤ k → k < b.length → pF v T fg ((x :: b).getD k 0) = true) := by
  obtain ⟨h1, h2⟩ := (mem_aw w hx hy hxy).mp hb
  have hlt := wayF_lt (fun a b q => (met_lt w q).2.1) b x h1
  obtain ⟨s, rfl, h3⟩ := wayF_split b x h1
  have hlen := pigeon (v 0 0) (x :: (s ++ [y])) (List.nodup_cons.mpr ⟨fun q => by
      rcases wayF_mem h1 x q with e | e
      · exact hxy e
      · exact e.2.1 rfl, h2⟩) (fun z hz => by
      rcases List.mem_cons.mp hz with rfl | hz
      · exact hx
      · exact hlt z hz)
  have hmem : ∀ k, k < (s ++ [y]).length + 1 → (x :: (s ++ [y])).getD k 0 ∈ x :: (s ++ [y]) := fun k hk => by
    rw [List.getD_eq_getElem?_getD, List.getElem?_eq_getElem (show k < (x :: (s ++ [y])).length by simpa using hk)]
    exact List.getElem_mem _
  have hs9 : ∀ k, k < s.length → (s ++ [y]).getD k 0 ∈ s := fun k hk => by
    rw [getD_app_lt hk, List.getD_eq_getElem?_getD, List.getElem?_eq_getElem hk]
    exact List.getElem_mem _
  refine ⟨s, rfl, by simpa using hlen, fun k hk => ?_, fun k hk => ?_, ?_, fun k hk1 hk => ?_⟩
  · rcases List.mem_cons.mp (hmem k hk) with e | e
    · rw [e]; exact hx
    · exact hlt _ e
  · cases k with
    | zero => exact hxy
    | succ k =>
      rw [List.getD_cons_succ]
      exact (h3 _ (hs9 k (by simp at hk; omega))).1
  · rw [show (s ++ [y]).length = s.length + 1 by simp, List.getD_cons_succ]
    exact getD_app_eq
  · obtain ⟨j, rfl⟩ : ∃ j, k = j + 1 := ⟨k - 1, by omega⟩
    rw [List.getD_cons_succ]
    exact (h3 _ (hs9 j (by simp at hk; omega))).2.2
theorem c_find (w : WF v) (r : CLd 3 v h) {T fg x y : Nat} (hp : HP v T fg h) (hx : x < v 0 0) (hy : y < v 0 0) (hxy : x ≠ y) : ∃ h', F_Wa_find (nI x) (nI y) h = retI (tf (aw v x y T fg ≠ [])) h' ∧ frC h h' ∧ HP v T fg h' ∧ (aw v x y T fg ≠ [] → ∃ b, bestOf (prc v T) (aw v x y T fg) = some b ∧ b ∈ aw v x y T fg ∧ FW x b h') := by
  have hn := w.1
  unfold F_Wa_find
  simp (disch := first | assumption | omega) only [lit_0, lit_1, lit_2, lit_3, lit_4, lit_5, lit_6, lit_7, lit_8, lit_9, lit_10, lit_11, lit_12, lit_16, lit_17, lit_20, lit_31, lit_32, lit_40, lit_47, lit_48, lit_49, lit_57, lit_58, lit_60, lit_64, lit_68, lit_80, lit_97, lit_99, lit_100, lit_101, lit_104, lit_108, lit_109, lit_115, lit_117, lit_121, lit_127, lit_128, lit_140, lit_1000, lit_1000000, lit_1048576, bI_ret, bV_ret, bL_ret, bH_t, cond_true, z_0, z_1, retZ_tf, z_tf0, z_tf1, Decidable.not_not, Classical.not_not, nI_add, nI_clamp, n_le, n_lt, n_eq, nI_or, nI_and, z_sdf, of_nI, c_ofKind isL_3 w r]
  have f3 : frC h (hs h 64 3 (nI (muts v))) := frC_hs (by omega)
  have r3 := CLd_C w r f3
  have p3 : HP v T fg (hs h 64 3 (nI (muts v))) := HP_ag hp (fun j => hg_hs_a (by decide))
  have m3 : hg (hs h 64 3 (nI (muts v))) 64 3 = nI (muts v) := hg_hs_eq _ _ _ _
  obtain ⟨g, A, k1, k2, k3, k4⟩ := c_weighAhead (x := x) (y := y) w r3 p3 m3 hx hy
  have k1' : F_Wa_weighAhead (nI x) (nI y) (hs h 64 3 (nI (ms (v 0 0) (fun x => isO (v 1 x) 4)))) = retV g := k1
  obtain ⟨g1, g2⟩ := greedy_best w hx hy hxy k3
  have hAx := k2 x hx
  have f4 : frC h g := frC_tr f3 (fun b j n => k4 b j (by omega))
  have r4 := CLd_C w r f4
  have p4 : HP v T fg g := HP_ag p3 (fun j => k4 65 j (by decide))
  have m4 : hg g 64 3 = nI (muts v) := (k4 64 3 (by decide)).trans m3
  simp (disch := first | assumption | omega) only [k1', lit_0, lit_1, lit_2, lit_3, lit_4, lit_5, lit_6, lit_7, lit_8, lit_9, lit_10, lit_11, lit_12, lit_16, lit_17, lit_20, lit_31, lit_32, lit_40, lit_47, lit_48, lit_49, lit_57, lit_58, lit_60, lit_64, lit_68, lit_80, lit_97, lit_99, lit_100, lit_101, lit_104, lit_108, lit_109, lit_115, lit_117, lit_121, lit_127, lit_128, lit_140, lit_1000, lit_1000000, lit_1048576, bI_ret, bV_ret, bL_ret, bH_t, cond_true, z_0, z_1, retZ_tf, z_tf0, z_tf1, Decidable.not_not, Classical.not_not, nI_add, nI_clamp, n_le, n_lt, n_eq, nI_or, nI_and, z_sdf, of_nI, oA_18, oA_65, oA_66, oA_67, oA_69, oA_4, oA_5, hAx.1]
  by_cases c : A x < 1000000
  · rw [if_pos c, tf_t (g1.mp c)]
    obtain ⟨b1, b2⟩ := g2 c
    have hch := gr_chn (n := v 0 0) (x := x) (y := y) (m := met v) (p := pF v T fg) (u := muteB v) (W := fun z => prc v T z * 16 + 1) (A := A) 1000000 x
    generalize gr (v 0 0) x y (met v) (pF v T fg) (muteB v) (fun z => prc v T z * 16 + 1) A 1000000 x = b at *
    obtain ⟨s, hs9, q1, q2, q3, q4, -⟩ := aw_facts w hx hy hxy b2
    have hb0 : 1 ≤ b.length := by rw [hs9]; simp
    refine loop_inv (N := b.length) (R := fun o => ∃ h', o = retI 1 h' ∧ frC h h' ∧ HP v T fg h' ∧ (aw v x y T fg ≠ [] → ∃ b, bestOf (prc v T) (aw v x y T fg) = some b ∧ b ∈ aw v x y T fg ∧ FW x b h')) (fun i s => ∃ h', s = (nI x, nI y, nI (1 + i), h') ∧ frC h h' ∧ HP v T fg h' ∧ hg h' 64 3 = nI (muts v) ∧ HA v A h' ∧ hg h' 64 5 = nI (i + 1) ∧ ∀ k, k < i + 1 → hg h' 67 k = nI ((x :: b).getD k 0)) ?_ (by show _ < 4096; omega) ?_ ?_
    · refine ⟨_, rfl, frC_tr f4 (frC_tr (frC_hs (by omega)) (frC_hs (by omega))), HP_ag p4 (fun j => ?_), ?_, fun a ha => ?_, ?_, fun k hk => ?_⟩
      · simp (disch := first | assumption | omega) only [hg_hs_a]
      · simp (disch := first | assumption | omega) only [hg_hs_a, hg_hs_k, m4]
      · simp (disch := first | assumption | omega) only [hg_hs_a]
        exact k2 a ha
      · exact hg_hs_eq _ _ _ _
      · have : k = 0 := by omega
        subst this
        rw [hg_hs_a (by decide), hg_hs_eq]
        rfl
    · rintro i s hi ⟨g', rfl, e1, e2, e3, e4, e5, e6⟩
      have r5 := CLd_C w r e1
      have hlast := e6 i (by omega)
      have hl1 := q2 i (by omega)
      have hl2 := q3 i hi
      have hch2 := chn_at b x i hch (fun j hj => by
        have := q3 (j + 1) (by omega)
        rwa [List.getD_cons_succ] at this) hi
      have eN := c_nextOn (x := x) (y := y) w r5 e2 e3 e4 hx hy hl1
      rw [hch2] at eN
      have hnx := q2 (i + 1) (by omega)
      rw [List.getD_cons_succ] at hnx
      refine ⟨(nI x, nI y, nI (1 + (i + 1)), hs (hs g' 67 (i + 1) (nI (b.getD i 0))) 64 5 (nI (i + 1 + 1))), ⟨_, rfl, frC_tr e1 (frC_tr (frC_hs (by omega)) (frC_hs (by omega))), HP_ag e2 (fun j => ?_), ?_, fun a ha => ?_, hg_hs_eq _ _ _ _, fun k hk => ?_⟩, fun κ => ?_⟩
      · simp (disch := first | assumption | omega) only [hg_hs_a]
      · simp (disch := first | assumption | omega) only [hg_hs_a, hg_hs_k, e3]
      · simp (disch := first | assumption | omega) only [hg_hs_a]
        exact e4 a ha
      · rw [hg_hs_a (by decide)]
        by_cases e : k = i + 1
        · subst e
          rw [hg_hs_eq, List.getD_cons_succ]
        · rw [hg_hs_k e]
          exact e6 k (by omega)
      · simp (disch := first | assumption | omega) only [Wa_find_45, oA_18, oA_65, oA_66, oA_67, oA_69, oA_4, oA_5, lit_0, lit_1, lit_2, lit_3, lit_4, lit_5, lit_6, lit_7, lit_8, lit_9, lit_10, lit_11, lit_12, lit_16, lit_17, lit_20, lit_31, lit_32, lit_40, lit_47, lit_48, lit_49, lit_57, lit_58, lit_60, lit_64, lit_68, lit_80, lit_97, lit_99, lit_100, lit_101, lit_104, lit_108, lit_109, lit_115, lit_117, lit_121, lit_127, lit_128, lit_140, lit_1000, lit_1000000, lit_1048576, bI_ret, bV_ret, bL_ret, bH_t, cond_true, z_0, z_1, retZ_tf, z_tf0, z_tf1, Decidable.not_not, Classical.not_not, nI_add, nI_clamp, n_le, n_lt, n_eq, nI_or, nI_and, z_sdf, of_nI, e5, nI_sb, Nat.add_sub_cancel, hlast, eN, hg_hs_a]
        rw [if_neg (by omega), if_neg hl2, Nat.add_assoc 1 i 1]
    · rintro s ⟨g', rfl, e1, e2, e3, e4, e5, e6⟩ κ
      have hlast := e6 b.length (by omega)
      rw [q4] at hlast
      refine ⟨g', ?_, e1, e2, fun _ => ⟨b, b1, b2, e5, e6⟩⟩
      simp (disch := first | assumption | omega) only [Wa_find_45, oA_18, oA_65, oA_66, oA_67, oA_69, oA_4, oA_5, lit_0, lit_1, lit_2, lit_3, lit_4, lit_5, lit_6, lit_7, lit_8, lit_9, lit_10, lit_11, lit_12, lit_16, lit_17, lit_20, lit_31, lit_32, lit_40, lit_47, lit_48, lit_49, lit_57, lit_58, lit_60, lit_64, lit_68, lit_80, lit_97, lit_99, lit_100, lit_101, lit_104, lit_108, lit_109, lit_115, lit_117, lit_121, lit_127, lit_128, lit_140, lit_1000, lit_1000000, lit_1048576, bI_ret, bV_ret, bL_ret, bH_t, cond_true, z_0, z_1, retZ_tf, z_tf0, z_tf1, Decidable.not_not, Classical.not_not, nI_add, nI_clamp, n_le, n_lt, n_eq, nI_or, nI_and, z_sdf, of_nI, e5, nI_sb, Nat.add_sub_cancel, hlast, if_true, ite_self]
  · have hne : ¬ aw v x y T fg ≠ [] := fun z => c (g1.mpr z)
    rw [if_neg c, tf_f hne]
    exact ⟨g, rfl, f4, p4, fun z => absurd z hne⟩
theorem c_wholePrice (w : WF v) {T fg x y : Nat} {b : List Nat} (hp : HP v T fg h) (hx : x < v 0 0) (hy : y < v 0 0) (hxy : x ≠ y) (hb : b ∈ aw v x y T fg) (hf : FW x b h) : F_Wa_wholePrice h = retI (nI (wt (prc v T) b)) h := by
  have hn := w.1
  obtain ⟨s, hs9, q1, q2, q3, q4, q5⟩ := aw_facts w hx hy hxy hb
  have hbl : b.length = s.length + 1 := by rw [hs9]; simp
  have e0 : sm (prc v T) (fun k => (x :: b).getD k 0) (b.length - 1) = wt (prc v T) b := by
    rw [hbl, Nat.add_sub_cancel, hs9]
    exact sm_wt _ _ _ _
  rw [← e0]
  unfold F_Wa_wholePrice
  refine loop_for (N := b.length - 1) (fun i => (nI (sm (prc v T) (fun k => (x :: b).getD k 0) i), nI (1 + i), h)) rfl (by show _ < 4096; omega) (fun i κ hi => ?_) (fun κ => ?_)
  · have h1 := hf.2 (1 + i) (by omega)
    have h2 := q2 (1 + i) (by omega)
    have h3 := hp _ h2
    rw [if_pos (q5 (1 + i) (by omega) (by omega))] at h3
    simp (disch := first | assumption | omega) only [Wa_wholePrice_4, oA_18, oA_65, oA_66, oA_67, oA_69, oA_4, oA_5, lit_0, lit_1, lit_2, lit_3, lit_4, lit_5, lit_6, lit_7, lit_8, lit_9, lit_10, lit_11, lit_12, lit_16, lit_17, lit_20, lit_31, lit_32, lit_40, lit_47, lit_48, lit_49, lit_57, lit_58, lit_60, lit_64, lit_68, lit_80, lit_97, lit_99, lit_100, lit_101, lit_104, lit_108, lit_109, lit_115, lit_117, lit_121, lit_127, lit_128, lit_140, lit_1000, lit_1000000, lit_1048576, bI_ret, bV_ret, bL_ret, bH_t, cond_true, z_0, z_1, retZ_tf, z_tf0, z_tf1, Decidable.not_not, Classical.not_not, nI_add, nI_clamp, n_le, n_lt, n_eq, nI_or, nI_and, z_sdf, of_nI, hf.1, nI_sb, Nat.add_sub_cancel, h1, h3]
    rw [if_neg (by omega), Nat.add_assoc 1 i 1]
    rfl
  · simp (disch := first | assumption | omega) only [Wa_wholePrice_4, oA_18, oA_65, oA_66, oA_67, oA_69, oA_4, oA_5, lit_0, lit_1, lit_2, lit_3, lit_4, lit_5, lit_6, lit_7, lit_8, lit_9, lit_10, lit_11, lit_12, lit_16, lit_17, lit_20, lit_31, lit_32, lit_40, lit_47, lit_48, lit_49, lit_57, lit_58, lit_60, lit_64, lit_68, lit_80, lit_97, lit_99, lit_100, lit_101, lit_104, lit_108, lit_109, lit_115, lit_117, lit_121, lit_127, lit_128, lit_140, lit_1000, lit_1000000, lit_1048576, bI_ret, bV_ret, bL_ret, bH_t, cond_true, z_0, z_1, retZ_tf, z_tf0, z_tf1, Decidable.not_not, Classical.not_not, nI_add, nI_clamp, n_le, n_lt, n_eq, nI_or, nI_and, z_sdf, of_nI, hf.1, nI_sb, Nat.add_sub_cancel]
    rw [if_pos (by omega)]
theorem c_whoPay (w : WF v) {T fg x y : Nat} {b : List Nat} (hp : HP v T fg h) (hx : x < v 0 0) (hy : y < v 0 0) (hxy : x ≠ y) (hb : b ∈ aw v x y T fg) (hf : FW x b h) : F_Wa_whoPay h = retI (nI (pst (prc v T) (fun k => (x :: b).getD k 0) (b.length - 1))) h := by
  have hn := w.1
  obtain ⟨s, hs9, q1, q2, q3, q4, q5⟩ := aw_facts w hx hy hxy hb
  have hbl : b.length = s.length + 1 := by rw [hs9]; simp
  unfold F_Wa_whoPay
  refine loop_for (N := b.length - 1) (fun i => (nI (pst (prc v T) (fun k => (x :: b).getD k 0) i), nI (1 + i), h)) rfl (by show _ < 4096; omega) (fun i κ hi => ?_) (fun κ => ?_)
  · have h1 := hf.2 (1 + i) (by omega)
    have h2 := q2 (1 + i) (by omega)
    have h3 := hp _ h2
    have h4 : prc v T ((x :: b).getD (1 + i) 0) ≤ 10 := pop_le10 _
    rw [if_pos (q5 (1 + i) (by omega) (by omega))] at h3
    simp (disch := first | assumption | omega) only [Wa_whoPay_4, oA_18, oA_65, oA_66, oA_67, oA_69, oA_4, oA_5, lit_0, lit_1, lit_2, lit_3, lit_4, lit_5, lit_6, lit_7, lit_8, lit_9, lit_10, lit_11, lit_12, lit_16, lit_17, lit_20, lit_31, lit_32, lit_40, lit_47, lit_48, lit_49, lit_57, lit_58, lit_60, lit_64, lit_68, lit_80, lit_97, lit_99, lit_100, lit_101, lit_104, lit_108, lit_109, lit_115, lit_117, lit_121, lit_127, lit_128, lit_140, lit_1000, lit_1000000, lit_1048576, bI_ret, bV_ret, bL_ret, bH_t, cond_true, z_0, z_1, retZ_tf, z_tf0, z_tf1, Decidable.not_not, Classical.not_not, nI_add, nI_clamp, n_le, n_lt, n_eq, nI_or, nI_and, z_sdf, of_nI, hf.1, nI_sb, Nat.add_sub_cancel, h1, h3, c_bit]
    rw [if_neg (by omega), Nat.add_assoc 1 i 1]
    have e1 : pst (prc v T) (fun k => (x :: b).getD k 0) (i + 1) = pst (prc v T) (fun k => (x :: b).getD k 0) i ||| (if 0 < prc v T ((x :: b).getD (1 + i) 0) then 2 ^ ((x :: b).getD (1 + i) 0) else 0) := rfl
    rw [e1]
    by_cases c : prc v T ((x :: b).getD (1 + i) 0) ≤ 0
    · rw [if_pos c, if_neg (by omega), Nat.or_zero]
    · rw [if_neg c, if_pos (by omega)]
  · simp (disch := first | assumption | omega) only [Wa_whoPay_4, oA_18, oA_65, oA_66, oA_67, oA_69, oA_4, oA_5, lit_0, lit_1, lit_2, lit_3, lit_4, lit_5, lit_6, lit_7, lit_8, lit_9, lit_10, lit_11, lit_12, lit_16, lit_17, lit_20, lit_31, lit_32, lit_40, lit_47, lit_48, lit_49, lit_57, lit_58, lit_60, lit_64, lit_68, lit_80, lit_97, lit_99, lit_100, lit_101, lit_104, lit_108, lit_109, lit_115, lit_117, lit_121, lit_127, lit_128, lit_140, lit_1000, lit_1000000, lit_1048576, bI_ret, bV_ret, bL_ret, bH_t, cond_true, z_0, z_1, retZ_tf, z_tf0, z_tf1, Decidable.not_not, Classical.not_not, nI_add, nI_clamp, n_le, n_lt, n_eq, nI_or, nI_and, z_sdf, of_nI, hf.1, nI_sb, Nat.add_sub_cancel]
    rw [if_pos (by omega)]
end FOUND
