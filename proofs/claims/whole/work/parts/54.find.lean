/-! THE GIVEN ONE'S find -/
theorem CLd_ag {o : Nat} {v : LV} {h h' : Hp} (r : CLd o v h) (q : ∀ a j, o ≤ a → a < o + 29 → hg h' a j = hg h a j) (h4 : v 8 0 ≤ 4) : CLd o v h' := by
  obtain ⟨⟨a1, a2, a3, a4⟩, b, c, d, e, f⟩ := r
  refine ⟨⟨?_, ?_, ?_, ?_⟩, fun x hx => ⟨?_, ?_⟩, fun k hk => ⟨?_, ?_, ?_⟩, fun t x ht hx => ?_, fun x hx => ?_, fun k hk => ?_⟩
  · rw [q o 8 (by omega) (by omega)]; exact a1
  · rw [q o 9 (by omega) (by omega)]; exact a2
  · rw [q o 10 (by omega) (by omega)]; exact a3
  · rw [q o 11 (by omega) (by omega)]; exact a4
  · rw [q _ _ (by omega) (by omega)]; exact (b x hx).1
  · rw [q _ _ (by omega) (by omega)]; exact (b x hx).2
  · rw [q _ _ (by omega) (by omega)]; exact (c k hk).1
  · rw [q _ _ (by omega) (by omega)]; exact (c k hk).2.1
  · rw [q _ _ (by omega) (by omega)]; exact (c k hk).2.2
  · rw [q _ _ (by omega) (by omega)]; exact d t x ht hx
  · rw [q _ _ (by omega) (by omega)]; exact e x hx
  · obtain ⟨g1, g2, g3, g4⟩ := f k hk
    refine ⟨?_, ?_, ?_, fun j hj => ⟨?_, ?_⟩⟩
    · rw [q _ _ (by omega) (by omega)]; exact g1
    · rw [q _ _ (by omega) (by omega)]; exact g2
    · rw [q _ _ (by omega) (by omega)]; exact g3
    · rw [q _ _ (by omega) (by omega)]; exact (g4 j hj).1
    · rw [q _ _ (by omega) (by omega)]; exact (g4 j hj).2
/-- only what the search of the given one writes has changed: 64 .. 69 -/
def frC (h h' : Hp) : Prop := ∀ a j, ¬ (64 ≤ a ∧ a ≤ 69) → hg h' a j = hg h a j
theorem frC_rf (h : Hp) : frC h h := fun _ _ _ => rfl
theorem frC_tr {h1 h2 h3 : Hp} (a : frC h1 h2) (b : frC h2 h3) : frC h1 h3 := fun c j q => (b c j q).trans (a c j q)
theorem frC_hs {h : Hp} {a k : Nat} {x : Int32} (q : 64 ≤ a ∧ a ≤ 69) : frC h (hs h a k x) := fun b j n => by
  rw [hg_hs2, if_neg]
  rintro ⟨rfl, rfl⟩
  exact n q
theorem CLd_C {v : LV} {h h' : Hp} (w : WF v) (r : CLd 3 v h) (q : frC h h') : CLd 3 v h' := CLd_ag r (fun a j h1 h2 => q a j (by omega)) (wf_l w)
/-- the prices -/
def HP (v : LV) (T fg : Nat) (h : Hp) : Prop := ∀ z, z < v 0 0 → hg h 65 z = if pF v T fg z = true then nI (prc v T z) else -nI 1
theorem HP_ag {v : LV} {T fg : Nat} {h h' : Hp} (r : HP v T fg h) (q : ∀ j, hg h' 65 j = hg h 65 j) : HP v T fg h' := fun z hz => (q z).trans (r z hz)
/-- a loop's last state, whatever comes behind -/
theorem loop_all {K S ρ : Type} {b : K → S → (S → Option ρ) → Option ρ} {N n : Nat} {s0 : S} (P : Nat → S → Prop) (h0 : P 0 s0) (hN : N < n) (hs : ∀ i s, i < N → P i s → ∃ s', P (i + 1) s' ∧ ∀ k κ, b k s κ = κ s') : ∃ s, P N s ∧ ∀ k r, (∀ κ, b k s κ = r) → loopC (b k) n s0 = r := by
  suffices H : ∀ d i n s, d + i = N → d < n → P i s → ∃ s', P N s' ∧ ∀ k r, (∀ κ, b k s' κ = r) → loopC (b k) n s = r from H N 0 n s0 rfl hN h0
  intro d
  induction d with
  | zero =>
    intro i n s h1 h2 hp
    obtain ⟨n, rfl⟩ : ∃ k, n = k + 1 := ⟨n - 1, by omega⟩
    have : i = N := by omega
    subst this
    exact ⟨s, hp, fun k r q => q _⟩
  | succ d ih =>
    intro i n s h1 h2 hp
    obtain ⟨n, rfl⟩ : ∃ k, n = k + 1 := ⟨n - 1, by omega⟩
    obtain ⟨s', p1, p2⟩ := hs i s (by omega) hp
    obtain ⟨s2, p3, p4⟩ := ih (i + 1) n s' (by omega) (by omega) p1
    refine ⟨s2, p3, fun k r q => ?_⟩
    show b k s (loopC (b k) n) = r
    rw [p2]
    exact p4 k r q
section FIND
variable {v : LV} {h : Hp}
theorem c_price0 (w : WF v) (r : CLd 3 v h) {T : Nat} (hT : T < 32) : ∃ h', F_Wa_priceAsTheyAre (nI T) h = retV h' ∧ HP v T 0 h' ∧ frC h h' := by
  have hn := w.1
  unfold F_Wa_priceAsTheyAre
  refine loop_inv (N := v 0 0) (R := fun o => ∃ h', o = retV h' ∧ HP v T 0 h' ∧ frC h h') (fun i s => ∃ h', s = (nI T, nI i, h') ∧ (∀ z, z < i → hg h' 65 z = if pF v T 0 z = true then nI (prc v T z) else -nI 1) ∧ frC h h') ⟨h, rfl, fun k hk => absurd hk (Nat.not_lt_zero k), frC_rf h⟩ (by show _ < 4096; omega) ?_ ?_
  · rintro i s hi ⟨g, rfl, p1, p2⟩
    have rg := CLd_C w r p2
    refine ⟨(nI T, nI (i + 1), hs g 65 i (if pF v T 0 i = true then nI (prc v T i) else -nI 1)), ⟨_, rfl, fun k hk => ?_, frC_tr p2 (frC_hs (by omega))⟩, fun κ => ?_⟩
    · by_cases e : k = i
      · subst e; exact hg_hs_eq _ _ _ _
      · rw [hg_hs_k e]; exact p1 k (by omega)
    · simp (disch := first | assumption | omega) only [Wa_priceAsTheyAre_2, oA_18, oA_65, oA_66, oA_67, oA_69, oA_4, oA_5, lit_0, lit_1, lit_2, lit_3, lit_4, lit_5, lit_6, lit_7, lit_8, lit_9, lit_10, lit_11, lit_12, lit_16, lit_17, lit_20, lit_31, lit_32, lit_40, lit_47, lit_48, lit_49, lit_57, lit_58, lit_60, lit_64, lit_68, lit_80, lit_97, lit_99, lit_100, lit_101, lit_104, lit_108, lit_109, lit_115, lit_117, lit_121, lit_127, lit_128, lit_140, lit_1000, lit_1000000, lit_1048576, bI_ret, bV_ret, bL_ret, bH_t, cond_true, z_0, z_1, retZ_tf, z_tf0, z_tf1, Decidable.not_not, Classical.not_not, nI_add, nI_clamp, n_le, n_lt, n_eq, nI_or, nI_and, z_sdf, of_nI, L_n rg, c_carries isL_3 w rg hi hT]
      rw [if_neg (by omega)]
      by_cases q : mayB v i T = true
      · have e0 : prc v T i = 0 := by
          unfold mayB at q
          rw [beq_iff_eq] at q
          unfold prc
          rw [q]
          rfl
        rw [if_neg (fun z => z q), if_pos (show pF v T 0 i = true from q), e0]
      · rw [if_pos q, if_neg (show ¬ pF v T 0 i = true from q)]
  · rintro s ⟨g, rfl, p1, p2⟩ κ
    have rg := CLd_C w r p2
    refine ⟨g, ?_, p1, p2⟩
    simp (disch := first | assumption | omega) only [Wa_priceAsTheyAre_2, lit_0, lit_1, lit_2, lit_3, lit_4, lit_5, lit_6, lit_7, lit_8, lit_9, lit_10, lit_11, lit_12, lit_16, lit_17, lit_20, lit_31, lit_32, lit_40, lit_47, lit_48, lit_49, lit_57, lit_58, lit_60, lit_64, lit_68, lit_80, lit_97, lit_99, lit_100, lit_101, lit_104, lit_108, lit_109, lit_115, lit_117, lit_121, lit_127, lit_128, lit_140, lit_1000, lit_1000000, lit_1048576, bI_ret, bV_ret, bL_ret, bH_t, cond_true, z_0, z_1, retZ_tf, z_tf0, z_tf1, Decidable.not_not, Classical.not_not, nI_add, nI_clamp, n_le, n_lt, n_eq, nI_or, nI_and, z_sdf, of_nI, L_n rg, Nat.le_refl, if_true]
theorem c_price1 (w : WF v) (r : CLd 3 v h) {T : Nat} (hT : T < 32) : ∃ h', F_Wa_priceByForgetting (nI T) h = retV h' ∧ HP v T 1 h' ∧ frC h h' := by
  have hn := w.1
  unfold F_Wa_priceByForgetting
  refine loop_inv (N := v 0 0) (R := fun o => ∃ h', o = retV h' ∧ HP v T 1 h' ∧ frC h h') (fun i s => ∃ h', s = (nI T, nI i, h') ∧ (∀ z, z < i → hg h' 65 z = if pF v T 1 z = true then nI (prc v T z) else -nI 1) ∧ frC h h') ⟨h, rfl, fun k hk => absurd hk (Nat.not_lt_zero k), frC_rf h⟩ (by show _ < 4096; omega) ?_ ?_
  · rintro i s hi ⟨g, rfl, p1, p2⟩
    have rg := CLd_C w r p2
    have hb := brs_lt w hi T
    refine ⟨(nI T, nI (i + 1), hs g 65 i (nI (prc v T i))), ⟨_, rfl, fun k hk => ?_, frC_tr p2 (frC_hs (by omega))⟩, fun κ => ?_⟩
    · by_cases e : k = i
      · subst e; exact hg_hs_eq _ _ _ _
      · rw [hg_hs_k e]; exact p1 k (by omega)
    · simp (disch := first | assumption | omega) only [Wa_priceByForgetting_2, oA_18, oA_65, oA_66, oA_67, oA_69, oA_4, oA_5, lit_0, lit_1, lit_2, lit_3, lit_4, lit_5, lit_6, lit_7, lit_8, lit_9, lit_10, lit_11, lit_12, lit_16, lit_17, lit_20, lit_31, lit_32, lit_40, lit_47, lit_48, lit_49, lit_57, lit_58, lit_60, lit_64, lit_68, lit_80, lit_97, lit_99, lit_100, lit_101, lit_104, lit_108, lit_109, lit_115, lit_117, lit_121, lit_127, lit_128, lit_140, lit_1000, lit_1000000, lit_1048576, bI_ret, bV_ret, bL_ret, bH_t, cond_true, z_0, z_1, retZ_tf, z_tf0, z_tf1, Decidable.not_not, Classical.not_not, nI_add, nI_clamp, n_le, n_lt, n_eq, nI_or, nI_and, z_sdf, of_nI, L_n rg, c_bars isL_3 w rg hi hT, c_bits]
      rw [if_neg (by omega)]
      rfl
  · rintro s ⟨g, rfl, p1, p2⟩ κ
    have rg := CLd_C w r p2
    refine ⟨g, ?_, p1, p2⟩
    simp (disch := first | assumption | omega) only [Wa_priceByForgetting_2, lit_0, lit_1, lit_2, lit_3, lit_4, lit_5, lit_6, lit_7, lit_8, lit_9, lit_10, lit_11, lit_12, lit_16, lit_17, lit_20, lit_31, lit_32, lit_40, lit_47, lit_48, lit_49, lit_57, lit_58, lit_60, lit_64, lit_68, lit_80, lit_97, lit_99, lit_100, lit_101, lit_104, lit_108, lit_109, lit_115, lit_117, lit_121, lit_127, lit_128, lit_140, lit_1000, lit_1000000, lit_1048576, bI_ret, bV_ret, bL_ret, bH_t, cond_true, z_0, z_1, retZ_tf, z_tf0, z_tf1, Decidable.not_not, Classical.not_not, nI_add, nI_clamp, n_le, n_lt, n_eq, nI_or, nI_and, z_sdf, of_nI, L_n rg, Nat.le_refl, if_true]
theorem c_leadsOn (w : WF v) (r : CLd 3 v h) {T fg x a z : Nat} (hp : HP v T fg h) (hm : hg h 64 3 = nI (muts v)) (hx : x < v 0 0) (ha : a < v 0 0) (hz : z < v 0 0) : F_Wa_leadsOn (nI a) (nI z) (nI x) h = retI (tf ((met v a z && okS x (pF v T fg) (muteB v) a z) = true)) h := by
  have hn := w.1
  have hmu : muts v < 2 ^ 31 := Nat.lt_trans (ms_7 w _) (by decide)
  have h31 := ms_31 (n := 7) (by decide) (met v a)
  have hpop : prc v T z ≤ 10 := pop_le10 _
  have hpz := hp z hz
  have e1 : (ms 7 (met v a)).testBit z = met v a z := by rw [ms_tb, decide_eq_true (by omega), Bool.true_and]
  have e2 : (muts v).testBit z = muteB v z := muts_tb hz
  unfold F_Wa_leadsOn
  simp (disch := first | assumption | omega) only [oA_18, oA_65, oA_66, oA_67, oA_69, oA_4, oA_5, lit_0, lit_1, lit_2, lit_3, lit_4, lit_5, lit_6, lit_7, lit_8, lit_9, lit_10, lit_11, lit_12, lit_16, lit_17, lit_20, lit_31, lit_32, lit_40, lit_47, lit_48, lit_49, lit_57, lit_58, lit_60, lit_64, lit_68, lit_80, lit_97, lit_99, lit_100, lit_101, lit_104, lit_108, lit_109, lit_115, lit_117, lit_121, lit_127, lit_128, lit_140, lit_1000, lit_1000000, lit_1048576, bI_ret, bV_ret, bL_ret, bH_t, cond_true, z_0, z_1, retZ_tf, z_tf0, z_tf1, Decidable.not_not, Classical.not_not, nI_add, nI_clamp, n_le, n_lt, n_eq, nI_or, nI_and, z_sdf, of_nI, hm, c_has, L3_mE r, e1, e2]
  unfold okS
  by_cases q1 : pF v T fg z = true
  · rw [if_pos q1] at hpz
    simp (disch := first | assumption | omega) only [hpz, nI_eqm, if_false]
    by_cases q2 : a = x
    · subst q2
      by_cases q3 : z = a
      · rw [if_pos rfl, if_pos q3, tf_f (by simp [q3])]; rfl
      · by_cases q4 : met v a z = true
        · rw [if_pos rfl, if_neg q3, if_neg (fun z => z q4), tf_t (by simp [q1, q3, q4])]; rfl
        · rw [if_pos rfl, if_neg q3, if_pos q4, tf_f (by simp [q4])]; rfl
    · by_cases q5 : muteB v z = true
      · rw [if_neg q2, if_neg (fun z => z q5), tf_f (by simp [q2, q5]), ite_self]; rfl
      · by_cases q3 : z = x
        · rw [if_neg q2, if_pos q5, if_pos q3, tf_f (by simp [q3])]; rfl
        · by_cases q4 : met v a z = true
          · rw [if_neg q2, if_pos q5, if_neg q3, if_neg (fun z => z q4), tf_t (by simp [q1, q3, q4, q5])]; rfl
          · rw [if_neg q2, if_pos q5, if_neg q3, if_pos q4, tf_f (by simp [q4])]; rfl
  · rw [if_neg q1] at hpz
    rw [if_pos hpz, ite_self, tf_f (by simp [q1])]
    rfl
/-- the weights ahead: as they are held -/
def HA (v : LV) (A : Nat → Nat) (h : Hp) : Prop := ∀ a, a < v 0 0 → hg h 66 a = nI (A a) ∧ A a ≤ 1000000
theorem c_weightBy (w : WF v) {T fg z : Nat} {A : Nat → Nat} (hp : HP v T fg h) (ha : HA v A h) (hz : z < v 0 0) (q1 : pF v T fg z = true) : F_Wa_weightBy (nI z) h = retI (nI (prc v T z * 16 + 1 + A z)) h := by
  have hn := w.1
  have hpop : prc v T z ≤ 10 := pop_le10 _
  have hpz := hp z hz
  rw [if_pos q1] at hpz
  unfold F_Wa_weightBy
  simp (disch := first | assumption | omega) only [oA_18, oA_65, oA_66, oA_67, oA_69, oA_4, oA_5, lit_0, lit_1, lit_2, lit_3, lit_4, lit_5, lit_6, lit_7, lit_8, lit_9, lit_10, lit_11, lit_12, lit_16, lit_17, lit_20, lit_31, lit_32, lit_40, lit_47, lit_48, lit_49, lit_57, lit_58, lit_60, lit_64, lit_68, lit_80, lit_97, lit_99, lit_100, lit_101, lit_104, lit_108, lit_109, lit_115, lit_117, lit_121, lit_127, lit_128, lit_140, lit_1000, lit_1000000, lit_1048576, bI_ret, bV_ret, bL_ret, bH_t, cond_true, z_0, z_1, retZ_tf, z_tf0, z_tf1, Decidable.not_not, Classical.not_not, nI_add, nI_clamp, n_le, n_lt, n_eq, nI_or, nI_and, z_sdf, of_nI, hpz, (ha z hz).1, nI_mul]
/-- the invariant of the weighing -/
def LA (v : LV) (x y T fg : Nat) (A : Nat → Nat) : Prop := ∀ a, a < v 0 0 → A a < 1000000 → ∃ l, wayF x y (met v) (pF v T fg) (muteB v) a l ∧ wt (fun z => prc v T z * 16 + 1) l = A a
def UA (v : LV) (x y T fg k : Nat) (A : Nat → Nat) (a : Nat) : Prop := ∀ l, wayF x y (met v) (pF v T fg) (muteB v) a l → l.length ≤ k → A a ≤ wt (fun z => prc v T z * 16 + 1) l
def IV (v : LV) (x y T fg rd a u : Nat) (h g : Hp) : Prop := ∃ A, HA v A g ∧ LA v x y T fg A ∧ (∀ b, b < v 0 0 → UA v x y T fg (rd + 1) A b) ∧ (∀ b, b < a → b < v 0 0 → UA v x y T fg (rd + 2) A b) ∧ (∀ l, wayF x y (met v) (pF v T fg) (muteB v) a l → l.length ≤ rd + 2 → (l.getD 0 0 < u ∨ l.length ≤ 1) → A a ≤ wt (fun z => prc v T z * 16 + 1) l) ∧ (∀ b j, b ≠ 66 → hg g b j = hg h b j)
theorem c_weigh3 (w : WF v) (r : CLd 3 v h) {T fg x y : Nat} (hp : HP v T fg h) (hm : hg h 64 3 = nI (muts v)) (hx : x < v 0 0) (hy : y < v 0 0) {rd a : Nat} (ha : a < v 0 0) (g : Hp) (hg0 : IV v x y T fg rd a 0 h g) : ∃ g', IV v x y T fg rd a (v 0 0) h g' ∧ ∀ (κ49 : (Int32 × Int32 × Int32 × Hp) → Res Hp) (κ58 : (Int32 × Int32 × Int32 × Int32 × Hp) → Res Hp), loopC (Wa_weighAhead_73 κ49 κ58) FU (nI x, nI y, nI rd, nI a, nI 0, g) = κ58 (nI x, nI y, nI rd, nI (a + 1), g') := by
  have hn := w.1
  refine Exists.elim (loop_all (K := ((Int32 × Int32 × Int32 × Hp) → Res Hp) × ((Int32 × Int32 × Int32 × Int32 × Hp) → Res Hp)) (b := fun k => Wa_weighAhead_73 k.1 k.2) (N := v 0 0) (n := FU) (s0 := (nI x, nI y, nI rd, nI a, nI 0, g)) (fun i s => ∃ g', s = (nI x, nI y, nI rd, nI a, nI i, g') ∧ IV v x y T fg rd a i h g') ⟨g, rfl, hg0⟩ (by show _ < 4096; omega) ?_) ?_
  · rintro i s hi ⟨g, rfl, A, p1, p2, p3, p4, p5, p6⟩
    have fC : frC h g := fun b j n => p6 b j (by omega)
    have rg := CLd_C w r fC
    have hpg : HP v T fg g := HP_ag hp (fun j => p6 65 j (by decide))
    have hmg : hg g 64 3 = nI (muts v) := (p6 64 3 (by decide)).trans hm
    have eL := c_leadsOn w rg hpg hmg hx ha hi
    -- no step over i: nothing changes
    have same : (∀ l, wayF x y (met v) (pF v T fg) (muteB v) a l → l.length ≤ rd + 2 → l.getD 0 0 = i → l.length ≤ 1) → IV v x y T fg rd a (i + 1) h g := fun q => ⟨A, p1, p2, p3, p4, fun l h1 h2 h3 => p5 l h1 h2 (by
      rcases h3 with h3 | h3
      · by_cases e : l.getD 0 0 = i
        · exact Or.inr (q l h1 h2 e)
        · exact Or.inl (by omega)
      · exact Or.inr h3), p6⟩
    by_cases c1 : i = y
    · refine ⟨(nI x, nI y, nI rd, nI a, nI (i + 1), g), ⟨g, rfl, same fun l h1 h2 h3 => ?_⟩, fun k κ => ?_⟩
      · cases l with
        | nil => exact Nat.zero_le _
        | cons z l =>
          have h3 : z = i := h3
          rcases h1.2 with ⟨e1, e2⟩ | ⟨e1, -⟩
          · subst e2; exact Nat.le_refl _
          · exact absurd (h3.trans c1) e1
      · simp (disch := first | assumption | omega) only [Wa_weighAhead_73, lit_0, lit_1, lit_2, lit_3, lit_4, lit_5, lit_6, lit_7, lit_8, lit_9, lit_10, lit_11, lit_12, lit_16, lit_17, lit_20, lit_31, lit_32, lit_40, lit_47, lit_48, lit_49, lit_57, lit_58, lit_60, lit_64, lit_68, lit_80, lit_97, lit_99, lit_100, lit_101, lit_104, lit_108, lit_109, lit_115, lit_117, lit_121, lit_127, lit_128, lit_140, lit_1000, lit_1000000, lit_1048576, bI_ret, bV_ret, bL_ret, bH_t, cond_true, z_0, z_1, retZ_tf, z_tf0, z_tf1, Decidable.not_not, Classical.not_not, nI_add, nI_clamp, n_le, n_lt, n_eq, nI_or, nI_and, z_sdf, of_nI, L_n rg]
        rw [if_neg (by omega), if_pos c1]
    · by_cases c2 : (met v a i && okS x (pF v T fg) (muteB v) a i) = true
      · have c3 := c2
        rw [Bool.and_eq_true] at c3
        have c4 : pF v T fg i = true := by
          have := c3.2
          unfold okS at this
          rw [Bool.and_eq_true, Bool.and_eq_true] at this
          exact this.1.2
        have eW := c_weightBy w hpg p1 hi c4
        have hne : i ≠ a := fun e => (met_lt w c3.1).2.2 e.symm
        have hA1 := p1 a ha
        have hA2 := p1 i hi
        have hpop : prc v T i ≤ 10 := pop_le10 _
        generalize hnew : (if prc v T i * 16 + 1 + A i < A a then prc v T i * 16 + 1 + A i else A a) = new at *
        have hn1 : new ≤ A a ∧ new ≤ prc v T i * 16 + 1 + A i ∧ (new = A a ∨ new = prc v T i * 16 + 1 + A i) := by
          rw [← hnew]
          split <;> omega
        have hA' : ∀ b, (fun b => if b = a then new else A b) b ≤ A b := fun b => by
          dsimp only
          split
          · next e => subst e; exact hn1.1
          · exact Nat.le_refl _
        refine ⟨(nI x, nI y, nI rd, nI a, nI (i + 1), hs g 66 a (nI new)), ⟨_, rfl, fun b => if b = a then new else A b, fun b hb => ?_, fun b hb hlt => ?_, fun b hb l h1 h2 => Nat.le_trans (hA' b) (p3 b hb l h1 h2), fun b hb hb2 l h1 h2 => Nat.le_trans (hA' b) (p4 b hb hb2 l h1 h2), fun l h1 h2 h3 => ?_, fun b j q => ?_⟩, fun k κ => ?_⟩
        · by_cases e : b = a
          · subst e
            rw [hg_hs_eq]
            simp only [if_true]
            exact ⟨trivial, by omega⟩
          · rw [hg_hs_k e]
            simp only [e, if_false]
            exact p1 b hb
        · by_cases e : b = a
          · subst e
            simp only [if_true] at hlt ⊢
            rcases hn1.2.2 with e | e
            · rw [e]
              exact p2 b hb (by omega)
            · obtain ⟨l, k1, k2⟩ := p2 i hi (by omega)
              exact ⟨i :: l, ⟨c3.1, Or.inr ⟨c1, c3.2, k1⟩⟩, by rw [wt_cons (wayF_ne k1), k2]; exact e.symm⟩
          · simp only [e, if_false] at hlt ⊢
            exact p2 b hb hlt
        · simp only [if_true]
          by_cases e : l.getD 0 0 = i
          · cases l with
            | nil => exact absurd h1 (by intro h; exact h)
            | cons z l =>
              have e : z = i := e
              subst e
              rcases h1.2 with ⟨e1, -⟩ | ⟨-, -, k1⟩
              · exact absurd e1 c1
              · have := p3 z hi l k1 (by simp at h2; omega)
                rw [wt_cons (wayF_ne k1)]
                omega
          · refine Nat.le_trans hn1.1 (p5 l h1 h2 ?_)
            rcases h3 with h3 | h3
            · exact Or.inl (by omega)
            · exact Or.inr h3
        · rw [hg_hs_a q]
          exact p6 b j q
        · simp (disch := first | assumption | omega) only [Wa_weighAhead_73, oA_18, oA_65, oA_66, oA_67, oA_69, oA_4, oA_5, lit_0, lit_1, lit_2, lit_3, lit_4, lit_5, lit_6, lit_7, lit_8, lit_9, lit_10, lit_11, lit_12, lit_16, lit_17, lit_20, lit_31, lit_32, lit_40, lit_47, lit_48, lit_49, lit_57, lit_58, lit_60, lit_64, lit_68, lit_80, lit_97, lit_99, lit_100, lit_101, lit_104, lit_108, lit_109, lit_115, lit_117, lit_121, lit_127, lit_128, lit_140, lit_1000, lit_1000000, lit_1048576, bI_ret, bV_ret, bL_ret, bH_t, cond_true, z_0, z_1, retZ_tf, z_tf0, z_tf1, Decidable.not_not, Classical.not_not, nI_add, nI_clamp, n_le, n_lt, n_eq, nI_or, nI_and, z_sdf, of_nI, L_n rg, eL, c2, eW, hA1.1]
          rw [if_neg (by omega), if_neg c1]
          simp only [not_true, if_false]
          rw [← hnew]
          by_cases q : prc v T i * 16 + 1 + A i < A a
          · rw [if_pos q, if_pos q]
          · rw [if_neg q, if_neg q]
      · refine ⟨(nI x, nI y, nI rd, nI a, nI (i + 1), g), ⟨g, rfl, same fun l h1 h2 h3 => ?_⟩, fun k κ => ?_⟩
        · cases l with
          | nil => exact Nat.zero_le _
          | cons z l =>
            have h3 : z = i := h3
            rcases h1.2 with ⟨e1, e2⟩ | ⟨e1, e2, -⟩
            · subst e2; exact Nat.le_refl _
            · exfalso
              subst h3
              exact c2 (by rw [h1.1, e2]; rfl)
        · simp (disch := first | assumption | omega) only [Wa_weighAhead_73, lit_0, lit_1, lit_2, lit_3, lit_4, lit_5, lit_6, lit_7, lit_8, lit_9, lit_10, lit_11, lit_12, lit_16, lit_17, lit_20, lit_31, lit_32, lit_40, lit_47, lit_48, lit_49, lit_57, lit_58, lit_60, lit_64, lit_68, lit_80, lit_97, lit_99, lit_100, lit_101, lit_104, lit_108, lit_109, lit_115, lit_117, lit_121, lit_127, lit_128, lit_140, lit_1000, lit_1000000, lit_1048576, bI_ret, bV_ret, bL_ret, bH_t, cond_true, z_0, z_1, retZ_tf, z_tf0, z_tf1, Decidable.not_not, Classical.not_not, nI_add, nI_clamp, n_le, n_lt, n_eq, nI_or, nI_and, z_sdf, of_nI, L_n rg, eL]
          rw [if_neg (by omega), if_neg c1, if_pos c2]
  · rintro s ⟨⟨g', rfl, p⟩, q⟩
    refine ⟨g', p, fun κ49 κ58 => q (κ49, κ58) _ fun κ => ?_⟩
    obtain ⟨A, p1, p2, p3, p4, p5, p6⟩ := p
    have rg := CLd_C w r (fun b j n => p6 b j (by omega))
    simp (disch := first | assumption | omega) only [Wa_weighAhead_73, lit_0, lit_1, lit_2, lit_3, lit_4, lit_5, lit_6, lit_7, lit_8, lit_9, lit_10, lit_11, lit_12, lit_16, lit_17, lit_20, lit_31, lit_32, lit_40, lit_47, lit_48, lit_49, lit_57, lit_58, lit_60, lit_64, lit_68, lit_80, lit_97, lit_99, lit_100, lit_101, lit_104, lit_108, lit_109, lit_115, lit_117, lit_121, lit_127, lit_128, lit_140, lit_1000, lit_1000000, lit_1048576, bI_ret, bV_ret, bL_ret, bH_t, cond_true, z_0, z_1, retZ_tf, z_tf0, z_tf1, Decidable.not_not, Classical.not_not, nI_add, nI_clamp, n_le, n_lt, n_eq, nI_or, nI_and, z_sdf, of_nI, L_n rg, Nat.le_refl, if_true]
theorem IV_next (w : WF v) {x y T fg rd a : Nat} {h g : Hp} (q : IV v x y T fg rd a (v 0 0) h g) : IV v x y T fg rd (a + 1) 0 h g := by
  obtain ⟨A, p1, p2, p3, p4, p5, p6⟩ := q
  refine ⟨A, p1, p2, p3, fun b hb hb2 l h1 h2 => ?_, fun l h1 h2 h3 => ?_, p6⟩
  · by_cases e : b = a
    · subst e
      refine p5 l h1 h2 (Or.inl ?_)
      cases l with
      | nil => exact absurd h1 (by intro h; exact h)
      | cons z l => exact (met_lt w h1.1).2.1
    · exact p4 b (by omega) hb2 l h1 h2
  · rcases h3 with h3 | h3
    · exact absurd h3 (Nat.not_lt_zero _)
    · by_cases c : a + 1 < v 0 0
      · exact p3 (a + 1) c l h1 (by omega)
      · cases l with
        | nil => exact absurd h1 (by intro h; exact h)
        | cons z l => exact absurd (met_lt w h1.1).1 c
theorem c_weigh2 (w : WF v) (r : CLd 3 v h) {T fg x y : Nat} (hp : HP v T fg h) (hm : hg h 64 3 = nI (muts v)) (hx : x < v 0 0) (hy : y < v 0 0) {rd : Nat} (g : Hp) (hg0 : IV v x y T fg rd 0 0 h g) : ∃ g', IV v x y T fg rd (v 0 0) 0 h g' ∧ ∀ κ49 : (Int32 × Int32 × Int32 × Hp) → Res Hp, loopC (Wa_weighAhead_58 κ49) FU (nI x, nI y, nI rd, nI 0, g) = κ49 (nI x, nI y, nI (rd + 1), g') := by
  have hn := w.1
  refine Exists.elim (loop_all (K := (Int32 × Int32 × Int32 × Hp) → Res Hp) (b := fun k => Wa_weighAhead_58 k) (N := v 0 0) (n := FU) (s0 := (nI x, nI y, nI rd, nI 0, g)) (fun i s => ∃ g', s = (nI x, nI y, nI rd, nI i, g') ∧ IV v x y T fg rd i 0 h g') ⟨g, rfl, hg0⟩ (by show _ < 4096; omega) ?_) ?_
  · rintro i s hi ⟨g, rfl, q⟩
    have fC : frC h g := by
      obtain ⟨A, p1, p2, p3, p4, p5, p6⟩ := q
      exact fun b j n => p6 b j (by omega)
    have rg := CLd_C w r fC
    obtain ⟨g1, k1, k2⟩ := c_weigh3 (x := x) (y := y) w r hp hm hx hy hi g q
    refine ⟨(nI x, nI y, nI rd, nI (i + 1), g1), ⟨g1, rfl, IV_next w k1⟩, fun k κ => ?_⟩
    simp (disch := first | assumption | omega) only [Wa_weighAhead_58, lit_0, lit_1, lit_2, lit_3, lit_4, lit_5, lit_6, lit_7, lit_8, lit_9, lit_10, lit_11, lit_12, lit_16, lit_17, lit_20, lit_31, lit_32, lit_40, lit_47, lit_48, lit_49, lit_57, lit_58, lit_60, lit_64, lit_68, lit_80, lit_97, lit_99, lit_100, lit_101, lit_104, lit_108, lit_109, lit_115, lit_117, lit_121, lit_127, lit_128, lit_140, lit_1000, lit_1000000, lit_1048576, bI_ret, bV_ret, bL_ret, bH_t, cond_true, z_0, z_1, retZ_tf, z_tf0, z_tf1, Decidable.not_not, Classical.not_not, nI_add, nI_clamp, n_le, n_lt, n_eq, nI_or, nI_and, z_sdf, of_nI, L_n rg, k2]
    rw [if_neg (by omega)]
  · rintro s ⟨⟨g', rfl, p⟩, q⟩
    refine ⟨g', p, fun κ49 => q κ49 _ fun κ => ?_⟩
    obtain ⟨A, p1, p2, p3, p4, p5, p6⟩ := p
    have rg := CLd_C w r (fun b j n => p6 b j (by omega))
    simp (disch := first | assumption | omega) only [Wa_weighAhead_58, lit_0, lit_1, lit_2, lit_3, lit_4, lit_5, lit_6, lit_7, lit_8, lit_9, lit_10, lit_11, lit_12, lit_16, lit_17, lit_20, lit_31, lit_32, lit_40, lit_47, lit_48, lit_49, lit_57, lit_58, lit_60, lit_64, lit_68, lit_80, lit_97, lit_99, lit_100, lit_101, lit_104, lit_108, lit_109, lit_115, lit_117, lit_121, lit_127, lit_128, lit_140, lit_1000, lit_1000000, lit_1048576, bI_ret, bV_ret, bL_ret, bH_t, cond_true, z_0, z_1, retZ_tf, z_tf0, z_tf1, Decidable.not_not, Classical.not_not, nI_add, nI_clamp, n_le, n_lt, n_eq, nI_or, nI_and, z_sdf, of_nI, L_n rg, Nat.le_refl, if_true]
theorem c_weigh1 (w : WF v) (r : CLd 3 v h) {T fg x y : Nat} (hp : HP v T fg h) (hm : hg h 64 3 = nI (muts v)) (hx : x < v 0 0) (hy : y < v 0 0) (g : Hp) (hg0 : IV v x y T fg 0 0 0 h g) : ∃ g', IV v x y T fg 7 0 0 h g' ∧ loopC Wa_weighAhead_49 FU (nI x, nI y, nI 0, g) = retV g' := by
  have hn := w.1
  refine Exists.elim (loop_all (K := Unit) (b := fun _ => Wa_weighAhead_49) (N := 7) (n := FU) (s0 := (nI x, nI y, nI 0, g)) (fun i s => ∃ g', s = (nI x, nI y, nI i, g') ∧ IV v x y T fg i 0 0 h g') ⟨g, rfl, hg0⟩ (by show _ < 4096; omega) ?_) ?_
  · rintro i s hi ⟨g, rfl, q⟩
    obtain ⟨g1, k1, k2⟩ := c_weigh2 (x := x) (y := y) w r hp hm hx hy g q
    refine ⟨(nI x, nI y, nI (i + 1), g1), ⟨g1, rfl, ?_⟩, fun k κ => ?_⟩
    · obtain ⟨A, p1, p2, p3, p4, p5, p6⟩ := k1
      refine ⟨A, p1, p2, fun b hb => p4 b hb hb, fun b hb _ => absurd hb (Nat.not_lt_zero b), fun l h1 h2 h3 => ?_, p6⟩
      rcases h3 with h3 | h3
      · exact absurd h3 (Nat.not_lt_zero _)
      · cases l with
        | nil => exact absurd h1 (by intro h; exact h)
        | cons z l => exact p4 0 (met_lt w h1.1).1 (met_lt w h1.1).1 _ h1 (by omega)
    · simp (disch := first | assumption | omega) only [Wa_weighAhead_49, lit_0, lit_1, lit_2, lit_3, lit_4, lit_5, lit_6, lit_7, lit_8, lit_9, lit_10, lit_11, lit_12, lit_16, lit_17, lit_20, lit_31, lit_32, lit_40, lit_47, lit_48, lit_49, lit_57, lit_58, lit_60, lit_64, lit_68, lit_80, lit_97, lit_99, lit_100, lit_101, lit_104, lit_108, lit_109, lit_115, lit_117, lit_121, lit_127, lit_128, lit_140, lit_1000, lit_1000000, lit_1048576, bI_ret, bV_ret, bL_ret, bH_t, cond_true, z_0, z_1, retZ_tf, z_tf0, z_tf1, Decidable.not_not, Classical.not_not, nI_add, nI_clamp, n_le, n_lt, n_eq, nI_or, nI_and, z_sdf, of_nI, k2]
      rw [if_neg (by omega)]
  · rintro s ⟨⟨g', rfl, p⟩, q⟩
    refine ⟨g', p, q () _ fun κ => ?_⟩
    simp (disch := first | assumption | omega) only [Wa_weighAhead_49, lit_0, lit_1, lit_2, lit_3, lit_4, lit_5, lit_6, lit_7, lit_8, lit_9, lit_10, lit_11, lit_12, lit_16, lit_17, lit_20, lit_31, lit_32, lit_40, lit_47, lit_48, lit_49, lit_57, lit_58, lit_60, lit_64, lit_68, lit_80, lit_97, lit_99, lit_100, lit_101, lit_104, lit_108, lit_109, lit_115, lit_117, lit_121, lit_127, lit_128, lit_140, lit_1000, lit_1000000, lit_1048576, bI_ret, bV_ret, bL_ret, bH_t, cond_true, z_0, z_1, retZ_tf, z_tf0, z_tf1, Decidable.not_not, Classical.not_not, nI_add, nI_clamp, n_le, n_lt, n_eq, nI_or, nI_and, z_sdf, of_nI, Nat.le_refl, if_true]
theorem c_weighAhead (w : WF v) (r : CLd 3 v h) {T fg x y : Nat} (hp : HP v T fg h) (hm : hg h 64 3 = nI (muts v)) (hx : x < v 0 0) (hy : y < v 0 0) : ∃ g A, F_Wa_weighAhead (nI x) (nI y) h = retV g ∧ HA v A g ∧ AOK (v 0 0) x y 1000000 (met v) (pF v T fg) (muteB v) (fun z => prc v T z * 16 + 1) A ∧ (∀ b j, b ≠ 66 → hg g b j = hg h b j) := by
  have hn := w.1
  have Hend : ∀ g, IV v x y T fg 7 0 0 h g → ∃ A, HA v A g ∧ AOK (v 0 0) x y 1000000 (met v) (pF v T fg) (muteB v) (fun z => prc v T z * 16 + 1) A ∧ (∀ b j, b ≠ 66 → hg g b j = hg h b j) := by
    rintro g ⟨A, p1, p2, p3, -, -, p6⟩
    refine ⟨A, p1, ⟨p2, fun a l ha hl => ?_⟩, p6⟩
    obtain ⟨l', h1, h2, -, h4, -⟩ := way_simple (w := fun z => prc v T z * 16 + 1) (fun z => Nat.le_add_left _ _) l a hl
    have h5 := pigeon (v 0 0) l' h2 (wayF_lt (fun a b q => (met_lt w q).2.1) l' a h1)
    have h6 := p3 a ha l' h1 (by omega)
    rcases h4 with e | e
    · rw [← e]; exact h6
    · omega
  unfold F_Wa_weighAhead
  refine Exists.elim (loop_all (K := Unit) (b := fun _ => Wa_weighAhead_2) (N := v 0 0) (n := FU) (s0 := (nI x, nI y, nI 0, h)) (fun i s => ∃ g', s = (nI x, nI y, nI i, g') ∧ (∀ a, a < i → hg g' 66 a = if met v a y = true then nI 0 else nI 1000000) ∧ (∀ b j, b ≠ 66 → hg g' b j = hg h b j)) ⟨h, rfl, fun k hk => absurd hk (Nat.not_lt_zero k), fun _ _ _ => rfl⟩ (by show _ < 4096; omega) ?_) ?_
  · rintro i s hi ⟨g, rfl, p1, p2⟩
    have rg := CLd_C w r (fun b j n => p2 b j (by omega))
    have h31 := ms_31 (n := 7) (by decide) (met v i)
    have e1 : (ms 7 (met v i)).testBit y = met v i y := by rw [ms_tb, decide_eq_true (by omega), Bool.true_and]
    refine ⟨(nI x, nI y, nI (i + 1), hs g 66 i (if met v i y = true then nI 0 else nI 1000000)), ⟨_, rfl, fun a ha => ?_, fun b j n => ?_⟩, fun k κ => ?_⟩
    · by_cases e : a = i
      · subst e; exact hg_hs_eq _ _ _ _
      · rw [hg_hs_k e]; exact p1 a (by omega)
    · rw [hg_hs_a n]; exact p2 b j n
    · simp (disch := first | assumption | omega) only [Wa_weighAhead_2, oA_18, oA_65, oA_66, oA_67, oA_69, oA_4, oA_5, lit_0, lit_1, lit_2, lit_3, lit_4, lit_5, lit_6, lit_7, lit_8, lit_9, lit_10, lit_11, lit_12, lit_16, lit_17, lit_20, lit_31, lit_32, lit_40, lit_47, lit_48, lit_49, lit_57, lit_58, lit_60, lit_64, lit_68, lit_80, lit_97, lit_99, lit_100, lit_101, lit_104, lit_108, lit_109, lit_115, lit_117, lit_121, lit_127, lit_128, lit_140, lit_1000, lit_1000000, lit_1048576, bI_ret, bV_ret, bL_ret, bH_t, cond_true, z_0, z_1, retZ_tf, z_tf0, z_tf1, Decidable.not_not, Classical.not_not, nI_add, nI_clamp, n_le, n_lt, n_eq, nI_or, nI_and, z_sdf, of_nI, L_n rg, L3_mE rg, c_has, e1]
      rw [if_neg (by omega)]
      by_cases c : met v i y = true
      · rw [if_neg (fun z => z c), if_pos c]
      · rw [if_pos c, if_neg c]
  · rintro s ⟨⟨g, rfl, p1, p2⟩, q⟩
    have hI : IV v x y T fg 0 0 0 h g := by
      refine ⟨fun a => if met v a y = true then 0 else 1000000, fun a ha => ?_, fun a ha hlt => ?_, fun b hb l h1 h2 => ?_, fun b hb => absurd hb (Nat.not_lt_zero b), fun l h1 h2 h3 => ?_, p2⟩
      · rw [p1 a ha]
        dsimp only
        split
        · exact ⟨rfl, by omega⟩
        · exact ⟨rfl, Nat.le_refl _⟩
      · dsimp only at hlt ⊢
        split at hlt
        · next c =>
          rw [if_pos c]
          exact ⟨[y], ⟨c, Or.inl ⟨rfl, rfl⟩⟩, rfl⟩
        · omega
      · cases l with
        | nil => exact absurd h1 (by intro h; exact h)
        | cons z l =>
          have : l = [] := List.eq_nil_of_length_eq_zero (by rw [List.length_cons] at h2; omega)
          subst this
          rcases h1.2 with ⟨e1, -⟩ | ⟨-, -, e⟩
          · subst e1
            dsimp only
            rw [if_pos h1.1]
            exact Nat.le_refl _
          · exact absurd e (by intro h; exact h)
      · rcases h3 with h3 | h3
        · exact absurd h3 (Nat.not_lt_zero _)
        · cases l with
          | nil => exact absurd h1 (by intro h; exact h)
          | cons z l =>
            have : l = [] := List.eq_nil_of_length_eq_zero (by rw [List.length_cons] at h3; omega)
            subst this
            rcases h1.2 with ⟨e1, -⟩ | ⟨-, -, e⟩
            · subst e1
              dsimp only
              rw [if_pos h1.1]
              exact Nat.le_refl _
            · exact absurd e (by intro h; exact h)
    obtain ⟨g', k1, k2⟩ := c_weigh1 (x := x) (y := y) w r hp hm hx hy g hI
    obtain ⟨A, k3, k4, k5⟩ := Hend g' k1
    refine ⟨g', A, q () _ fun κ => ?_, k3, k4, k5⟩
    have rg := CLd_C w r (fun b j n => p2 b j (by omega))
    simp (disch := first | assumption | omega) only [Wa_weighAhead_2, lit_0, lit_1, lit_2, lit_3, lit_4, lit_5, lit_6, lit_7, lit_8, lit_9, lit_10, lit_11, lit_12, lit_16, lit_17, lit_20, lit_31, lit_32, lit_40, lit_47, lit_48, lit_49, lit_57, lit_58, lit_60, lit_64, lit_68, lit_80, lit_97, lit_99, lit_100, lit_101, lit_104, lit_108, lit_109, lit_115, lit_117, lit_121, lit_127, lit_128, lit_140, lit_1000, lit_1000000, lit_1048576, bI_ret, bV_ret, bL_ret, bH_t, cond_true, z_0, z_1, retZ_tf, z_tf0, z_tf1, Decidable.not_not, Classical.not_not, nI_add, nI_clamp, n_le, n_lt, n_eq, nI_or, nI_and, z_sdf, of_nI, L_n rg, Nat.le_refl, if_true, k2]
theorem c_nextOn (w : WF v) (r : CLd 3 v h) {T fg x y a : Nat} {A : Nat → Nat} (hp : HP v T fg h) (hm : hg h 64 3 = nI (muts v)) (hA : HA v A h) (hx : x < v 0 0) (hy : y < v 0 0) (ha : a < v 0 0) : F_Wa_nextOn (nI a) (nI x) (nI y) h = retI (nI (nxt (v 0 0) x y (met v) (pF v T fg) (muteB v) (fun z => prc v T z * 16 + 1) A a)) h := by
  have hn := w.1
  have hle := fst_le (cand x y (met v) (pF v T fg) (muteB v) (fun z => prc v T z * 16 + 1) A a) (v 0 0)
  have hno := fst_no (cand x y (met v) (pF v T fg) (muteB v) (fun z => prc v T z * 16 + 1) A a) (v 0 0)
  have hyes := fst_yes (cand x y (met v) (pF v T fg) (muteB v) (fun z => prc v T z * 16 + 1) A a) (v 0 0)
  have body : ∀ i, i < v 0 0 → ∀ κ, Wa_nextOn_3 (nI a, nI x, nI y, nI i, h) κ = if cand x y (met v) (pF v T fg) (muteB v) (fun z => prc v T z * 16 + 1) A a i = true then retI (nI i) h else κ (nI a, nI x, nI y, nI (i + 1), h) := by
    intro i hi κ
    have eL := c_leadsOn w r hp hm hx ha hi
    have hA1 := hA a ha
    have hA2 := hA i hi
    have hpop : prc v T i ≤ 10 := pop_le10 _
    unfold cand
    by_cases c1 : i = y
    · simp (disch := first | assumption | omega) only [Wa_nextOn_3, lit_0, lit_1, lit_2, lit_3, lit_4, lit_5, lit_6, lit_7, lit_8, lit_9, lit_10, lit_11, lit_12, lit_16, lit_17, lit_20, lit_31, lit_32, lit_40, lit_47, lit_48, lit_49, lit_57, lit_58, lit_60, lit_64, lit_68, lit_80, lit_97, lit_99, lit_100, lit_101, lit_104, lit_108, lit_109, lit_115, lit_117, lit_121, lit_127, lit_128, lit_140, lit_1000, lit_1000000, lit_1048576, bI_ret, bV_ret, bL_ret, bH_t, cond_true, z_0, z_1, retZ_tf, z_tf0, z_tf1, Decidable.not_not, Classical.not_not, nI_add, nI_clamp, n_le, n_lt, n_eq, nI_or, nI_and, z_sdf, of_nI, L_n r]
      rw [if_neg (by omega), if_pos c1, if_neg (by simp [c1])]
    · by_cases c2 : (met v a i && okS x (pF v T fg) (muteB v) a i) = true
      · have c4 : pF v T fg i = true := by
          have := c2
          unfold okS at this
          rw [Bool.and_eq_true, Bool.and_eq_true, Bool.and_eq_true] at this
          exact this.2.1.2
        have eW := c_weightBy w hp hA hi c4
        simp (disch := first | assumption | omega) only [Wa_nextOn_3, oA_18, oA_65, oA_66, oA_67, oA_69, oA_4, oA_5, lit_0, lit_1, lit_2, lit_3, lit_4, lit_5, lit_6, lit_7, lit_8, lit_9, lit_10, lit_11, lit_12, lit_16, lit_17, lit_20, lit_31, lit_32, lit_40, lit_47, lit_48, lit_49, lit_57, lit_58, lit_60, lit_64, lit_68, lit_80, lit_97, lit_99, lit_100, lit_101, lit_104, lit_108, lit_109, lit_115, lit_117, lit_121, lit_127, lit_128, lit_140, lit_1000, lit_1000000, lit_1048576, bI_ret, bV_ret, bL_ret, bH_t, cond_true, z_0, z_1, retZ_tf, z_tf0, z_tf1, Decidable.not_not, Classical.not_not, nI_add, nI_clamp, n_le, n_lt, n_eq, nI_or, nI_and, z_sdf, of_nI, L_n r, eL, c2, eW, hA1.1]
        rw [if_neg (by omega), if_neg c1]
        simp only [not_true, if_false, Bool.and_true, bne_iff_ne.mpr c1, Bool.true_and, beq_iff_eq]
      · simp (disch := first | assumption | omega) only [Wa_nextOn_3, lit_0, lit_1, lit_2, lit_3, lit_4, lit_5, lit_6, lit_7, lit_8, lit_9, lit_10, lit_11, lit_12, lit_16, lit_17, lit_20, lit_31, lit_32, lit_40, lit_47, lit_48, lit_49, lit_57, lit_58, lit_60, lit_64, lit_68, lit_80, lit_97, lit_99, lit_100, lit_101, lit_104, lit_108, lit_109, lit_115, lit_117, lit_121, lit_127, lit_128, lit_140, lit_1000, lit_1000000, lit_1048576, bI_ret, bV_ret, bL_ret, bH_t, cond_true, z_0, z_1, retZ_tf, z_tf0, z_tf1, Decidable.not_not, Classical.not_not, nI_add, nI_clamp, n_le, n_lt, n_eq, nI_or, nI_and, z_sdf, of_nI, L_n r, eL]
        rw [if_neg (by omega), if_neg c1, if_pos c2, if_neg (by simp only [Bool.not_eq_true] at c2; simp [c2])]
  unfold F_Wa_nextOn nxt
  by_cases c : fst (cand x y (met v) (pF v T fg) (muteB v) (fun z => prc v T z * 16 + 1) A a) (v 0 0) < v 0 0
  · rw [if_pos c]
    refine loop_for (N := fst (cand x y (met v) (pF v T fg) (muteB v) (fun z => prc v T z * 16 + 1) A a) (v 0 0)) (fun i => (nI a, nI x, nI y, nI i, h)) rfl (by show _ < 4096; omega) (fun i κ hi => ?_) (fun κ => ?_)
    · rw [body i (by omega) κ, if_neg (by rw [hno i hi]; decide)]
    · rw [body _ c κ, if_pos (hyes c)]
  · rw [if_neg c]
    refine loop_for (N := v 0 0) (fun i => (nI a, nI x, nI y, nI i, h)) rfl (by show _ < 4096; omega) (fun i κ hi => ?_) (fun κ => ?_)
    · rw [body i hi κ, if_neg (by rw [hno i (by omega)]; decide)]
    · simp (disch := first | assumption | omega) only [Wa_nextOn_3, lit_0, lit_1, lit_2, lit_3, lit_4, lit_5, lit_6, lit_7, lit_8, lit_9, lit_10, lit_11, lit_12, lit_16, lit_17, lit_20, lit_31, lit_32, lit_40, lit_47, lit_48, lit_49, lit_57, lit_58, lit_60, lit_64, lit_68, lit_80, lit_97, lit_99, lit_100, lit_101, lit_104, lit_108, lit_109, lit_115, lit_117, lit_121, lit_127, lit_128, lit_140, lit_1000, lit_1000000, lit_1048576, bI_ret, bV_ret, bL_ret, bH_t, cond_true, z_0, z_1, retZ_tf, z_tf0, z_tf1, Decidable.not_not, Classical.not_not, nI_add, nI_clamp, n_le, n_lt, n_eq, nI_or, nI_and, z_sdf, of_nI, L_n r, Nat.le_refl, if_true]
end FIND
