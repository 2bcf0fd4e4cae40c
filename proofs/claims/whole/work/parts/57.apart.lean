/-! APART, on both sides -/
def disj (a b : Nat) : Prop := a &&& b = 0
/-- sets apart, each a way's, from lo on, within what is left -/
def dfam (isw : Nat → Bool) (lo left : Nat) (L : List Nat) : Prop := L.Pairwise disj ∧ ∀ s ∈ L, lo ≤ s ∧ s < 128 ∧ 0 < s ∧ isw s = true ∧ sdf s left = 0
theorem disj_tb {a b : Nat} : disj a b ↔ ∀ i, a.testBit i = true → b.testBit i = false := by
  unfold disj
  constructor
  · intro h i hi
    have : (a &&& b).testBit i = false := by rw [h, Nat.zero_testBit]
    rw [Nat.testBit_and, hi] at this
    simpa using this
  · intro h
    apply Nat.eq_of_testBit_eq
    intro i
    rw [Nat.testBit_and, Nat.zero_testBit]
    cases c : a.testBit i with
    | false => rfl
    | true => rw [h i c]; rfl
theorem disj_symm {a b : Nat} (h : disj a b) : disj b a := by
  unfold disj at h ⊢
  rw [Nat.and_comm]
  exact h
theorem sdf_0 {a b : Nat} : sdf a b = 0 ↔ ∀ i, a.testBit i = true → b.testBit i = true := by
  constructor
  · intro h i hi
    have : (sdf a b).testBit i = false := by rw [h, Nat.zero_testBit]
    rw [sdf_tb, hi] at this
    simpa using this
  · intro h
    apply Nat.eq_of_testBit_eq
    intro i
    rw [sdf_tb, Nat.zero_testBit]
    cases c : a.testBit i with
    | false => rfl
    | true => rw [h i c]; rfl
theorem ex_bit {a : Nat} (h : 0 < a) : ∃ i, a.testBit i = true := Classical.byContradiction fun q => by
  have : a = 0 := Nat.eq_of_testBit_eq fun i => by
    rw [Nat.zero_testBit]
    cases c : a.testBit i with
    | false => rfl
    | true => exact absurd ⟨i, c⟩ q
  omega
theorem cnt_less {left p : Nat} (h0 : 0 < p) (h7 : p < 128) (hs9 : sdf p left = 0) : cnt 7 (fun i => (sdf left p).testBit i) < cnt 7 (fun i => left.testBit i) := by
  obtain ⟨i, hi⟩ := ex_bit h0
  have hi7 : i < 7 := Classical.byContradiction fun q => by
    rw [tb_small (show p < 2 ^ 7 from h7) (by omega)] at hi
    cases hi
  refine cnt_strict (fun j _ q => ?_) hi7 ?_ (sdf_0.mp hs9 i hi)
  · rw [sdf_tb, Bool.and_eq_true] at q
    exact q.1
  · rw [sdf_tb, hi]
    exact Bool.and_false _
theorem dfam_mem {isw : Nat → Bool} {lo left p : Nat} {L : List Nat} (h : dfam isw lo left L) (hp : p ∈ L) (hmin : ∀ s ∈ L, p ≤ s) : dfam isw (p + 1) (sdf left p) (L.erase p) := by
  obtain ⟨h1, h2⟩ := h
  have hsub := List.erase_sublist (a := p) (l := L)
  have hnd : L.Nodup := h1.imp_of_mem (fun {a b} ha hb q e => by
    subst e
    have := (h2 a ha).2.2.1
    unfold disj at q
    rw [Nat.and_self] at q
    omega)
  refine ⟨h1.sublist hsub, fun s hs9 => ?_⟩
  obtain ⟨a1, a2⟩ := (List.Nodup.mem_erase_iff hnd).mp hs9
  obtain ⟨b1, b2, b3, b4, b5⟩ := h2 s a2
  have := hmin s a2
  refine ⟨by omega, b2, b3, b4, sdf_0.mpr fun i hi => ?_⟩
  have hd := pair_all (R := disj) (fun _ _ q => disj_symm q) h1 s a2 p hp a1
  rw [sdf_tb, sdf_0.mp b5 i hi, disj_tb.mp hd i hi]
  rfl
theorem m_packOn {isw : Nat → Bool} {h : Hp} (H : ∀ s, s < 128 → hg h 195 s = if isw s = true then nI 1 else nI 0) : ∀ (d lo left : Nat), lo ≤ 128 → left < 128 → cnt 7 (fun i => left.testBit i) < d → ∃ r, F_Mo_packOn d (nI lo) (nI left) h = retI (nI r) h ∧ r ≤ 7 ∧ (∃ L, dfam isw lo left L ∧ L.length = r) ∧ ∀ L, dfam isw lo left L → L.length ≤ r
  | 0, lo, left, _, _, hd => absurd hd (Nat.not_lt_zero _)
  | d + 1, lo, left, hlo, hleft, hd => by
    show ∃ r, G_Mo_packOn (F_Mo_packOn d) (nI lo) (nI left) h = retI (nI r) h ∧ _
    unfold G_Mo_packOn
    have hb : ∀ L, dfam isw lo left L → L.length ≤ 7 := fun L hL => by
      -- each of them has a bit of its own
      have : ∀ M : List Nat, dfam isw lo left M → ∃ es : List Nat, es.length = M.length ∧ es.Nodup ∧ ∀ e ∈ es, e < 7 ∧ ∃ s, s ∈ M ∧ s.testBit e = true := by
        intro M
        induction M with
        | nil => intro _; exact ⟨[], rfl, List.nodup_nil, fun _ q => absurd q List.not_mem_nil⟩
        | cons s M ih =>
          rintro ⟨h1, h2⟩
          rw [List.pairwise_cons] at h1
          obtain ⟨es, a1, a2, a3⟩ := ih ⟨h1.2, fun c hc => h2 c (List.mem_cons_of_mem _ hc)⟩
          obtain ⟨b1, b2, b3, b4, b5⟩ := h2 s List.mem_cons_self
          obtain ⟨i, hi⟩ := ex_bit b3
          have hi7 : i < 7 := Classical.byContradiction fun q => by
            rw [tb_small (show s < 2 ^ 7 from b2) (by omega)] at hi
            cases hi
          refine ⟨i :: es, by simp [a1], List.nodup_cons.mpr ⟨fun q => ?_, a2⟩, fun e he => ?_⟩
          · obtain ⟨-, c, hc, hc2⟩ := a3 i q
            rw [disj_tb.mp (h1.1 c hc) i hi] at hc2
            cases hc2
          · rcases List.mem_cons.mp he with rfl | he
            · exact ⟨hi7, s, List.mem_cons_self, hi⟩
            · obtain ⟨g1, c, g2, g3⟩ := a3 e he
              exact ⟨g1, c, List.mem_cons_of_mem _ g2, g3⟩
      obtain ⟨es, a1, a2, a3⟩ := this L hL
      rw [← a1]
      exact pigeon 7 es a2 (fun z hz => (a3 z hz).1)
    refine loop_inv (N := 128 - lo) (R := fun o => ∃ r, o = retI (nI r) h ∧ r ≤ 7 ∧ (∃ L, dfam isw lo left L ∧ L.length = r) ∧ ∀ L, dfam isw lo left L → L.length ≤ r) (fun i s => ∃ r, s = (nI left, nI r, nI (lo + i), h) ∧ (∃ L, dfam isw lo left L ∧ L.length = r) ∧ ∀ L, dfam isw lo left L → (L = [] ∨ ∃ s, s ∈ L ∧ s < lo + i) → L.length ≤ r) ⟨0, rfl, ⟨[], ⟨List.Pairwise.nil, fun _ q => absurd q List.not_mem_nil⟩, rfl⟩, fun L hL q => ?_⟩ (by show _ < 4096; omega) ?_ ?_
    · rcases q with rfl | ⟨s, hs9, hlt⟩
      · exact Nat.le_refl _
      · have := (hL.2 s hs9).1
        omega
    · rintro i s hi ⟨r, rfl, ⟨L0, l1, l2⟩, p2⟩
      have hr7 : r ≤ 7 := by rw [← l2]; exact hb L0 l1
      have hp := H (lo + i) (by omega)
      have keep : (∀ L, dfam isw lo left L → lo + i ∈ L → False) → ∃ s', (∃ r, s' = (nI left, nI r, nI (lo + (i + 1)), h) ∧ (∃ L, dfam isw lo left L ∧ L.length = r) ∧ ∀ L, dfam isw lo left L → (L = [] ∨ ∃ s, s ∈ L ∧ s < lo + (i + 1)) → L.length ≤ r) ∧ s' = (nI left, nI r, nI (lo + i + 1), h) := fun q => ⟨_, ⟨r, rfl, ⟨L0, l1, l2⟩, fun L hL hs9 => p2 L hL (by
        rcases hs9 with e | ⟨s, s1, s2⟩
        · exact Or.inl e
        · refine Or.inr ⟨s, s1, ?_⟩
          by_cases e : s = lo + i
          · subst e
            exact (q L hL s1).elim
          · omega)⟩, rfl⟩
      by_cases c0 : lo + i ≤ 0
      · obtain ⟨s', a1, a2⟩ := keep (fun L hL hm => by have := (hL.2 _ hm).2.2.1; omega)
        refine ⟨s', a1, fun κ => ?_⟩
        rw [a2]
        simp (disch := first | assumption | omega) only [Mo_packOn_5, lit_0, lit_1, lit_2, lit_3, lit_4, lit_5, lit_6, lit_7, lit_8, lit_9, lit_10, lit_11, lit_12, lit_16, lit_17, lit_20, lit_31, lit_32, lit_40, lit_47, lit_48, lit_49, lit_57, lit_58, lit_60, lit_64, lit_68, lit_80, lit_97, lit_99, lit_100, lit_101, lit_104, lit_108, lit_109, lit_115, lit_117, lit_121, lit_127, lit_128, lit_140, lit_1000, lit_1000000, lit_1048576, bI_ret, bV_ret, bL_ret, bH_t, cond_true, z_0, z_1, retZ_tf, z_tf0, z_tf1, Decidable.not_not, Classical.not_not, nI_add, nI_clamp, n_le, n_lt, n_eq, nI_or, nI_and, z_sdf, of_nI]
        rw [if_neg (by omega), if_pos c0]
      by_cases c1 : isw (lo + i) = true
      · rw [if_pos c1] at hp
        by_cases c2 : sdf (lo + i) left = 0
        · have hlt := cnt_less (left := left) (p := lo + i) (by omega) (by omega) c2
          have hsl : sdf left (lo + i) < 128 := sdf_lt (show left < 2 ^ 7 from hleft)
          obtain ⟨r', e1, e2, ⟨L', e3, e4⟩, e5⟩ := m_packOn H d (lo + i + 1) (sdf left (lo + i)) (by omega) hsl (by omega)
          have hcons : dfam isw lo left ((lo + i) :: L') := by
            refine ⟨List.pairwise_cons.mpr ⟨fun c hc => ?_, e3.1⟩, fun c hc => ?_⟩
            · refine disj_symm (disj_tb.mpr fun j hj => ?_)
              have := sdf_0.mp (e3.2 c hc).2.2.2.2 j hj
              rw [sdf_tb, Bool.and_eq_true, Bool.not_eq_true'] at this
              exact this.2
            · rcases List.mem_cons.mp hc with rfl | hc
              · exact ⟨by omega, by omega, by omega, c1, c2⟩
              · obtain ⟨g1, g2, g3, g4, g5⟩ := e3.2 c hc
                refine ⟨by omega, g2, g3, g4, sdf_0.mpr fun j hj => ?_⟩
                have := sdf_0.mp g5 j hj
                rw [sdf_tb, Bool.and_eq_true] at this
                exact this.1
          refine ⟨(nI left, nI (if 1 + r' ≤ r then r else 1 + r'), nI (lo + (i + 1)), h), ⟨_, rfl, ?_, fun L hL hs9 => ?_⟩, fun κ => ?_⟩
          · by_cases c3 : 1 + r' ≤ r
            · rw [if_pos c3]; exact ⟨L0, l1, l2⟩
            · rw [if_neg c3]; exact ⟨(lo + i) :: L', hcons, by simp [e4]; omega⟩
          · have hmax : r ≤ (if 1 + r' ≤ r then r else 1 + r') ∧ 1 + r' ≤ (if 1 + r' ≤ r then r else 1 + r') := by split <;> omega
            by_cases c4 : L = [] ∨ ∃ s, s ∈ L ∧ s < lo + i
            · exact Nat.le_trans (p2 L hL c4) hmax.1
            · have hin : lo + i ∈ L := by
                rcases hs9 with e | ⟨s, s1, s2⟩
                · exact absurd (Or.inl e) c4
                · by_cases e : s = lo + i
                  · rw [← e]; exact s1
                  · exact absurd (Or.inr ⟨s, s1, by omega⟩) c4
              have hE := dfam_mem hL hin (fun s s1 => Classical.byContradiction fun z => c4 (Or.inr ⟨s, s1, by omega⟩))
              have := e5 _ hE
              rw [List.length_erase_of_mem hin] at this
              have := hmax.2
              omega
          · simp (disch := first | assumption | omega) only [Mo_packOn_5, lit_0, lit_1, lit_2, lit_3, lit_4, lit_5, lit_6, lit_7, lit_8, lit_9, lit_10, lit_11, lit_12, lit_16, lit_17, lit_20, lit_31, lit_32, lit_40, lit_47, lit_48, lit_49, lit_57, lit_58, lit_60, lit_64, lit_68, lit_80, lit_97, lit_99, lit_100, lit_101, lit_104, lit_108, lit_109, lit_115, lit_117, lit_121, lit_127, lit_128, lit_140, lit_1000, lit_1000000, lit_1048576, bI_ret, bV_ret, bL_ret, bH_t, cond_true, z_0, z_1, retZ_tf, z_tf0, z_tf1, Decidable.not_not, Classical.not_not, nI_add, nI_clamp, n_le, n_lt, n_eq, nI_or, nI_and, z_sdf, of_nI, oA_195, hp, c2, e1]
            rw [if_neg (by omega), if_neg c0, if_neg (by omega), if_pos trivial]
            by_cases c3 : 1 + r' ≤ r
            · rw [if_pos c3, if_pos c3, Nat.add_assoc lo i 1]
            · rw [if_neg c3, if_neg c3, Nat.add_assoc lo i 1]
        · obtain ⟨s', a1, a2⟩ := keep (fun L hL hm => c2 (hL.2 _ hm).2.2.2.2)
          refine ⟨s', a1, fun κ => ?_⟩
          have hs31 : sdf (lo + i) left < 2 ^ 31 := Nat.lt_trans (sdf_lt (show lo + i < 2 ^ 7 by omega)) (by decide)
          rw [a2]
          simp (disch := first | assumption | omega) only [Mo_packOn_5, lit_0, lit_1, lit_2, lit_3, lit_4, lit_5, lit_6, lit_7, lit_8, lit_9, lit_10, lit_11, lit_12, lit_16, lit_17, lit_20, lit_31, lit_32, lit_40, lit_47, lit_48, lit_49, lit_57, lit_58, lit_60, lit_64, lit_68, lit_80, lit_97, lit_99, lit_100, lit_101, lit_104, lit_108, lit_109, lit_115, lit_117, lit_121, lit_127, lit_128, lit_140, lit_1000, lit_1000000, lit_1048576, bI_ret, bV_ret, bL_ret, bH_t, cond_true, z_0, z_1, retZ_tf, z_tf0, z_tf1, Decidable.not_not, Classical.not_not, nI_add, nI_clamp, n_le, n_lt, n_eq, nI_or, nI_and, z_sdf, of_nI, oA_195, hp]
          rw [if_neg (by omega), if_neg c0, if_neg (by omega), if_neg c2]
      · rw [if_neg c1] at hp
        obtain ⟨s', a1, a2⟩ := keep (fun L hL hm => c1 (hL.2 _ hm).2.2.2.1)
        refine ⟨s', a1, fun κ => ?_⟩
        rw [a2]
        simp (disch := first | assumption | omega) only [Mo_packOn_5, lit_0, lit_1, lit_2, lit_3, lit_4, lit_5, lit_6, lit_7, lit_8, lit_9, lit_10, lit_11, lit_12, lit_16, lit_17, lit_20, lit_31, lit_32, lit_40, lit_47, lit_48, lit_49, lit_57, lit_58, lit_60, lit_64, lit_68, lit_80, lit_97, lit_99, lit_100, lit_101, lit_104, lit_108, lit_109, lit_115, lit_117, lit_121, lit_127, lit_128, lit_140, lit_1000, lit_1000000, lit_1048576, bI_ret, bV_ret, bL_ret, bH_t, cond_true, z_0, z_1, retZ_tf, z_tf0, z_tf1, Decidable.not_not, Classical.not_not, nI_add, nI_clamp, n_le, n_lt, n_eq, nI_or, nI_and, z_sdf, of_nI, oA_195, hp]
        rw [if_neg (by omega), if_neg c0, if_pos trivial]
    · rintro s ⟨r, rfl, ⟨L0, l1, l2⟩, p2⟩ κ
      refine ⟨r, ?_, by rw [← l2]; exact hb L0 l1, ⟨L0, l1, l2⟩, fun L hL => p2 L hL ?_⟩
      · simp (disch := first | assumption | omega) only [Mo_packOn_5, lit_0, lit_1, lit_2, lit_3, lit_4, lit_5, lit_6, lit_7, lit_8, lit_9, lit_10, lit_11, lit_12, lit_16, lit_17, lit_20, lit_31, lit_32, lit_40, lit_47, lit_48, lit_49, lit_57, lit_58, lit_60, lit_64, lit_68, lit_80, lit_97, lit_99, lit_100, lit_101, lit_104, lit_108, lit_109, lit_115, lit_117, lit_121, lit_127, lit_128, lit_140, lit_1000, lit_1000000, lit_1048576, bI_ret, bV_ret, bL_ret, bH_t, cond_true, z_0, z_1, retZ_tf, z_tf0, z_tf1, Decidable.not_not, Classical.not_not, nI_add, nI_clamp, n_le, n_lt, n_eq, nI_or, nI_and, z_sdf, of_nI]
        rw [if_pos (by omega)]
      · cases L with
        | nil => exact Or.inl rfl
        | cons s L =>
          have := (hL.2 s List.mem_cons_self).2.1
          exact Or.inr ⟨s, List.mem_cons_self, by omega⟩
section APART
variable {v : LV} {h : Hp}
def btw (v : LV) (x y T : Nat) : Nat := sdf (sdf (car v T) (2 ^ x)) (2 ^ y)
/-- a part without which no way leads over hands between -/
def parts9 (v : LV) (x y T g : Nat) : Prop := sdf g (btw v x y T) = 0 ∧ ¬ ∃ l, wayF x y (met v) (fun i => (sdf (btw v x y T) g).testBit i) (muteB v) x l ∧ 2 ≤ l.length
theorem btw_lt (w : WF v) (x y T : Nat) : btw v x y T < 2 ^ 7 := sdf_lt (sdf_lt (car_lt w T))
theorem btw_tb {x y T i : Nat} : (btw v x y T).testBit i = true ↔ (car v T).testBit i = true ∧ i ≠ x ∧ i ≠ y := by
  unfold btw
  rw [sdf_tb, sdf_tb, tb_pow, tb_pow, Bool.and_eq_true, Bool.and_eq_true, Bool.not_eq_true', Bool.not_eq_true', decide_eq_false_iff_not, decide_eq_false_iff_not, and_assoc]
  exact ⟨fun q => ⟨q.1, fun e => q.2.1 e.symm, fun e => q.2.2 e.symm⟩, fun q => ⟨q.1, fun e => q.2.1 e.symm, fun e => q.2.2 e.symm⟩⟩
theorem car_n {T i : Nat} (h : (car v T).testBit i = true) : i < v 0 0 := by
  unfold car at h
  rw [ms_tb, Bool.and_eq_true, decide_eq_true_eq] at h
  exact h.1
theorem c_mostApart (w : WF v) (r : CLd 3 v h) {x y T : Nat} (hx : x < v 0 0) (hy : y < v 0 0) (hxy : x ≠ y) (hT : T < 32) : ∃ F, F_Wa_mostApart (nI x) (nI y) (nI T) h = retI (nI (F + if met v x y = true then 1 else 0)) h ∧ F ≤ 7 ∧ (∃ g, g < 128 ∧ parts9 v x y T g ∧ pop g = F) ∧ ∀ g, g < 128 → parts9 v x y T g → F ≤ pop g := by
  have hn := w.1
  have hbl := btw_lt w x y T
  have hc := c_carriers w r hT
  have hcl := car_lt w T
  have h31 := ms_31 (n := 7) (by decide) (met v x)
  have e1 : (ms 7 (met v x)).testBit y = met v x y := by rw [ms_tb, decide_eq_true (by omega), Bool.true_and]
  unfold F_Wa_mostApart
  simp (disch := first | assumption | omega) only [lit_0, lit_1, lit_2, lit_3, lit_4, lit_5, lit_6, lit_7, lit_8, lit_9, lit_10, lit_11, lit_12, lit_16, lit_17, lit_20, lit_31, lit_32, lit_40, lit_47, lit_48, lit_49, lit_57, lit_58, lit_60, lit_64, lit_68, lit_80, lit_97, lit_99, lit_100, lit_101, lit_104, lit_108, lit_109, lit_115, lit_117, lit_121, lit_127, lit_128, lit_140, lit_1000, lit_1000000, lit_1048576, bI_ret, bV_ret, bL_ret, bH_t, cond_true, z_0, z_1, retZ_tf, z_tf0, z_tf1, Decidable.not_not, Classical.not_not, nI_add, nI_clamp, n_le, n_lt, n_eq, nI_or, nI_and, z_sdf, of_nI, hc, c_bit]
  show ∃ F, loopC _ FU (nI x, nI y, nI (btw v x y T), nI 7, nI 0, h) = _ ∧ _
  have hpb : pop (btw v x y T) ≤ 5 := by
    have h1 : pop (btw v x y T) = cnt 7 (fun i => (btw v x y T).testBit i) := by
      rw [← pop_ms (n := 7) (by decide)]
      congr 1
      exact ms_of hbl (fun _ _ => rfl)
    have h2 : cnt 7 (fun i => ((btw v x y T).testBit i || i == x) || i == y) ≤ 7 := cnt_le _ _
    have h3 := cnt_strict (n := 7) (P := fun i => (btw v x y T).testBit i) (Q := fun i => (btw v x y T).testBit i || i == x) (fun i _ q => by rw [q]; rfl) (j := x) (by omega) (by
      cases c : (btw v x y T).testBit x with
      | false => rfl
      | true => exact absurd rfl (btw_tb.mp c).2.1) (by simp)
    have h4 := cnt_strict (n := 7) (P := fun i => (btw v x y T).testBit i || i == x) (Q := fun i => ((btw v x y T).testBit i || i == x) || i == y) (fun i _ q => by rw [q]; rfl) (j := y) (by omega) (by
      rw [beq_eq_false_iff_ne.mpr (fun e => hxy e.symm), Bool.or_false]
      cases c : (btw v x y T).testBit y with
      | false => rfl
      | true => exact absurd rfl (btw_tb.mp c).2.2) (by simp)
    omega
  refine loop_inv (N := 128) (R := fun o => ∃ F, o = retI (nI (F + if met v x y = true then 1 else 0)) h ∧ F ≤ 7 ∧ (∃ g, g < 128 ∧ parts9 v x y T g ∧ pop g = F) ∧ ∀ g, g < 128 → parts9 v x y T g → F ≤ pop g) (fun i s => ∃ F, s = (nI x, nI y, nI (btw v x y T), nI F, nI i, h) ∧ F ≤ 7 ∧ (F = 7 ∨ ∃ g, g < 128 ∧ parts9 v x y T g ∧ pop g = F) ∧ ∀ g, g < i → parts9 v x y T g → F ≤ pop g) ⟨7, rfl, Nat.le_refl _, Or.inl rfl, fun g hg => absurd hg (Nat.not_lt_zero g)⟩ (by show _ < 4096; omega) ?_ ?_
  · rintro i s hi ⟨F, rfl, p1, p2, p3⟩
    have hpi : pop i ≤ 10 := cnt_le _ _
    have hsi : sdf i (btw v x y T) < 2 ^ 31 := Nat.lt_trans (sdf_lt (show i < 2 ^ 7 by omega)) (by decide)
    have hsb := sdf_lt (b := i) hbl
    have hox : (sdf (btw v x y T) i).testBit x = false := by
      rw [sdf_tb]
      cases c : (btw v x y T).testBit x with
      | false => rfl
      | true => exact absurd rfl (btw_tb.mp c).2.1
    have hoy : (sdf (btw v x y T) i).testBit y = false := by
      rw [sdf_tb]
      cases c : (btw v x y T).testBit y with
      | false => rfl
      | true => exact absurd rfl (btw_tb.mp c).2.2
    have eL := c_leadsOver w r hx hy hsb
    rw [tf_cong (over_iff w hx hy hsb hox hoy)] at eL
    have hpow : (2 : Nat) ^ 7 = 128 := rfl
    by_cases c1 : sdf i (btw v x y T) = 0
    · by_cases c2 : F ≤ pop i
      · refine ⟨(nI x, nI y, nI (btw v x y T), nI F, nI (i + 1), h), ⟨F, rfl, p1, p2, fun g hg q => ?_⟩, fun κ => ?_⟩
        · by_cases e : g = i
          · subst e; exact c2
          · exact p3 g (by omega) q
        · simp (disch := first | assumption | omega) only [Wa_mostApart_28, lit_0, lit_1, lit_2, lit_3, lit_4, lit_5, lit_6, lit_7, lit_8, lit_9, lit_10, lit_11, lit_12, lit_16, lit_17, lit_20, lit_31, lit_32, lit_40, lit_47, lit_48, lit_49, lit_57, lit_58, lit_60, lit_64, lit_68, lit_80, lit_97, lit_99, lit_100, lit_101, lit_104, lit_108, lit_109, lit_115, lit_117, lit_121, lit_127, lit_128, lit_140, lit_1000, lit_1000000, lit_1048576, bI_ret, bV_ret, bL_ret, bH_t, cond_true, z_0, z_1, retZ_tf, z_tf0, z_tf1, Decidable.not_not, Classical.not_not, nI_add, nI_clamp, n_le, n_lt, n_eq, nI_or, nI_and, z_sdf, of_nI, c_bit, hpow, c_bits]
          rw [if_neg (by omega), if_pos c1, if_pos c2]
      · by_cases c3 : ∃ l, wayF x y (met v) (fun j => (sdf (btw v x y T) i).testBit j) (muteB v) x l ∧ 2 ≤ l.length
        · refine ⟨(nI x, nI y, nI (btw v x y T), nI F, nI (i + 1), h), ⟨F, rfl, p1, p2, fun g hg q => ?_⟩, fun κ => ?_⟩
          · by_cases e : g = i
            · subst e; exact absurd c3 q.2
            · exact p3 g (by omega) q
          · rw [tf_t c3] at eL
            simp (disch := first | assumption | omega) only [Wa_mostApart_28, lit_0, lit_1, lit_2, lit_3, lit_4, lit_5, lit_6, lit_7, lit_8, lit_9, lit_10, lit_11, lit_12, lit_16, lit_17, lit_20, lit_31, lit_32, lit_40, lit_47, lit_48, lit_49, lit_57, lit_58, lit_60, lit_64, lit_68, lit_80, lit_97, lit_99, lit_100, lit_101, lit_104, lit_108, lit_109, lit_115, lit_117, lit_121, lit_127, lit_128, lit_140, lit_1000, lit_1000000, lit_1048576, bI_ret, bV_ret, bL_ret, bH_t, cond_true, z_0, z_1, retZ_tf, z_tf0, z_tf1, Decidable.not_not, Classical.not_not, nI_add, nI_clamp, n_le, n_lt, n_eq, nI_or, nI_and, z_sdf, of_nI, c_bit, hpow, c_bits, eL]
            rw [if_neg (by omega), if_pos c1, if_neg c2]
            rfl
        · refine ⟨(nI x, nI y, nI (btw v x y T), nI (pop i), nI (i + 1), h), ⟨pop i, rfl, by omega, Or.inr ⟨i, by omega, ⟨c1, c3⟩, rfl⟩, fun g hg q => ?_⟩, fun κ => ?_⟩
          · by_cases e : g = i
            · subst e; exact Nat.le_refl _
            · have := p3 g (by omega) q
              omega
          · rw [tf_f c3] at eL
            simp (disch := first | assumption | omega) only [Wa_mostApart_28, lit_0, lit_1, lit_2, lit_3, lit_4, lit_5, lit_6, lit_7, lit_8, lit_9, lit_10, lit_11, lit_12, lit_16, lit_17, lit_20, lit_31, lit_32, lit_40, lit_47, lit_48, lit_49, lit_57, lit_58, lit_60, lit_64, lit_68, lit_80, lit_97, lit_99, lit_100, lit_101, lit_104, lit_108, lit_109, lit_115, lit_117, lit_121, lit_127, lit_128, lit_140, lit_1000, lit_1000000, lit_1048576, bI_ret, bV_ret, bL_ret, bH_t, cond_true, z_0, z_1, retZ_tf, z_tf0, z_tf1, Decidable.not_not, Classical.not_not, nI_add, nI_clamp, n_le, n_lt, n_eq, nI_or, nI_and, z_sdf, of_nI, c_bit, hpow, c_bits, eL]
            rw [if_neg (by omega), if_pos c1, if_neg c2]
            rfl
    · refine ⟨(nI x, nI y, nI (btw v x y T), nI F, nI (i + 1), h), ⟨F, rfl, p1, p2, fun g hg q => ?_⟩, fun κ => ?_⟩
      · by_cases e : g = i
        · subst e; exact absurd q.1 c1
        · exact p3 g (by omega) q
      · simp (disch := first | assumption | omega) only [Wa_mostApart_28, lit_0, lit_1, lit_2, lit_3, lit_4, lit_5, lit_6, lit_7, lit_8, lit_9, lit_10, lit_11, lit_12, lit_16, lit_17, lit_20, lit_31, lit_32, lit_40, lit_47, lit_48, lit_49, lit_57, lit_58, lit_60, lit_64, lit_68, lit_80, lit_97, lit_99, lit_100, lit_101, lit_104, lit_108, lit_109, lit_115, lit_117, lit_121, lit_127, lit_128, lit_140, lit_1000, lit_1000000, lit_1048576, bI_ret, bV_ret, bL_ret, bH_t, cond_true, z_0, z_1, retZ_tf, z_tf0, z_tf1, Decidable.not_not, Classical.not_not, nI_add, nI_clamp, n_le, n_lt, n_eq, nI_or, nI_and, z_sdf, of_nI, c_bit, hpow]
        rw [if_neg (by omega), if_neg c1]
  · rintro s ⟨F, rfl, p1, p2, p3⟩ κ
    have hall : parts9 v x y T (btw v x y T) := by
      refine ⟨sdf_0.mpr fun _ q => q, ?_⟩
      rintro ⟨l, h1, h2⟩
      cases l with
      | nil => exact absurd h1 (by intro h; exact h)
      | cons z l =>
        rcases h1.2 with ⟨-, e⟩ | ⟨-, e, -⟩
        · subst e; simp at h2
        · unfold okS at e
          rw [Bool.and_eq_true, Bool.and_eq_true] at e
          have e := e.1.2
          dsimp only at e
          rw [sdf_tb] at e
          simp at e
    have h9 := p3 _ (show btw v x y T < 128 from hbl) hall
    refine ⟨F, ?_, p1, p2.resolve_left (by omega), p3⟩
    have hpow : (2 : Nat) ^ 7 = 128 := rfl
    simp (disch := first | assumption | omega) only [Wa_mostApart_28, oA_18, oA_65, oA_66, oA_67, oA_69, oA_4, oA_5, lit_0, lit_1, lit_2, lit_3, lit_4, lit_5, lit_6, lit_7, lit_8, lit_9, lit_10, lit_11, lit_12, lit_16, lit_17, lit_20, lit_31, lit_32, lit_40, lit_47, lit_48, lit_49, lit_57, lit_58, lit_60, lit_64, lit_68, lit_80, lit_97, lit_99, lit_100, lit_101, lit_104, lit_108, lit_109, lit_115, lit_117, lit_121, lit_127, lit_128, lit_140, lit_1000, lit_1000000, lit_1048576, bI_ret, bV_ret, bL_ret, bH_t, cond_true, z_0, z_1, retZ_tf, z_tf0, z_tf1, Decidable.not_not, Classical.not_not, nI_add, nI_clamp, n_le, n_lt, n_eq, nI_or, nI_and, z_sdf, of_nI, c_bit, hpow, L3_mE r, c_has, e1, Nat.le_refl, if_true]
    by_cases c : met v x y = true
    · rw [if_neg (fun z => z c), if_pos c]
    · rw [if_pos c, if_neg c]
end APART
