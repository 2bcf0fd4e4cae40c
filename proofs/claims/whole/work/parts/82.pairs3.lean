/-! OPERATIONS: reader, readers, knows -/
theorem ge_no {x : Int32} {k : Nat} (hk : k < 2 ^ 31) : inR x k ↔ ¬ x < nI 0 ∧ ¬ nI k ≤ x := by
  rw [inR_iff, lt_toInt, le_toInt, nI_toInt hk, nI_toInt (by decide)]
  omega
theorem in_two {x : Int32} : inR x 2 ↔ x = nI 0 ∨ x = nI 1 := by
  constructor
  · intro q
    obtain ⟨a, ha, rfl⟩ := inR_ex (by decide) q
    rcases (show a = 0 ∨ a = 1 by omega) with rfl | rfl
    · exact Or.inl rfl
    · exact Or.inr rfl
  · rintro (rfl | rfl)
    · exact (inR_nI (by decide)).mpr (by decide)
    · exact (inR_nI (by decide)).mpr (by decide)
def rdX (f : Nat → Int32) (S i : Nat) : Bool := decide ((f (2 * i) &&& nI S = nI 0) ↔ (f (2 * i + 1) = nI 1))
def rdB (f : Nat → Int32) (m S : Nat) : Bool := !anyB m (rdX f S)
theorem rdB_cong {f f' : Nat → Int32} {m S : Nat} (h : ∀ j, j < 2 * m → f j = f' j) : rdB f m S = rdB f' m S := by
  unfold rdB
  rw [anyB_cong (Q := rdX f' S) fun k hk => by unfold rdX; rw [h _ (by omega), h _ (by omega)]]
theorem rd_tf (f : Nat → Int32) (m S : Nat) : tf (¬ anyB m (rdX f S) = true) = tf (rdB f m S = true) := tf_cong (by
  unfold rdB
  cases anyB m (rdX f S) <;> simp)
def prX (f : Nat → Int32) (K i : Nat) : Bool := !(inRb (f (2 * i)) K && inRb (f (2 * i + 1)) 2)
section PRS
variable {h : Hp} {s n m N : Nat}
theorem c_prT {i : Nat} (s10 : s < 10) (hc : n ≤ cap s) (c1 : hg h (71 + 2 * s) 1 = nI n) (hN : N ≤ 7) (e8 : hg h 3 8 = nI N) (hi : 2 * i + 1 < n) (q1 : inR (hg h (72 + 2 * s) (2 * i)) (2 ^ N)) (q2 : inR (hg h (72 + 2 * s) (2 * i + 1)) 2) (κ : (Nat × Int32 × Hp) → Res Hp) : Bp_refusedPairs_46 (71 + 2 * s, nI (2 * i), h) κ = κ (71 + 2 * s, nI (2 * (i + 1)), h) := by
  have hcap := cap_le s
  have hp : 2 ^ N < 2 ^ 31 := pow_lt31 (by omega)
  rw [ge_no hp] at q1
  rw [in_two] at q2
  simp (disch := first | assumption | omega) only [Bp_refusedPairs_46, lit_0, lit_1, lit_2, lit_3, lit_4, lit_5, lit_6, lit_7, lit_8, lit_9, lit_10, lit_11, lit_12, lit_16, lit_17, lit_20, lit_31, lit_32, lit_40, lit_47, lit_48, lit_49, lit_57, lit_58, lit_60, lit_64, lit_68, lit_80, lit_97, lit_99, lit_100, lit_101, lit_104, lit_108, lit_109, lit_115, lit_117, lit_121, lit_127, lit_128, lit_140, lit_1000, lit_1000000, lit_1048576, bI_ret, bV_ret, bL_ret, bH_t, cond_true, z_0, z_1, retZ_tf, z_tf0, z_tf1, Decidable.not_not, Classical.not_not, nI_add, nI_clamp, n_le, n_lt, n_eq, nI_or, nI_and, z_sdf, of_nI, sh_F1 s10, sh_F0 s10, sh_R s10, c1, e8, sh_A s10 (show 2 * i < cap s by omega), sh_A s10 (show 2 * i + 1 < cap s by omega), c_bit, found_b]
  rw [if_neg (by omega), if_neg q1.1, if_neg q1.2]
  rcases q2 with q2 | q2
  · rw [if_pos q2]; rfl
  · rw [if_pos q2]
    split <;> rfl
theorem c_prF {i : Nat} (s10 : s < 10) (hc : n ≤ cap s) (c1 : hg h (71 + 2 * s) 1 = nI n) (hN : N ≤ 7) (e8 : hg h 3 8 = nI N) (hi : 2 * i + 1 < n) (q : ¬ (inR (hg h (72 + 2 * s) (2 * i)) (2 ^ N) ∧ inR (hg h (72 + 2 * s) (2 * i + 1)) 2)) (κ : (Nat × Int32 × Hp) → Res Hp) : Bp_refusedPairs_46 (71 + 2 * s, nI (2 * i), h) κ = F_Bp_found (nI 3) h := by
  have hcap := cap_le s
  have hp : 2 ^ N < 2 ^ 31 := pow_lt31 (by omega)
  rw [ge_no hp, in_two] at q
  simp (disch := first | assumption | omega) only [Bp_refusedPairs_46, lit_0, lit_1, lit_2, lit_3, lit_4, lit_5, lit_6, lit_7, lit_8, lit_9, lit_10, lit_11, lit_12, lit_16, lit_17, lit_20, lit_31, lit_32, lit_40, lit_47, lit_48, lit_49, lit_57, lit_58, lit_60, lit_64, lit_68, lit_80, lit_97, lit_99, lit_100, lit_101, lit_104, lit_108, lit_109, lit_115, lit_117, lit_121, lit_127, lit_128, lit_140, lit_1000, lit_1000000, lit_1048576, bI_ret, bV_ret, bL_ret, bH_t, cond_true, z_0, z_1, retZ_tf, z_tf0, z_tf1, Decidable.not_not, Classical.not_not, nI_add, nI_clamp, n_le, n_lt, n_eq, nI_or, nI_and, z_sdf, of_nI, sh_F1 s10, sh_F0 s10, sh_R s10, c1, e8, sh_A s10 (show 2 * i < cap s by omega), sh_A s10 (show 2 * i + 1 < cap s by omega), c_bit, found_b]
  rw [if_neg (by omega)]
  by_cases a1 : hg h (72 + 2 * s) (2 * i) < nI 0
  · rw [if_pos a1]
    (repeat' split) <;> rfl
  · rw [if_neg a1]
    by_cases a2 : nI (2 ^ N) ≤ hg h (72 + 2 * s) (2 * i)
    · rw [if_pos a2]
      (repeat' split) <;> rfl
    · rw [if_neg a2, if_neg (fun z => q ⟨⟨a1, a2⟩, Or.inl z⟩), if_neg (fun z => q ⟨⟨a1, a2⟩, Or.inr z⟩)]
theorem m_prT {i : Nat} (hs9 : s < 6) (hn : n ≤ 40) (e1 : hg h 180 s = nI n) (hN : N ≤ 7) (e8 : hg h 178 8 = nI N) (hi : 2 * i + 1 < n) (q1 : inR (hg h 181 (40 * s + 2 * i)) (2 ^ N)) (q2 : inR (hg h 181 (40 * s + (2 * i + 1))) 2) (κ : (Int32 × Int32 × Hp) → Res Hp) : Mo_askedPairs_32 (nI s, nI (2 * i), h) κ = κ (nI s, nI (2 * (i + 1)), h) := by
  have hp : 2 ^ N < 2 ^ 31 := pow_lt31 (by omega)
  simp (disch := first | assumption | omega) only [Mo_askedPairs_32, lit_0, lit_1, lit_2, lit_3, lit_4, lit_5, lit_6, lit_7, lit_8, lit_9, lit_10, lit_11, lit_12, lit_16, lit_17, lit_20, lit_31, lit_32, lit_40, lit_47, lit_48, lit_49, lit_57, lit_58, lit_60, lit_64, lit_68, lit_80, lit_97, lit_99, lit_100, lit_101, lit_104, lit_108, lit_109, lit_115, lit_117, lit_121, lit_127, lit_128, lit_140, lit_1000, lit_1000000, lit_1048576, bI_ret, bV_ret, bL_ret, bH_t, cond_true, z_0, z_1, retZ_tf, z_tf0, z_tf1, Decidable.not_not, Classical.not_not, nI_add, nI_clamp, n_le, n_lt, n_eq, nI_or, nI_and, z_sdf, of_nI, ite_not, m_i3, m_i99, m_i7, m_i1, m_i20, m_i2, m_i8, m_i15, m_i60, oA_180, e1, e8, m_rowAt hs9 (show 2 * i < 40 by omega), m_rowAt hs9 (show 2 * i + 1 < 40 by omega), z_bit, m_inN hp, if_pos q1, if_pos q2]
  rw [if_neg (by omega)]
  rfl
theorem m_prF {i : Nat} (hs9 : s < 6) (hn : n ≤ 40) (e1 : hg h 180 s = nI n) (hN : N ≤ 7) (e8 : hg h 178 8 = nI N) (hi : 2 * i + 1 < n) (q : ¬ (inR (hg h 181 (40 * s + 2 * i)) (2 ^ N) ∧ inR (hg h 181 (40 * s + (2 * i + 1))) 2)) (κ : (Int32 × Int32 × Hp) → Res Hp) : Mo_askedPairs_32 (nI s, nI (2 * i), h) κ = F_Mo_meetWith (nI 3) h := by
  have hp : 2 ^ N < 2 ^ 31 := pow_lt31 (by omega)
  simp (disch := first | assumption | omega) only [Mo_askedPairs_32, lit_0, lit_1, lit_2, lit_3, lit_4, lit_5, lit_6, lit_7, lit_8, lit_9, lit_10, lit_11, lit_12, lit_16, lit_17, lit_20, lit_31, lit_32, lit_40, lit_47, lit_48, lit_49, lit_57, lit_58, lit_60, lit_64, lit_68, lit_80, lit_97, lit_99, lit_100, lit_101, lit_104, lit_108, lit_109, lit_115, lit_117, lit_121, lit_127, lit_128, lit_140, lit_1000, lit_1000000, lit_1048576, bI_ret, bV_ret, bL_ret, bH_t, cond_true, z_0, z_1, retZ_tf, z_tf0, z_tf1, Decidable.not_not, Classical.not_not, nI_add, nI_clamp, n_le, n_lt, n_eq, nI_or, nI_and, z_sdf, of_nI, ite_not, m_i3, m_i99, m_i7, m_i1, m_i20, m_i2, m_i8, m_i15, m_i60, oA_180, e1, e8, m_rowAt hs9 (show 2 * i < 40 by omega), m_rowAt hs9 (show 2 * i + 1 < 40 by omega), z_bit, m_inN hp, meet_b]
  rw [if_neg (by omega)]
  by_cases a1 : inR (hg h 181 (40 * s + 2 * i)) (2 ^ N)
  · rw [if_pos a1, if_neg (fun z => q ⟨a1, z⟩)]
  · rw [if_neg a1]
theorem pr_cases (f : Nat → Int32) (K m : Nat) : (∀ i, i < m → inR (f (2 * i)) K ∧ inR (f (2 * i + 1)) 2) ∨ ∃ i, i < m ∧ ¬ (inR (f (2 * i)) K ∧ inR (f (2 * i + 1)) 2) ∧ ∀ j, j < i → inR (f (2 * j)) K ∧ inR (f (2 * j + 1)) 2 := by
  have e : ∀ i, prX f K i = false → inR (f (2 * i)) K ∧ inR (f (2 * i + 1)) 2 := fun i z => by
    unfold prX at z
    rw [Bool.not_eq_false', Bool.and_eq_true] at z
    exact z
  have e2 : ∀ i, prX f K i = true → ¬ (inR (f (2 * i)) K ∧ inR (f (2 * i + 1)) 2) := fun i z y => by
    unfold prX at z
    rw [y.1, y.2] at z
    cases z
  by_cases c : anyB m (prX f K) = true
  · obtain ⟨i, h1, h2, h3⟩ := anyB_first c
    exact Or.inr ⟨i, h1, e2 i h2, fun j hj => e j (h3 j hj)⟩
  · refine Or.inl fun i hi => e i ?_
    cases z : prX f K i with
    | false => rfl
    | true => exact absurd (anyB_iff.mpr ⟨i, hi, z⟩) c
theorem c_prLoop (s10 : s < 10) (hc : 2 * m ≤ cap s) (c1 : hg h (71 + 2 * s) 1 = nI (2 * m)) (hN : N ≤ 7) (e8 : hg h 3 8 = nI N) (q : ∀ i, i < m → inR (hg h (72 + 2 * s) (2 * i)) (2 ^ N) ∧ inR (hg h (72 + 2 * s) (2 * i + 1)) 2) : loopC Bp_refusedPairs_46 FU (71 + 2 * s, nI 0, h) = retI (nI 0) h := by
  have hcap := cap_le s
  refine loop_for (N := m) (fun i => (71 + 2 * s, nI (2 * i), h)) rfl (by show _ < 4096; omega) (fun i κ hi => c_prT s10 hc c1 hN e8 (by omega) (q i hi).1 (q i hi).2 κ) (fun κ => ?_)
  simp (disch := first | assumption | omega) only [Bp_refusedPairs_46, lit_0, lit_1, lit_2, lit_3, lit_4, lit_5, lit_6, lit_7, lit_8, lit_9, lit_10, lit_11, lit_12, lit_16, lit_17, lit_20, lit_31, lit_32, lit_40, lit_47, lit_48, lit_49, lit_57, lit_58, lit_60, lit_64, lit_68, lit_80, lit_97, lit_99, lit_100, lit_101, lit_104, lit_108, lit_109, lit_115, lit_117, lit_121, lit_127, lit_128, lit_140, lit_1000, lit_1000000, lit_1048576, bI_ret, bV_ret, bL_ret, bH_t, cond_true, z_0, z_1, retZ_tf, z_tf0, z_tf1, Decidable.not_not, Classical.not_not, nI_add, nI_clamp, n_le, n_lt, n_eq, nI_or, nI_and, z_sdf, of_nI, sh_F1 s10, c1]
  rw [if_pos (by omega)]
theorem c_prLoopF {i : Nat} (s10 : s < 10) (hc : 2 * m ≤ cap s) (c1 : hg h (71 + 2 * s) 1 = nI (2 * m)) (hN : N ≤ 7) (e8 : hg h 3 8 = nI N) (hi : i < m) (q1 : ¬ (inR (hg h (72 + 2 * s) (2 * i)) (2 ^ N) ∧ inR (hg h (72 + 2 * s) (2 * i + 1)) 2)) (q : ∀ j, j < i → inR (hg h (72 + 2 * s) (2 * j)) (2 ^ N) ∧ inR (hg h (72 + 2 * s) (2 * j + 1)) 2) : loopC Bp_refusedPairs_46 FU (71 + 2 * s, nI 0, h) = F_Bp_found (nI 3) h := by
  have hcap := cap_le s
  exact loop_for (N := i) (fun i => (71 + 2 * s, nI (2 * i), h)) rfl (by show _ < 4096; omega) (fun j κ hj => c_prT s10 hc c1 hN e8 (by omega) (q j hj).1 (q j hj).2 κ) (fun κ => c_prF s10 hc c1 hN e8 (by omega) q1 κ)
theorem m_prLoop (hs9 : s < 6) (hn : 2 * m ≤ 40) (e1 : hg h 180 s = nI (2 * m)) (hN : N ≤ 7) (e8 : hg h 178 8 = nI N) (q : ∀ i, i < m → inR (hg h 181 (40 * s + 2 * i)) (2 ^ N) ∧ inR (hg h 181 (40 * s + (2 * i + 1))) 2) : loopC Mo_askedPairs_32 FU (nI s, nI 0, h) = retI (nI 0) h := by
  refine loop_for (N := m) (fun i => (nI s, nI (2 * i), h)) rfl (by show _ < 4096; omega) (fun i κ hi => m_prT hs9 hn e1 hN e8 (by omega) (q i hi).1 (q i hi).2 κ) (fun κ => ?_)
  simp (disch := first | assumption | omega) only [Mo_askedPairs_32, lit_0, lit_1, lit_2, lit_3, lit_4, lit_5, lit_6, lit_7, lit_8, lit_9, lit_10, lit_11, lit_12, lit_16, lit_17, lit_20, lit_31, lit_32, lit_40, lit_47, lit_48, lit_49, lit_57, lit_58, lit_60, lit_64, lit_68, lit_80, lit_97, lit_99, lit_100, lit_101, lit_104, lit_108, lit_109, lit_115, lit_117, lit_121, lit_127, lit_128, lit_140, lit_1000, lit_1000000, lit_1048576, bI_ret, bV_ret, bL_ret, bH_t, cond_true, z_0, z_1, retZ_tf, z_tf0, z_tf1, Decidable.not_not, Classical.not_not, nI_add, nI_clamp, n_le, n_lt, n_eq, nI_or, nI_and, z_sdf, of_nI, oA_180, e1]
  rw [if_pos (by omega)]
theorem m_prLoopF {i : Nat} (hs9 : s < 6) (hn : 2 * m ≤ 40) (e1 : hg h 180 s = nI (2 * m)) (hN : N ≤ 7) (e8 : hg h 178 8 = nI N) (hi : i < m) (q1 : ¬ (inR (hg h 181 (40 * s + 2 * i)) (2 ^ N) ∧ inR (hg h 181 (40 * s + (2 * i + 1))) 2)) (q : ∀ j, j < i → inR (hg h 181 (40 * s + 2 * j)) (2 ^ N) ∧ inR (hg h 181 (40 * s + (2 * j + 1))) 2) : loopC Mo_askedPairs_32 FU (nI s, nI 0, h) = F_Mo_meetWith (nI 3) h :=
  loop_for (N := i) (fun i => (nI s, nI (2 * i), h)) rfl (by show _ < 4096; omega) (fun j κ hj => m_prT hs9 hn e1 hN e8 (by omega) (q j hj).1 (q j hj).2 κ) (fun κ => m_prF hs9 hn e1 hN e8 (by omega) q1 κ)
end PRS
/-- what is refused alike -/
theorem pairs_cases (x : Int32) {h : Hp} (I : Inv h) {v : LV} (w : WF v) (r : CLd 3 v h) (m : MLd v h) :
    (F_Bp_refusedPairs x h = retI (-nI 1) h ∧ F_Mo_askedPairs x h = retI (-nI 1) h) ∨
    (∃ k, 1 ≤ k ∧ k ≤ 5 ∧ F_Bp_refusedPairs x h = F_Bp_found (nI k) h ∧ ∀ g1, (∀ a j, ¬ scr a j → ¬ fpA a j → hg g1 a j = hg h a j) → F_Mo_askedPairs x g1 = F_Mo_meetWith (nI k) g1) ∨
    ∃ s p, s < 6 ∧ x = nI s ∧ 2 * p ≤ 40 ∧ hg h (71 + 2 * s) 1 = nI (2 * p) ∧ hg h 180 s = nI (2 * p) ∧ (∀ j, j < 2 * p → hg h (72 + 2 * s) j = hg h 181 (40 * s + j)) ∧ F_Bp_refusedPairs x h = retI (nI 0) h ∧ F_Mo_askedPairs x h = retI (nI 0) h := by
  have hn := w.1
  have e8 : hg h 3 8 = nI (v 0 0) := L_n r
  by_cases hx : inR x 6
  · obtain ⟨s, hs9, rfl⟩ := inR_ex (by decide) hx
    have s10 : s < 10 := by omega
    have hcap : cap s = 40 := if_pos hs9
    rcases row_cases I hs9 with ⟨-, c2, c3⟩ | ⟨n, hn40, c1, c2, c3, c4⟩
    · refine Or.inr (Or.inl ⟨1, by decide, by decide, ?_, fun g1 hg1 => asked3 (by decide) (by decide) (m_askRow_g hs9 (by rw [hg1 180 s (by unfold scr; omega) (by unfold fpA; omega)]; exact c2))⟩)
      simp (disch := first | assumption | omega) only [F_Bp_refusedPairs, lit_0, lit_1, lit_2, lit_3, lit_4, lit_5, lit_6, lit_7, lit_8, lit_9, lit_10, lit_11, lit_12, lit_16, lit_17, lit_20, lit_31, lit_32, lit_40, lit_47, lit_48, lit_49, lit_57, lit_58, lit_60, lit_64, lit_68, lit_80, lit_97, lit_99, lit_100, lit_101, lit_104, lit_108, lit_109, lit_115, lit_117, lit_121, lit_127, lit_128, lit_140, lit_1000, lit_1000000, lit_1048576, bI_ret, bV_ret, bL_ret, bH_t, cond_true, z_0, z_1, retZ_tf, z_tf0, z_tf1, Decidable.not_not, Classical.not_not, nI_add, nI_clamp, n_le, n_lt, n_eq, nI_or, nI_and, z_sdf, of_nI, ite_not, m_i3, m_i99, m_i7, m_i1, m_i20, m_i2, m_i8, m_i15, m_i60, c_noRow, if_pos hx, oR_1, sR_1, sh_O s10, c_sheetIs_g s10 c3, found_b, if_true, not_false_iff]
      first | done | rw [if_neg id]
    · have hm2 : n % 2 < 2 := Nat.mod_lt _ (by decide)
      have g180 : ∀ g1 : Hp, (∀ a j, ¬ scr a j → ¬ fpA a j → hg g1 a j = hg h a j) → hg g1 180 s = nI n := fun g1 hg1 => by
        rw [hg1 180 s (by unfold scr; omega) (by unfold fpA; omega)]; exact c2
      have g8 : ∀ g1 : Hp, (∀ a j, ¬ scr a j → ¬ fpA a j → hg g1 a j = hg h a j) → hg g1 178 8 = nI (v 0 0) := fun g1 hg1 => by
        rw [hg1 178 8 (by unfold scr; omega) (by unfold fpA; omega)]; exact M_n m
      have gv : ∀ g1 : Hp, (∀ a j, ¬ scr a j → ¬ fpA a j → hg g1 a j = hg h a j) → ∀ j, hg g1 181 j = hg h 181 j := fun g1 hg1 j => hg1 181 j (by unfold scr; omega) (by unfold fpA; omega)
      by_cases q0 : n % 2 = 0
      · obtain ⟨p, rfl⟩ : ∃ p, n = 2 * p := ⟨n / 2, by omega⟩
        have eC : F_Bp_refusedPairs (nI s) h = loopC Bp_refusedPairs_46 FU (71 + 2 * s, nI 0, h) := by
          simp (disch := first | assumption | omega) only [F_Bp_refusedPairs, lit_0, lit_1, lit_2, lit_3, lit_4, lit_5, lit_6, lit_7, lit_8, lit_9, lit_10, lit_11, lit_12, lit_16, lit_17, lit_20, lit_31, lit_32, lit_40, lit_47, lit_48, lit_49, lit_57, lit_58, lit_60, lit_64, lit_68, lit_80, lit_97, lit_99, lit_100, lit_101, lit_104, lit_108, lit_109, lit_115, lit_117, lit_121, lit_127, lit_128, lit_140, lit_1000, lit_1000000, lit_1048576, bI_ret, bV_ret, bL_ret, bH_t, cond_true, z_0, z_1, retZ_tf, z_tf0, z_tf1, Decidable.not_not, Classical.not_not, nI_add, nI_clamp, n_le, n_lt, n_eq, nI_or, nI_and, z_sdf, of_nI, ite_not, m_i3, m_i99, m_i7, m_i1, m_i20, m_i2, m_i8, m_i15, m_i60, c_noRow, if_pos hx, oR_1, sR_1, sh_O s10, sh_F1 s10, c1, c_sheetIs_t s10 c3, found_b, if_true, if_false, not_true, z_rem]
          rw [if_pos q0]
        have eM : ∀ g1 : Hp, hg g1 180 s = nI (2 * p) → F_Mo_askedPairs (nI s) g1 = loopC Mo_askedPairs_32 FU (nI s, nI 0, g1) := fun g1 k1 => by
          refine (asked0 (by decide) (m_askRow_t hs9 (by omega) k1)).trans ?_
          simp (disch := first | assumption | omega) only [lit_0, lit_1, lit_2, lit_3, lit_4, lit_5, lit_6, lit_7, lit_8, lit_9, lit_10, lit_11, lit_12, lit_16, lit_17, lit_20, lit_31, lit_32, lit_40, lit_47, lit_48, lit_49, lit_57, lit_58, lit_60, lit_64, lit_68, lit_80, lit_97, lit_99, lit_100, lit_101, lit_104, lit_108, lit_109, lit_115, lit_117, lit_121, lit_127, lit_128, lit_140, lit_1000, lit_1000000, lit_1048576, bI_ret, bV_ret, bL_ret, bH_t, cond_true, z_0, z_1, retZ_tf, z_tf0, z_tf1, Decidable.not_not, Classical.not_not, nI_add, nI_clamp, n_le, n_lt, n_eq, nI_or, nI_and, z_sdf, of_nI, ite_not, m_i3, m_i99, m_i7, m_i1, m_i20, m_i2, m_i8, m_i15, m_i60, oA_180, k1, z_rem, meet_b]
          rw [if_neg (by omega)]
        rcases pr_cases (fun j => hg h (72 + 2 * s) j) (2 ^ v 0 0) p with q | ⟨i, hi, q1, q2⟩
        · refine Or.inr (Or.inr ⟨s, p, hs9, rfl, hn40, c1, c2, c4, ?_, ?_⟩)
          · rw [eC]
            exact c_prLoop s10 c3.1 c1 hn e8 q
          · rw [eM h c2]
            exact m_prLoop hs9 hn40 c2 hn (M_n m) fun i hi => by rw [← c4 _ (by omega), ← c4 _ (by omega)]; exact q i hi
        · refine Or.inr (Or.inl ⟨3, by decide, by decide, ?_, fun g1 hg1 => ?_⟩)
          · rw [eC]
            exact c_prLoopF s10 c3.1 c1 hn e8 hi q1 q2
          · rw [eM g1 (g180 g1 hg1)]
            exact m_prLoopF hs9 hn40 (g180 g1 hg1) hn (g8 g1 hg1) hi (by rw [gv g1 hg1, gv g1 hg1, ← c4 _ (by omega), ← c4 _ (by omega)]; exact q1) fun j hj => by rw [gv g1 hg1, gv g1 hg1, ← c4 _ (by omega), ← c4 _ (by omega)]; exact q2 j hj
      · refine Or.inr (Or.inl ⟨5, by decide, by decide, ?_, fun g1 hg1 => (asked0 (by decide) (m_askRow_t hs9 (by omega) (g180 g1 hg1))).trans ?_⟩)
        · simp (disch := first | assumption | omega) only [F_Bp_refusedPairs, lit_0, lit_1, lit_2, lit_3, lit_4, lit_5, lit_6, lit_7, lit_8, lit_9, lit_10, lit_11, lit_12, lit_16, lit_17, lit_20, lit_31, lit_32, lit_40, lit_47, lit_48, lit_49, lit_57, lit_58, lit_60, lit_64, lit_68, lit_80, lit_97, lit_99, lit_100, lit_101, lit_104, lit_108, lit_109, lit_115, lit_117, lit_121, lit_127, lit_128, lit_140, lit_1000, lit_1000000, lit_1048576, bI_ret, bV_ret, bL_ret, bH_t, cond_true, z_0, z_1, retZ_tf, z_tf0, z_tf1, Decidable.not_not, Classical.not_not, nI_add, nI_clamp, n_le, n_lt, n_eq, nI_or, nI_and, z_sdf, of_nI, ite_not, m_i3, m_i99, m_i7, m_i1, m_i20, m_i2, m_i8, m_i15, m_i60, c_noRow, if_pos hx, oR_1, sR_1, sh_O s10, sh_F1 s10, c1, c_sheetIs_t s10 c3, found_b, if_true, if_false, not_true, z_rem]
          rw [if_neg q0]
        · have k1 := g180 g1 hg1
          simp (disch := first | assumption | omega) only [lit_0, lit_1, lit_2, lit_3, lit_4, lit_5, lit_6, lit_7, lit_8, lit_9, lit_10, lit_11, lit_12, lit_16, lit_17, lit_20, lit_31, lit_32, lit_40, lit_47, lit_48, lit_49, lit_57, lit_58, lit_60, lit_64, lit_68, lit_80, lit_97, lit_99, lit_100, lit_101, lit_104, lit_108, lit_109, lit_115, lit_117, lit_121, lit_127, lit_128, lit_140, lit_1000, lit_1000000, lit_1048576, bI_ret, bV_ret, bL_ret, bH_t, cond_true, z_0, z_1, retZ_tf, z_tf0, z_tf1, Decidable.not_not, Classical.not_not, nI_add, nI_clamp, n_le, n_lt, n_eq, nI_or, nI_and, z_sdf, of_nI, ite_not, m_i3, m_i99, m_i7, m_i1, m_i20, m_i2, m_i8, m_i15, m_i60, oA_180, k1, z_rem, meet_b]
          rw [if_pos (by omega)]
  · refine Or.inl ⟨?_, asked1 (m_askRow_b hx)⟩
    simp (disch := first | assumption | omega) only [F_Bp_refusedPairs, lit_0, lit_1, lit_2, lit_3, lit_4, lit_5, lit_6, lit_7, lit_8, lit_9, lit_10, lit_11, lit_12, lit_16, lit_17, lit_20, lit_31, lit_32, lit_40, lit_47, lit_48, lit_49, lit_57, lit_58, lit_60, lit_64, lit_68, lit_80, lit_97, lit_99, lit_100, lit_101, lit_104, lit_108, lit_109, lit_115, lit_117, lit_121, lit_127, lit_128, lit_140, lit_1000, lit_1000000, lit_1048576, bI_ret, bV_ret, bL_ret, bH_t, cond_true, z_0, z_1, retZ_tf, z_tf0, z_tf1, Decidable.not_not, Classical.not_not, nI_add, nI_clamp, n_le, n_lt, n_eq, nI_or, nI_and, z_sdf, of_nI, ite_not, m_i3, m_i99, m_i7, m_i1, m_i20, m_i2, m_i8, m_i15, m_i60, c_noRow, if_neg hx]
