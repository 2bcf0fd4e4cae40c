/-! THE INVARIANT between the given one and the reference -/
def CA (h : Hp) : Prop := hg h 0 11 = hg h 178 2 ∧ hg h 0 10 = hg h 178 0 ∧ ∀ f, 1 ≤ f → f ≤ 5 → hg h 70 f = hg h 179 f
def mSz (h : Hp) (s : Nat) : Int32 := if s < 6 then hg h 180 s else hg h 183 (s - 6)
def mVl (h : Hp) (s j : Nat) : Int32 := if s < 6 then hg h 181 (40 * s + j) else hg h 184 (80 * (s - 6) + j)
/-- a sheet that is missing; that is there with n places -/
def gone (s : Nat) (h : Hp) : Prop := hg h (71 + 2 * s) 1 = -nI 1 ∧ mSz h s = -nI 9
def there (s n : Nat) (h : Hp) : Prop := n ≤ cap s ∧ hg h (71 + 2 * s) 1 = nI n ∧ mSz h s = nI n ∧ ∀ j, j < n → hg h (72 + 2 * s) j = mVl h s j
def CS (h : Hp) : Prop := ∀ s, s < 10 → gone s h ∨ ∃ n, there s n h
def MKp (k : Nat) (u : LV) (h : Hp) : Prop := hg h 192 (140 * k) = nI (u 7 0) ∧ hg h 192 (140 * k + 1) = nI (u 3 0) ∧ hg h 192 (140 * k + 2) = nI (u 8 0) ∧ (∀ x, x < u 0 0 → hg h 192 (140 * k + 3 + x) = nI (u 2 x)) ∧
  (∀ m, m < u 3 0 → hg h 192 (140 * k + 10 + 3 * m) = nI (u 4 m) ∧ hg h 192 (140 * k + 10 + (3 * m + 1)) = nI (u 5 m) ∧ hg h 192 (140 * k + 10 + (3 * m + 2)) = nI (u 6 m)) ∧
  (∀ l, l < u 8 0 → hg h 192 (140 * k + 58 + 17 * l) = nI (u 9 l) ∧ hg h 192 (140 * k + 58 + (17 * l + 1)) = nI (u 10 l) ∧ hg h 192 (140 * k + 58 + (17 * l + 2)) = nI (u 11 l) ∧ ∀ j, j < u 11 l → hg h 192 (140 * k + 58 + (17 * l + 3 + j)) = nI (u (20 + l) j) ∧ hg h 192 (140 * k + 58 + (17 * l + 10 + j)) = nI (u (30 + l) j))
def unkept (k : Nat) (h : Hp) : Prop := hg h 62 k = nI 0 ∧ hg h 192 (140 * k) = -nI 9
def keptAs (v : LV) (k : Nat) (u : LV) (h : Hp) : Prop := hg h 62 k = nI 1 ∧ WF u ∧ u 0 0 = v 0 0 ∧ 1 ≤ v 0 0 ∧ (∀ x, x < v 0 0 → u 1 x = v 1 x) ∧ CLd (91 + 29 * k) u h ∧ MKp k u h
def CK (v : LV) (h : Hp) : Prop := ∀ k, k < 3 → unkept k h ∨ ∃ u, keptAs v k u h
def Inv (h : Hp) : Prop := CA h ∧ CS h ∧ ∃ v, WF v ∧ CLd 3 v h ∧ MLd v h ∧ CK v h
/-- both answer alike, and the invariant stands -/
def Ok (f g : Hp → Res Hp) (h : Hp) : Prop := ∃ (r : Int32) (h1 h2 : Hp), f h = some (some (.int r), h1) ∧ g h1 = some (some (.int r), h2) ∧ Inv h2
/-- the same, of longs -/
def OkL (f g : Hp → Res Hp) (h : Hp) : Prop := ∃ (r : Int64) (h1 h2 : Hp), f h = some (some (.long r), h1) ∧ g h1 = some (some (.long r), h2) ∧ Inv h2
def fpA (a j : Nat) : Prop := (a = 0 ∧ (j = 10 ∨ j = 11)) ∨ a = 70 ∨ a = 179 ∨ (a = 178 ∧ (j = 0 ∨ j = 2))
theorem CS_ag {h h' : Hp} (c : CS h) (q : ∀ a j, (71 ≤ a ∧ a ≤ 90) ∨ a = 180 ∨ a = 181 ∨ a = 183 ∨ a = 184 → hg h' a j = hg h a j) : CS h' := fun s hs9 => by
  have e1 : mSz h' s = mSz h s := by unfold mSz; split <;> exact q _ _ (by omega)
  have e2 : ∀ j, mVl h' s j = mVl h s j := fun j => by unfold mVl; split <;> exact q _ _ (by omega)
  rcases c s hs9 with c | ⟨n, c1, c2, c3, c4⟩
  · exact Or.inl ⟨(q _ _ (by omega)).trans c.1, e1.trans c.2⟩
  · exact Or.inr ⟨n, c1, (q _ _ (by omega)).trans c2, e1.trans c3, fun j hj => by rw [q _ _ (by omega), e2]; exact c4 j hj⟩
theorem MKp_ag {k : Nat} {u : LV} {h h' : Hp} (c : MKp k u h) (q : ∀ j, hg h' 192 j = hg h 192 j) : MKp k u h' := by
  unfold MKp at c ⊢
  simp only [q]
  exact c
theorem CK_ag {v : LV} {h h' : Hp} (c : CK v h) (q : ∀ a j, a = 62 ∨ (91 ≤ a ∧ a ≤ 177) ∨ a = 192 → hg h' a j = hg h a j) : CK v h' := fun k hk => by
  rcases c k hk with c | ⟨u, c1, c2, c3, c0, c4, c5, c6⟩
  · exact Or.inl ⟨(q _ _ (by omega)).trans c.1, (q _ _ (by omega)).trans c.2⟩
  · exact Or.inr ⟨u, (q _ _ (by omega)).trans c1, c2, c3, c0, c4, CLd_ag c5 (fun a j h1 h2 => q a j (by omega)) (wf_l c2), MKp_ag c6 (fun j => q 192 j (by omega))⟩
theorem Inv_A {h h' : Hp} (I : Inv h) (c : CA h') (q : ∀ a j, ¬ scr a j → ¬ fpA a j → hg h' a j = hg h a j) : Inv h' := by
  obtain ⟨-, I2, v, w, r, m, k⟩ := I
  refine ⟨c, CS_ag I2 fun a j z => q a j (by unfold scr; omega) (by unfold fpA; omega), v, w, CLd_ag r (fun a j h1 h2 => q a j (by unfold scr; omega) (by unfold fpA; omega)) (wf_l w), MLd_ag m fun a j f => q a j (by unfold fpM at f; unfold scr; omega) (by unfold fpM at f; unfold fpA; omega), CK_ag k fun a j z => q a j (by unfold scr; omega) (by unfold fpA; omega)⟩
theorem CA_ag {h h' : Hp} (c : CA h) (q : ∀ a j, fpA a j → hg h' a j = hg h a j) : CA h' := ⟨by
    rw [q _ _ (by unfold fpA; omega), q _ _ (by unfold fpA; omega)]; exact c.1, by
    rw [q _ _ (by unfold fpA; omega), q _ _ (by unfold fpA; omega)]; exact c.2.1, fun f h1 h2 => by
    rw [q _ _ (by unfold fpA; omega), q _ _ (by unfold fpA; omega)]; exact c.2.2 f h1 h2⟩
theorem Inv_S {h h' : Hp} (I : Inv h) (q : frS h h') : Inv h' := Inv_A I (CA_ag I.1 fun a j z => q a j (by unfold fpA at z; unfold scr; omega)) fun a j n _ => q a j n
section FIN
variable {f g : Hp → Res Hp} {h h1 h2 : Hp}
theorem fin_q (I : Inv h) {x : Int32} (e1 : f h = retI x h1) (s1 : frS h h1) (e2 : g h1 = retI x h2) (s2 : frS h1 h2) : Ok f g h := ⟨_, h1, h2, e1, e2, Inv_S (Inv_S I s1) s2⟩
theorem fin_l (I : Inv h) {x : Int64} (e1 : f h = retL x h1) (s1 : frS h h1) (e2 : g h1 = retL x h2) (s2 : frS h1 h2) : OkL f g h := ⟨_, h1, h2, e1, e2, Inv_S (Inv_S I s1) s2⟩
theorem fin_t (I : Inv h) {x a : Int32} (e1 : f h = retI x (hs h1 0 11 a)) (s1 : frS h h1) (e2 : g (hs h1 0 11 a) = retI x (hs h2 178 2 a)) (s2 : frS (hs h1 0 11 a) h2) : Ok f g h := by
  refine ⟨_, _, _, e1, e2, Inv_A I ⟨?_, ?_, fun k k1 k2 => ?_⟩ fun b j n1 n2 => ?_⟩
  · rw [hg_hs_a (by decide), hg_hs_eq, s2 0 11 (by unfold scr; omega), hg_hs_eq]
  · rw [hg_hs_a (by decide), hg_hs_k (by decide), s2 0 10 (by unfold scr; omega), s2 178 0 (by unfold scr; omega), hg_hs_k (by decide), hg_hs_a (by decide), s1 0 10 (by unfold scr; omega), s1 178 0 (by unfold scr; omega)]
    exact I.1.2.1
  · rw [hg_hs_a (by decide), hg_hs_a (by decide), s2 70 k (by unfold scr; omega), s2 179 k (by unfold scr; omega), hg_hs_a (by decide), hg_hs_a (by decide), s1 70 k (by unfold scr; omega), s1 179 k (by unfold scr; omega)]
    exact I.1.2.2 k k1 k2
  · rw [hg_hs2, if_neg (fun z => n2 (by unfold fpA; omega)), s2 b j n1, hg_hs2, if_neg (fun z => n2 (by unfold fpA; omega)), s1 b j n1]
/-- a finding on both sides -/
theorem c_found {k : Nat} (h1 : 1 ≤ k) (h5 : k ≤ 5) (h : Hp) : F_Bp_found (nI k) h = retI (-nI 3) (hs (hs h 0 10 (nI k)) 70 k (hg h 70 k + nI 1)) := by
  unfold F_Bp_found
  simp (disch := first | assumption | omega) only [lit_0, lit_1, lit_2, lit_3, lit_4, lit_5, lit_6, lit_7, lit_8, lit_9, lit_10, lit_11, lit_12, lit_16, lit_17, lit_20, lit_31, lit_32, lit_40, lit_47, lit_48, lit_49, lit_57, lit_58, lit_60, lit_64, lit_68, lit_80, lit_97, lit_99, lit_100, lit_101, lit_104, lit_108, lit_109, lit_115, lit_117, lit_121, lit_127, lit_128, lit_140, lit_1000, lit_1000000, lit_1048576, bI_ret, bV_ret, bL_ret, bH_t, cond_true, z_0, z_1, retZ_tf, z_tf0, z_tf1, Decidable.not_not, Classical.not_not, nI_add, nI_clamp, n_le, n_lt, n_eq, nI_or, nI_and, z_sdf, of_nI, oA_70, hg_hs_a]
theorem m_meetWith {k : Nat} (h1 : 1 ≤ k) (h5 : k ≤ 5) (h : Hp) : F_Mo_meetWith (nI k) h = retI (-nI 3) (hs (hs h 178 0 (nI k)) 179 k (hg h 179 k + nI 1)) := by
  unfold F_Mo_meetWith
  simp (disch := first | assumption | omega) only [lit_0, lit_1, lit_2, lit_3, lit_4, lit_5, lit_6, lit_7, lit_8, lit_9, lit_10, lit_11, lit_12, lit_16, lit_17, lit_20, lit_31, lit_32, lit_40, lit_47, lit_48, lit_49, lit_57, lit_58, lit_60, lit_64, lit_68, lit_80, lit_97, lit_99, lit_100, lit_101, lit_104, lit_108, lit_109, lit_115, lit_117, lit_121, lit_127, lit_128, lit_140, lit_1000, lit_1000000, lit_1048576, bI_ret, bV_ret, bL_ret, bH_t, cond_true, z_0, z_1, retZ_tf, z_tf0, z_tf1, Decidable.not_not, Classical.not_not, nI_add, nI_clamp, n_le, n_lt, n_eq, nI_or, nI_and, z_sdf, of_nI, oA_179, hg_hs_a]
theorem fin_f (I : Inv h) {k : Nat} (k1 : 1 ≤ k) (k5 : k ≤ 5) (e1 : f h = F_Bp_found (nI k) h1) (s1 : frS h h1) (e2 : ∀ g1, (∀ a j, ¬ scr a j → ¬ fpA a j → hg g1 a j = hg h a j) → g g1 = F_Mo_meetWith (nI k) g1) : Ok f g h := by
  rw [c_found k1 k5] at e1
  have e3 := e2 (hs (hs h1 0 10 (nI k)) 70 k (hg h1 70 k + nI 1)) (fun a j n1 n2 => by
    rw [hg_hs2, if_neg (fun z => n2 (by unfold fpA; omega)), hg_hs2, if_neg (fun z => n2 (by unfold fpA; omega)), s1 a j n1])
  rw [m_meetWith k1 k5] at e3
  refine ⟨_, _, _, e1, e3, Inv_A I ⟨?_, ?_, fun c c1 c2 => ?_⟩ fun b j n1 n2 => ?_⟩
  · simp (disch := first | assumption | omega) only [hg_hs_a, hg_hs_k]
    rw [s1 0 11 (by unfold scr; omega), s1 178 2 (by unfold scr; omega)]
    exact I.1.1
  · simp (disch := first | assumption | omega) only [hg_hs_a, hg_hs_eq]
  · by_cases e : c = k
    · subst e
      simp (disch := first | assumption | omega) only [hg_hs_a, hg_hs_eq]
      rw [s1 70 c (by unfold scr; omega), s1 179 c (by unfold scr; omega), I.1.2.2 c c1 c2]
    · simp (disch := first | assumption | omega) only [hg_hs_a, hg_hs_k]
      rw [s1 70 c (by unfold scr; omega), s1 179 c (by unfold scr; omega)]
      exact I.1.2.2 c c1 c2
  · rw [hg_hs2, if_neg (fun z => n2 (by unfold fpA; omega)), hg_hs2, if_neg (fun z => n2 (by unfold fpA; omega)), hg_hs2, if_neg (fun z => n2 (by unfold fpA; omega)), hg_hs2, if_neg (fun z => n2 (by unfold fpA; omega)), s1 b j n1]
end FIN
/-! ranges of arguments -/
theorem ite_lt {α : Type} {x : Int32} {k : Nat} {A B : α} {i1 : Decidable (x < nI 0)} {i2 : Decidable (x < nI k)} (hk : k < 2 ^ 31) : @ite α (x < nI 0) i1 A (@ite α (x < nI k) i2 B A) = if inR x k then B else A := by
  have q1 : (x < nI 0) ↔ x.toInt < 0 := lt_toInt
  have q2 : (x < nI k) ↔ x.toInt < (k : Int) := by rw [lt_toInt, nI_toInt hk]
  have q3 := inR_iff (x := x) (n := k)
  by_cases h1 : x < nI 0
  · rw [if_pos h1, if_neg (fun z => by rw [q3] at z; rw [q1] at h1; omega)]
  · rw [if_neg h1]
    by_cases h2 : x < nI k
    · rw [if_pos h2, if_pos (q3.mpr (by rw [q1] at h1; rw [q2] at h2; omega))]
    · rw [if_neg h2, if_neg (fun z => by rw [q3] at z; rw [q2] at h2; omega)]
theorem ite_le {α : Type} {x : Int32} {k : Nat} {A B : α} {i1 : Decidable (x < nI 0)} {i2 : Decidable (x ≤ nI k)} (hk : k < 2 ^ 31) : @ite α (x < nI 0) i1 A (@ite α (x ≤ nI k) i2 B A) = if inR x (k + 1) then B else A := by
  have q1 : (x < nI 0) ↔ x.toInt < 0 := lt_toInt
  have q2 : (x ≤ nI k) ↔ x.toInt ≤ (k : Int) := by rw [le_toInt, nI_toInt hk]
  have q3 := inR_iff (x := x) (n := k + 1)
  by_cases h1 : x < nI 0
  · rw [if_pos h1, if_neg (fun z => by rw [q3] at z; rw [q1] at h1; omega)]
  · rw [if_neg h1]
    by_cases h2 : x ≤ nI k
    · rw [if_pos h2, if_pos (q3.mpr (by rw [q1] at h1; rw [q2] at h2; omega))]
    · rw [if_neg h2, if_neg (fun z => by rw [q3] at z; rw [q2] at h2; omega)]
theorem ite_v {α : Type} {x : Int32} {l k : Nat} {A B : α} {i1 : Decidable (x < nI l)} {i2 : Decidable (x ≤ nI k)} (hl : l < 2 ^ 31) (hk : k < 2 ^ 31) : @ite α (x < nI l) i1 A (@ite α (x ≤ nI k) i2 B A) = if inV x l (k + 1) then B else A := by
  have q1 : (x < nI l) ↔ x.toInt < (l : Int) := by rw [lt_toInt, nI_toInt hl]
  have q2 : (x ≤ nI k) ↔ x.toInt ≤ (k : Int) := by rw [le_toInt, nI_toInt hk]
  have q3 := inV_iff (x := x) (lo := l) (hi := k + 1)
  by_cases h1 : x < nI l
  · rw [if_pos h1, if_neg (fun z => by rw [q3] at z; rw [q1] at h1; omega)]
  · rw [if_neg h1]
    by_cases h2 : x ≤ nI k
    · rw [if_pos h2, if_pos (q3.mpr (by rw [q1] at h1; rw [q2] at h2; omega))]
    · rw [if_neg h2, if_neg (fun z => by rw [q3] at z; rw [q2] at h2; omega)]
theorem m_inI {x : Int32} {l k : Nat} (hl : l < 2 ^ 31) (hk : k + 1 < 2 ^ 31) (h : Hp) : F_Mo_in x (nI l) (nI k) h = retI (tf (inV x l (k + 1))) h := m_in (lo := l) (n := k + 1) hk (nI_toInt hl) (by rw [nI_toInt (by omega)]; omega) h
theorem c_noPair {v : LV} {h : Hp} (w : WF v) (r : CLd 3 v h) (x y : Int32) : F_Bp_noPair x y h = retI (tf (¬ (inR x (v 0 0) ∧ inR y (v 0 0) ∧ x ≠ y))) h := by
  unfold F_Bp_noPair
  simp only [c_lacks isL_3 w r, lit_0, lit_1, lit_2, lit_3, lit_4, lit_5, lit_6, lit_7, lit_8, lit_9, lit_10, lit_11, lit_12, lit_16, lit_17, lit_20, lit_31, lit_32, lit_40, lit_47, lit_48, lit_49, lit_57, lit_58, lit_60, lit_64, lit_68, lit_80, lit_97, lit_99, lit_100, lit_101, lit_104, lit_108, lit_109, lit_115, lit_117, lit_121, lit_127, lit_128, lit_140, lit_1000, lit_1000000, lit_1048576, bI_ret, bV_ret, bL_ret, bH_t, cond_true, z_0, z_1, retZ_tf, z_tf0, z_tf1, Decidable.not_not, Classical.not_not, nI_add, nI_clamp, n_le, n_lt, n_eq, nI_or, nI_and, z_sdf, of_nI]
  by_cases c : inR x (v 0 0)
  · by_cases d : inR y (v 0 0)
    · by_cases q : x = y
      · rw [if_pos c, if_pos d, if_pos q, tf_t (fun z => z.2.2 q)]; rfl
      · rw [if_pos c, if_pos d, if_neg q, tf_f (fun z => z ⟨c, d, q⟩)]; rfl
    · rw [if_pos c, if_neg d, tf_t (fun z => d z.2.1)]; rfl
  · rw [if_neg c, tf_t (fun z => c z.1)]; rfl
