/-! ALL WAYS, as the reference goes over them -/
def one (y : Nat) (m : Nat → Nat → Bool) (ok : Nat → Nat → Bool) (rec : Nat → Nat → List (List Nat)) (a had z : Nat) : List (List Nat) :=
  if (m a z && !had.testBit z) = true then (if z = y then [[y]] else if ok a z = true then (rec z (had ||| 2 ^ z)).map (fun l => z :: l) else []) else []
def pz (f : Nat → List (List Nat)) : Nat → List (List Nat)
  | 0 => []
  | z + 1 => pz f z ++ f z
def pths (n y : Nat) (m : Nat → Nat → Bool) (ok : Nat → Nat → Bool) : Nat → Nat → Nat → List (List Nat)
  | 0, _, _ => []
  | d + 1, a, had => pz (one y m ok (pths n y m ok d) a had) n
def mset : List Nat → Nat
  | [] => 0
  | [_] => 0
  | z :: q :: l => 2 ^ z ||| mset (q :: l)
def eachOf (Ls : List (List Nat)) : Nat := Ls.foldl (fun e l => e &&& mset l) 127
def bet (w : Nat → Nat) (o : Option (List Nat)) (l : List Nat) : Option (List Nat) := match o with
  | none => some l
  | some b => if wt w l < wt w b ∨ (wt w l = wt w b ∧ l.length < b.length) then some l else some b
def bestOf (w : Nat → Nat) (Ls : List (List Nat)) : Option (List Nat) := Ls.foldl (bet w) none
def HSb (w : Nat → Nat) (x : Nat) (o : Option (List Nat)) (h : Hp) : Prop := match o with
  | none => hg h 178 26 = nI 1048576
  | some b => wt w b < 1048576 ∧ b.length ≤ 6 ∧ hg h 178 26 = nI (wt w b) ∧ hg h 178 25 = nI (b.length + 1) ∧ ∀ k, k < b.length + 1 → hg h 194 k = nI ((x :: b).getD k 0)
def HS (w : Nat → Nat) (x : Nat) (Ls : List (List Nat)) (h : Hp) : Prop :=
  hg h 178 27 = nI Ls.length ∧ hg h 178 28 = nI (eachOf Ls) ∧ (∀ s, s < 128 → hg h 195 s = if Ls.any (fun l => mset l == s) = true then nI 1 else nI 0) ∧ HSb w x (bestOf w Ls) h
/-- what the search writes -/
def wW (a j : Nat) : Prop := a = 193 ∨ a = 194 ∨ a = 195 ∨ (a = 178 ∧ 25 ≤ j ∧ j ≤ 28)
def frW (h h' : Hp) : Prop := ∀ a j, ¬ wW a j → hg h' a j = hg h a j
theorem frW_rf (h : Hp) : frW h h := fun _ _ _ => rfl
theorem frW_tr {h1 h2 h3 : Hp} (a : frW h1 h2) (b : frW h2 h3) : frW h1 h3 := fun c j q => (b c j q).trans (a c j q)
theorem frW_hs {h : Hp} {a k : Nat} {x : Int32} (q : wW a k) : frW h (hs h a k x) := fun b j n => by
  rw [hg_hs2, if_neg]
  rintro ⟨rfl, rfl⟩
  exact n q
/-- the reference's land stands on these -/
def fpM (a j : Nat) : Prop := a = 185 ∨ a = 186 ∨ a = 187 ∨ a = 188 ∨ (a = 178 ∧ (j = 8 ∨ j = 11 ∨ j = 13 ∨ j = 14))
theorem MLd_ag {v : LV} {h h' : Hp} (r : MLd v h) (q : ∀ a j, fpM a j → hg h' a j = hg h a j) : MLd v h' := by
  have e : ∀ j, j = 8 ∨ j = 11 ∨ j = 13 ∨ j = 14 → hg h' 178 j = hg h 178 j := fun j hj => q 178 j (Or.inr (Or.inr (Or.inr (Or.inr ⟨rfl, hj⟩))))
  have e5 : ∀ j, hg h' 185 j = hg h 185 j := fun j => q 185 j (Or.inl rfl)
  have e6 : ∀ j, hg h' 186 j = hg h 186 j := fun j => q 186 j (Or.inr (Or.inl rfl))
  have e7 : ∀ j, hg h' 187 j = hg h 187 j := fun j => q 187 j (Or.inr (Or.inr (Or.inl rfl)))
  have e8 : ∀ j, hg h' 188 j = hg h 188 j := fun j => q 188 j (Or.inr (Or.inr (Or.inr (Or.inl rfl))))
  unfold MLd at r ⊢
  simp only [e 8 (by decide), e 11 (by decide), e 13 (by decide), e 14 (by decide), e5, e6, e7, e8]
  exact r
theorem MLd_W {v : LV} {h h' : Hp} (r : MLd v h) (q : frW h h') : MLd v h' := MLd_ag r fun a j f => q a j (by unfold fpM at f; unfold wW; omega)
theorem nar_1 : vp_nar .boolean (nI 1) = nI 1 := rfl
theorem nar_0 : vp_nar .boolean (nI 0) = nI 0 := rfl
theorem mset_lt {n : Nat} : ∀ {l : List Nat}, (∀ z ∈ l, z < n) → mset l < 2 ^ n
  | [], _ => Nat.two_pow_pos n
  | [_], _ => Nat.two_pow_pos n
  | z :: q :: l, h => or_lt (Nat.pow_lt_pow_right (by decide) (h z List.mem_cons_self)) (mset_lt (fun z hz => h z (List.mem_cons_of_mem _ hz)))
/-- the way found is copied -/
theorem m_meetCopy {n : Nat} (hn : n ≤ 7) (h : Hp) : ∃ h', loopC Mo_meetWay_73 FU (nI n, nI 0, h) = retV h' ∧ (∀ k, k < n → hg h' 194 k = hg h 193 k) ∧ (∀ a j, a ≠ 194 → hg h' a j = hg h a j) := by
  refine loop_inv (N := n) (R := fun o => ∃ h', o = retV h' ∧ (∀ k, k < n → hg h' 194 k = hg h 193 k) ∧ (∀ a j, a ≠ 194 → hg h' a j = hg h a j)) (fun i s => ∃ h', s = (nI n, nI i, h') ∧ (∀ k, k < i → hg h' 194 k = hg h 193 k) ∧ (∀ a j, a ≠ 194 → hg h' a j = hg h a j)) ⟨h, rfl, fun k hk => absurd hk (Nat.not_lt_zero k), fun _ _ _ => rfl⟩ (by show _ < 4096; omega) ?_ ?_
  · rintro i s hi ⟨h', rfl, p1, p2⟩
    refine ⟨(nI n, nI (i + 1), hs h' 194 i (hg h' 193 i)), ⟨_, rfl, fun k hk => ?_, fun a j q => ?_⟩, fun κ => ?_⟩
    · by_cases e : k = i
      · subst e
        rw [hg_hs_eq, p2 193 k (by decide)]
      · rw [hg_hs_k e]
        exact p1 k (by omega)
    · rw [hg_hs_a q]
      exact p2 a j q
    · simp (disch := first | assumption | omega) only [Mo_meetWay_73, lit_0, lit_1, lit_2, lit_3, lit_4, lit_5, lit_6, lit_7, lit_8, lit_9, lit_10, lit_11, lit_12, lit_16, lit_17, lit_20, lit_31, lit_32, lit_40, lit_47, lit_48, lit_49, lit_57, lit_58, lit_60, lit_64, lit_68, lit_80, lit_97, lit_99, lit_100, lit_101, lit_104, lit_108, lit_109, lit_115, lit_117, lit_121, lit_127, lit_128, lit_140, lit_1000, lit_1000000, lit_1048576, bI_ret, bV_ret, bL_ret, bH_t, cond_true, z_0, z_1, retZ_tf, z_tf0, z_tf1, Decidable.not_not, Classical.not_not, nI_add, nI_clamp, n_le, n_lt, n_eq, nI_or, nI_and, z_sdf, of_nI, oA_193, oA_194]
      rw [if_neg (by omega)]
  · rintro s ⟨h', rfl, p1, p2⟩ κ
    refine ⟨h', ?_, p1, p2⟩
    simp (disch := first | assumption | omega) only [Mo_meetWay_73, lit_0, lit_1, lit_2, lit_3, lit_4, lit_5, lit_6, lit_7, lit_8, lit_9, lit_10, lit_11, lit_12, lit_16, lit_17, lit_20, lit_31, lit_32, lit_40, lit_47, lit_48, lit_49, lit_57, lit_58, lit_60, lit_64, lit_68, lit_80, lit_97, lit_99, lit_100, lit_101, lit_104, lit_108, lit_109, lit_115, lit_117, lit_121, lit_127, lit_128, lit_140, lit_1000, lit_1000000, lit_1048576, bI_ret, bV_ret, bL_ret, bH_t, cond_true, z_0, z_1, retZ_tf, z_tf0, z_tf1, Decidable.not_not, Classical.not_not, nI_add, nI_clamp, n_le, n_lt, n_eq, nI_or, nI_and, z_sdf, of_nI, Nat.le_refl, if_true]
theorem m_meetWay {w : Nat → Nat} {x : Nat} {Ls : List (List Nat)} {h : Hp} {l : List Nat} (H : HS w x Ls h) (hl : l.length ≤ 6) (hw : wt w l < 1048576) (hm : mset l < 128) (ha : ∀ k, k < l.length + 1 → hg h 193 k = nI ((x :: l).getD k 0)) : ∃ h', F_Mo_meetWay (nI (l.length + 1)) (nI (mset l)) (nI (wt w l)) h = retV h' ∧ HS w x (Ls ++ [l]) h' ∧ frW h h' ∧ (∀ j, hg h' 193 j = hg h 193 j) := by
  obtain ⟨H1, H2, H3, H4⟩ := H
  unfold F_Mo_meetWay
  simp (disch := first | assumption | omega) only [lit_0, lit_1, lit_2, lit_3, lit_4, lit_5, lit_6, lit_7, lit_8, lit_9, lit_10, lit_11, lit_12, lit_16, lit_17, lit_20, lit_31, lit_32, lit_40, lit_47, lit_48, lit_49, lit_57, lit_58, lit_60, lit_64, lit_68, lit_80, lit_97, lit_99, lit_100, lit_101, lit_104, lit_108, lit_109, lit_115, lit_117, lit_121, lit_127, lit_128, lit_140, lit_1000, lit_1000000, lit_1048576, bI_ret, bV_ret, bL_ret, bH_t, cond_true, z_0, z_1, retZ_tf, z_tf0, z_tf1, Decidable.not_not, Classical.not_not, nI_add, nI_clamp, n_le, n_lt, n_eq, nI_or, nI_and, z_sdf, of_nI, oA_195, hg_hs_eq, hg_hs_a, hg_hs_k, nar_1, H1, H2]
  generalize hB : bestOf w Ls = B at H4
  have e1 : eachOf (Ls ++ [l]) = eachOf Ls &&& mset l := by unfold eachOf; rw [List.foldl_append]; rfl
  have e2 : bestOf w (Ls ++ [l]) = bet w B l := by unfold bestOf at hB ⊢; rw [List.foldl_append, hB]; rfl
  have e3 : (Ls ++ [l]).length = Ls.length + 1 := by simp
  -- after the first three writes
  generalize hg3 : hs (hs (hs h 178 27 (nI (Ls.length + 1))) 178 28 (nI (eachOf Ls &&& mset l))) 195 (mset l) (nI 1) = h3
  have f3 : frW h h3 := by
    rw [← hg3]
    exact frW_tr (frW_tr (frW_hs (Or.inr (Or.inr (Or.inr ⟨rfl, by omega, by omega⟩)))) (frW_hs (Or.inr (Or.inr (Or.inr ⟨rfl, by omega, by omega⟩))))) (frW_hs (Or.inr (Or.inr (Or.inl rfl))))
  have c27 : hg h3 178 27 = nI (Ls.length + 1) := by rw [← hg3]; simp (disch := first | assumption | omega) only [hg_hs_eq, hg_hs_a, hg_hs_k]
  have c28 : hg h3 178 28 = nI (eachOf Ls &&& mset l) := by rw [← hg3]; simp (disch := first | assumption | omega) only [hg_hs_eq, hg_hs_a, hg_hs_k]
  have c25 : hg h3 178 25 = hg h 178 25 := by rw [← hg3]; simp (disch := first | assumption | omega) only [hg_hs_eq, hg_hs_a, hg_hs_k]
  have c26 : hg h3 178 26 = hg h 178 26 := by rw [← hg3]; simp (disch := first | assumption | omega) only [hg_hs_eq, hg_hs_a, hg_hs_k]
  have c193 : ∀ j, hg h3 193 j = hg h 193 j := fun j => by rw [← hg3]; simp (disch := first | assumption | omega) only [hg_hs_eq, hg_hs_a, hg_hs_k]
  have c194 : ∀ j, hg h3 194 j = hg h 194 j := fun j => by rw [← hg3]; simp (disch := first | assumption | omega) only [hg_hs_eq, hg_hs_a, hg_hs_k]
  have c195 : ∀ s, s < 128 → hg h3 195 s = if (Ls ++ [l]).any (fun l => mset l == s) = true then nI 1 else nI 0 := fun s hs9 => by
    rw [List.any_append]
    by_cases e : s = mset l
    · subst e
      rw [← hg3, hg_hs_eq, if_pos (by simp)]
    · rw [← hg3, hg_hs_k e]
      simp (disch := first | assumption | omega) only [hg_hs_a]
      rw [H3 s hs9]
      have : [l].any (fun l => mset l == s) = false := by
        simp only [List.any_cons, List.any_nil, Bool.or_false]
        exact beq_eq_false_iff_ne.mpr (fun q => e q.symm)
      rw [this, Bool.or_false]
  clear hg3
  -- the case that this is the best so far
  have best : bet w B l = some l → ∃ h', loopC Mo_meetWay_73 FU (nI (l.length + 1), nI 0, hs (hs h3 178 26 (nI (wt w l))) 178 25 (nI (l.length + 1))) = retV h' ∧ HS w x (Ls ++ [l]) h' ∧ frW h h' ∧ (∀ j, hg h' 193 j = hg h 193 j) := by
    intro eb
    obtain ⟨h', q1, q2, q3⟩ := m_meetCopy (n := l.length + 1) (by omega) (hs (hs h3 178 26 (nI (wt w l))) 178 25 (nI (l.length + 1)))
    refine ⟨h', q1, ⟨?_, ?_, fun s hs9 => ?_, ?_⟩, fun a j n => ?_, fun j => ?_⟩
    · rw [q3 _ _ (by decide), e3]
      simp (disch := first | assumption | omega) only [hg_hs_eq, hg_hs_a, hg_hs_k, c27]
    · rw [q3 _ _ (by decide), e1]
      simp (disch := first | assumption | omega) only [hg_hs_eq, hg_hs_a, hg_hs_k, c28]
    · rw [q3 _ _ (by decide), ← c195 s hs9]
      simp (disch := first | assumption | omega) only [hg_hs_eq, hg_hs_a, hg_hs_k]
    · rw [e2, eb]
      refine ⟨hw, hl, ?_, ?_, fun k hk => ?_⟩
      · rw [q3 _ _ (by decide)]
        simp (disch := first | assumption | omega) only [hg_hs_eq, hg_hs_a, hg_hs_k]
      · rw [q3 _ _ (by decide), hg_hs_eq]
      · rw [q2 k hk, ← ha k hk, ← c193 k]
        simp (disch := first | assumption | omega) only [hg_hs_eq, hg_hs_a, hg_hs_k]
    · have n1 : a ≠ 194 := fun e => n (Or.inr (Or.inl e))
      rw [q3 a j n1, ← f3 a j n, hg_hs2, if_neg, hg_hs2, if_neg]
      · rintro ⟨rfl, rfl⟩
        exact n (Or.inr (Or.inr (Or.inr ⟨rfl, by omega, by omega⟩)))
      · rintro ⟨rfl, rfl⟩
        exact n (Or.inr (Or.inr (Or.inr ⟨rfl, by omega, by omega⟩)))
    · rw [q3 _ _ (by decide), ← c193 j]
      simp (disch := first | assumption | omega) only [hg_hs_a]
  have keep : bet w B l = B → (∀ b, B = some b → True) → ∃ h', retV h3 = retV h' ∧ HS w x (Ls ++ [l]) h' ∧ frW h h' ∧ (∀ j, hg h' 193 j = hg h 193 j) := by
    intro eb _
    refine ⟨h3, rfl, ⟨by rw [e3]; exact c27, by rw [e1]; exact c28, c195, ?_⟩, f3, c193⟩
    rw [e2, eb]
    cases B with
    | none => exact (c26.trans H4 : hg h3 178 26 = _)
    | some b => exact ⟨H4.1, H4.2.1, c26.trans H4.2.2.1, c25.trans H4.2.2.2.1, fun k hk => (c194 k).trans (H4.2.2.2.2 k hk)⟩
  cases B with
  | none =>
    have H4 : hg h 178 26 = nI 1048576 := H4
    rw [H4, if_pos rfl]
    exact best rfl
  | some b =>
    obtain ⟨b1, b2, b3, b4, b5⟩ := H4
    rw [b3, b4]
    simp (disch := first | assumption | omega) only [n_eq, n_lt, n_le]
    rw [if_neg (by omega)]
    by_cases d1 : wt w l < wt w b
    · rw [if_pos d1]
      exact best (if_pos (Or.inl d1))
    · rw [if_neg d1]
      by_cases d2 : wt w l = wt w b
      · rw [if_pos d2]
        by_cases d3 : b.length + 1 ≤ l.length + 1
        · rw [if_pos d3]
          exact keep (if_neg (by omega)) (fun _ _ => trivial)
        · rw [if_neg d3]
          exact best (if_pos (Or.inr ⟨d2, by omega⟩))
      · rw [if_neg d2]
        exact keep (if_neg (by omega)) (fun _ _ => trivial)

def bset : List Nat → Nat
  | [] => 0
  | z :: l => 2 ^ z ||| bset l
def lsum (w : Nat → Nat) : List Nat → Nat
  | [] => 0
  | z :: l => w z + lsum w l
theorem mset_app (y : Nat) : ∀ l, mset (l ++ [y]) = bset l
  | [] => rfl
  | [z] => rfl
  | z :: q :: l => by
    show 2 ^ z ||| mset (q :: l ++ [y]) = 2 ^ z ||| bset (q :: l)
    rw [mset_app y (q :: l)]
theorem wt_app (w : Nat → Nat) (y : Nat) : ∀ l, wt w (l ++ [y]) = lsum w l
  | [] => rfl
  | [z] => rfl
  | z :: q :: l => by
    show w z + wt w (q :: l ++ [y]) = w z + lsum w (q :: l)
    rw [wt_app w y (q :: l)]
theorem bset_app (z : Nat) : ∀ l, bset (l ++ [z]) = bset l ||| 2 ^ z
  | [] => by simp [bset]
  | q :: l => by
    show 2 ^ q ||| bset (l ++ [z]) = 2 ^ q ||| bset l ||| 2 ^ z
    rw [bset_app z l, Nat.or_assoc]
theorem lsum_app (w : Nat → Nat) (z : Nat) : ∀ l, lsum w (l ++ [z]) = lsum w l + w z
  | [] => by simp [lsum]
  | q :: l => by
    show w q + lsum w (l ++ [z]) = w q + lsum w l + w z
    rw [lsum_app w z l, Nat.add_assoc]
theorem bset_tb {i : Nat} : ∀ {l : List Nat}, (bset l).testBit i = true ↔ i ∈ l
  | [] => by
    rw [show bset [] = 0 from rfl, Nat.zero_testBit]
    simp
  | q :: l => by
    show (2 ^ q ||| bset l).testBit i = true ↔ _
    rw [Nat.testBit_or, Bool.or_eq_true, tb_pow, decide_eq_true_eq, bset_tb, List.mem_cons]
    constructor
    · rintro (e | e)
      · exact Or.inl e.symm
      · exact Or.inr e
    · rintro (e | e)
      · exact Or.inl e.symm
      · exact Or.inr e
theorem bset_lt {n : Nat} : ∀ {l : List Nat}, (∀ z ∈ l, z < n) → bset l < 2 ^ n
  | [], _ => Nat.two_pow_pos n
  | z :: l, h => or_lt (Nat.pow_lt_pow_right (by decide) (h z List.mem_cons_self)) (bset_lt fun z hz => h z (List.mem_cons_of_mem _ hz))
theorem lsum_le {w : Nat → Nat} {b : Nat} : ∀ {l : List Nat}, (∀ z ∈ l, w z ≤ b) → lsum w l ≤ b * l.length
  | [], _ => Nat.le_refl _
  | z :: l, h => by
    have h1 := h z List.mem_cons_self
    have h2 := lsum_le (l := l) fun z hz => h z (List.mem_cons_of_mem _ hz)
    show w z + lsum w l ≤ b * (l.length + 1)
    rw [Nat.mul_add, Nat.mul_one]
    omega
/-- who may be between: all, if they forget -/
def pF (v : LV) (T fg : Nat) (z : Nat) : Bool := fg == 1 || mayB v z T
def prc (v : LV) (T z : Nat) : Nat := pop (brs v z T)
theorem pop_le10 (a : Nat) : pop a ≤ 10 := cnt_le 10 _
theorem getD_app_lt {l r : List Nat} {k : Nat} (h : k < l.length) : (l ++ r).getD k 0 = l.getD k 0 := by
  rw [List.getD_eq_getElem?_getD, List.getD_eq_getElem?_getD, List.getElem?_append_left h]
theorem getD_app_eq {l : List Nat} {z : Nat} : (l ++ [z]).getD l.length 0 = z := by
  rw [List.getD_eq_getElem?_getD, List.getElem?_append_right (Nat.le_refl _)]
  simp
set_option maxHeartbeats 4000000 in
theorem m_wayOn {v : LV} (w : WF v) {x y T fg : Nat} (hx : x < v 0 0) (hy : y < v 0 0) (hxy : x ≠ y) (hT : T < 32) (hfg : fg < 2) : ∀ (d : Nat) (pre : List Nat) (a : Nat) (h : Hp) (Ls : List (List Nat)), 9 ≤ pre.length + d → MLd v h → (x :: pre).Nodup → (∀ z ∈ pre, z < v 0 0 ∧ z ≠ y) → (∀ k, k < pre.length + 1 → hg h 193 k = nI ((x :: pre).getD k 0)) → a = (x :: pre).getD pre.length 0 → a < v 0 0 → HS (prc v T) x Ls h →
    ∃ h', F_Mo_wayOn d (nI y) (nI T) (nI (pre.length + 1)) (nI (2 ^ x ||| bset pre)) (nI (lsum (prc v T) pre)) (nI fg) h = retV h' ∧ HS (prc v T) x (Ls ++ (pths (v 0 0) y (met v) (okS x (pF v T fg) (muteB v)) d a (2 ^ x ||| bset pre)).map (fun l => pre ++ l)) h' ∧ frW h h' ∧ (∀ k, k < pre.length + 1 → hg h' 193 k = hg h 193 k) := by
  have hn := w.1
  intro d
  induction d with
  | zero =>
    intro pre a h Ls hd _ hnd hpre _ _ _ _
    exfalso
    have := pigeon (v 0 0) (x :: pre) hnd (fun z hz => by
      rcases List.mem_cons.mp hz with rfl | hz
      · exact hx
      · exact (hpre z hz).1)
    simp only [List.length_cons] at this
    omega
  | succ d ih =>
    intro pre a h Ls hd r hnd hpre harr ha han hH
    have hlen : pre.length + 2 ≤ v 0 0 := by
      have := pigeon (v 0 0) (y :: x :: pre) (List.nodup_cons.mpr ⟨fun q => by
        rcases List.mem_cons.mp q with e | q
        · exact hxy e.symm
        · exact (hpre y q).2 rfl, hnd⟩) (fun z hz => by
        rcases List.mem_cons.mp hz with rfl | hz
        · exact hy
        · rcases List.mem_cons.mp hz with rfl | hz
          · exact hx
          · exact (hpre z hz).1)
      simpa using this
    have hxpre : x ∉ pre := (List.nodup_cons.mp hnd).1
    have hprend := (List.nodup_cons.mp hnd).2
    have hhad : 2 ^ x ||| bset pre < 2 ^ 7 := or_lt (Nat.pow_lt_pow_right (by decide) (by omega)) (bset_lt fun z hz => by have := (hpre z hz).1; omega)
    have hset : sdf (2 ^ x ||| bset pre) (2 ^ x) = bset pre := by
      apply Nat.eq_of_testBit_eq
      intro i
      rw [sdf_tb, Nat.testBit_or, tb_pow]
      by_cases e : x = i
      · subst e
        cases c : (bset pre).testBit x with
        | false => simp
        | true => exact absurd (bset_tb.mp c) hxpre
      · simp [e]
    have hlast := harr pre.length (by omega)
    rw [← ha] at hlast
    show ∃ h', G_Mo_wayOn (F_Mo_wayOn d) (nI y) (nI T) (nI (pre.length + 1)) (nI (2 ^ x ||| bset pre)) (nI (lsum (prc v T) pre)) (nI fg) h = retV h' ∧ _
    unfold G_Mo_wayOn
    simp (disch := first | assumption | omega) only [lit_0, lit_1, lit_2, lit_3, lit_4, lit_5, lit_6, lit_7, lit_8, lit_9, lit_10, lit_11, lit_12, lit_16, lit_17, lit_20, lit_31, lit_32, lit_40, lit_47, lit_48, lit_49, lit_57, lit_58, lit_60, lit_64, lit_68, lit_80, lit_97, lit_99, lit_100, lit_101, lit_104, lit_108, lit_109, lit_115, lit_117, lit_121, lit_127, lit_128, lit_140, lit_1000, lit_1000000, lit_1048576, bI_ret, bV_ret, bL_ret, bH_t, cond_true, z_0, z_1, retZ_tf, z_tf0, z_tf1, Decidable.not_not, Classical.not_not, nI_add, nI_clamp, n_le, n_lt, n_eq, nI_or, nI_and, z_sdf, of_nI, nI_sb, oA_193, Nat.add_sub_cancel, hlast, m_metBy9 w r han]
    have hnear : ∀ i, i < v 0 0 → (sdf (ms 7 (met v a)) (2 ^ x ||| bset pre)).testBit i = (met v a i && !(2 ^ x ||| bset pre).testBit i) := fun i hi => by
      rw [sdf_tb, ms_tb, decide_eq_true (by omega), Bool.true_and]
    have hn31 : sdf (ms 7 (met v a)) (2 ^ x ||| bset pre) < 2 ^ 31 := Nat.lt_trans (sdf_lt (ms_lt 7 _)) (by decide)
    generalize sdf (ms 7 (met v a)) (2 ^ x ||| bset pre) = near at *
    generalize hf : one y (met v) (okS x (pF v T fg) (muteB v)) (pths (v 0 0) y (met v) (okS x (pF v T fg) (muteB v)) d) a (2 ^ x ||| bset pre) = f
    have hpz : pths (v 0 0) y (met v) (okS x (pF v T fg) (muteB v)) (d + 1) a (2 ^ x ||| bset pre) = pz f (v 0 0) := by rw [← hf]; rfl
    rw [hpz]
    refine loop_inv (N := v 0 0) (R := fun o => ∃ h', o = retV h' ∧ HS (prc v T) x (Ls ++ (pz f (v 0 0)).map (fun l => pre ++ l)) h' ∧ frW h h' ∧ (∀ k, k < pre.length + 1 → hg h' 193 k = hg h 193 k)) (fun i s => ∃ h', s = (nI y, nI T, nI (pre.length + 1), nI (2 ^ x ||| bset pre), nI (lsum (prc v T) pre), nI fg, nI a, nI near, nI i, h') ∧ HS (prc v T) x (Ls ++ (pz f i).map (fun l => pre ++ l)) h' ∧ frW h h' ∧ (∀ k, k < pre.length + 1 → hg h' 193 k = hg h 193 k)) ⟨h, rfl, by rw [show pz f 0 = [] from rfl, List.map_nil, List.append_nil]; exact hH, frW_rf h, fun _ _ => rfl⟩ (by show _ < 4096; omega) ?_ ?_
    · rintro i s hi ⟨g, rfl, p1, p2, p3⟩
      have rg : MLd v g := MLd_W r p2
      have e1 := hnear i hi
      have epz : pz f (i + 1) = pz f i ++ f i := rfl
      have efi : f i = if (met v a i && !(2 ^ x ||| bset pre).testBit i) = true then (if i = y then [[y]] else if okS x (pF v T fg) (muteB v) a i = true then (pths (v 0 0) y (met v) (okS x (pF v T fg) (muteB v)) d i (2 ^ x ||| bset pre ||| 2 ^ i)).map (fun l => i :: l) else []) else [] := by rw [← hf]; rfl
      -- the body, as far as the test of near
      by_cases c1 : (met v a i && !(2 ^ x ||| bset pre).testBit i) = true
      · have c1b : (2 ^ x ||| bset pre).testBit i = false := by
          rw [Bool.and_eq_true, Bool.not_eq_true'] at c1
          exact c1.2
        have hix : i ≠ x := fun e => by rw [e, Nat.testBit_or, tb_pow] at c1b; simp at c1b
        have hipre : i ∉ pre := fun e => by rw [Nat.testBit_or, bset_tb.mpr e, Bool.or_true] at c1b; cases c1b
        -- the way so far, with i behind it
        have harr2 : ∀ k, k < pre.length + 1 + 1 → hg (hs g 193 (pre.length + 1) (nI i)) 193 k = nI ((x :: (pre ++ [i])).getD k 0) := fun k hk => by
          by_cases e : k = pre.length + 1
          · subst e
            rw [hg_hs_eq]
            congr 1
            exact (getD_app_eq (l := x :: pre) (z := i)).symm
          · rw [hg_hs_k e, p3 k (by omega), harr k (by omega)]
            congr 1
            exact (getD_app_lt (l := x :: pre) (r := [i]) (by simp; omega)).symm
        have f3 : frW h (hs g 193 (pre.length + 1) (nI i)) := frW_tr p2 (frW_hs (Or.inl rfl))
        have r3 : MLd v (hs g 193 (pre.length + 1) (nI i)) := MLd_W r f3
        have H3 : HS (prc v T) x (Ls ++ (pz f i).map (fun l => pre ++ l)) (hs g 193 (pre.length + 1) (nI i)) := by
          obtain ⟨a1, a2, a3, a4⟩ := p1
          refine ⟨?_, ?_, fun s q => ?_, ?_⟩
          · rw [hg_hs_a (by decide)]; exact a1
          · rw [hg_hs_a (by decide)]; exact a2
          · rw [hg_hs_a (by decide)]; exact a3 s q
          · generalize bestOf (prc v T) (Ls ++ (pz f i).map (fun l => pre ++ l)) = B at a4
            cases B with
            | none => exact (hg_hs_a (by decide)).trans a4
            | some b => exact ⟨a4.1, a4.2.1, (hg_hs_a (by decide)).trans a4.2.2.1, (hg_hs_a (by decide)).trans a4.2.2.2.1, fun k hk => (hg_hs_a (by decide)).trans (a4.2.2.2.2 k hk)⟩
        have hpre3 : ∀ k, k < pre.length + 1 → hg (hs g 193 (pre.length + 1) (nI i)) 193 k = hg h 193 k := fun k hk => by
          rw [hg_hs_k (by omega)]
          exact p3 k hk
        have e193 : hg (hs g 193 (pre.length + 1) (nI i)) 193 0 = nI x := by
          rw [hpre3 0 (by omega), harr 0 (by omega)]
          rfl
        by_cases c2 : i = y
        · subst c2
          have hlen2 : (pre ++ [i]).length = pre.length + 1 := by simp
          obtain ⟨h', q1, q2, q3, q4⟩ := m_meetWay (w := prc v T) (x := x) (l := pre ++ [i]) H3 (by rw [hlen2]; omega) (by rw [wt_app]; have := lsum_le (w := prc v T) (b := 10) (l := pre) (fun z _ => pop_le10 _); omega) (by rw [mset_app]; exact Nat.lt_of_lt_of_le (bset_lt fun z hz => (hpre z hz).1) (Nat.pow_le_pow_right (by decide) hn)) (by rw [hlen2]; exact harr2)
          rw [mset_app, wt_app, hlen2] at q1
          refine ⟨(nI i, nI T, nI (pre.length + 1), nI (2 ^ x ||| bset pre), nI (lsum (prc v T) pre), nI fg, nI a, nI near, nI (i + 1), h'), ⟨h', rfl, ?_, frW_tr f3 q3, fun k hk => (q4 k).trans (hpre3 k hk)⟩, fun κ => ?_⟩
          · rw [epz, efi, if_pos c1, if_pos rfl, List.map_append, ← List.append_assoc]
            exact q2
          · simp (disch := first | assumption | omega) only [Mo_wayOn_28, lit_0, lit_1, lit_2, lit_3, lit_4, lit_5, lit_6, lit_7, lit_8, lit_9, lit_10, lit_11, lit_12, lit_16, lit_17, lit_20, lit_31, lit_32, lit_40, lit_47, lit_48, lit_49, lit_57, lit_58, lit_60, lit_64, lit_68, lit_80, lit_97, lit_99, lit_100, lit_101, lit_104, lit_108, lit_109, lit_115, lit_117, lit_121, lit_127, lit_128, lit_140, lit_1000, lit_1000000, lit_1048576, bI_ret, bV_ret, bL_ret, bH_t, cond_true, z_0, z_1, retZ_tf, z_tf0, z_tf1, Decidable.not_not, Classical.not_not, nI_add, nI_clamp, n_le, n_lt, n_eq, nI_or, nI_and, z_sdf, of_nI, M_n rg, m_has, e1, c1, oA_193, e193, z_bit, hset, q1]
            rw [if_neg (by omega)]
            simp only [not_true, if_false, if_true]
        · -- one between
          have et := m_takes w r3 (x := i) (a := a) (b := x) hi (by omega) (by omega)
          have em := m_mayCarry w r3 (x := i) (T := T) hi hT
          have ec := m_costOf w r3 (x := i) (T := T) hi hT
          have hok : okS x (pF v T fg) (muteB v) a i = true ↔ (v 1 i ≠ 4 ∨ a = x) ∧ (fg = 1 ∨ mayB v i T = true) := by
            unfold okS pF muteB
            simp only [Bool.and_eq_true, bne_iff_ne, Bool.or_eq_true, Bool.not_eq_true', beq_iff_eq, beq_eq_false_iff_ne]
            constructor
            · rintro ⟨⟨_, a2⟩, a3⟩; exact ⟨a3, a2⟩
            · rintro ⟨a3, a2⟩; exact ⟨⟨hix, a2⟩, a3⟩
          by_cases c3 : okS x (pF v T fg) (muteB v) a i = true
          · obtain ⟨k1, k2⟩ := hok.mp c3
            obtain ⟨h', q1, q2, q3, q4⟩ := ih (pre ++ [i]) i (hs g 193 (pre.length + 1) (nI i)) (Ls ++ (pz f i).map (fun l => pre ++ l)) (by simp; omega) r3
              (by
                rw [← List.cons_append]
                refine List.nodup_append.mpr ⟨hnd, by simp, fun b hb c hc => ?_⟩
                rw [List.mem_singleton] at hc
                subst hc
                rcases List.mem_cons.mp hb with rfl | hb
                · exact fun e => hix e.symm
                · exact fun e => hipre (e ▸ hb))
              (fun z hz => by
                rcases List.mem_append.mp hz with hz | hz
                · exact hpre z hz
                · rw [List.mem_singleton] at hz
                  subst hz
                  exact ⟨hi, c2⟩)
              (by simpa using harr2) (by
                have := getD_app_eq (l := x :: pre) (z := i)
                simpa using this.symm) hi H3
            have hl2 : (pre ++ [i]).length = pre.length + 1 := by simp
            rw [hl2, bset_app, lsum_app, ← Nat.or_assoc] at q1
            rw [bset_app, ← Nat.or_assoc] at q2
            rw [hl2] at q4
            refine ⟨(nI y, nI T, nI (pre.length + 1), nI (2 ^ x ||| bset pre), nI (lsum (prc v T) pre), nI fg, nI a, nI near, nI (i + 1), h'), ⟨h', rfl, ?_, frW_tr f3 q3, fun k hk => (q4 k (by omega)).trans (hpre3 k hk)⟩, fun κ => ?_⟩
            · rw [epz, efi, if_pos c1, if_neg c2, if_pos c3, List.map_append, ← List.append_assoc, List.map_map]
              have : (fun l => pre ++ l) ∘ (fun l => i :: l) = fun l => pre ++ [i] ++ l := by
                funext l
                simp
              rw [this]
              exact q2
            · simp (disch := first | assumption | omega) only [Mo_wayOn_28, lit_0, lit_1, lit_2, lit_3, lit_4, lit_5, lit_6, lit_7, lit_8, lit_9, lit_10, lit_11, lit_12, lit_16, lit_17, lit_20, lit_31, lit_32, lit_40, lit_47, lit_48, lit_49, lit_57, lit_58, lit_60, lit_64, lit_68, lit_80, lit_97, lit_99, lit_100, lit_101, lit_104, lit_108, lit_109, lit_115, lit_117, lit_121, lit_127, lit_128, lit_140, lit_1000, lit_1000000, lit_1048576, bI_ret, bV_ret, bL_ret, bH_t, cond_true, z_0, z_1, retZ_tf, z_tf0, z_tf1, Decidable.not_not, Classical.not_not, nI_add, nI_clamp, n_le, n_lt, n_eq, nI_or, nI_and, z_sdf, of_nI, M_n rg, m_has, e1, c1, oA_193, e193, et, em, ec, z_bit]
              rw [if_neg (by omega)]
              simp only [not_true, if_false, if_true, if_neg c2, k1]
              by_cases c4 : fg = 0
              · subst c4
                have k3 : mayB v i T = true := k2.resolve_left (by decide)
                simp only [k3, not_true, if_false, if_true]
                rw [show pop (brs v i T) = prc v T i from rfl, q1, bV_ret]
              · rw [if_neg c4, show pop (brs v i T) = prc v T i from rfl, q1, bV_ret]
          · refine ⟨(nI y, nI T, nI (pre.length + 1), nI (2 ^ x ||| bset pre), nI (lsum (prc v T) pre), nI fg, nI a, nI near, nI (i + 1), hs g 193 (pre.length + 1) (nI i)), ⟨_, rfl, ?_, f3, hpre3⟩, fun κ => ?_⟩
            · rw [epz, efi, if_pos c1, if_neg c2, if_neg c3, List.append_nil]
              exact H3
            · simp (disch := first | assumption | omega) only [Mo_wayOn_28, lit_0, lit_1, lit_2, lit_3, lit_4, lit_5, lit_6, lit_7, lit_8, lit_9, lit_10, lit_11, lit_12, lit_16, lit_17, lit_20, lit_31, lit_32, lit_40, lit_47, lit_48, lit_49, lit_57, lit_58, lit_60, lit_64, lit_68, lit_80, lit_97, lit_99, lit_100, lit_101, lit_104, lit_108, lit_109, lit_115, lit_117, lit_121, lit_127, lit_128, lit_140, lit_1000, lit_1000000, lit_1048576, bI_ret, bV_ret, bL_ret, bH_t, cond_true, z_0, z_1, retZ_tf, z_tf0, z_tf1, Decidable.not_not, Classical.not_not, nI_add, nI_clamp, n_le, n_lt, n_eq, nI_or, nI_and, z_sdf, of_nI, M_n rg, m_has, e1, c1, oA_193, e193, et, em, ec, z_bit]
              rw [if_neg (by omega)]
              simp only [not_true, if_false, if_true, if_neg c2]
              by_cases k1 : v 1 i ≠ 4 ∨ a = x
              · have k2 : ¬ (fg = 1 ∨ mayB v i T = true) := fun q => c3 (hok.mpr ⟨k1, q⟩)
                rw [if_neg (fun z => z k1), if_pos (by omega), if_pos (fun q => k2 (Or.inr q))]
              · rw [if_pos k1]
      · refine ⟨(nI y, nI T, nI (pre.length + 1), nI (2 ^ x ||| bset pre), nI (lsum (prc v T) pre), nI fg, nI a, nI near, nI (i + 1), g), ⟨g, rfl, ?_, p2, p3⟩, fun κ => ?_⟩
        · rw [epz, efi, if_neg c1, List.append_nil]
          exact p1
        · simp (disch := first | assumption | omega) only [Mo_wayOn_28, lit_0, lit_1, lit_2, lit_3, lit_4, lit_5, lit_6, lit_7, lit_8, lit_9, lit_10, lit_11, lit_12, lit_16, lit_17, lit_20, lit_31, lit_32, lit_40, lit_47, lit_48, lit_49, lit_57, lit_58, lit_60, lit_64, lit_68, lit_80, lit_97, lit_99, lit_100, lit_101, lit_104, lit_108, lit_109, lit_115, lit_117, lit_121, lit_127, lit_128, lit_140, lit_1000, lit_1000000, lit_1048576, bI_ret, bV_ret, bL_ret, bH_t, cond_true, z_0, z_1, retZ_tf, z_tf0, z_tf1, Decidable.not_not, Classical.not_not, nI_add, nI_clamp, n_le, n_lt, n_eq, nI_or, nI_and, z_sdf, of_nI, M_n rg, m_has, e1]
          rw [if_neg (by omega), if_pos c1]
    · rintro s ⟨g, rfl, p1, p2, p3⟩ κ
      refine ⟨g, ?_, p1, p2, p3⟩
      have rg : MLd v g := MLd_W r p2
      simp (disch := first | assumption | omega) only [Mo_wayOn_28, lit_0, lit_1, lit_2, lit_3, lit_4, lit_5, lit_6, lit_7, lit_8, lit_9, lit_10, lit_11, lit_12, lit_16, lit_17, lit_20, lit_31, lit_32, lit_40, lit_47, lit_48, lit_49, lit_57, lit_58, lit_60, lit_64, lit_68, lit_80, lit_97, lit_99, lit_100, lit_101, lit_104, lit_108, lit_109, lit_115, lit_117, lit_121, lit_127, lit_128, lit_140, lit_1000, lit_1000000, lit_1048576, bI_ret, bV_ret, bL_ret, bH_t, cond_true, z_0, z_1, retZ_tf, z_tf0, z_tf1, Decidable.not_not, Classical.not_not, nI_add, nI_clamp, n_le, n_lt, n_eq, nI_or, nI_and, z_sdf, of_nI, M_n rg, Nat.le_refl, if_true]
