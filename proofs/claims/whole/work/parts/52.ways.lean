/-! the list of all ways -/
def aw (v : LV) (x y T fg : Nat) : List (List Nat) := pths (v 0 0) y (met v) (okS x (pF v T fg) (muteB v)) 9 x (2 ^ x)
theorem m_setWays {v : LV} {h : Hp} (w : WF v) (r : MLd v h) {x y T fg : Nat} (hx : x < v 0 0) (hy : y < v 0 0) (hxy : x ≠ y) (hT : T < 32) (hfg : fg < 2) : ∃ h', F_Mo_setWays (nI x) (nI y) (nI T) (nI fg) h = retV h' ∧ HS (prc v T) x (aw v x y T fg) h' ∧ frW h h' := by
  have hn := w.1
  unfold F_Mo_setWays
  simp (disch := first | assumption | omega) only [lit_0, lit_1, lit_2, lit_3, lit_4, lit_5, lit_6, lit_7, lit_8, lit_9, lit_10, lit_11, lit_12, lit_16, lit_17, lit_20, lit_31, lit_32, lit_40, lit_47, lit_48, lit_49, lit_57, lit_58, lit_60, lit_64, lit_68, lit_80, lit_97, lit_99, lit_100, lit_101, lit_104, lit_108, lit_109, lit_115, lit_117, lit_121, lit_127, lit_128, lit_140, lit_1000, lit_1000000, lit_1048576, bI_ret, bV_ret, bL_ret, bH_t, cond_true, z_0, z_1, retZ_tf, z_tf0, z_tf1, Decidable.not_not, Classical.not_not, nI_add, nI_clamp, n_le, n_lt, n_eq, nI_or, nI_and, z_sdf, of_nI]
  generalize hg4 : hs (hs (hs (hs h 178 27 (nI 0)) 178 28 (nI 127)) 178 26 (nI 1048576)) 178 25 (nI 0) = h4
  have f4 : frW h h4 := by
    rw [← hg4]
    exact frW_tr (frW_tr (frW_tr (frW_hs (Or.inr (Or.inr (Or.inr ⟨rfl, by omega, by omega⟩)))) (frW_hs (Or.inr (Or.inr (Or.inr ⟨rfl, by omega, by omega⟩))))) (frW_hs (Or.inr (Or.inr (Or.inr ⟨rfl, by omega, by omega⟩))))) (frW_hs (Or.inr (Or.inr (Or.inr ⟨rfl, by omega, by omega⟩))))
  have c27 : hg h4 178 27 = nI 0 := by rw [← hg4]; simp (disch := first | assumption | omega) only [hg_hs_eq, hg_hs_a, hg_hs_k]
  have c28 : hg h4 178 28 = nI 127 := by rw [← hg4]; simp (disch := first | assumption | omega) only [hg_hs_eq, hg_hs_a, hg_hs_k]
  have c26 : hg h4 178 26 = nI 1048576 := by rw [← hg4]; simp (disch := first | assumption | omega) only [hg_hs_eq, hg_hs_a, hg_hs_k]
  clear hg4
  refine loop_inv (N := 128) (R := fun o => ∃ h', o = retV h' ∧ HS (prc v T) x (aw v x y T fg) h' ∧ frW h h') (fun i s => ∃ h', s = (nI x, nI y, nI T, nI fg, nI i, h') ∧ (∀ k, k < i → hg h' 195 k = nI 0) ∧ (∀ a j, a ≠ 195 → hg h' a j = hg h4 a j)) ⟨h4, rfl, fun k hk => absurd hk (Nat.not_lt_zero k), fun _ _ _ => rfl⟩ (by show _ < 4096; omega) ?_ ?_
  · rintro i s hi ⟨g, rfl, p1, p2⟩
    refine ⟨(nI x, nI y, nI T, nI fg, nI (i + 1), hs g 195 i (nI 0)), ⟨_, rfl, fun k hk => ?_, fun a j q => ?_⟩, fun κ => ?_⟩
    · by_cases e : k = i
      · subst e; exact hg_hs_eq _ _ _ _
      · rw [hg_hs_k e]; exact p1 k (by omega)
    · rw [hg_hs_a q]; exact p2 a j q
    · simp (disch := first | assumption | omega) only [Mo_setWays_25, lit_0, lit_1, lit_2, lit_3, lit_4, lit_5, lit_6, lit_7, lit_8, lit_9, lit_10, lit_11, lit_12, lit_16, lit_17, lit_20, lit_31, lit_32, lit_40, lit_47, lit_48, lit_49, lit_57, lit_58, lit_60, lit_64, lit_68, lit_80, lit_97, lit_99, lit_100, lit_101, lit_104, lit_108, lit_109, lit_115, lit_117, lit_121, lit_127, lit_128, lit_140, lit_1000, lit_1000000, lit_1048576, bI_ret, bV_ret, bL_ret, bH_t, cond_true, z_0, z_1, retZ_tf, z_tf0, z_tf1, Decidable.not_not, Classical.not_not, nI_add, nI_clamp, n_le, n_lt, n_eq, nI_or, nI_and, z_sdf, of_nI, oA_195, nar_0]
      rw [if_neg (by omega)]
  · rintro s ⟨g, rfl, p1, p2⟩ κ
    have f5 : frW h4 (hs g 193 0 (nI x)) := frW_tr (fun a j n => p2 a j (fun e => n (Or.inr (Or.inr (Or.inl e))))) (frW_hs (Or.inl rfl))
    have r5 : MLd v (hs g 193 0 (nI x)) := MLd_W r (frW_tr f4 f5)
    have H5 : HS (prc v T) x [] (hs g 193 0 (nI x)) := by
      refine ⟨?_, ?_, fun s q => ?_, ?_⟩
      · rw [hg_hs_a (by decide), p2 _ _ (by decide)]; exact c27
      · rw [hg_hs_a (by decide), p2 _ _ (by decide)]; exact c28
      · rw [hg_hs_a (by decide), p1 s q]; rfl
      · show hg (hs g 193 0 (nI x)) 178 26 = _
        rw [hg_hs_a (by decide), p2 _ _ (by decide)]; exact c26
    obtain ⟨h', q1, q2, q3, -⟩ := m_wayOn w hx hy hxy hT hfg 9 [] x (hs g 193 0 (nI x)) [] (by decide) r5 (by simp) (fun z hz => absurd hz List.not_mem_nil) (fun k hk => by
      have : k = 0 := by simpa using hk
      subst this
      exact hg_hs_eq _ _ _ _) rfl hx H5
    have e1 : 2 ^ x ||| bset [] = 2 ^ x := Nat.or_zero _
    rw [e1] at q1 q2
    refine ⟨h', ?_, ?_, frW_tr f4 (frW_tr f5 q3)⟩
    · simp (disch := first | assumption | omega) only [Mo_setWays_25, lit_0, lit_1, lit_2, lit_3, lit_4, lit_5, lit_6, lit_7, lit_8, lit_9, lit_10, lit_11, lit_12, lit_16, lit_17, lit_20, lit_31, lit_32, lit_40, lit_47, lit_48, lit_49, lit_57, lit_58, lit_60, lit_64, lit_68, lit_80, lit_97, lit_99, lit_100, lit_101, lit_104, lit_108, lit_109, lit_115, lit_117, lit_121, lit_127, lit_128, lit_140, lit_1000, lit_1000000, lit_1048576, bI_ret, bV_ret, bL_ret, bH_t, cond_true, z_0, z_1, retZ_tf, z_tf0, z_tf1, Decidable.not_not, Classical.not_not, nI_add, nI_clamp, n_le, n_lt, n_eq, nI_or, nI_and, z_sdf, of_nI, Nat.le_refl, if_true, z_bit]
      have q1 : F_Mo_wayOn 9 (nI y) (nI T) (nI 1) (nI (2 ^ x)) (nI 0) (nI fg) (hs g 193 0 (nI x)) = retV h' := q1
      rw [q1, bV_ret]
    · have e2 : (fun l : List Nat => [] ++ l) = id := rfl
      rw [e2, List.map_id, List.nil_append] at q2
      exact q2
section PTH
variable {n x y : Nat} {m : Nat → Nat → Bool} {p u : Nat → Bool}
theorem mem_pz {f : Nat → List (List Nat)} {l : List Nat} : ∀ n, l ∈ pz f n ↔ ∃ z, z < n ∧ l ∈ f z
  | 0 => by simp [pz]
  | n + 1 => by
    unfold pz
    rw [List.mem_append, mem_pz n]
    constructor
    · rintro (⟨z, h1, h2⟩ | h)
      · exact ⟨z, by omega, h2⟩
      · exact ⟨n, by omega, h⟩
    · rintro ⟨z, h1, h2⟩
      by_cases e : z = n
      · subst e; exact Or.inr h2
      · exact Or.inl ⟨z, by omega, h2⟩
theorem mem_one {rec : Nat → Nat → List (List Nat)} {ok : Nat → Nat → Bool} {a had z : Nat} {l : List Nat} : l ∈ one y m ok rec a had z ↔ m a z = true ∧ had.testBit z = false ∧ ((z = y ∧ l = [y]) ∨ (z ≠ y ∧ ok a z = true ∧ ∃ l', l' ∈ rec z (had ||| 2 ^ z) ∧ l = z :: l')) := by
  unfold one
  by_cases c : (m a z && !had.testBit z) = true
  · rw [if_pos c]
    rw [Bool.and_eq_true, Bool.not_eq_true'] at c
    by_cases d : z = y
    · rw [if_pos d, List.mem_singleton]
      exact ⟨fun e => ⟨c.1, c.2, Or.inl ⟨d, e⟩⟩, fun q => q.2.2.elim (fun z => z.2) (fun z => absurd d z.1)⟩
    · rw [if_neg d]
      by_cases b : ok a z = true
      · rw [if_pos b, List.mem_map]
        constructor
        · rintro ⟨l', h1, rfl⟩
          exact ⟨c.1, c.2, Or.inr ⟨d, b, l', h1, rfl⟩⟩
        · rintro ⟨-, -, h⟩
          rcases h with h | ⟨-, -, l', h1, rfl⟩
          · exact absurd h.1 d
          · exact ⟨l', h1, rfl⟩
      · rw [if_neg b]
        constructor
        · intro q; cases q
        · rintro ⟨-, -, h⟩
          rcases h with h | h
          · exact absurd h.1 d
          · exact absurd h.2.1 b
  · rw [if_neg c]
    constructor
    · intro q; cases q
    · rintro ⟨h1, h2, -⟩
      exact absurd (by simp [h1, h2]) c
theorem mem_pths (hm : ∀ a b, m a b = true → b < n) {l : List Nat} : ∀ d a had, l ∈ pths n y m (okS x p u) d a had ↔ wayF x y m p u a l ∧ l.Nodup ∧ (∀ q ∈ l, had.testBit q = false) ∧ l.length ≤ d := by
  intro d
  induction d generalizing l with
  | zero =>
    intro a had
    constructor
    · intro q; cases q
    · rintro ⟨h1, -, -, h4⟩
      exact absurd (List.eq_nil_of_length_eq_zero (by omega)) (wayF_ne h1)
  | succ d ih =>
    intro a had
    show l ∈ pz (one y m (okS x p u) (pths n y m (okS x p u) d) a had) n ↔ _
    rw [mem_pz]
    simp only [mem_one]
    constructor
    · rintro ⟨z, hz, h1, h2, ⟨rfl, rfl⟩ | ⟨e1, e2, l', h3, rfl⟩⟩
      · exact ⟨⟨h1, Or.inl ⟨rfl, rfl⟩⟩, by simp, fun q hq => by rw [List.mem_singleton] at hq; subst hq; exact h2, by simp⟩
      · obtain ⟨a1, a2, a3, a4⟩ := (ih z (had ||| 2 ^ z)).mp h3
        refine ⟨⟨h1, Or.inr ⟨e1, e2, a1⟩⟩, List.nodup_cons.mpr ⟨fun q => ?_, a2⟩, fun q hq => ?_, by simp; omega⟩
        · have := a3 z q
          rw [Nat.testBit_or, tb_pow] at this
          simp at this
        · rcases List.mem_cons.mp hq with rfl | hq
          · exact h2
          · have := a3 q hq
            rw [Nat.testBit_or, Bool.or_eq_false_iff] at this
            exact this.1
    · rintro ⟨h1, h2, h3, h4⟩
      cases l with
      | nil => exact absurd h1 (by intro h; exact h)
      | cons z l' =>
        refine ⟨z, hm _ _ h1.1, h1.1, h3 z List.mem_cons_self, ?_⟩
        rcases h1.2 with ⟨e1, e2⟩ | ⟨e1, e2, h5⟩
        · subst e1; subst e2
          exact Or.inl ⟨rfl, rfl⟩
        · refine Or.inr ⟨e1, e2, l', (ih z (had ||| 2 ^ z)).mpr ⟨h5, (List.nodup_cons.mp h2).2, fun q hq => ?_, by simp at h4; omega⟩, rfl⟩
          rw [Nat.testBit_or, h3 q (List.mem_cons_of_mem _ hq), tb_pow, Bool.false_or]
          exact decide_eq_false fun e => (List.nodup_cons.mp h2).1 (e ▸ hq)
/-- by numbers -/
def lx : List Nat → List Nat → Prop
  | a :: l, b :: r => a < b ∨ (a = b ∧ lx l r)
  | _, _ => False
theorem pz_sorted {f : Nat → List (List Nat)} (h1 : ∀ z, (f z).Pairwise lx) (h2 : ∀ z l, l ∈ f z → ∃ r, l = z :: r) : ∀ n, (pz f n).Pairwise lx
  | 0 => List.Pairwise.nil
  | n + 1 => by
    unfold pz
    rw [List.pairwise_append]
    refine ⟨pz_sorted h1 h2 n, h1 n, fun a ha b hb => ?_⟩
    obtain ⟨z, hz, ha⟩ := (mem_pz n).mp ha
    obtain ⟨r, rfl⟩ := h2 z a ha
    obtain ⟨s, rfl⟩ := h2 n b hb
    exact Or.inl hz
theorem pths_sorted {ok : Nat → Nat → Bool} : ∀ d a had, (pths n y m ok d a had).Pairwise lx
  | 0, _, _ => List.Pairwise.nil
  | d + 1, a, had => by
    refine pz_sorted (fun z => ?_) (fun z l hl => ?_) n
    · unfold one
      split
      · split
        · simp
        · split
          · rw [List.pairwise_map]
            exact (pths_sorted d z (had ||| 2 ^ z)).imp (fun q => Or.inr ⟨rfl, q⟩)
          · exact List.Pairwise.nil
      · exact List.Pairwise.nil
    · obtain ⟨-, -, h⟩ := mem_one.mp hl
      rcases h with ⟨e1, e2⟩ | ⟨-, -, l', -, e⟩
      · subst e1
        exact ⟨[], e2⟩
      · exact ⟨l', e⟩
theorem pths_len {ok : Nat → Nat → Bool} (hn : n ≤ 7) : ∀ d a had, (pths n y m ok d a had).length ≤ 7 ^ d
  | 0, _, _ => by simp [pths]
  | d + 1, a, had => by
    have H : ∀ z, (one y m ok (pths n y m ok d) a had z).length ≤ 7 ^ d := fun z => by
      have h0 : 1 ≤ 7 ^ d := Nat.pow_pos (by decide)
      unfold one
      split
      · split
        · exact h0
        · split
          · rw [List.length_map]
            exact pths_len hn d z _
          · exact Nat.zero_le _
      · exact Nat.zero_le _
    have H2 : ∀ k, (pz (one y m ok (pths n y m ok d) a had) k).length ≤ k * 7 ^ d := by
      intro k
      induction k with
      | zero => simp [pz]
      | succ k ih =>
        unfold pz
        rw [List.length_append, Nat.succ_mul]
        have := H k
        omega
    have := H2 n
    show (pz (one y m ok (pths n y m ok d) a had) n).length ≤ _
    refine Nat.le_trans this ?_
    rw [Nat.pow_succ, Nat.mul_comm (7 ^ d)]
    exact Nat.mul_le_mul_right _ hn
end PTH
/-! the best of them -/
def btr (w : Nat → Nat) (b l : List Nat) : Prop := wt w b < wt w l ∨ (wt w b = wt w l ∧ (b.length < l.length ∨ (b.length = l.length ∧ lx b l)))
theorem best_go (w : Nat → Nat) : ∀ (Ls pre : List (List Nat)) (o : Option (List Nat)), (pre ++ Ls).Pairwise lx → (match o with | none => pre = [] | some b => b ∈ pre ∧ ∀ l ∈ pre, l = b ∨ btr w b l) → match Ls.foldl (bet w) o with | none => pre ++ Ls = [] | some b => b ∈ pre ++ Ls ∧ ∀ l ∈ pre ++ Ls, l = b ∨ btr w b l
  | [], pre, o, hs9, h => by rw [List.append_nil]; exact h
  | c :: Ls, pre, o, hs9, h => by
    have e : pre ++ c :: Ls = pre ++ [c] ++ Ls := by simp
    rw [e] at hs9 ⊢
    rw [List.foldl_cons]
    refine best_go w Ls (pre ++ [c]) _ hs9 ?_
    have hlx : ∀ b ∈ pre, lx b c := fun b hb => (List.pairwise_append.mp (List.pairwise_append.mp hs9).1).2.2 b hb c (List.mem_singleton.mpr rfl)
    cases o with
    | none =>
      have h : pre = [] := h
      subst h
      exact ⟨by simp, fun l hl => Or.inl (by simpa using hl)⟩
    | some b =>
      obtain ⟨h1, h2⟩ := h
      unfold bet
      dsimp only
      split
      · next q =>
        split at q
        · cases q
        · cases q
      · next b' q =>
        split at q
        · next d =>
          cases q
          refine ⟨by simp, fun l hl => ?_⟩
          rcases List.mem_append.mp hl with hl | hl
          · right
            rcases h2 l hl with rfl | h3
            · rcases d with d | ⟨d1, d2⟩
              · exact Or.inl d
              · exact Or.inr ⟨d1, Or.inl d2⟩
            · unfold btr at h3 ⊢
              rcases d with d | ⟨d1, d2⟩ <;> rcases h3 with h3 | ⟨h3, h4⟩
              · exact Or.inl (by omega)
              · exact Or.inl (by omega)
              · exact Or.inl (by omega)
              · refine Or.inr ⟨by omega, Or.inl ?_⟩
                rcases h4 with h4 | ⟨h4, -⟩ <;> omega
          · exact Or.inl (List.mem_singleton.mp hl)
        · next d =>
          cases q
          refine ⟨List.mem_append_left _ h1, fun l hl => ?_⟩
          rcases List.mem_append.mp hl with hl | hl
          · exact h2 l hl
          · rw [List.mem_singleton] at hl
            subst hl
            right
            have hb := hlx _ h1
            unfold btr
            rcases Nat.lt_or_ge (wt w b) (wt w l) with z | z
            · exact Or.inl z
            · have e1 : wt w b = wt w l := by omega
              refine Or.inr ⟨e1, ?_⟩
              rcases Nat.lt_or_ge b.length l.length with z2 | z2
              · exact Or.inl z2
              · exact Or.inr ⟨by omega, hb⟩
theorem best_iff {w : Nat → Nat} {Ls : List (List Nat)} (hs9 : Ls.Pairwise lx) : match bestOf w Ls with | none => Ls = [] | some b => b ∈ Ls ∧ ∀ l ∈ Ls, l = b ∨ btr w b l := by
  have := best_go w Ls [] none (by simpa using hs9) rfl
  rw [List.nil_append] at this
  exact this
theorem lx_asymm : ∀ (a b : List Nat), lx a b → ¬ lx b a
  | a :: l, b :: r, h, g => by
    rcases h with h | ⟨h, h'⟩ <;> rcases g with g | ⟨g, g'⟩
    · omega
    · omega
    · omega
    · exact lx_asymm l r h' g'
theorem each_tb {i : Nat} (Ls : List (List Nat)) : (eachOf Ls).testBit i = true ↔ i < 7 ∧ ∀ l ∈ Ls, (mset l).testBit i = true := by
  have H : ∀ (Ls : List (List Nat)) (e : Nat), (Ls.foldl (fun e l => e &&& mset l) e).testBit i = true ↔ e.testBit i = true ∧ ∀ l ∈ Ls, (mset l).testBit i = true := by
    intro Ls
    induction Ls with
    | nil => intro e; simp
    | cons c Ls ih =>
      intro e
      rw [List.foldl_cons, ih, Nat.testBit_and, Bool.and_eq_true, and_assoc]
      constructor
      · rintro ⟨h1, h2, h3⟩
        refine ⟨h1, fun l hl => ?_⟩
        rcases List.mem_cons.mp hl with rfl | hl
        · exact h2
        · exact h3 l hl
      · rintro ⟨h1, h2⟩
        exact ⟨h1, h2 c List.mem_cons_self, fun l hl => h2 l (List.mem_cons_of_mem _ hl)⟩
  unfold eachOf
  rw [H]
  have : (127 : Nat).testBit i = true ↔ i < 7 := by
    rw [show (127 : Nat) = 2 ^ 7 - 1 from rfl, Nat.testBit_two_pow_sub_one, decide_eq_true_eq]
  rw [this]
theorem each_lt (Ls : List (List Nat)) : eachOf Ls < 2 ^ 7 := by
  apply Nat.lt_pow_two_of_testBit
  intro i hi
  cases c : (eachOf Ls).testBit i with
  | false => rfl
  | true => have := ((each_tb Ls).mp c).1; omega
/-! what the ways are, in a land -/
section AW
variable {v : LV}
theorem wayF_cong {x y : Nat} {p p' u : Nat → Bool} (w : WF v) (hp : ∀ z, z < v 0 0 → p z = p' z) : ∀ (l : List Nat) (a : Nat), wayF x y (met v) p u a l → wayF x y (met v) p' u a l
  | [], _, h => h
  | z :: l, a, h => by
    have hz := (met_lt w h.1).2.1
    refine ⟨h.1, ?_⟩
    rcases h.2 with e | ⟨e1, e2, e3⟩
    · exact Or.inl e
    · refine Or.inr ⟨e1, ?_, wayF_cong w hp l z e3⟩
      unfold okS at e2 ⊢
      rw [← hp z hz]
      exact e2
theorem mem_aw (w : WF v) {x y T fg : Nat} (hx : x < v 0 0) (hy : y < v 0 0) (hxy : x ≠ y) {l : List Nat} : l ∈ aw v x y T fg ↔ wayF x y (met v) (pF v T fg) (muteB v) x l ∧ l.Nodup := by
  have hn := w.1
  unfold aw
  rw [mem_pths (fun a b q => (met_lt w q).2.1)]
  constructor
  · exact fun q => ⟨q.1, q.2.1⟩
  · rintro ⟨h1, h2⟩
    have h3 := wayF_lt (n := v 0 0) (fun a b q => (met_lt w q).2.1) l x h1
    have h4 := pigeon _ l h2 h3
    refine ⟨h1, h2, fun q hq => ?_, by omega⟩
    rw [tb_pow]
    apply decide_eq_false
    intro e
    subst e
    rcases wayF_mem h1 x hq with e | e
    · exact hxy e
    · exact e.2.1 rfl
theorem aw_ne (w : WF v) {x y T fg : Nat} (hx : x < v 0 0) (hy : y < v 0 0) (hxy : x ≠ y) : aw v x y T fg ≠ [] ↔ ∃ l, wayF x y (met v) (pF v T fg) (muteB v) x l := by
  constructor
  · intro q
    obtain ⟨l, hl⟩ := List.exists_mem_of_ne_nil _ q
    exact ⟨l, ((mem_aw w hx hy hxy).mp hl).1⟩
  · rintro ⟨l, hl⟩
    obtain ⟨l', h1, h2, -⟩ := way_simple (w := fun _ => 1) (fun _ => Nat.le_refl _) l x hl
    exact List.ne_nil_of_mem ((mem_aw w hx hy hxy).mpr ⟨h1, h2⟩)
theorem aw_len (w : WF v) (x y T fg : Nat) : (aw v x y T fg).length < 2 ^ 31 := Nat.lt_of_le_of_lt (pths_len w.1 9 _ _) (by decide)
theorem car_tb {T i : Nat} (hi : i < v 0 0) : (car v T).testBit i = mayB v i T := by
  unfold car
  rw [ms_tb, decide_eq_true hi, Bool.true_and]
theorem pF_0 (T z : Nat) : pF v T 0 z = mayB v z T := rfl
theorem ends_aw (w : WF v) {x y T : Nat} (hx : x < v 0 0) (hy : y < v 0 0) (hxy : x ≠ y) : (ends v x (car v T)).testBit y = true ↔ aw v x y T 0 ≠ [] := by
  rw [ends_iff w hx hy hxy (car_lt w T), aw_ne w hx hy hxy]
  constructor
  · rintro ⟨l, hl⟩
    exact ⟨l, wayF_cong w (fun z hz => (car_tb hz).trans (pF_0 T z).symm) l x hl⟩
  · rintro ⟨l, hl⟩
    exact ⟨l, wayF_cong w (fun z hz => (pF_0 T z).trans (car_tb hz).symm) l x hl⟩
theorem ends_lt (w : WF v) (x op : Nat) : ends v x op < 2 ^ 7 := sdf_lt (or_lt (ms_lt 7 _) (orM_lt _ _ _))
theorem ends_n (w : WF v) {x op i : Nat} (h : (ends v x op).testBit i = true) : i < v 0 0 ∧ i ≠ x := by
  unfold ends at h
  rw [sdf_tb, tb_pow, Bool.and_eq_true, Bool.not_eq_true', decide_eq_false_iff_not, Nat.testBit_or, Bool.or_eq_true, ms_tb, Bool.and_eq_true, orM_tb] at h
  refine ⟨?_, fun e => h.2 e.symm⟩
  rcases h.1 with h | ⟨-, b, -, -, h⟩
  · exact (met_lt w h.2).2.1
  · exact (met_lt w h).2.1
theorem mset_way {x y a : Nat} {p u : Nat → Bool} {l : List Nat} (h : wayF x y (met v) p u a l) {i : Nat} : (mset l).testBit i = true ↔ i ∈ l ∧ i ≠ y := by
  obtain ⟨s, rfl, h2⟩ := wayF_split l a h
  rw [mset_app, bset_tb]
  constructor
  · exact fun q => ⟨List.mem_append_left _ q, (h2 i q).1⟩
  · rintro ⟨h3, h4⟩
    rcases List.mem_append.mp h3 with h3 | h3
    · exact h3
    · exact absurd (List.mem_singleton.mp h3) h4
/-- without one of them -/
theorem ends_less (w : WF v) {x y T c : Nat} (hx : x < v 0 0) (hy : y < v 0 0) (hxy : x ≠ y) (hc : c ≠ y) : (ends v x (sdf (car v T) (2 ^ c))).testBit y = true ↔ ∃ l, l ∈ aw v x y T 0 ∧ (mset l).testBit c = false := by
  rw [ends_iff w hx hy hxy (sdf_lt (car_lt w T))]
  have hp : ∀ z, z < v 0 0 → (sdf (car v T) (2 ^ c)).testBit z = (pF v T 0 z && z != c) := fun z hz => by
    rw [sdf_tb, car_tb hz, tb_pow]
    show (mayB v z T && _) = (mayB v z T && _)
    congr 1
    by_cases e : c = z
    · subst e; simp
    · rw [decide_eq_false e, bne_iff_ne.mpr (fun q : z = c => e q.symm)]
      rfl
  constructor
  · rintro ⟨l, hl⟩
    obtain ⟨l', h1, h2, -⟩ := way_simple (w := fun _ => 1) (fun _ => Nat.le_refl _) l x hl
    have h3 := wayF_cong w hp l' x h1
    have h4 : wayF x y (met v) (pF v T 0) (muteB v) x l' := by
      have : ∀ (l : List Nat) (a : Nat), wayF x y (met v) (fun z => pF v T 0 z && z != c) (muteB v) a l → wayF x y (met v) (pF v T 0) (muteB v) a l := by
        intro l
        induction l with
        | nil => intro _ h; exact h
        | cons z l ih =>
          intro a h
          refine ⟨h.1, ?_⟩
          rcases h.2 with e | ⟨e1, e2, e3⟩
          · exact Or.inl e
          · refine Or.inr ⟨e1, ?_, ih z e3⟩
            unfold okS at e2 ⊢
            rw [Bool.and_eq_true, Bool.and_eq_true, Bool.and_eq_true] at e2
            rw [Bool.and_eq_true, Bool.and_eq_true]
            exact ⟨⟨e2.1.1, e2.1.2.1⟩, e2.2⟩
      exact this l' x h3
    refine ⟨l', (mem_aw w hx hy hxy).mpr ⟨h4, h2⟩, ?_⟩
    cases q : (mset l').testBit c with
    | false => rfl
    | true =>
      have := ((mset_way h4).mp q).1
      rcases wayF_mem h3 c this with e | ⟨-, -, e⟩
      · exact absurd e hc
      · simp at e
  · rintro ⟨l, hl, hm⟩
    have h1 := ((mem_aw w hx hy hxy).mp hl).1
    have hcl : c ∉ l := fun q => by
      have := (mset_way h1).mpr ⟨q, hc⟩
      rw [hm] at this
      cases this
    have : ∀ (l : List Nat) (a : Nat), c ∉ l → wayF x y (met v) (pF v T 0) (muteB v) a l → wayF x y (met v) (fun z => (sdf (car v T) (2 ^ c)).testBit z) (muteB v) a l := by
      intro l
      induction l with
      | nil => intro _ _ h; exact h
      | cons z l ih =>
        intro a hc h
        have hz := (met_lt w h.1).2.1
        refine ⟨h.1, ?_⟩
        rcases h.2 with e | ⟨e1, e2, e3⟩
        · exact Or.inl e
        · refine Or.inr ⟨e1, ?_, ih z (fun q => hc (List.mem_cons_of_mem _ q)) e3⟩
          unfold okS at e2 ⊢
          dsimp only
          rw [hp z hz]
          rw [Bool.and_eq_true, Bool.and_eq_true] at e2
          rw [Bool.and_eq_true, Bool.and_eq_true, Bool.and_eq_true, bne_iff_ne (a := z) (b := c)]
          exact ⟨⟨e2.1.1, e2.1.2, fun e => hc (e ▸ List.mem_cons_self)⟩, e2.2⟩
    exact ⟨l, this l x hcl h1⟩
end AW
