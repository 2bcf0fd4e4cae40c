/-! WAYS as lists of hands behind the first one -/
def okS (x : Nat) (p u : Nat → Bool) (a z : Nat) : Bool := z != x && p z && (!u z || a == x)
def wayF (x y : Nat) (m : Nat → Nat → Bool) (p u : Nat → Bool) : Nat → List Nat → Prop
  | _, [] => False
  | a, z :: l => m a z = true ∧ ((z = y ∧ l = []) ∨ (z ≠ y ∧ okS x p u a z = true ∧ wayF x y m p u z l))
/-- the weight of those between -/
def wt (w : Nat → Nat) : List Nat → Nat
  | [] => 0
  | [_] => 0
  | z :: q :: l => w z + wt w (q :: l)
section WAYF
variable {x y : Nat} {m : Nat → Nat → Bool} {p u : Nat → Bool}
theorem wayF_ne {a : Nat} {l : List Nat} (h : wayF x y m p u a l) : l ≠ [] := by
  intro e
  subst e
  exact h
theorem wt_cons {w : Nat → Nat} {z : Nat} {l : List Nat} (h : l ≠ []) : wt w (z :: l) = w z + wt w l := by
  cases l with
  | nil => exact absurd rfl h
  | cons q l => rfl
theorem wt_suffix {w : Nat → Nat} {l : List Nat} (h : l ≠ []) : ∀ s : List Nat, wt w l ≤ wt w (s ++ l)
  | [] => Nat.le_refl _
  | z :: s => by
    have := wt_suffix (w := w) h s
    rw [List.cons_append, wt_cons (by simp [h])]
    omega
theorem wayF_suffix {z : Nat} {r : List Nat} (hz : z ≠ y) : ∀ (s : List Nat) (b : Nat), wayF x y m p u b (s ++ z :: r) → wayF x y m p u z r
  | [], b, h => by
    rcases h.2 with ⟨e, -⟩ | ⟨-, -, h⟩
    · exact absurd e hz
    · exact h
  | c :: s, b, h => by
    rcases h.2 with ⟨-, e⟩ | ⟨-, -, h⟩
    · simp at e
    · exact wayF_suffix hz s c h
/-- y stands at the end alone -/
theorem wayF_split : ∀ (l : List Nat) (a : Nat), wayF x y m p u a l → ∃ s, l = s ++ [y] ∧ (∀ z ∈ s, z ≠ y ∧ z ≠ x ∧ p z = true)
  | [], a, h => absurd h (by intro h; exact h)
  | z :: l, a, h => by
    rcases h.2 with ⟨e1, e2⟩ | ⟨e1, e2, h⟩
    · subst e1; subst e2
      exact ⟨[], rfl, fun _ q => absurd q List.not_mem_nil⟩
    · obtain ⟨s, h1, h2⟩ := wayF_split l z h
      refine ⟨z :: s, by rw [h1]; rfl, fun q hq => ?_⟩
      rcases List.mem_cons.mp hq with rfl | hq
      · unfold okS at e2
        rw [Bool.and_eq_true, Bool.and_eq_true, bne_iff_ne] at e2
        exact ⟨e1, e2.1.1, e2.1.2⟩
      · exact h2 q hq
theorem wayF_mem {a : Nat} {l : List Nat} (h : wayF x y m p u a l) : ∀ z ∈ l, z = y ∨ (z ≠ y ∧ z ≠ x ∧ p z = true) := by
  obtain ⟨s, rfl, h2⟩ := wayF_split l a h
  intro z hz
  rcases List.mem_append.mp hz with hz | hz
  · exact Or.inr (h2 z hz)
  · exact Or.inl (by simpa using hz)
theorem wayF_lt {n : Nat} (hm : ∀ a b, m a b = true → b < n) : ∀ (l : List Nat) (a : Nat), wayF x y m p u a l → ∀ z ∈ l, z < n
  | [], a, h => absurd h (by intro h; exact h)
  | z :: l, a, h => by
    intro q hq
    rcases List.mem_cons.mp hq with rfl | hq
    · exact hm _ _ h.1
    · rcases h.2 with ⟨e1, e2⟩ | ⟨e1, e2, h⟩
      · subst e2
        exact absurd hq List.not_mem_nil
      · exact wayF_lt hm l z h q hq
theorem way_simple {w : Nat → Nat} (hw : ∀ z, 1 ≤ w z) : ∀ (l : List Nat) (a : Nat), wayF x y m p u a l → ∃ l', wayF x y m p u a l' ∧ l'.Nodup ∧ (∀ z ∈ l', z ∈ l) ∧ (l' = l ∨ wt w l' < wt w l) ∧ (l.length = 1 ↔ l'.length = 1 ∨ l.length = 1)
  | [], a, h => absurd h (by intro h; exact h)
  | z :: t, a, h => by
    rcases h.2 with ⟨e1, e2⟩ | ⟨e1, e2, h3⟩
    · subst e2
      exact ⟨[z], h, by simp, fun _ q => q, Or.inl rfl, by simp⟩
    · obtain ⟨t', h4, h5, h6, h7, -⟩ := way_simple hw t z h3
      have n1 := wayF_ne h3
      have n2 := wayF_ne h4
      have hle : wt w t' ≤ wt w t := by
        rcases h7 with e | e
        · rw [e]; exact Nat.le_refl _
        · omega
      by_cases c : z ∈ t'
      · obtain ⟨s, r, rfl⟩ := List.append_of_mem c
        have h8 := wayF_suffix e1 s z h4
        have n3 := wayF_ne h8
        refine ⟨z :: r, ⟨h.1, Or.inr ⟨e1, e2, h8⟩⟩, (List.nodup_append.mp h5).2.1, fun q hq => ?_, Or.inr ?_, ?_⟩
        · rcases List.mem_cons.mp hq with rfl | hq
          · exact List.mem_cons_self
          · exact List.mem_cons_of_mem _ (h6 q (List.mem_append_right _ (List.mem_cons_of_mem _ hq)))
        · have := wt_suffix (w := w) (l := z :: r) (by simp) s
          rw [wt_cons n3] at this
          rw [wt_cons n3, wt_cons n1]
          have := hw z
          omega
        · constructor
          · intro q; exact Or.inr q
          · rintro (q | q)
            · simp only [List.length_cons] at q
              exact absurd (List.eq_nil_of_length_eq_zero (by omega)) n3
            · exact q
      · refine ⟨z :: t', ⟨h.1, Or.inr ⟨e1, e2, h4⟩⟩, List.nodup_cons.mpr ⟨c, h5⟩, fun q hq => ?_, ?_, ?_⟩
        · rcases List.mem_cons.mp hq with rfl | hq
          · exact List.mem_cons_self
          · exact List.mem_cons_of_mem _ (h6 q hq)
        · rcases h7 with e | e
          · exact Or.inl (by rw [e])
          · right
            rw [wt_cons n1, wt_cons n2]
            omega
        · constructor
          · intro q; exact Or.inr q
          · rintro (q | q)
            · simp only [List.length_cons] at q
              exact absurd (List.eq_nil_of_length_eq_zero (by omega)) n2
            · exact q
end WAYF
theorem nodup_filter (l : List Nat) (c : Nat) (h : l.Nodup) : l.length ≤ (l.filter (fun z => z != c)).length + 1 := by
  induction l with
  | nil => exact Nat.zero_le _
  | cons a l ih =>
    rw [List.nodup_cons] at h
    by_cases e : a = c
    · subst e
      have : l.filter (fun z => z != a) = l := List.filter_eq_self.mpr fun z hz => bne_iff_ne.mpr fun q => h.1 (q ▸ hz)
      rw [List.filter_cons_of_neg (by simp), this]
      simp
    · rw [List.filter_cons_of_pos (by simpa using e)]
      have := ih h.2
      simp only [List.length_cons]
      omega
/-- at most n different ones below n -/
theorem pigeon : ∀ (n : Nat) (l : List Nat), l.Nodup → (∀ z ∈ l, z < n) → l.length ≤ n
  | 0, l, _, h => by
    cases l with
    | nil => exact Nat.le_refl _
    | cons a l => exact absurd (h a List.mem_cons_self) (Nat.not_lt_zero a)
  | n + 1, l, hd, h => by
    have h1 := nodup_filter l n hd
    have h2 := pigeon n (l.filter (fun z => z != n)) (List.Pairwise.filter _ hd) (fun z hz => by
      rw [List.mem_filter, bne_iff_ne] at hz
      have := h z hz.1
      omega)
    omega
/-- a mute -/
def muteB (v : LV) (z : Nat) : Bool := v 1 z == 4
theorem muts_tb {v : LV} {z : Nat} (hz : z < v 0 0) : (muts v).testBit z = muteB v z := by
  unfold muts
  rw [ms_tb, decide_eq_true hz, Bool.true_and, isO_4]
  rfl
section ENDS
variable {v : LV}
theorem okS_tb {x op a z : Nat} (hz : z < v 0 0) : okS x (fun i => op.testBit i) (muteB v) a z = true ↔ (sdf op (2 ^ x)).testBit z = true ∧ (muteB v z = false ∨ a = x) := by
  unfold okS
  rw [sdf_tb, tb_pow]
  simp only [Bool.and_eq_true, bne_iff_ne, Bool.or_eq_true, Bool.not_eq_true', beq_iff_eq, decide_eq_false_iff_not]
  constructor
  · rintro ⟨⟨h1, h2⟩, h3⟩
    exact ⟨⟨h2, fun e => h1 e.symm⟩, h3⟩
  · rintro ⟨⟨h1, h2⟩, h3⟩
    exact ⟨⟨fun e => h2 e.symm, h1⟩, h3⟩
theorem ends_iff (w : WF v) {x y op : Nat} (hx : x < v 0 0) (hy : y < v 0 0) (hxy : x ≠ y) (ho : op < 2 ^ 7) : (ends v x op).testBit y = true ↔ ∃ l, wayF x y (met v) (fun i => op.testBit i) (muteB v) x l := by
  have hn := w.1
  have hS : ms 7 (met v x) &&& sdf op (2 ^ x) < 2 ^ 7 := and_lt _ (ms_lt 7 _)
  have hSt : ∀ i, (ms 7 (met v x) &&& sdf op (2 ^ x)).testBit i = true ↔ met v x i = true ∧ (sdf op (2 ^ x)).testBit i = true := fun i => by
    rw [Nat.testBit_and, ms_tb, Bool.and_eq_true, Bool.and_eq_true, decide_eq_true_eq]
    constructor
    · exact fun q => ⟨q.1.2, q.2⟩
    · exact fun q => ⟨⟨by have := (met_lt w q.1).2.1; omega, q.1⟩, q.2⟩
  have hLt : ∀ i, i < v 0 0 → ((sdf (sdf op (2 ^ x)) (muts v)).testBit i = true ↔ (sdf op (2 ^ x)).testBit i = true ∧ muteB v i = false) := fun i hi => by
    rw [sdf_tb (sdf op (2 ^ x)), muts_tb hi, Bool.and_eq_true, Bool.not_eq_true']
  unfold ends
  rw [sdf_tb, Nat.testBit_or, tb_pow, decide_eq_false hxy, Bool.not_false, Bool.and_true, Bool.or_eq_true, ms_tb, decide_eq_true (by omega), Bool.true_and, orM_tb]
  constructor
  · rintro (q | ⟨-, b, hb, q1, q2⟩)
    · exact ⟨[y], q, Or.inl ⟨rfl, rfl⟩⟩
    · have H := cl_least (n := v 0 0) (m := met v) (S := ms 7 (met v x) &&& sdf op (2 ^ x)) (lt := sdf (sdf op (2 ^ x)) (muts v)) (P := fun b => (∃ l, wayF x y (met v) (fun i => op.testBit i) (muteB v) x l) ∨ (b ≠ y ∧ ∀ l', wayF x y (met v) (fun i => op.testBit i) (muteB v) b l' → ∃ l, wayF x y (met v) (fun i => op.testBit i) (muteB v) x l)) ?_ ?_ 7 b q1
      · rcases H with H | ⟨-, H⟩
        · exact H
        · exact H [y] ⟨q2, Or.inl ⟨rfl, rfl⟩⟩
      · intro i hi
        obtain ⟨a1, a2⟩ := (hSt i).mp hi
        by_cases e : i = y
        · subst e
          exact Or.inl ⟨[i], a1, Or.inl ⟨rfl, rfl⟩⟩
        · exact Or.inr ⟨e, fun l' hl => ⟨i :: l', a1, Or.inr ⟨e, (okS_tb (met_lt w a1).2.1).mpr ⟨a2, Or.inr rfl⟩, hl⟩⟩⟩
      · intro c i hc hP hm hl
        rcases hP with hP | ⟨-, hP⟩
        · exact Or.inl hP
        · by_cases e : i = y
          · subst e
            exact Or.inl (hP [i] ⟨hm, Or.inl ⟨rfl, rfl⟩⟩)
          · have hi := (met_lt w hm).2.1
            obtain ⟨a1, a2⟩ := (hLt i hi).mp hl
            exact Or.inr ⟨e, fun l' hl' => hP (i :: l') ⟨hm, Or.inr ⟨e, (okS_tb hi).mpr ⟨a1, Or.inl a2⟩, hl'⟩⟩⟩
  · rintro ⟨l, hl⟩
    have H : ∀ (l : List Nat) (a : Nat), (a = x ∨ (a ≠ x ∧ a < v 0 0 ∧ (cl (v 0 0) (met v) (ms 7 (met v x) &&& sdf op (2 ^ x)) (sdf (sdf op (2 ^ x)) (muts v)) 7).testBit a = true)) → wayF x y (met v) (fun i => op.testBit i) (muteB v) a l → (met v x y = true ∨ y < 7 ∧ ∃ b, b < v 0 0 ∧ (cl (v 0 0) (met v) (ms 7 (met v x) &&& sdf op (2 ^ x)) (sdf (sdf op (2 ^ x)) (muts v)) 7).testBit b = true ∧ met v b y = true) := by
      intro l
      induction l with
      | nil => intro a _ h; exact absurd h (by intro h; exact h)
      | cons z l ih =>
        intro a ha h
        have hz := (met_lt w h.1).2.1
        rcases h.2 with ⟨e1, -⟩ | ⟨e1, e2, h3⟩
        · subst e1
          rcases ha with rfl | ⟨-, ha1, ha2⟩
          · exact Or.inl h.1
          · exact Or.inr ⟨by omega, a, ha1, ha2, h.1⟩
        · obtain ⟨a1, a2⟩ := (okS_tb hz).mp e2
          have hzx : z ≠ x := by
            intro e
            subst e
            rw [sdf_tb, tb_pow] at a1
            simp at a1
          refine ih z (Or.inr ⟨hzx, hz, ?_⟩) h3
          rcases ha with rfl | ⟨ha0, ha1, ha2⟩
          · exact cl_S ((hSt z).mpr ⟨h.1, a1⟩)
          · exact cl_closed hS ha1 ha2 h.1 ((hLt z hz).mpr ⟨a1, a2.resolve_right ha0⟩) (by omega)
    exact H l x (Or.inl rfl) hl
/-- over hands between -/
theorem over_iff (w : WF v) {x y op : Nat} (hx : x < v 0 0) (hy : y < v 0 0) (ho : op < 2 ^ 7) (hox : op.testBit x = false) (hoy : op.testBit y = false) : (cl (v 0 0) (met v) (ms 7 (met v x) &&& op) (sdf op (muts v)) 7 &&& ms 7 (met v y)) ≠ 0 ↔ ∃ l, wayF x y (met v) (fun i => op.testBit i) (muteB v) x l ∧ 2 ≤ l.length := by
  have hn := w.1
  have hS : ms 7 (met v x) &&& op < 2 ^ 7 := and_lt _ (ms_lt 7 _)
  have hSt : ∀ i, (ms 7 (met v x) &&& op).testBit i = true ↔ met v x i = true ∧ op.testBit i = true := fun i => by
    rw [Nat.testBit_and, ms_tb, Bool.and_eq_true, Bool.and_eq_true, decide_eq_true_eq]
    constructor
    · exact fun q => ⟨q.1.2, q.2⟩
    · exact fun q => ⟨⟨by have := (met_lt w q.1).2.1; omega, q.1⟩, q.2⟩
  have hLt : ∀ i, i < v 0 0 → ((sdf op (muts v)).testBit i = true ↔ op.testBit i = true ∧ muteB v i = false) := fun i hi => by
    rw [sdf_tb, muts_tb hi, Bool.and_eq_true, Bool.not_eq_true']
  have hok : ∀ a z, okS x (fun i => op.testBit i) (muteB v) a z = true ↔ op.testBit z = true ∧ (muteB v z = false ∨ a = x) := fun a z => by
    unfold okS
    simp only [Bool.and_eq_true, bne_iff_ne, Bool.or_eq_true, Bool.not_eq_true', beq_iff_eq]
    constructor
    · rintro ⟨⟨h1, h2⟩, h3⟩
      exact ⟨h2, h3⟩
    · rintro ⟨h1, h3⟩
      exact ⟨⟨fun e => (by rw [e, hox] at h1; exact Bool.noConfusion h1), h1⟩, h3⟩
  constructor
  · intro hne
    have : ∃ b, ((cl (v 0 0) (met v) (ms 7 (met v x) &&& op) (sdf op (muts v)) 7 &&& ms 7 (met v y))).testBit b = true := Classical.byContradiction fun q => hne (Nat.eq_of_testBit_eq fun i => by
      rw [Nat.zero_testBit]
      cases c : ((cl (v 0 0) (met v) (ms 7 (met v x) &&& op) (sdf op (muts v)) 7 &&& ms 7 (met v y))).testBit i with
      | false => rfl
      | true => exact absurd ⟨i, c⟩ q)
    obtain ⟨b, hb⟩ := this
    rw [Nat.testBit_and, ms_tb, Bool.and_eq_true, Bool.and_eq_true] at hb
    obtain ⟨hb1, -, hb2⟩ := hb
    rw [met_symm] at hb2
    have H := cl_least (n := v 0 0) (m := met v) (S := ms 7 (met v x) &&& op) (lt := sdf op (muts v)) (P := fun b => ∀ l', wayF x y (met v) (fun i => op.testBit i) (muteB v) b l' → ∃ l, wayF x y (met v) (fun i => op.testBit i) (muteB v) x l ∧ 2 ≤ l.length) ?_ ?_ 7 b hb1
    · exact H [y] ⟨hb2, Or.inl ⟨rfl, rfl⟩⟩
    · intro i hi l' hl
      obtain ⟨a1, a2⟩ := (hSt i).mp hi
      have e : i ≠ y := fun e => by rw [e, hoy] at a2; cases a2
      have := wayF_ne hl
      refine ⟨i :: l', ⟨a1, Or.inr ⟨e, (hok x i).mpr ⟨a2, Or.inr rfl⟩, hl⟩⟩, ?_⟩
      cases l' with
      | nil => exact absurd rfl this
      | cons _ _ => simp
    · intro c i hc hP hm hl l' hl'
      have hi := (met_lt w hm).2.1
      obtain ⟨a1, a2⟩ := (hLt i hi).mp hl
      have e : i ≠ y := fun e => by rw [e, hoy] at a1; cases a1
      exact hP (i :: l') ⟨hm, Or.inr ⟨e, (hok c i).mpr ⟨a1, Or.inl a2⟩, hl'⟩⟩
  · rintro ⟨l, hl, h2⟩
    have H : ∀ (l : List Nat) (a : Nat), (a < v 0 0 ∧ (cl (v 0 0) (met v) (ms 7 (met v x) &&& op) (sdf op (muts v)) 7).testBit a = true) → wayF x y (met v) (fun i => op.testBit i) (muteB v) a l → ∃ b, b < v 0 0 ∧ (cl (v 0 0) (met v) (ms 7 (met v x) &&& op) (sdf op (muts v)) 7).testBit b = true ∧ met v b y = true := by
      intro l
      induction l with
      | nil => intro a _ h; exact absurd h (by intro h; exact h)
      | cons z l ih =>
        intro a ha h
        have hz := (met_lt w h.1).2.1
        rcases h.2 with ⟨e1, -⟩ | ⟨e1, e2, h3⟩
        · subst e1
          exact ⟨a, ha.1, ha.2, h.1⟩
        · obtain ⟨a1, a2⟩ := (hok a z).mp e2
          refine ih z ⟨hz, ?_⟩ h3
          rcases a2 with a2 | a2
          · exact cl_closed hS ha.1 ha.2 h.1 ((hLt z hz).mpr ⟨a1, a2⟩) (by omega)
          · subst a2
            exact cl_S ((hSt z).mpr ⟨h.1, a1⟩)
    have : ∃ b, b < v 0 0 ∧ (cl (v 0 0) (met v) (ms 7 (met v x) &&& op) (sdf op (muts v)) 7).testBit b = true ∧ met v b y = true := by
      cases l with
      | nil => exact absurd hl (by intro h; exact h)
      | cons z l =>
        have hz := (met_lt w hl.1).2.1
        rcases hl.2 with ⟨e1, e2⟩ | ⟨e1, e2, h3⟩
        · subst e2
          simp at h2
        · exact H l z ⟨hz, cl_S ((hSt z).mpr ⟨hl.1, ((hok x z).mp e2).1⟩)⟩ h3
    obtain ⟨b, hb, h3, h4⟩ := this
    intro e
    have : ((cl (v 0 0) (met v) (ms 7 (met v x) &&& op) (sdf op (muts v)) 7 &&& ms 7 (met v y))).testBit b = true := by
      rw [Nat.testBit_and, h3, ms_tb, decide_eq_true (by omega), met_symm, h4]
      rfl
    rw [e, Nat.zero_testBit] at this
    cases this
end ENDS
