/-! SOUNDNESS of the reflected machine, one instruction at a time -/
/-- the locals as the machine has them -/
def al_has (B : Nat) (ls : Array Slot) (nL : Nat) (L : Loca) : Prop := L.length = nL ∧ ls.size = nL ∧ lv_wf ls ∧ ∀ i v, lget L i = some v → ls[i]? = some (.val (cv B v))
theorem cv_cat (B : Nat) (v : Value) : (cv B v).category = v.category := by cases v <;> rfl
theorem lget_none {L : Loca} {i : Nat} (h : L.length ≤ i) : lget L i = none := by
  induction L generalizing i with
  | nil => rfl
  | cons a t ih =>
    cases i with
    | zero => simp at h
    | succ i => exact ih (by simpa using h)
theorem lset_len (L : Loca) (i : Nat) (v : Option Value) : (lset L i v).length = L.length := by
  induction L generalizing i with
  | nil => rfl
  | cons a t ih =>
    cases i with
    | zero => rfl
    | succ i => simp [lset, ih]
theorem lget_lset_eq {L : Loca} {i : Nat} (v : Option Value) (h : i < L.length) : lget (lset L i v) i = v := by
  induction L generalizing i with
  | nil => simp at h
  | cons a t ih =>
    cases i with
    | zero => rfl
    | succ i => exact ih (by simpa using h)
theorem lget_lset_ne {L : Loca} {i j : Nat} (v : Option Value) (h : j ≠ i) : lget (lset L i v) j = lget L j := by
  induction L generalizing i j with
  | nil => rfl
  | cons a t ih =>
    cases i with
    | zero =>
      cases j with
      | zero => exact absurd rfl h
      | succ j => rfl
    | succ i =>
      cases j with
      | zero => rfl
      | succ j => exact ih (fun e => h (by rw [e]))
/-- the list of what is known, as the kit has it -/
def al_l (B : Nat) (L : Loca) : List (Nat × Value) := (List.range L.length).filterMap fun i => (lget L i).map fun v => (i, cv B v)
theorem al_mem {B : Nat} {L : Loca} {i : Nat} {v : Value} : (i, v) ∈ al_l B L ↔ ∃ u, lget L i = some u ∧ v = cv B u := by
  unfold al_l
  rw [List.mem_filterMap]
  constructor
  · rintro ⟨j, -, hj⟩
    cases hl : lget L j with
    | none => rw [hl] at hj; cases hj
    | some u =>
      rw [hl] at hj
      cases hj
      exact ⟨u, hl, rfl⟩
  · rintro ⟨u, hu, rfl⟩
    refine ⟨i, ?_, by rw [hu]; rfl⟩
    rw [List.mem_range]
    rcases Nat.lt_or_ge i L.length with h | h
    · exact h
    · rw [lget_none h] at hu; cases hu
theorem al_lv {B : Nat} {ls : Array Slot} {nL : Nat} {L : Loca} (h : al_has B ls nL L) : lv_has ls nL (al_l B L) := by
  refine ⟨h.2.1, h.2.2.1, fun q hq => ?_⟩
  obtain ⟨i, v⟩ := q
  obtain ⟨u, hu, rfl⟩ := al_mem.mp hq
  exact h.2.2.2 i u hu
theorem al_sto1 {B : Nat} {ls' : Array Slot} {nL : Nat} {L : Loca} {i : Nat} {v : Value} (hL : L.length = nL) (hf : lfree L i = true)
    (h : lv_has ls' nL ((i, cv B v) :: (al_l B L).filter (fun q => !(q.1 == i) && !(q.1 + 1 == i && q.2.category == 2)))) : al_has B ls' nL (lsto1 L i v) := by
  refine ⟨by rw [lsto1, lset_len]; exact hL, h.1, h.2.1, fun j u hj => ?_⟩
  by_cases e : j = i
  · subst e
    unfold lsto1 at hj
    by_cases hl : j < L.length
    · rw [lget_lset_eq _ hl] at hj
      cases hj
      exact h.2.2 _ List.mem_cons_self
    · rw [lget_none (by rw [lset_len]; omega)] at hj
      cases hj
  · unfold lsto1 at hj
    rw [lget_lset_ne _ e] at hj
    refine h.2.2 (j, cv B u) (List.mem_cons_of_mem _ (List.mem_filter.mpr ⟨al_mem.mpr ⟨u, hj, rfl⟩, ?_⟩))
    simp only [Bool.and_eq_true, Bool.not_eq_true', beq_eq_false_iff_ne, ne_eq, Bool.and_eq_false_iff]
    refine ⟨e, ?_⟩
    by_cases e2 : j + 1 = i
    · right
      subst e2
      rw [lfree, hj] at hf
      rw [cv_cat]
      cases u <;> simp_all [Value.category]
    · exact Or.inl e2
theorem al_sto2 {B : Nat} {ls' : Array Slot} {nL : Nat} {L : Loca} {i : Nat} {v : Value} (hL : L.length = nL) (hf : lfree L i = true)
    (h : lv_has ls' nL ((i, cv B v) :: (al_l B L).filter (fun q => !(q.1 == i) && (!(q.1 == i + 1) && !(q.1 + 1 == i && q.2.category == 2))))) : al_has B ls' nL (lsto2 L i v) := by
  refine ⟨by rw [lsto2, lset_len, lset_len]; exact hL, h.1, h.2.1, fun j u hj => ?_⟩
  by_cases e : j = i
  · subst e
    unfold lsto2 at hj
    by_cases hl : j < L.length
    · rw [lget_lset_eq _ (by rw [lset_len]; exact hl)] at hj
      cases hj
      exact h.2.2 _ List.mem_cons_self
    · rw [lget_none (by rw [lset_len, lset_len]; omega)] at hj
      cases hj
  · unfold lsto2 at hj
    rw [lget_lset_ne _ e] at hj
    have e3 : j ≠ i + 1 := by
      intro q
      subst q
      by_cases hl : i + 1 < L.length
      · rw [lget_lset_eq _ hl] at hj; cases hj
      · rw [lget_none (by rw [lset_len]; omega)] at hj; cases hj
    rw [lget_lset_ne _ e3] at hj
    refine h.2.2 (j, cv B u) (List.mem_cons_of_mem _ (List.mem_filter.mpr ⟨al_mem.mpr ⟨u, hj, rfl⟩, ?_⟩))
    simp only [Bool.and_eq_true, Bool.not_eq_true', beq_eq_false_iff_ne, ne_eq, Bool.and_eq_false_iff]
    refine ⟨e, e3, ?_⟩
    by_cases e2 : j + 1 = i
    · right
      subst e2
      rw [lfree, hj] at hf
      rw [cv_cat]
      cases u <;> simp_all [Value.category]
    · exact Or.inl e2
section AT
variable (p : Program) (l : Launch) (e : Env) (R : Room) (s : State) (m : MethodId) (args : Array Value) (below : List Frame) (meth : Method) (c : Code) (B nL : Nat) (H0 : Heap) (cells slots : Nat) (Q : State → Prop)
/-- from here, over every heap of the world X, the machine comes to Q -/
def At (X : Heap → Prop) (pc : Nat) (L : Loca) (st : List Value) : Prop := ∀ (H : Heap) (locs : List Loc) (ls : Array Slot), X H → va_S (fun q => B ≤ q) H0 H locs → al_has B ls nL L → W p l e R s m args below meth c H locs cells slots Q (F0 m pc ls (st.map (cv B)))
end AT
theorem At.mono {p : Program} {l : Launch} {e : Env} {R : Room} {s : State} {m : MethodId} {args : Array Value} {below : List Frame} {meth : Method} {c : Code} {B nL : Nat} {H0 : Heap} {cells slots : Nat} {Q : State → Prop} {X : Heap → Prop} {pc : Nat} {L L' : Loca} {st : List Value}
    (h : At p l e R s m args below meth c B nL H0 cells slots Q X pc L st) (hL : L.length = nL) (hl : ∀ i v, lget L i = some v → lget L' i = some v) : At p l e R s m args below meth c B nL H0 cells slots Q X pc L' st :=
  fun H locs ls hX hS ha => h H locs ls hX hS ⟨hL, ha.2.1, ha.2.2.1, fun i v hv => ha.2.2.2 i v (hl i v hv)⟩
