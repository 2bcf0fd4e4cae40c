/-! MENGER: as many ways apart as the fewest that part them (after Goering's proof, by the number of arcs) -/
def pw (E : List (Nat × Nat)) : List Nat → Prop
  | [] => True
  | [_] => True
  | a :: b :: l => (a, b) ∈ E ∧ pw E (b :: l)
def isP (E : List (Nat × Nat)) (A B : Nat → Bool) (p : List Nat) : Prop := pw E p ∧ (∃ a t, p = a :: t ∧ A a = true) ∧ (∃ t b, p = t ++ [b] ∧ B b = true)
def sepr (E : List (Nat × Nat)) (A B S : Nat → Bool) : Prop := ∀ p, isP E A B p → ∃ z, z ∈ p ∧ S z = true
def apt (p q : List Nat) : Prop := ∀ z, z ∈ p → z ∉ q
section MENGER
variable {E : List (Nat × Nat)}
theorem pw_app {z : Nat} {r : List Nat} : ∀ s, pw E (s ++ z :: r) ↔ pw E (s ++ [z]) ∧ pw E (z :: r)
  | [] => ⟨fun h => ⟨trivial, h⟩, fun h => h.2⟩
  | [a] => ⟨fun h => ⟨⟨h.1, trivial⟩, h.2⟩, fun h => ⟨h.1.1, h.2⟩⟩
  | a :: b :: s => by
    have ih := pw_app (z := z) (r := r) (b :: s)
    constructor
    · rintro ⟨h1, h2⟩
      obtain ⟨h3, h4⟩ := ih.mp h2
      exact ⟨⟨h1, h3⟩, h4⟩
    · rintro ⟨⟨h1, h2⟩, h3⟩
      exact ⟨h1, ih.mpr ⟨h2, h3⟩⟩
theorem pw_mono {E' : List (Nat × Nat)} (h : ∀ e, e ∈ E' → e ∈ E) : ∀ p, pw E' p → pw E p
  | [], _ => trivial
  | [_], _ => trivial
  | _ :: b :: l, q => ⟨h _ q.1, pw_mono h (b :: l) q.2⟩
theorem pw_no_u {u w z : Nat} : ∀ s, pw ((u, w) :: E) (s ++ [z]) → (∀ q ∈ s, q ≠ u) → pw E (s ++ [z])
  | [], _, _ => trivial
  | [a], h, n => by
    rcases List.mem_cons.mp h.1 with e | e
    · exact absurd (Prod.mk.inj e).1 (n a List.mem_cons_self)
    · exact ⟨e, trivial⟩
  | a :: b :: s, h, n => by
    refine ⟨?_, pw_no_u (b :: s) h.2 (fun q hq => n q (List.mem_cons_of_mem _ hq))⟩
    rcases List.mem_cons.mp h.1 with e | e
    · exact absurd (Prod.mk.inj e).1 (n a List.mem_cons_self)
    · exact e
theorem pw_no_w {u w : Nat} : ∀ (r : List Nat) (z : Nat), pw ((u, w) :: E) (z :: r) → (∀ q ∈ r, q ≠ w) → pw E (z :: r)
  | [], _, _, _ => trivial
  | b :: r, z, h, n => by
    refine ⟨?_, pw_no_w r b h.2 (fun q hq => n q (List.mem_cons_of_mem _ hq))⟩
    rcases List.mem_cons.mp h.1 with e | e
    · exact absurd (Prod.mk.inj e).2 (n b List.mem_cons_self)
    · exact e
theorem first_in {X : Nat → Bool} : ∀ (p : List Nat), (∃ z, z ∈ p ∧ X z = true) → ∃ s z r, p = s ++ z :: r ∧ X z = true ∧ ∀ q ∈ s, X q = false
  | [], h => by obtain ⟨z, h, -⟩ := h; cases h
  | a :: p, h => by
    by_cases c : X a = true
    · exact ⟨[], a, p, rfl, c, fun _ q => absurd q List.not_mem_nil⟩
    · obtain ⟨z, h1, h2⟩ := h
      rcases List.mem_cons.mp h1 with rfl | h1
      · exact absurd h2 c
      · obtain ⟨s, z, r, e1, e2, e3⟩ := first_in p ⟨z, h1, h2⟩
        refine ⟨a :: s, z, r, by rw [e1]; rfl, e2, fun q hq => ?_⟩
        rcases List.mem_cons.mp hq with rfl | hq
        · simpa using c
        · exact e3 q hq
theorem last_in {X : Nat → Bool} : ∀ (p : List Nat), (∃ z, z ∈ p ∧ X z = true) → ∃ s z r, p = s ++ z :: r ∧ X z = true ∧ ∀ q ∈ r, X q = false
  | [], h => by obtain ⟨z, h, -⟩ := h; cases h
  | a :: p, h => by
    by_cases c : ∃ z, z ∈ p ∧ X z = true
    · obtain ⟨s, z, r, e1, e2, e3⟩ := last_in p c
      exact ⟨a :: s, z, r, by rw [e1]; rfl, e2, e3⟩
    · obtain ⟨z, h1, h2⟩ := h
      rcases List.mem_cons.mp h1 with rfl | h1
      · exact ⟨[], z, p, rfl, h2, fun q hq => by
          cases d : X q with
          | false => rfl
          | true => exact absurd ⟨q, hq, d⟩ c⟩
      · exact absurd ⟨z, h1, h2⟩ c
theorem sub_len : ∀ (l r : List Nat), l.Nodup → (∀ z ∈ l, z ∈ r) → l.length ≤ r.length
  | [], _, _, _ => Nat.zero_le _
  | a :: l, r, h, hs9 => by
    rw [List.nodup_cons] at h
    have ha := hs9 a List.mem_cons_self
    have h1 := sub_len l (r.erase a) h.2 (fun z hz => (List.mem_erase_of_ne (fun e : z = a => h.1 (e ▸ hz))).mpr (hs9 z (List.mem_cons_of_mem _ hz)))
    rw [List.length_erase_of_mem ha] at h1
    have : 1 ≤ r.length := List.length_pos_of_mem ha
    simp only [List.length_cons]
    omega
theorem all_in {l r : List Nat} (h : l.Nodup) (hs9 : ∀ z ∈ l, z ∈ r) (hr : r.length ≤ l.length) : ∀ z ∈ r, z ∈ l := fun z hz => Classical.byContradiction fun q => by
  have := sub_len (z :: l) r (List.nodup_cons.mpr ⟨q, h⟩) (fun y hy => by
    rcases List.mem_cons.mp hy with rfl | hy
    · exact hz
    · exact hs9 y hy)
  simp only [List.length_cons] at this
  omega
theorem range_s (n : Nat) : List.range (n + 1) = List.range n ++ [n] := List.range_succ
theorem cnt_filter (S : Nat → Bool) : ∀ n, ((List.range n).filter S).length = cnt n S
  | 0 => rfl
  | n + 1 => by
    rw [range_s, List.filter_append, List.length_append, cnt_filter S n, cnt_s]
    by_cases c : S n = true
    · rw [List.filter_cons_of_pos c, if_pos c]; rfl
    · rw [List.filter_cons_of_neg c, if_neg c]; rfl
theorem cnt_one (S : Nat → Bool) (u : Nat) : ∀ n, cnt n (fun z => S z || z == u) ≤ cnt n S + (if u < n then 1 else 0) ∧ (S u = true → cnt n (fun z => S z || z == u) = cnt n S)
  | 0 => ⟨Nat.zero_le _, fun _ => rfl⟩
  | n + 1 => by
    obtain ⟨h1, h2⟩ := cnt_one S u n
    rw [cnt_s, cnt_s]
    by_cases e : n = u
    · subst e
      rw [if_neg (Nat.lt_irrefl n)] at h1
      rw [if_pos (Nat.lt_succ_self n)]
      simp only [beq_self_eq_true, Bool.or_true, if_true]
      refine ⟨?_, fun q => ?_⟩
      · split <;> omega
      · rw [if_pos q, h2 q]
    · simp only [beq_eq_false_iff_ne.mpr e, Bool.or_false]
      refine ⟨?_, fun q => ?_⟩
      · have : (if u < n then 1 else 0) ≤ (if u < n + 1 then 1 else 0) := by
          split
          · rw [if_pos (by omega)]; exact Nat.le_refl _
          · exact Nat.zero_le _
        split <;> omega
      · rw [h2 q]
theorem nodup_range (S : Nat → Bool) (n : Nat) : ((List.range n).filter S).Nodup := List.Pairwise.filter _ List.nodup_range
theorem app_last {l r : List Nat} {a b : Nat} (h : l ++ [a] = r ++ [b]) : a = b := by
  have := (List.append_inj' h rfl).2
  simpa using this
theorem apt_symm {p q : List Nat} (h : apt p q) : apt q p := fun z h1 h2 => h z h2 h1
theorem pair_all {α : Type} {R : α → α → Prop} (hs9 : ∀ a b, R a b → R b a) : ∀ {L : List α}, L.Pairwise R → ∀ a, a ∈ L → ∀ b, b ∈ L → a ≠ b → R a b
  | [], _, a, ha, _, _, _ => by cases ha
  | c :: L, h, a, ha, b, hb, hne => by
    rw [List.pairwise_cons] at h
    rcases List.mem_cons.mp ha with e | ha <;> rcases List.mem_cons.mp hb with e' | hb
    · exact absurd (e.trans e'.symm) hne
    · rw [e]; exact h.1 b hb
    · rw [e']; exact hs9 _ _ (h.1 a ha)
    · exact pair_all hs9 h.2 a ha b hb hne
/-- what a family of paths apart, one for each member of X, is -/
def famX (E : List (Nat × Nat)) (A X : Nat → Bool) (N : Nat) (D : Nat → List Nat) : Prop := ∀ s, s < N → X s = true → (isP E A X (D s ++ [s]) ∧ (∀ q ∈ D s, X q = false)) ∧ ∀ s', s' < N → X s' = true → s ≠ s' → apt (D s ++ [s]) (D s' ++ [s'])
theorem fam {A X : Nat → Bool} {N k : Nat} {L : List (List Nat)} (hN : ∀ p, p ∈ L → ∀ s, s ∈ p → s < N) (hk : cnt N X = k) (hl : L.length = k) (hP : ∀ p ∈ L, isP E A X p) (hD : L.Pairwise apt) : ∃ D : Nat → List Nat, famX E A X N D := by
  have hcut : ∀ p, p ∈ L → ∃ d s, (isP E A X (d ++ [s]) ∧ (∀ q ∈ d, X q = false)) ∧ X s = true ∧ s < N ∧ ∀ z, z ∈ d ++ [s] → z ∈ p := by
    intro p hp
    obtain ⟨h1, ⟨a, t, h2, h3⟩, ⟨t', b, h4, h5⟩⟩ := hP p hp
    obtain ⟨d, s, r, e1, e2, e3⟩ := first_in p ⟨b, by rw [h4]; simp, h5⟩
    have hs9 : s ∈ p := by rw [e1]; simp
    refine ⟨d, s, ⟨⟨?_, ?_, ⟨d, s, rfl, e2⟩⟩, e3⟩, e2, hN p hp s hs9, fun z hz => ?_⟩
    · rw [e1] at h1
      exact ((pw_app d).mp h1).1
    · rw [e1] at h2
      cases d with
      | nil =>
        have e9 : s = a := (List.cons.inj h2).1
        exact ⟨s, [], rfl, e9 ▸ h3⟩
      | cons c d =>
        have e9 : c = a := (List.cons.inj h2).1
        exact ⟨c, d ++ [s], rfl, e9 ▸ h3⟩
    · rw [e1]
      rcases List.mem_append.mp hz with hz | hz
      · exact List.mem_append_left _ hz
      · rw [List.mem_singleton] at hz
        subst hz
        simp
  have hends : ∀ M : List (List Nat), (∀ p ∈ M, p ∈ L) → M.Pairwise apt → ∃ es : List (List Nat × Nat), es.length = M.length ∧ es.Pairwise (fun a b => apt (a.1 ++ [a.2]) (b.1 ++ [b.2])) ∧ ∀ e ∈ es, ((isP E A X (e.1 ++ [e.2]) ∧ (∀ q ∈ e.1, X q = false)) ∧ X e.2 = true ∧ e.2 < N) ∧ ∃ p, p ∈ M ∧ ∀ z, z ∈ e.1 ++ [e.2] → z ∈ p := by
    intro M
    induction M with
    | nil => intro _ _; exact ⟨[], rfl, List.Pairwise.nil, fun _ q => absurd q List.not_mem_nil⟩
    | cons p M ih =>
      intro h1 h2
      rw [List.pairwise_cons] at h2
      obtain ⟨es, a1, a2, a3⟩ := ih (fun q hq => h1 q (List.mem_cons_of_mem _ hq)) h2.2
      obtain ⟨d, s, b1, b2, b3, b4⟩ := hcut p (h1 p List.mem_cons_self)
      refine ⟨(d, s) :: es, by simp [a1], List.pairwise_cons.mpr ⟨fun e he z hz hz' => ?_, a2⟩, fun e he => ?_⟩
      · obtain ⟨-, p', c1, c2⟩ := a3 e he
        exact h2.1 p' c1 z (b4 z hz) (c2 z hz')
      · rcases List.mem_cons.mp he with rfl | he
        · exact ⟨⟨b1, b2, b3⟩, p, List.mem_cons_self, b4⟩
        · obtain ⟨c0, p', c1, c2⟩ := a3 e he
          exact ⟨c0, p', List.mem_cons_of_mem _ c1, c2⟩
  obtain ⟨es, a1, a2, a3⟩ := hends L (fun _ q => q) hD
  have hnd : (es.map (fun e => e.2)).Nodup := by
    have := a2
    clear a1 a3
    induction es with
    | nil => exact List.nodup_nil
    | cons e es ih =>
      rw [List.pairwise_cons] at a2
      rw [List.map_cons, List.nodup_cons]
      refine ⟨fun q => ?_, ih a2.2 a2.2⟩
      obtain ⟨e', he', h9⟩ := List.mem_map.mp q
      exact a2.1 e' he' e.2 (by simp) (by rw [← h9]; simp)
  have hall := all_in (r := (List.range N).filter X) hnd (fun s hs9 => by
    obtain ⟨e, he, rfl⟩ := List.mem_map.mp hs9
    exact List.mem_filter.mpr ⟨List.mem_range.mpr (a3 e he).1.2.2, (a3 e he).1.2.1⟩) (by rw [cnt_filter, hk, List.length_map, a1, hl]; exact Nat.le_refl _)
  have hex : ∀ s, ∃ d, s < N → X s = true → (d, s) ∈ es := by
    intro s
    by_cases c : s < N ∧ X s = true
    · obtain ⟨e, he, e2⟩ := List.mem_map.mp (hall s (List.mem_filter.mpr ⟨List.mem_range.mpr c.1, c.2⟩))
      exact ⟨e.1, fun _ _ => by rw [← e2]; exact he⟩
    · exact ⟨[], fun q1 q2 => absurd ⟨q1, q2⟩ c⟩
  refine ⟨fun s => Classical.choose (hex s), fun s h1 h2 => ?_⟩
  have g1 := Classical.choose_spec (hex s) h1 h2
  refine ⟨(a3 _ g1).1.1, fun s' h3 h4 h5 => ?_⟩
  have g2 := Classical.choose_spec (hex s') h3 h4
  exact pair_all (R := fun a b : List Nat × Nat => apt (a.1 ++ [a.2]) (b.1 ++ [b.2])) (fun a b q => apt_symm q) a2 _ g1 _ g2 (fun e => h5 (congrArg Prod.snd e))
/-- likewise, that begin in it -/
def famY (E : List (Nat × Nat)) (Y B : Nat → Bool) (N : Nat) (D : Nat → List Nat) : Prop := ∀ s, s < N → Y s = true → (isP E Y B (s :: D s) ∧ (∀ q ∈ D s, Y q = false)) ∧ ∀ s', s' < N → Y s' = true → s ≠ s' → apt (s :: D s) (s' :: D s')
theorem fam2 {Y B : Nat → Bool} {N k : Nat} {L : List (List Nat)} (hN : ∀ p, p ∈ L → ∀ s, s ∈ p → s < N) (hk : cnt N Y = k) (hl : L.length = k) (hP : ∀ p ∈ L, isP E Y B p) (hD : L.Pairwise apt) : ∃ D : Nat → List Nat, famY E Y B N D := by
  have hcut : ∀ p, p ∈ L → ∃ d s, (isP E Y B (s :: d) ∧ (∀ q ∈ d, Y q = false)) ∧ Y s = true ∧ s < N ∧ ∀ z, z ∈ s :: d → z ∈ p := by
    intro p hp
    obtain ⟨h1, ⟨a, t, h2, h3⟩, ⟨t', b, h4, h5⟩⟩ := hP p hp
    obtain ⟨r, s, d, e1, e2, e3⟩ := last_in p ⟨a, by rw [h2]; simp, h3⟩
    have hs9 : s ∈ p := by rw [e1]; simp
    refine ⟨d, s, ⟨⟨?_, ⟨s, d, rfl, e2⟩, ?_⟩, e3⟩, e2, hN p hp s hs9, fun z hz => ?_⟩
    · rw [e1] at h1
      exact ((pw_app r).mp h1).2
    · rw [e1] at h4
      rcases List.eq_nil_or_concat d with e | ⟨d', c, e⟩
      · subst e
        have e9 : s = b := by
          have := congrArg List.getLast? h4
          simpa using this
        exact ⟨[], s, rfl, e9 ▸ h5⟩
      · subst e
        have e9 : c = b := app_last (l := r ++ s :: d') (r := t') (by rw [← h4]; simp)
        exact ⟨s :: d', c, by simp, e9 ▸ h5⟩
    · rw [e1]
      exact List.mem_append_right _ hz
  have hends : ∀ M : List (List Nat), (∀ p ∈ M, p ∈ L) → M.Pairwise apt → ∃ es : List (List Nat × Nat), es.length = M.length ∧ es.Pairwise (fun a b => apt (a.2 :: a.1) (b.2 :: b.1)) ∧ ∀ e ∈ es, ((isP E Y B (e.2 :: e.1) ∧ (∀ q ∈ e.1, Y q = false)) ∧ Y e.2 = true ∧ e.2 < N) ∧ ∃ p, p ∈ M ∧ ∀ z, z ∈ e.2 :: e.1 → z ∈ p := by
    intro M
    induction M with
    | nil => intro _ _; exact ⟨[], rfl, List.Pairwise.nil, fun _ q => absurd q List.not_mem_nil⟩
    | cons p M ih =>
      intro h1 h2
      rw [List.pairwise_cons] at h2
      obtain ⟨es, a1, a2, a3⟩ := ih (fun q hq => h1 q (List.mem_cons_of_mem _ hq)) h2.2
      obtain ⟨d, s, b1, b2, b3, b4⟩ := hcut p (h1 p List.mem_cons_self)
      refine ⟨(d, s) :: es, by simp [a1], List.pairwise_cons.mpr ⟨fun e he z hz hz' => ?_, a2⟩, fun e he => ?_⟩
      · obtain ⟨-, p', c1, c2⟩ := a3 e he
        exact h2.1 p' c1 z (b4 z hz) (c2 z hz')
      · rcases List.mem_cons.mp he with rfl | he
        · exact ⟨⟨b1, b2, b3⟩, p, List.mem_cons_self, b4⟩
        · obtain ⟨c0, p', c1, c2⟩ := a3 e he
          exact ⟨c0, p', List.mem_cons_of_mem _ c1, c2⟩
  obtain ⟨es, a1, a2, a3⟩ := hends L (fun _ q => q) hD
  have hnd : (es.map (fun e => e.2)).Nodup := by
    clear a1 a3
    induction es with
    | nil => exact List.nodup_nil
    | cons e es ih =>
      rw [List.pairwise_cons] at a2
      rw [List.map_cons, List.nodup_cons]
      refine ⟨fun q => ?_, ih a2.2⟩
      obtain ⟨e', he', h9⟩ := List.mem_map.mp q
      exact a2.1 e' he' e.2 (by simp) (by rw [← h9]; simp)
  have hall := all_in (r := (List.range N).filter Y) hnd (fun s hs9 => by
    obtain ⟨e, he, rfl⟩ := List.mem_map.mp hs9
    exact List.mem_filter.mpr ⟨List.mem_range.mpr (a3 e he).1.2.2, (a3 e he).1.2.1⟩) (by rw [cnt_filter, hk, List.length_map, a1, hl]; exact Nat.le_refl _)
  have hex : ∀ s, ∃ d, s < N → Y s = true → (d, s) ∈ es := by
    intro s
    by_cases c : s < N ∧ Y s = true
    · obtain ⟨e, he, e2⟩ := List.mem_map.mp (hall s (List.mem_filter.mpr ⟨List.mem_range.mpr c.1, c.2⟩))
      exact ⟨e.1, fun _ _ => by rw [← e2]; exact he⟩
    · exact ⟨[], fun q1 q2 => absurd ⟨q1, q2⟩ c⟩
  refine ⟨fun s => Classical.choose (hex s), fun s h1 h2 => ?_⟩
  have g1 := Classical.choose_spec (hex s) h1 h2
  refine ⟨(a3 _ g1).1.1, fun s' h3 h4 h5 => ?_⟩
  have g2 := Classical.choose_spec (hex s') h3 h4
  exact pair_all (R := fun a b : List Nat × Nat => apt (a.2 :: a.1) (b.2 :: b.1)) (fun a b q => apt_symm q) a2 _ g1 _ g2 (fun e => h5 (congrArg Prod.snd e))
theorem pw_lt {N : Nat} (hE : ∀ a b, (a, b) ∈ E → a < N ∧ b < N) : ∀ (p : List Nat), pw E p → (∀ a t, p = a :: t → a < N) → ∀ z ∈ p, z < N
  | [], _, _, z, h => by cases h
  | [a], _, h0, z, h => by rw [List.mem_singleton] at h; rw [h]; exact h0 a [] rfl
  | a :: b :: l, hp, h0, z, h => by
    rcases List.mem_cons.mp h with e | h
    · rw [e]; exact (hE _ _ hp.1).1
    · exact pw_lt hE (b :: l) hp.2 (fun c t e => by rw [← (List.cons.inj e).1]; exact (hE _ _ hp.1).2) z h
theorem menger (N : Nat) : ∀ (E : List (Nat × Nat)) (A B : Nat → Bool) (k : Nat), (∀ a b, (a, b) ∈ E → a < N ∧ b < N) → (∀ a, A a = true → a < N) → (∀ a, B a = true → a < N) → (∀ S, sepr E A B S → k ≤ cnt N S) → ∃ L : List (List Nat), L.length = k ∧ (∀ p ∈ L, isP E A B p) ∧ L.Pairwise apt
  | [], A, B, k, _, hA, hB, hS => by
    have h1 := hS (fun z => A z && B z) (by
      rintro p ⟨h1, ⟨a, t, h2, h3⟩, ⟨t', b, h4, h5⟩⟩
      cases t with
      | nil =>
        subst h2
        have e9 : a = b := by
          have := congrArg List.getLast? h4
          simpa using this
        exact ⟨a, List.mem_cons_self, by
          show (A a && B a) = true
          rw [h3, Bool.true_and, e9]
          exact h5⟩
      | cons c t =>
        subst h2
        exact absurd h1.1 List.not_mem_nil)
    refine ⟨(((List.range N).filter (fun z => A z && B z)).take k).map (fun z => [z]), ?_, fun p hp => ?_, ?_⟩
    · rw [List.length_map, List.length_take, cnt_filter]
      omega
    · obtain ⟨z, hz, rfl⟩ := List.mem_map.mp hp
      have := (List.mem_filter.mp (List.mem_of_mem_take hz)).2
      rw [Bool.and_eq_true] at this
      exact ⟨trivial, ⟨z, [], rfl, this.1⟩, ⟨[], z, rfl, this.2⟩⟩
    · rw [List.pairwise_map]
      have := (nodup_range (fun z => A z && B z) N).sublist (List.take_sublist k _)
      exact List.Pairwise.imp (fun {a b} hne z hz hz' => by
        rw [List.mem_singleton] at hz hz'
        exact hne (hz.symm.trans hz')) this
  | (u, w) :: E, A, B, k, hE, hA, hB, hS => by
    have hE' : ∀ a b, (a, b) ∈ E → a < N ∧ b < N := fun a b q => hE a b (List.mem_cons_of_mem _ q)
    have huN := (hE u w List.mem_cons_self).1
    have hwN := (hE u w List.mem_cons_self).2
    by_cases hall : ∀ S, sepr E A B S → k ≤ cnt N S
    · obtain ⟨L, h1, h2, h3⟩ := menger N E A B k hE' hA hB hall
      exact ⟨L, h1, fun p hp => ⟨pw_mono (fun e q => List.mem_cons_of_mem _ q) p (h2 p hp).1, (h2 p hp).2⟩, h3⟩
    · obtain ⟨S, hSs, hSk⟩ : ∃ S, sepr E A B S ∧ cnt N S < k := Classical.byContradiction fun q => hall fun S h => Classical.byContradiction fun z => q ⟨S, h, by omega⟩
      -- with either end of the arc it parts in the larger graph
      have hXs : sepr ((u, w) :: E) A B (fun z => S z || z == u) := by
        rintro p ⟨h1, ⟨a, t, h2, h3⟩, ⟨t', b, h4, h5⟩⟩
        by_cases c : u ∈ p
        · exact ⟨u, c, by simp⟩
        · obtain ⟨z, z1, z2⟩ := hSs p ⟨by
            rw [h4] at h1 c ⊢
            exact pw_no_u t' h1 (fun q hq e => c (by rw [← e]; exact List.mem_append_left _ hq)), ⟨a, t, h2, h3⟩, ⟨t', b, h4, h5⟩⟩
          exact ⟨z, z1, by show (S z || z == u) = true; rw [z2]; rfl⟩
      have hYs : sepr ((u, w) :: E) A B (fun z => S z || z == w) := by
        rintro p ⟨h1, ⟨a, t, h2, h3⟩, ⟨t', b, h4, h5⟩⟩
        by_cases c : w ∈ p
        · exact ⟨w, c, by simp⟩
        · obtain ⟨z, z1, z2⟩ := hSs p ⟨by
            rw [h2] at h1 c ⊢
            exact pw_no_w t a h1 (fun q hq e => c (by rw [← e]; exact List.mem_cons_of_mem _ hq)), ⟨a, t, h2, h3⟩, ⟨t', b, h4, h5⟩⟩
          exact ⟨z, z1, by show (S z || z == w) = true; rw [z2]; rfl⟩
      have kX := hS _ hXs
      have kY := hS _ hYs
      have cX := cnt_one S u N
      have cY := cnt_one S w N
      rw [if_pos huN] at cX
      rw [if_pos hwN] at cY
      have hSu : S u = false := by
        cases c : S u with
        | false => rfl
        | true => have := cX.2 c; omega
      have hSw : S w = false := by
        cases c : S w with
        | false => rfl
        | true => have := cY.2 c; omega
      have eX : cnt N (fun z => S z || z == u) = k := by omega
      have eY : cnt N (fun z => S z || z == w) = k := by omega
      -- from A on to these
      obtain ⟨L1, p1, p2, p3⟩ := menger N E A (fun z => (S z || z == u) && decide (z < N)) k hE' hA (fun a q => by
          rw [Bool.and_eq_true, decide_eq_true_eq] at q
          exact q.2) (fun T hT => hS T (by
          rintro p ⟨h1, ⟨a, t, h2, h3⟩, h4⟩
          have hlt := pw_lt hE p h1 (fun c t' e => by rw [h2] at e; rw [← (List.cons.inj e).1]; exact hA a h3)
          obtain ⟨s, z, r, e1, e2, e3⟩ := first_in p (hXs p ⟨h1, ⟨a, t, h2, h3⟩, h4⟩)
          have hz : z ∈ p := by rw [e1]; simp
          rw [e1] at h1
          have h5 := ((pw_app s).mp h1).1
          obtain ⟨y, y1, y2⟩ := hT (s ++ [z]) ⟨pw_no_u s h5 (fun q hq e => by
              have := e3 q hq
              rw [e] at this
              simp at this), by
              rw [e1] at h2
              cases s with
              | nil => exact ⟨z, [], rfl, by rw [(List.cons.inj h2).1]; exact h3⟩
              | cons c s => exact ⟨c, s ++ [z], rfl, by rw [(List.cons.inj h2).1]; exact h3⟩, ⟨s, z, rfl, by
                rw [Bool.and_eq_true, decide_eq_true_eq]
                exact ⟨e2, hlt z hz⟩⟩⟩
          refine ⟨y, ?_, y2⟩
          rw [e1]
          rcases List.mem_append.mp y1 with y1 | y1
          · exact List.mem_append_left _ y1
          · rw [List.mem_singleton] at y1; rw [y1]; simp))
      obtain ⟨L2, q1, q2, q3⟩ := menger N E (fun z => (S z || z == w) && decide (z < N)) B k hE' (fun a q => by
          rw [Bool.and_eq_true, decide_eq_true_eq] at q
          exact q.2) hB (fun T hT => hS T (by
          rintro p ⟨h1, ⟨a, t, h2, h3⟩, ⟨t', b, h4, h4'⟩⟩
          have hlt := pw_lt hE p h1 (fun c t' e => by rw [h2] at e; rw [← (List.cons.inj e).1]; exact hA a h3)
          obtain ⟨s, z, r, e1, e2, e3⟩ := last_in p (hYs p ⟨h1, ⟨a, t, h2, h3⟩, ⟨t', b, h4, h4'⟩⟩)
          have hz : z ∈ p := by rw [e1]; simp
          rw [e1] at h1
          have h5 := ((pw_app s).mp h1).2
          obtain ⟨y, y1, y2⟩ := hT (z :: r) ⟨pw_no_w r z h5 (fun q hq e => by
              have := e3 q hq
              rw [e] at this
              simp at this), ⟨z, r, rfl, by
                rw [Bool.and_eq_true, decide_eq_true_eq]
                exact ⟨e2, hlt z hz⟩⟩, by
              rw [e1] at h4
              rcases List.eq_nil_or_concat r with e | ⟨r', c, e⟩
              · subst e
                have e9 : z = b := by
                  have := congrArg List.getLast? h4
                  simpa using this
                exact ⟨[], z, rfl, e9 ▸ h4'⟩
              · subst e
                have e9 : c = b := app_last (l := s ++ z :: r') (r := t') (by rw [← h4]; simp)
                exact ⟨z :: r', c, by simp, e9 ▸ h4'⟩⟩
          exact ⟨y, by rw [e1]; exact List.mem_append_right _ y1, y2⟩))
      have eX' : cnt N (fun z => (S z || z == u) && decide (z < N)) = k := by
        rw [← eX]
        exact cnt_cong fun i hi => by rw [decide_eq_true hi, Bool.and_true]
      have eY' : cnt N (fun z => (S z || z == w) && decide (z < N)) = k := by
        rw [← eY]
        exact cnt_cong fun i hi => by rw [decide_eq_true hi, Bool.and_true]
      obtain ⟨D1, d1⟩ := fam (fun p hp => pw_lt hE' p (p2 p hp).1 (fun c t e => by
        obtain ⟨a, t', h2, h3⟩ := (p2 p hp).2.1
        rw [h2] at e
        rw [← (List.cons.inj e).1]
        exact hA a h3)) eX' p1 p2 p3
      obtain ⟨D2, d2⟩ := fam2 (fun p hp => pw_lt hE' p (q2 p hp).1 (fun c t e => by
        obtain ⟨a, t', h2, h3⟩ := (q2 p hp).2.1
        rw [h2] at e
        rw [← (List.cons.inj e).1]
        rw [Bool.and_eq_true, decide_eq_true_eq] at h3
        exact h3.2)) eY' q1 q2 q3
      -- the two families meet in S alone, at their ends
      have meetS : ∀ s t z, s < N → (S s || s == u) = true → t < N → (S t || t == w) = true → z ∈ D1 s ++ [s] → z ∈ t :: D2 t → S z = true ∧ z = s ∧ z = t := by
        intro s t z hs9 hsX ht htY hz hz'
        obtain ⟨⟨⟨a1, a2, a3⟩, a4⟩, -⟩ := d1 s hs9 (by rw [Bool.and_eq_true, decide_eq_true_eq]; exact ⟨hsX, hs9⟩)
        obtain ⟨⟨⟨b1, b2, b3⟩, b4⟩, -⟩ := d2 t ht (by rw [Bool.and_eq_true, decide_eq_true_eq]; exact ⟨htY, ht⟩)
        have hltA := pw_lt hE' (D1 s ++ [s]) a1 (fun c t' e => by
          obtain ⟨a, t'', h2, h3⟩ := a2
          rw [h2] at e
          rw [← (List.cons.inj e).1]
          exact hA a h3)
        have hltB := pw_lt hE' (t :: D2 t) b1 (fun c t' e => by rw [← (List.cons.inj e).1]; exact ht)
        obtain ⟨s1, s2, e1⟩ := List.append_of_mem hz
        obtain ⟨t1, t2, e2⟩ := List.append_of_mem hz'
        have hpath : isP E A B (s1 ++ z :: t2) := by
          refine ⟨(pw_app s1).mpr ⟨?_, ?_⟩, ?_, ?_⟩
          · rw [e1] at a1
            exact ((pw_app s1).mp a1).1
          · rw [e2] at b1
            exact ((pw_app t1).mp b1).2
          · obtain ⟨a, t', h2, h3⟩ := a2
            rw [e1] at h2
            cases s1 with
            | nil => exact ⟨z, t2, rfl, by rw [(List.cons.inj h2).1]; exact h3⟩
            | cons c s1 => exact ⟨c, s1 ++ z :: t2, rfl, by rw [(List.cons.inj h2).1]; exact h3⟩
          · obtain ⟨t', b, h4, h4'⟩ := b3
            rw [e2] at h4
            rcases List.eq_nil_or_concat t2 with e | ⟨r', c, e⟩
            · subst e
              have e9 : z = b := by
                have := congrArg List.getLast? h4
                simpa using this
              exact ⟨s1, z, rfl, e9 ▸ h4'⟩
            · subst e
              have e9 : c = b := app_last (l := t1 ++ z :: r') (r := t') (by rw [← h4]; simp)
              exact ⟨s1 ++ z :: r', c, by simp, e9 ▸ h4'⟩
        obtain ⟨y, y1, y2⟩ := hSs _ hpath
        -- what comes ahead of the last is not of X
        have noX : ∀ q, q ∈ s1 → S q = false := fun q hq => by
          have hq2 : q ∈ D1 s := by
            have : s1 ++ z :: s2 = D1 s ++ [s] := e1.symm
            rcases List.eq_nil_or_concat s2 with e | ⟨r', c, e⟩
            · subst e
              have := (List.append_inj' this rfl).1
              rw [← this]; exact hq
            · subst e
              have h9 : (s1 ++ z :: r') ++ [c] = D1 s ++ [s] := by rw [← this]; simp
              have := (List.append_inj' h9 rfl).1
              rw [← this]; exact List.mem_append_left _ hq
          have := a4 q hq2
          dsimp only at this
          rw [decide_eq_true (hltA q (List.mem_append_left _ hq2)), Bool.and_true, Bool.or_eq_false_iff] at this
          exact this.1
        have noY : ∀ q, q ∈ t2 → S q = false := fun q hq => by
          have hq2 : q ∈ D2 t := by
            cases t1 with
            | nil => rw [(List.cons.inj e2).2]; exact hq
            | cons c t1 => rw [(List.cons.inj e2).2]; exact List.mem_append_right _ (List.mem_cons_of_mem _ hq)
          have := b4 q hq2
          dsimp only at this
          rw [decide_eq_true (hltB q (List.mem_cons_of_mem _ hq2)), Bool.and_true, Bool.or_eq_false_iff] at this
          exact this.1
        have hzS : S z = true := by
          rcases List.mem_append.mp y1 with y1 | y1
          · rw [noX y y1] at y2; cases y2
          · rcases List.mem_cons.mp y1 with rfl | y1
            · exact y2
            · rw [noY y y1] at y2; cases y2
        refine ⟨hzS, ?_, ?_⟩
        · rcases List.mem_append.mp hz with hz | hz
          · have := a4 z hz
            dsimp only at this
            rw [hzS, decide_eq_true (hltA z (List.mem_append_left _ hz))] at this
            cases this
          · exact List.mem_singleton.mp hz
        · rcases List.mem_cons.mp hz' with hz' | hz'
          · exact hz'
          · have := b4 z hz'
            dsimp only at this
            rw [hzS, decide_eq_true (hltB z (List.mem_cons_of_mem _ hz'))] at this
            cases this
      -- joined
      have hX9 : ∀ s, s ∈ (List.range N).filter (fun z => S z || z == u) → s < N ∧ (S s || s == u) = true := fun s q => ⟨List.mem_range.mp (List.mem_filter.mp q).1, (List.mem_filter.mp q).2⟩
      have tgt : ∀ s, s < N → (S s || s == u) = true → (if s = u then w else s) < N ∧ (S (if s = u then w else s) || (if s = u then w else s) == w) = true := fun s h1 h2 => by
        by_cases c : s = u
        · rw [if_pos c]; exact ⟨hwN, by simp⟩
        · rw [if_neg c]
          refine ⟨h1, ?_⟩
          rw [beq_eq_false_iff_ne.mpr c, Bool.or_false] at h2
          rw [h2]; rfl
      refine ⟨((List.range N).filter (fun z => S z || z == u)).map (fun s => (D1 s ++ [s]) ++ (if s = u then w :: D2 w else D2 s)), ?_, fun p hp => ?_, ?_⟩
      · rw [List.length_map, cnt_filter, eX]
      · obtain ⟨s, hs9, rfl⟩ := List.mem_map.mp hp
        obtain ⟨hsN, hsX⟩ := hX9 s hs9
        obtain ⟨⟨⟨a1, a2, a3⟩, a4⟩, -⟩ := d1 s hsN (by rw [Bool.and_eq_true, decide_eq_true_eq]; exact ⟨hsX, hsN⟩)
        obtain ⟨htN, htY⟩ := tgt s hsN hsX
        obtain ⟨⟨⟨b1, b2, b3⟩, b4⟩, -⟩ := d2 _ htN (by rw [Bool.and_eq_true, decide_eq_true_eq]; exact ⟨htY, htN⟩)
        have mono := pw_mono (E := (u, w) :: E) (E' := E) (fun e q => List.mem_cons_of_mem _ q)
        obtain ⟨t', b, h4, h4'⟩ := b3
        by_cases c : s = u
        · subst c
          rw [if_pos rfl] at b1 h4
          simp only [if_true]
          refine ⟨?_, ?_, ⟨(D1 s ++ [s]) ++ t', b, by rw [h4]; simp, h4'⟩⟩
          · have e1 : (D1 s ++ [s]) ++ w :: D2 w = D1 s ++ s :: (w :: D2 w) := by simp
            rw [e1]
            exact (pw_app (D1 s)).mpr ⟨mono _ a1, List.mem_cons_self, mono _ b1⟩
          · obtain ⟨a, t'', h2, h3⟩ := a2
            exact ⟨a, t'' ++ w :: D2 w, by rw [h2]; rfl, h3⟩
        · rw [if_neg c] at b1 h4
          simp only [if_neg c]
          refine ⟨?_, ?_, ⟨D1 s ++ t', b, by
            rw [List.append_assoc, List.append_assoc, ← h4]; rfl, h4'⟩⟩
          · have e1 : (D1 s ++ [s]) ++ D2 s = D1 s ++ s :: D2 s := by simp
            rw [e1]
            exact (pw_app (D1 s)).mpr ⟨mono _ a1, mono _ b1⟩
          · obtain ⟨a, t'', h2, h3⟩ := a2
            exact ⟨a, t'' ++ D2 s, by rw [h2]; rfl, h3⟩
      · rw [List.pairwise_map]
        have hnd := nodup_range (fun z => S z || z == u) N
        refine List.Pairwise.imp_of_mem (fun {s s'} hs9 hs' hne => ?_) hnd
        obtain ⟨hsN, hsX⟩ := hX9 s hs9
        obtain ⟨hsN', hsX'⟩ := hX9 s' hs'
        obtain ⟨htN, htY⟩ := tgt s hsN hsX
        obtain ⟨htN', htY'⟩ := tgt s' hsN' hsX'
        have f1 := (d1 s hsN (by rw [Bool.and_eq_true, decide_eq_true_eq]; exact ⟨hsX, hsN⟩)).2 s' hsN' (by rw [Bool.and_eq_true, decide_eq_true_eq]; exact ⟨hsX', hsN'⟩) hne
        have tne : (if s = u then w else s) ≠ (if s' = u then w else s') := by
          by_cases c : s = u <;> by_cases c' : s' = u
          · exact absurd (c.trans c'.symm) hne
          · rw [if_pos c, if_neg c']
            intro e
            rw [← e, hSw] at hsX'
            simp at hsX'
            exact c' (by rw [← e]; exact hsX')
          · rw [if_neg c, if_pos c']
            intro e
            rw [e, hSw] at hsX
            simp at hsX
            exact c (by rw [e]; exact hsX)
          · rw [if_neg c, if_neg c']
            exact hne
        have f2 := (d2 _ htN (by rw [Bool.and_eq_true, decide_eq_true_eq]; exact ⟨htY, htN⟩)).2 _ htN' (by rw [Bool.and_eq_true, decide_eq_true_eq]; exact ⟨htY', htN'⟩) tne
        -- what is in the tail is in the second family's path; the tail's part apart from the first one's end
        have tail : ∀ s z, z ∈ (if s = u then w :: D2 w else D2 s) → z ∈ (if s = u then w else s) :: D2 (if s = u then w else s) := fun s z hz => by
          by_cases c : s = u
          · rw [if_pos c] at hz ⊢
            exact hz
          · rw [if_neg c] at hz ⊢
            exact List.mem_cons_of_mem _ hz
        have cross : ∀ s s', s < N → (S s || s == u) = true → s' < N → (S s' || s' == u) = true → s ≠ s' → ∀ z, z ∈ D1 s ++ [s] → z ∈ (if s' = u then w :: D2 w else D2 s') → False := by
          intro s s' hsN hsX hsN' hsX' hne z hz hz'
          obtain ⟨htN', htY'⟩ := tgt s' hsN' hsX'
          obtain ⟨g1, g2, g3⟩ := meetS s _ z hsN hsX htN' htY' hz (tail s' z hz')
          by_cases c : s' = u
          · rw [if_pos c] at g3
            rw [g3, hSw] at g1
            cases g1
          · rw [if_neg c] at g3
            exact hne (g2.symm.trans g3)
        intro z hz hz'
        rcases List.mem_append.mp hz with hz | hz <;> rcases List.mem_append.mp hz' with hz' | hz'
        · exact f1 z hz hz'
        · exact cross s s' hsN hsX hsN' hsX' hne z hz hz'
        · exact cross s' s hsN' hsX' hsN hsX (fun e => hne e.symm) z hz' hz
        · exact f2 z (tail s z hz) (tail s' z hz')
end MENGER
