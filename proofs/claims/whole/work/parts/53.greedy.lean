/-! from the weights ahead on to the first best way -/
section GREEDY
variable {n x y F : Nat} {m : Nat → Nat → Bool} {p u : Nat → Bool} {W A : Nat → Nat}
/-- the next one from a -/
def cand (x y : Nat) (m : Nat → Nat → Bool) (p u : Nat → Bool) (W A : Nat → Nat) (a z : Nat) : Bool := z != y && (m a z && okS x p u a z) && W z + A z == A a
def nxt (n x y : Nat) (m : Nat → Nat → Bool) (p u : Nat → Bool) (W A : Nat → Nat) (a : Nat) : Nat := if fst (cand x y m p u W A a) n < n then fst (cand x y m p u W A a) n else y
def gr (n x y : Nat) (m : Nat → Nat → Bool) (p u : Nat → Bool) (W A : Nat → Nat) : Nat → Nat → List Nat
  | 0, _ => []
  | k + 1, a => if nxt n x y m p u W A a = y then [y] else nxt n x y m p u W A a :: gr n x y m p u W A k (nxt n x y m p u W A a)
/-- the weights ahead are right -/
def AOK (n x y F : Nat) (m : Nat → Nat → Bool) (p u : Nat → Bool) (W A : Nat → Nat) : Prop := (∀ a, a < n → A a < F → ∃ l, wayF x y m p u a l ∧ wt W l = A a) ∧ (∀ a l, a < n → wayF x y m p u a l → A a ≤ wt W l)
theorem cand_iff {a z : Nat} : cand x y m p u W A a z = true ↔ z ≠ y ∧ m a z = true ∧ okS x p u a z = true ∧ W z + A z = A a := by
  unfold cand
  rw [Bool.and_eq_true, Bool.and_eq_true, Bool.and_eq_true, bne_iff_ne, beq_iff_eq, and_assoc, and_assoc]
theorem nxt_y (hm : ∀ a b, m a b = true → b < n) {a : Nat} : nxt n x y m p u W A a = y → ∀ z, cand x y m p u W A a z = false := by
  intro h z
  cases c : cand x y m p u W A a z with
  | false => rfl
  | true =>
    have hz := hm _ _ (cand_iff.mp c).2.1
    have h1 : fst (cand x y m p u W A a) n < n := Classical.byContradiction fun q => by
      have := fst_no (cand x y m p u W A a) n z (by have := fst_le (cand x y m p u W A a) n; omega)
      rw [this] at c
      cases c
    unfold nxt at h
    rw [if_pos h1] at h
    exact absurd h (cand_iff.mp (fst_yes _ n h1)).1
theorem nxt_c {a : Nat} (h : nxt n x y m p u W A a ≠ y) : cand x y m p u W A a (nxt n x y m p u W A a) = true ∧ ∀ z, z < nxt n x y m p u W A a → cand x y m p u W A a z = false := by
  unfold nxt at h ⊢
  by_cases c : fst (cand x y m p u W A a) n < n
  · rw [if_pos c] at h ⊢
    exact ⟨fst_yes _ n c, fun z hz => fst_no _ n z hz⟩
  · rw [if_neg c] at h
    exact absurd rfl h
theorem gr_way (hm : ∀ a b, m a b = true → b < n) (hW : ∀ z, 1 ≤ W z) (hA : AOK n x y F m p u W A) : ∀ (k a : Nat), a < n → A a < F → A a < k → wayF x y m p u a (gr n x y m p u W A k a) ∧ wt W (gr n x y m p u W A k a) = A a
  | 0, a, _, _, h => absurd h (Nat.not_lt_zero _)
  | k + 1, a, ha, hF, hk => by
    obtain ⟨h1, h2⟩ := hA
    unfold gr
    by_cases c : nxt n x y m p u W A a = y
    · rw [if_pos c]
      have hno := nxt_y hm c
      obtain ⟨l, h3, h4⟩ := h1 a ha hF
      cases l with
      | nil => exact absurd h3 (by intro h; exact h)
      | cons z l =>
        rcases h3.2 with ⟨e1, e2⟩ | ⟨e1, e2, h5⟩
        · subst e1; subst e2
          exact ⟨h3, h4⟩
        · exfalso
          have hz := hm _ _ h3.1
          have n1 := wayF_ne h5
          rw [wt_cons n1] at h4
          have b1 := h2 z l hz h5
          obtain ⟨l2, h6, h7⟩ := h1 z hz (by omega)
          have b2 := h2 a (z :: l2) ha ⟨h3.1, Or.inr ⟨e1, e2, h6⟩⟩
          rw [wt_cons (wayF_ne h6)] at b2
          have := hno z
          rw [cand_iff.mpr ⟨e1, h3.1, e2, by omega⟩] at this
          cases this
    · rw [if_neg c]
      have hc := cand_iff.mp (nxt_c c).1
      generalize nxt n x y m p u W A a = z at *
      have hz := hm _ _ hc.2.1
      have hw := hW z
      obtain ⟨g1, g2⟩ := gr_way hm hW ⟨h1, h2⟩ k z hz (by omega) (by omega)
      refine ⟨⟨hc.2.1, Or.inr ⟨hc.1, hc.2.2.1, g1⟩⟩, ?_⟩
      rw [wt_cons (wayF_ne g1), g2]
      exact hc.2.2.2
theorem gr_least (hm : ∀ a b, m a b = true → b < n) (hW : ∀ z, 1 ≤ W z) (hA : AOK n x y F m p u W A) : ∀ (k a : Nat) (l : List Nat), a < n → A a < F → A a < k → wayF x y m p u a l → wt W l = A a → l = gr n x y m p u W A k a ∨ lx (gr n x y m p u W A k a) l
  | 0, a, _, _, _, h, _, _ => absurd h (Nat.not_lt_zero _)
  | k + 1, a, [], _, _, _, h, _ => absurd h (by intro h; exact h)
  | k + 1, a, z :: l, ha, hF, hk, h, hw => by
    unfold gr
    rcases h.2 with ⟨e1, e2⟩ | ⟨e1, e2, h3⟩
    · subst e1; subst e2
      have h0 : A a = 0 := hw.symm
      have : nxt n x z m p u W A a = z := Classical.byContradiction fun q => by
        have := (cand_iff.mp (nxt_c q).1).2.2.2
        have := hW (nxt n x z m p u W A a)
        omega
      rw [if_pos this]
      exact Or.inl rfl
    · have hz := hm _ _ h.1
      have n1 := wayF_ne h3
      rw [wt_cons n1] at hw
      have b1 := hA.2 z l hz h3
      obtain ⟨l2, h6, h7⟩ := hA.1 z hz (by omega)
      have b2 := hA.2 a (z :: l2) ha ⟨h.1, Or.inr ⟨e1, e2, h6⟩⟩
      rw [wt_cons (wayF_ne h6)] at b2
      have hcz : cand x y m p u W A a z = true := cand_iff.mpr ⟨e1, h.1, e2, by omega⟩
      have c : nxt n x y m p u W A a ≠ y := fun q => by
        have := nxt_y hm q z
        rw [hcz] at this
        cases this
      rw [if_neg c]
      obtain ⟨c1, c2⟩ := nxt_c c
      have hle : nxt n x y m p u W A a ≤ z := Classical.byContradiction fun q => by
        have := c2 z (by omega)
        rw [hcz] at this
        cases this
      rcases Nat.lt_or_ge (nxt n x y m p u W A a) z with q | q
      · exact Or.inr (Or.inl q)
      · have e : nxt n x y m p u W A a = z := by omega
        rw [e]
        have := hW z
        rcases gr_least hm hW hA k z l hz (by omega) (by omega) h3 (by omega) with g | g
        · exact Or.inl (by rw [← g])
        · exact Or.inr (Or.inr ⟨rfl, g⟩)
/-- each step of it is the next one -/
def chn (y : Nat) (f : Nat → Nat) : Nat → List Nat → Prop
  | _, [] => True
  | a, z :: l => f a = z ∧ (z = y ∨ chn y f z l)
theorem gr_chn : ∀ (k a : Nat), chn y (nxt n x y m p u W A) a (gr n x y m p u W A k a)
  | 0, _ => trivial
  | k + 1, a => by
    unfold gr
    by_cases c : nxt n x y m p u W A a = y
    · rw [if_pos c]
      exact ⟨c, Or.inl rfl⟩
    · rw [if_neg c]
      exact ⟨rfl, Or.inr (gr_chn k _)⟩
theorem chn_at {f : Nat → Nat} : ∀ (l : List Nat) (a i : Nat), chn y f a l → (∀ j, j < i → l.getD j 0 ≠ y) → i < l.length → f ((a :: l).getD i 0) = l.getD i 0
  | [], _, _, _, _, h => absurd h (Nat.not_lt_zero _)
  | z :: l, a, 0, h, _, _ => h.1
  | z :: l, a, i + 1, h, hj, hl => by
    have h0 := hj 0 (by omega)
    have := chn_at l z i (h.2.resolve_left h0) (fun j q => hj (j + 1) (by omega)) (by simpa using hl)
    exact this
end GREEDY
/-- the two ways of weighing -/
theorem wt_both (w : Nat → Nat) : ∀ (l : List Nat), l ≠ [] → wt (fun z => w z * 16 + 1) l = 16 * wt w l + (l.length - 1)
  | [], h => absurd rfl h
  | [_], _ => rfl
  | z :: q :: l, _ => by
    have e1 : wt (fun z => w z * 16 + 1) (z :: q :: l) = w z * 16 + 1 + wt (fun z => w z * 16 + 1) (q :: l) := rfl
    have e2 : wt w (z :: q :: l) = w z + wt w (q :: l) := rfl
    rw [e1, e2, wt_both w (q :: l) (by simp)]
    simp only [List.length_cons]
    omega
theorem wt_bound {w : Nat → Nat} {b : Nat} (h : ∀ z, w z ≤ b) : ∀ l : List Nat, wt w l ≤ b * l.length
  | [] => Nat.le_refl _
  | [_] => Nat.zero_le _
  | z :: q :: l => by
    have h1 := h z
    have h2 := wt_bound h (q :: l)
    rw [wt_cons (by simp), List.length_cons, Nat.mul_add, Nat.mul_one]
    omega
/-- the greedy way is the first best of all -/
theorem greedy_best {v : LV} (w : WF v) {x y T fg : Nat} {A : Nat → Nat} (hx : x < v 0 0) (hy : y < v 0 0) (hxy : x ≠ y) (hA : AOK (v 0 0) x y 1000000 (met v) (pF v T fg) (muteB v) (fun z => prc v T z * 16 + 1) A) :
    (A x < 1000000 ↔ aw v x y T fg ≠ []) ∧ (A x < 1000000 → bestOf (prc v T) (aw v x y T fg) = some (gr (v 0 0) x y (met v) (pF v T fg) (muteB v) (fun z => prc v T z * 16 + 1) A 1000000 x) ∧ (gr (v 0 0) x y (met v) (pF v T fg) (muteB v) (fun z => prc v T z * 16 + 1) A 1000000 x) ∈ aw v x y T fg) := by
  have hn := w.1
  have hm : ∀ a b, met v a b = true → b < v 0 0 := fun a b q => (met_lt w q).2.1
  have hW : ∀ z, 1 ≤ (fun z => prc v T z * 16 + 1) z := fun z => Nat.le_add_left _ _
  have hlen : ∀ l, l ∈ aw v x y T fg → l.length + 1 ≤ v 0 0 := fun l hl => by
    obtain ⟨h1, h2⟩ := (mem_aw w hx hy hxy).mp hl
    have := pigeon (v 0 0) (x :: l) (List.nodup_cons.mpr ⟨fun q => by
      rcases wayF_mem h1 x q with e | e
      · exact hxy e
      · exact e.2.1 rfl, h2⟩) (fun z hz => by
      rcases List.mem_cons.mp hz with rfl | hz
      · exact hx
      · exact wayF_lt hm l x h1 z hz)
    simpa using this
  have first : A x < 1000000 ↔ aw v x y T fg ≠ [] := by
    rw [aw_ne w hx hy hxy]
    constructor
    · intro q
      obtain ⟨l, h1, -⟩ := hA.1 x hx q
      exact ⟨l, h1⟩
    · rintro ⟨l, hl⟩
      obtain ⟨l', h1, h2, -⟩ := way_simple hW l x hl
      have h3 := hA.2 x l' hx h1
      have h4 := hlen l' ((mem_aw w hx hy hxy).mpr ⟨h1, h2⟩)
      have h5 := wt_bound (w := fun z => prc v T z * 16 + 1) (b := 161) (fun z => by have := pop_le10 (brs v z T); show pop (brs v z T) * 16 + 1 ≤ 161; omega) l'
      omega
  refine ⟨first, fun q => ?_⟩
  obtain ⟨g1, g2⟩ := gr_way hm hW hA 1000000 x hx q q
  have gl := gr_least hm hW hA 1000000 x
  generalize gr (v 0 0) x y (met v) (pF v T fg) (muteB v) (fun z => prc v T z * 16 + 1) A 1000000 x = g at *
  obtain ⟨l', h1, h2, -, h3, -⟩ := way_simple hW g x g1
  have gnd : g.Nodup := by
    rcases h3 with e | e
    · exact e ▸ h2
    · have := hA.2 x l' hx h1
      omega
  have gin : g ∈ aw v x y T fg := (mem_aw w hx hy hxy).mpr ⟨g1, gnd⟩
  have hs9 : (aw v x y T fg).Pairwise lx := pths_sorted _ _ _
  have hb := best_iff (w := prc v T) hs9
  refine ⟨?_, gin⟩
  cases hB : bestOf (prc v T) (aw v x y T fg) with
  | none =>
    rw [hB] at hb
    have hb : aw v x y T fg = [] := hb
    rw [hb] at gin
    cases gin
  | some b =>
    rw [hB] at hb
    obtain ⟨b1, b2⟩ := hb
    congr 1
    rcases b2 g gin with e | e
    · exact e.symm
    · have hbw := ((mem_aw w hx hy hxy).mp b1).1
      have k1 := hA.2 x b hx hbw
      have k2 := wt_both (prc v T) b (wayF_ne hbw)
      have k3 := wt_both (prc v T) g (wayF_ne g1)
      have k4 := hlen b b1
      have k5 := hlen g gin
      have k6 : b.length ≠ 0 := fun z => wayF_ne hbw (List.eq_nil_of_length_eq_zero z)
      have k7 : g.length ≠ 0 := fun z => wayF_ne g1 (List.eq_nil_of_length_eq_zero z)
      unfold btr at e
      rcases e with e | ⟨e1, e | ⟨e2, e3⟩⟩
      · omega
      · omega
      · rcases gl b hx q q hbw (by omega) with z | z
        · exact z
        · exact absurd z (lx_asymm _ _ e3)
