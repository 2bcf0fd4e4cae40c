/-! as many apart as part them -/
section AP2
variable {v : LV}
def arcB (v : LV) (b : Nat) (a z : Nat) : Bool := b.testBit a && b.testBit z && met v a z && !muteB v z
def arcs (v : LV) (b : Nat) : List (Nat × Nat) := (List.range 7).flatMap fun a => ((List.range 7).filter (fun z => arcB v b a z)).map (fun z => (a, z))
theorem arcs_mem {b a z : Nat} (hb : b < 2 ^ 7) : (a, z) ∈ arcs v b ↔ arcB v b a z = true := by
  unfold arcs
  rw [List.mem_flatMap]
  constructor
  · rintro ⟨c, -, h⟩
    obtain ⟨d, h1, h2⟩ := List.mem_map.mp h
    cases h2
    exact (List.mem_filter.mp h1).2
  · intro h
    have h2 := h
    unfold arcB at h2
    rw [Bool.and_eq_true, Bool.and_eq_true, Bool.and_eq_true] at h2
    have lt : ∀ i, b.testBit i = true → i < 7 := fun i hi => Classical.byContradiction fun q => by
      rw [tb_small hb (by omega)] at hi
      cases hi
    exact ⟨a, List.mem_range.mpr (lt a h2.1.1.1), List.mem_map.mpr ⟨z, List.mem_filter.mpr ⟨List.mem_range.mpr (lt z h2.1.1.2), h⟩, rfl⟩⟩
theorem way_pw {x y b : Nat} {p : Nat → Bool} (hb : b < 2 ^ 7) (hp : ∀ z, p z = true → b.testBit z = true) : ∀ (l : List Nat) (a : Nat), a ≠ x → b.testBit a = true → wayF x y (met v) p (muteB v) a l → ∃ s, l = s ++ [y] ∧ pw (arcs v b) (a :: s) ∧ (∃ t c, a :: s = t ++ [c] ∧ (b.testBit c && met v c y) = true) ∧ ∀ q ∈ s, p q = true
  | [], _, _, _, h => absurd h (by intro h; exact h)
  | z :: l, a, hax, hba, h => by
    rcases h.2 with ⟨e1, e2⟩ | ⟨e1, e2, h3⟩
    · subst e1; subst e2
      exact ⟨[], rfl, trivial, ⟨[], a, rfl, by rw [hba, h.1]; rfl⟩, fun _ q => absurd q List.not_mem_nil⟩
    · unfold okS at e2
      rw [Bool.and_eq_true, Bool.and_eq_true, bne_iff_ne, Bool.or_eq_true, beq_iff_eq] at e2
      have hm : (!muteB v z) = true := e2.2.resolve_right hax
      obtain ⟨s, s1, s2, ⟨t, c, s3, s4⟩, s5⟩ := way_pw hb hp l z e2.1.1 (hp z e2.1.2) h3
      refine ⟨z :: s, by rw [s1]; rfl, ⟨(arcs_mem hb).mpr ?_, s2⟩, ⟨a :: t, c, by rw [s3]; rfl, s4⟩, fun q hq => ?_⟩
      · unfold arcB
        rw [hba, hp z e2.1.2, h.1, hm]
        rfl
      · rcases List.mem_cons.mp hq with rfl | hq
        · exact e2.1.2
        · exact s5 q hq
theorem pw_way {x y b : Nat} {p : Nat → Bool} (hb : b < 2 ^ 7) (hp : ∀ z, b.testBit z = true → p z = true ∧ z ≠ x ∧ z ≠ y) : ∀ (s : List Nat) (a : Nat), pw (arcs v b) (a :: s) → (∃ t c, a :: s = t ++ [c] ∧ (b.testBit c && met v c y) = true) → wayF x y (met v) p (muteB v) a (s ++ [y])
  | [], a, _, ⟨t, c, h1, h2⟩ => by
    have e : a = c := app_last (l := []) (r := t) h1
    subst e
    rw [Bool.and_eq_true] at h2
    exact ⟨h2.2, Or.inl ⟨rfl, rfl⟩⟩
  | z :: s, a, h, ⟨t, c, h1, h2⟩ => by
    have h3 := (arcs_mem hb).mp h.1
    unfold arcB at h3
    rw [Bool.and_eq_true, Bool.and_eq_true, Bool.and_eq_true] at h3
    obtain ⟨p1, p2, p3⟩ := hp z h3.1.1.2
    refine ⟨h3.1.2, Or.inr ⟨p3, ?_, pw_way hb hp s z h.2 ?_⟩⟩
    · unfold okS
      rw [bne_iff_ne.mpr p2, p1, h3.2]
      rfl
    · cases t with
      | nil => exact absurd (List.cons.inj h1).2 (by simp)
      | cons d t => exact ⟨t, c, (List.cons.inj h1).2, h2⟩
theorem apart_le (w : WF v) {x y T : Nat} (hx : x < v 0 0) (hy : y < v 0 0) (hxy : x ≠ y) {g : Nat} (hg : g < 128) (hp : parts9 v x y T g) {L : List Nat} (hL : dfam (fun s => (aw v x y T 0).any (fun l => mset l == s)) 1 127 L) : L.length ≤ pop g := by
  have hn := w.1
  have hit : ∀ s, s ∈ L → ∃ i, s.testBit i = true ∧ g.testBit i = true := by
    intro s hs9
    obtain ⟨-, h2, h3, h4, -⟩ := hL.2 s hs9
    obtain ⟨l, h5, h6⟩ := List.any_eq_true.mp h4
    rw [beq_iff_eq] at h6
    refine Classical.byContradiction fun q => hp.2 ⟨l, ?_, ?_⟩
    · have hw := ((mem_aw w hx hy hxy).mp h5).1
      have hmid : ∀ z, z ∈ l → z ≠ y → (sdf (btw v x y T) g).testBit z = true := fun z hz hzy => by
        have hzn := wayF_lt (fun a b q => (met_lt w q).2.1) l x hw z hz
        rcases wayF_mem hw z hz with e | ⟨-, e1, e2⟩
        · exact absurd e hzy
        · rw [sdf_tb, btw_tb.mpr ⟨(car_tb hzn).trans ((pF_0 T z).symm.trans e2), e1, hzy⟩]
          cases c : g.testBit z with
          | false => rfl
          | true => exact absurd ⟨z, by rw [← h6]; exact (mset_way hw).mpr ⟨hz, hzy⟩, c⟩ q
      have : ∀ (l : List Nat) (a : Nat), (∀ z, z ∈ l → z ≠ y → (sdf (btw v x y T) g).testBit z = true) → wayF x y (met v) (pF v T 0) (muteB v) a l → wayF x y (met v) (fun i => (sdf (btw v x y T) g).testBit i) (muteB v) a l := by
        intro l
        induction l with
        | nil => intro _ _ h; exact h
        | cons z l ih =>
          intro a h1 h
          refine ⟨h.1, ?_⟩
          rcases h.2 with e | ⟨e1, e2, e3⟩
          · exact Or.inl e
          · refine Or.inr ⟨e1, ?_, ih z (fun c hc => h1 c (List.mem_cons_of_mem _ hc)) e3⟩
            unfold okS at e2 ⊢
            dsimp only
            rw [Bool.and_eq_true, Bool.and_eq_true] at e2 ⊢
            exact ⟨⟨e2.1.1, h1 z List.mem_cons_self e1⟩, e2.2⟩
      exact this l x hmid hw
    · cases l with
      | nil => rw [← h6] at h3; exact absurd h3 (Nat.lt_irrefl 0)
      | cons a l =>
        cases l with
        | nil => rw [← h6] at h3; exact absurd h3 (Nat.lt_irrefl 0)
        | cons c l => simp
  have hes : ∀ M : List Nat, (∀ s ∈ M, s ∈ L) → M.Pairwise disj → ∃ es : List Nat, es.length = M.length ∧ es.Nodup ∧ ∀ e ∈ es, g.testBit e = true ∧ ∃ s, s ∈ M ∧ s.testBit e = true := by
    intro M
    induction M with
    | nil => intro _ _; exact ⟨[], rfl, List.nodup_nil, fun _ q => absurd q List.not_mem_nil⟩
    | cons s M ih =>
      intro h1 h2
      rw [List.pairwise_cons] at h2
      obtain ⟨es, a1, a2, a3⟩ := ih (fun c hc => h1 c (List.mem_cons_of_mem _ hc)) h2.2
      obtain ⟨i, b1, b2⟩ := hit s (h1 s List.mem_cons_self)
      refine ⟨i :: es, by simp [a1], List.nodup_cons.mpr ⟨fun q => ?_, a2⟩, fun e he => ?_⟩
      · obtain ⟨-, c, hc, hc2⟩ := a3 i q
        rw [disj_tb.mp (h2.1 c hc) i b1] at hc2
        cases hc2
      · rcases List.mem_cons.mp he with rfl | he
        · exact ⟨b2, s, List.mem_cons_self, b1⟩
        · obtain ⟨g1, c, g2, g3⟩ := a3 e he
          exact ⟨g1, c, List.mem_cons_of_mem _ g2, g3⟩
  obtain ⟨es, a1, a2, a3⟩ := hes L (fun _ q => q) hL.1
  have := sub_len es ((List.range 10).filter (fun i => g.testBit i)) a2 (fun e he => List.mem_filter.mpr ⟨List.mem_range.mpr (Classical.byContradiction fun q => by
    have := (a3 e he).1
    rw [tb_small (show g < 2 ^ 7 from hg) (by omega)] at this
    cases this), (a3 e he).1⟩)
  rw [cnt_filter, a1] at this
  exact this
theorem apart_ge (w : WF v) {x y T F : Nat} (hx : x < v 0 0) (hy : y < v 0 0) (hxy : x ≠ y) (hF : ∀ g, g < 128 → parts9 v x y T g → F ≤ pop g) : ∃ L, dfam (fun s => (aw v x y T 0).any (fun l => mset l == s)) 1 127 L ∧ L.length = F := by
  have hn := w.1
  have hbl := btw_lt w x y T
  have hb7 : ∀ i, (btw v x y T).testBit i = true → i < 7 := fun i hi => Classical.byContradiction fun q => by
    rw [tb_small hbl (by omega)] at hi
    cases hi
  obtain ⟨P, p1, p2, p3⟩ := menger 7 (arcs v (btw v x y T)) (fun z => (btw v x y T).testBit z && met v x z) (fun z => (btw v x y T).testBit z && met v z y) F (fun a b q => by
      have := (arcs_mem hbl).mp q
      unfold arcB at this
      rw [Bool.and_eq_true, Bool.and_eq_true, Bool.and_eq_true] at this
      exact ⟨hb7 a this.1.1.1, hb7 b this.1.1.2⟩) (fun a q => by
      rw [Bool.and_eq_true] at q
      exact hb7 a q.1) (fun a q => by
      rw [Bool.and_eq_true] at q
      exact hb7 a q.1) (fun S hS => by
      have h1 := hF (ms 7 (fun z => S z && (btw v x y T).testBit z)) (ms_lt 7 _) ⟨sdf_0.mpr fun i hi => by
        rw [ms_tb, Bool.and_eq_true, Bool.and_eq_true] at hi
        exact hi.2.2, by
        rintro ⟨l, h1, h2⟩
        cases l with
        | nil => exact absurd h1 (by intro h; exact h)
        | cons z l =>
          rcases h1.2 with ⟨-, e⟩ | ⟨e1, e2, h3⟩
          · subst e; simp at h2
          · unfold okS at e2
            rw [Bool.and_eq_true, Bool.and_eq_true, bne_iff_ne] at e2
            have hzo := e2.1.2
            dsimp only at hzo
            have hzb : (btw v x y T).testBit z = true := by
              rw [sdf_tb, Bool.and_eq_true] at hzo
              exact hzo.1
            obtain ⟨s, s1, s2, s3, s5⟩ := way_pw (p := fun i => (sdf (btw v x y T) (ms 7 (fun z => S z && (btw v x y T).testBit z))).testBit i) hbl (fun c hc => by
              rw [sdf_tb, Bool.and_eq_true] at hc
              exact hc.1) l z e2.1.1 hzb h3
            obtain ⟨c, c1, c2⟩ := hS (z :: s) ⟨s2, ⟨z, s, rfl, by
              dsimp only
              rw [hzb, h1.1]
              rfl⟩, s3⟩
            have hco : (sdf (btw v x y T) (ms 7 (fun z => S z && (btw v x y T).testBit z))).testBit c = true := by
              rcases List.mem_cons.mp c1 with e | c1
              · rw [e]; exact hzo
              · exact s5 c c1
            rw [sdf_tb, Bool.and_eq_true, Bool.not_eq_true', ms_tb] at hco
            have := hb7 c hco.1
            rw [decide_eq_true this, c2, hco.1] at hco
            exact absurd hco.2 (by decide)⟩
      rw [pop_ms (by decide)] at h1
      refine Nat.le_trans h1 (cnt_mono fun i _ q => ?_)
      rw [Bool.and_eq_true] at q
      exact q.1)
  -- each of these paths holds a simple way
  have hway : ∀ p, p ∈ P → ∃ l, l ∈ aw v x y T 0 ∧ 0 < mset l ∧ mset l < 128 ∧ ∀ i, (mset l).testBit i = true → i ∈ p := by
    intro p hp
    obtain ⟨h1, ⟨a, t, h2, h3⟩, h4⟩ := p2 p hp
    subst h2
    rw [Bool.and_eq_true] at h3
    have hpb : ∀ z, (btw v x y T).testBit z = true → pF v T 0 z = true ∧ z ≠ x ∧ z ≠ y := fun z hz => by
      obtain ⟨e1, e2, e3⟩ := btw_tb.mp hz
      exact ⟨((car_tb (car_n e1)).symm.trans e1 : mayB v z T = true), e2, e3⟩
    obtain ⟨b1, b2, b3⟩ := hpb a h3.1
    have hw : wayF x y (met v) (pF v T 0) (muteB v) x (a :: (t ++ [y])) := ⟨h3.2, Or.inr ⟨b3, by
      unfold okS
      rw [bne_iff_ne.mpr b2, b1]
      simp, pw_way hbl hpb t a h1 h4⟩⟩
    obtain ⟨l, k1, k2, k3, -, k5⟩ := way_simple (w := fun _ => 1) (fun _ => Nat.le_refl _) _ x hw
    have hlt := wayF_lt (fun a b q => (met_lt w q).2.1) l x k1
    have hpos : 0 < mset l := by
      cases l with
      | nil => exact absurd k1 (by intro h; exact h)
      | cons z l =>
        rcases k1.2 with ⟨e1, e2⟩ | ⟨e1, -, -⟩
        · subst e2
          have := k5.mpr (Or.inl rfl)
          simp at this
        · have : (mset (z :: l)).testBit z = true := (mset_way k1).mpr ⟨List.mem_cons_self, e1⟩
          refine Nat.pos_of_ne_zero fun e => ?_
          rw [e, Nat.zero_testBit] at this
          cases this
    refine ⟨l, (mem_aw w hx hy hxy).mpr ⟨k1, k2⟩, hpos, Nat.lt_of_lt_of_le (mset_lt hlt) (Nat.pow_le_pow_right (by decide) hn), fun i hi => ?_⟩
    obtain ⟨m1, m2⟩ := (mset_way k1).mp hi
    have := k3 i m1
    rcases List.mem_cons.mp this with e | this
    · rw [e]; exact List.mem_cons_self
    · rcases List.mem_append.mp this with this | this
      · exact List.mem_cons_of_mem _ this
      · exact absurd (List.mem_singleton.mp this) m2
  have hall : ∀ M : List (List Nat), (∀ p ∈ M, p ∈ P) → M.Pairwise apt → ∃ L : List Nat, L.length = M.length ∧ L.Pairwise disj ∧ ∀ s ∈ L, (0 < s ∧ s < 128 ∧ (aw v x y T 0).any (fun l => mset l == s) = true) ∧ ∃ p, p ∈ M ∧ ∀ i, s.testBit i = true → i ∈ p := by
    intro M
    induction M with
    | nil => intro _ _; exact ⟨[], rfl, List.Pairwise.nil, fun _ q => absurd q List.not_mem_nil⟩
    | cons p M ih =>
      intro h1 h2
      rw [List.pairwise_cons] at h2
      obtain ⟨L, a1, a2, a3⟩ := ih (fun c hc => h1 c (List.mem_cons_of_mem _ hc)) h2.2
      obtain ⟨l, b1, b2, b3, b4⟩ := hway p (h1 p List.mem_cons_self)
      refine ⟨mset l :: L, by simp [a1], List.pairwise_cons.mpr ⟨fun s hs9 => disj_tb.mpr fun i hi => ?_, a2⟩, fun s hs9 => ?_⟩
      · obtain ⟨-, p', c1, c2⟩ := a3 s hs9
        cases d : s.testBit i with
        | false => rfl
        | true => exact absurd (c2 i d) (h2.1 p' c1 i (b4 i hi))
      · rcases List.mem_cons.mp hs9 with rfl | hs9
        · exact ⟨⟨b2, b3, List.any_eq_true.mpr ⟨l, b1, by simp⟩⟩, p, List.mem_cons_self, b4⟩
        · obtain ⟨c0, p', c1, c2⟩ := a3 s hs9
          exact ⟨c0, p', List.mem_cons_of_mem _ c1, c2⟩
  obtain ⟨L, a1, a2, a3⟩ := hall P (fun _ q => q) p3
  refine ⟨L, ⟨a2, fun s hs9 => ?_⟩, a1.trans p1⟩
  obtain ⟨⟨c1, c2, c3⟩, -⟩ := a3 s hs9
  refine ⟨c1, c2, c1, c3, sdf_0.mpr fun i hi => ?_⟩
  rw [show (127 : Nat) = 2 ^ 7 - 1 from rfl, Nat.testBit_two_pow_sub_one, decide_eq_true_eq]
  exact Classical.byContradiction fun q => by
    rw [tb_small (show s < 2 ^ 7 from c2) (by omega)] at hi
    cases hi
end AP2
