/-! OPERATION: meet -/
def mtg (v : LV) (a b t : Nat) : LV := fun f i => if i = v 3 0 ∧ f = 4 then a else if i = v 3 0 ∧ f = 5 then b else if i = v 3 0 ∧ f = 6 then t else if f = 3 ∧ i = 0 then v 3 0 + 1 else v f i
section MTG
variable {v : LV} {a b t : Nat} {h : Hp}
theorem mtg_o {f i : Nat} (q : f < 3 ∨ 6 < f) : mtg v a b t f i = v f i := by
  unfold mtg
  rw [if_neg (by omega), if_neg (by omega), if_neg (by omega), if_neg (by omega)]
theorem mtg_k {f k : Nat} (q : k < v 3 0) (hf : f ≠ 3) : mtg v a b t f k = v f k := by
  unfold mtg
  rw [if_neg (by omega), if_neg (by omega), if_neg (by omega), if_neg (by omega)]
theorem mtg_3 : mtg v a b t 3 0 = v 3 0 + 1 := by
  unfold mtg
  rw [if_neg (by omega), if_neg (by omega), if_neg (by omega), if_pos ⟨rfl, rfl⟩]
theorem mtg_4 : mtg v a b t 4 (v 3 0) = a := if_pos ⟨rfl, rfl⟩
theorem mtg_5 : mtg v a b t 5 (v 3 0) = b := by
  unfold mtg
  rw [if_neg (by omega), if_pos ⟨rfl, rfl⟩]
theorem mtg_6 : mtg v a b t 6 (v 3 0) = t := by
  unfold mtg
  rw [if_neg (by omega), if_neg (by omega), if_pos ⟨rfl, rfl⟩]
theorem wf_mtg (w : WF v) (hm : v 3 0 < 16) (ha : a < v 0 0) (hb : b < v 0 0) (hab : a ≠ b) (ht : t < 8) : WF (mtg v a b t) := by
  obtain ⟨a1, a2, a3, a4, a5, a6, a7⟩ := w
  have o : ∀ f i, (f < 3 ∨ 6 < f) → mtg v a b t f i = v f i := fun f i q => mtg_o q
  unfold WF
  rw [mtg_3, o 0 0 (by omega), o 7 0 (by omega), o 8 0 (by omega)]
  refine ⟨a1, fun x hx => ?_, hm, fun k hk => ?_, a5, a6, fun k hk => ?_⟩
  · rw [o 1 x (by omega), o 2 x (by omega)]; exact a2 x hx
  · by_cases q : k = v 3 0
    · subst q
      rw [mtg_4, mtg_5, mtg_6]
      exact ⟨ha, hb, hab, ht⟩
    · have hk' : k < v 3 0 := by omega
      rw [mtg_k hk' (by decide), mtg_k hk' (by decide), mtg_k hk' (by decide)]
      exact a4 k hk'
  · have e1 : ∀ j, mtg v a b t (20 + k) j = v (20 + k) j := fun j => o _ _ (by omega)
    have e2 : ∀ j, mtg v a b t (30 + k) j = v (30 + k) j := fun j => o _ _ (by omega)
    rw [o 9 k (by omega), o 10 k (by omega), o 11 k (by omega)]
    simp only [e1, e2]
    exact a7 k hk
theorem anyB_mt {P Q : Nat → Bool} {n : Nat} (q : ∀ k, k < n → P k = Q k) : anyB n P = anyB n Q := anyB_cong q
theorem tie_mtg {g : Hp} (r : CLd 3 v h) (e : ∀ p j, 10 ≤ p → p ≤ 18 → hg g p j = hg h p j) : TieN (mtg v a b t) (v 3 0) 3 g := by
  have k4 : ∀ k, k < v 3 0 → mtg v a b t 4 k = v 4 k := fun k hk => mtg_k hk (by decide)
  have k5 : ∀ k, k < v 3 0 → mtg v a b t 5 k = v 5 k := fun k hk => mtg_k hk (by decide)
  have k6 : ∀ k, k < v 3 0 → mtg v a b t 6 k = v 6 k := fun k hk => mtg_k hk (by decide)
  have hp : ∀ k x y, k < v 3 0 → pr (mtg v a b t) k x y = pr v k x y := fun k x y hk => by unfold pr; rw [k4 k hk, k5 k hk]
  refine ⟨fun s x hs9 hx => ?_, fun x hx => ?_⟩
  · rw [e _ _ (by omega) (by omega), L_mH r hs9 hx]
    congr 1
    exact ms_cong fun y _ => anyB_cong fun k hk => by rw [k6 k hk, hp k x y hk]
  · rw [e _ _ (by omega) (by omega), L_mE r hx]
    congr 1
    exact ms_cong fun y _ => anyB_cong fun k hk => by rw [hp k x y hk]
theorem CLd_mtg {g : Hp} (r : CLd 3 v h) (h4 : v 8 0 ≤ 4) (T : TieN (mtg v a b t) (v 3 0 + 1) 3 g) (e9 : hg g 3 9 = nI (v 3 0 + 1)) (e4 : hg g 6 (v 3 0) = nI a) (e5 : hg g 7 (v 3 0) = nI b) (e6 : hg g 8 (v 3 0) = nI t) (e : ∀ p j, ¬ (p = 3 ∧ j = 9) → ¬ (6 ≤ p ∧ p ≤ 8 ∧ j = v 3 0) → ¬ (10 ≤ p ∧ p ≤ 18) → hg g p j = hg h p j) : CLd 3 (mtg v a b t) g := by
  have o : ∀ f i, (f < 3 ∨ 6 < f) → mtg v a b t f i = v f i := fun f i q => mtg_o q
  obtain ⟨⟨a1, a2, a3, a4⟩, b0, c, d, f5, f⟩ := r
  unfold CLd metH met
  rw [mtg_3, o 0 0 (by omega), o 7 0 (by omega), o 8 0 (by omega)]
  refine ⟨⟨?_, e9, ?_, ?_⟩, fun y hy => ?_, fun k hk => ?_, fun s y hs9 hy => T.1 s y hs9 hy, fun y hy => T.2 y hy, fun l hl => ?_⟩
  · rw [e _ _ (by omega) (by omega) (by omega)]; exact a1
  · rw [e _ _ (by omega) (by omega) (by omega)]; exact a3
  · rw [e _ _ (by omega) (by omega) (by omega)]; exact a4
  · rw [o 1 y (by omega), o 2 y (by omega), e _ _ (by omega) (by omega) (by omega), e _ _ (by omega) (by omega) (by omega)]; exact b0 y hy
  · by_cases q : k = v 3 0
    · subst q
      rw [mtg_4, mtg_5, mtg_6]
      exact ⟨e4, e5, e6⟩
    · have hk' : k < v 3 0 := by omega
      rw [mtg_k hk' (by decide), mtg_k hk' (by decide), mtg_k hk' (by decide), e _ _ (by omega) (by omega) (by omega), e _ _ (by omega) (by omega) (by omega), e _ _ (by omega) (by omega) (by omega)]
      exact c k hk'
  · obtain ⟨g1, g2, g3, g4⟩ := f l hl
    unfold CLe
    rw [o 9 l (by omega), o 10 l (by omega), o 11 l (by omega)]
    refine ⟨?_, ?_, ?_, fun j hj => ⟨?_, ?_⟩⟩
    · rw [e _ _ (by omega) (by omega) (by omega)]; exact g1
    · rw [e _ _ (by omega) (by omega) (by omega)]; exact g2
    · rw [e _ _ (by omega) (by omega) (by omega)]; exact g3
    · rw [o _ j (by omega), e _ _ (by omega) (by omega) (by omega)]; exact (g4 j hj).1
    · rw [o _ j (by omega), e _ _ (by omega) (by omega) (by omega)]; exact (g4 j hj).2
theorem MLd_mtg {g : Hp} (r : MLd v h) (e11 : hg g 178 11 = nI (v 3 0 + 1)) (e4 : hg g 187 (3 * v 3 0) = nI a) (e5 : hg g 187 (3 * v 3 0 + 1) = nI b) (e6 : hg g 187 (3 * v 3 0 + 2) = nI t) (e : ∀ p j, ¬ (p = 178 ∧ j = 11) → ¬ (p = 187 ∧ 3 * v 3 0 ≤ j) → hg g p j = hg h p j) : MLd (mtg v a b t) g := by
  have o : ∀ f i, (f < 3 ∨ 6 < f) → mtg v a b t f i = v f i := fun f i q => mtg_o q
  obtain ⟨⟨a1, a2, a3, a4⟩, b0, c, f⟩ := r
  unfold MLd
  rw [mtg_3, o 0 0 (by omega), o 7 0 (by omega), o 8 0 (by omega)]
  refine ⟨⟨?_, e11, ?_, ?_⟩, fun y hy => ?_, fun k hk => ?_, fun l hl => ?_⟩
  · rw [e _ _ (by omega) (by omega)]; exact a1
  · rw [e _ _ (by omega) (by omega)]; exact a3
  · rw [e _ _ (by omega) (by omega)]; exact a4
  · rw [o 1 y (by omega), o 2 y (by omega), e _ _ (by omega) (by omega), e _ _ (by omega) (by omega)]; exact b0 y hy
  · by_cases q : k = v 3 0
    · subst q
      rw [mtg_4, mtg_5, mtg_6]
      exact ⟨e4, e5, e6⟩
    · have hk' : k < v 3 0 := by omega
      rw [mtg_k hk' (by decide), mtg_k hk' (by decide), mtg_k hk' (by decide), e _ _ (by omega) (by omega), e _ _ (by omega) (by omega), e _ _ (by omega) (by omega)]
      exact c k hk'
  · obtain ⟨g1, g2, g3, g4⟩ := f l hl
    rw [o 9 l (by omega), o 10 l (by omega), o 11 l (by omega)]
    refine ⟨?_, ?_, ?_, fun j hj => ⟨?_, ?_⟩⟩
    · rw [e _ _ (by omega) (by omega)]; exact g1
    · rw [e _ _ (by omega) (by omega)]; exact g2
    · rw [e _ _ (by omega) (by omega)]; exact g3
    · rw [o _ j (by omega), e _ _ (by omega) (by omega)]; exact (g4 j hj).1
    · rw [o _ j (by omega), e _ _ (by omega) (by omega)]; exact (g4 j hj).2
end MTG
