/-! OPERATION: send -/
def snd (v : LV) (x y T : Nat) : LV := fun f i => if i = v 8 0 ∧ f = 9 then y else if i = v 8 0 ∧ f = 10 then T else if i = v 8 0 ∧ f = 11 then 1 else if f = 20 + v 8 0 ∧ i = 0 then x else if f = 30 + v 8 0 ∧ i = 0 then v 7 0 else if f = 8 ∧ i = 0 then v 8 0 + 1 else v f i
section SND
variable {v : LV} {h : Hp} {x y T : Nat}
theorem sd_lt {f i : Nat} (hf : f < 8) : snd v x y T f i = v f i := by
  unfold snd
  rw [if_neg (by omega), if_neg (by omega), if_neg (by omega), if_neg (by omega), if_neg (by omega), if_neg (by omega)]
theorem sd_8 : snd v x y T 8 0 = v 8 0 + 1 := by
  unfold snd
  rw [if_neg (by omega), if_neg (by omega), if_neg (by omega), if_neg (by omega), if_neg (by omega), if_pos ⟨rfl, rfl⟩]
theorem sd_9 : snd v x y T 9 (v 8 0) = y := if_pos ⟨rfl, rfl⟩
theorem sd_10 : snd v x y T 10 (v 8 0) = T := by
  unfold snd
  rw [if_neg (by omega), if_pos ⟨rfl, rfl⟩]
theorem sd_11 : snd v x y T 11 (v 8 0) = 1 := by
  unfold snd
  rw [if_neg (by omega), if_neg (by omega), if_pos ⟨rfl, rfl⟩]
theorem sd_20 : snd v x y T (20 + v 8 0) 0 = x := by
  unfold snd
  rw [if_neg (by omega), if_neg (by omega), if_neg (by omega), if_pos ⟨rfl, rfl⟩]
theorem sd_30 : snd v x y T (30 + v 8 0) 0 = v 7 0 := by
  unfold snd
  rw [if_neg (by omega), if_neg (by omega), if_neg (by omega), if_neg (by omega), if_pos ⟨rfl, rfl⟩]
theorem sd_old {l : Nat} (hl : l < v 8 0) (h4 : v 8 0 < 4) : snd v x y T 9 l = v 9 l ∧ snd v x y T 10 l = v 10 l ∧ snd v x y T 11 l = v 11 l ∧ (∀ j, snd v x y T (20 + l) j = v (20 + l) j) ∧ ∀ j, snd v x y T (30 + l) j = v (30 + l) j := by
  refine ⟨?_, ?_, ?_, fun j => ?_, fun j => ?_⟩ <;>
  · unfold snd
    rw [if_neg (by omega), if_neg (by omega), if_neg (by omega), if_neg (by omega), if_neg (by omega), if_neg (by omega)]
theorem wf_snd (w : WF v) (h4 : v 8 0 < 4) (hx : x < v 0 0) (hy : y < v 0 0) (hT1 : 1 ≤ T) (hT2 : T < 32) : WF (snd v x y T) := by
  obtain ⟨a1, a2, a3, a4, a5, a6, a7⟩ := w
  have e : ∀ f i, f < 8 → snd v x y T f i = v f i := fun f i hf => sd_lt hf
  have e0 := e 0 0 (by omega)
  have e3 := e 3 0 (by omega)
  have e7 := e 7 0 (by omega)
  unfold WF
  rw [e0, e3, e7, sd_8]
  refine ⟨a1, fun z hz => ?_, a3, fun k hk => ?_, a5, h4, fun l hl => ?_⟩
  · rw [e 1 z (by omega), e 2 z (by omega)]; exact a2 z hz
  · rw [e 4 k (by omega), e 5 k (by omega), e 6 k (by omega)]; exact a4 k hk
  · by_cases q : l = v 8 0
    · subst q
      rw [sd_9, sd_10, sd_11]
      refine ⟨hy, hT1, hT2, Nat.le_refl _, by omega, fun j hj => ?_, fun i j h1 h2 => by omega⟩
      have : j = 0 := by omega
      subst this
      rw [sd_20, sd_30]
      exact ⟨hx, a5⟩
    · have hl' : l < v 8 0 := by omega
      obtain ⟨s1, s2, s3, s4, s5⟩ := sd_old (x := x) (y := y) (T := T) hl' h4
      rw [s1, s2, s3]
      simp only [s4, s5]
      exact a7 l hl'
/-- what the given one writes -/
def sndC (h : Hp) (K x y T hr : Nat) : Hp := hs (hs (hs (hs (hs (hs h (20 + 3 * K + 1) 0 (nI x)) (20 + 3 * K + 2) 0 (nI hr)) (20 + 3 * K) 2 (nI 1)) (20 + 3 * K) 3 (nI y)) (20 + 3 * K) 4 (nI T)) 3 10 (nI (K + 1))
def sndM (h : Hp) (K x y T hr : Nat) : Hp := hs (hs (hs (hs (hs (hs h 188 (17 * K) (nI y)) 188 (17 * K + 1) (nI T)) 188 (17 * K + 2) (nI 1)) 188 (17 * K + 3) (nI x)) 188 (17 * K + 10) (nI hr)) 178 14 (nI (K + 1))
theorem sndC_e {K hr : Nat} (b j : Nat) (h1 : ¬ (b = 20 + 3 * K + 1 ∧ j = 0)) (h2 : ¬ (b = 20 + 3 * K + 2 ∧ j = 0)) (h3 : ¬ (b = 20 + 3 * K ∧ 2 ≤ j ∧ j ≤ 4)) (h4 : ¬ (b = 3 ∧ j = 10)) : hg (sndC h K x y T hr) b j = hg h b j := by
  unfold sndC
  rw [hg_hs2, if_neg h4, hg_hs2, if_neg (by omega), hg_hs2, if_neg (by omega), hg_hs2, if_neg (by omega), hg_hs2, if_neg h2, hg_hs2, if_neg h1]
theorem sndM_e {K hr : Nat} (b j : Nat) (h1 : ¬ (b = 188 ∧ 17 * K ≤ j ∧ j < 17 * K + 17)) (h4 : ¬ (b = 178 ∧ j = 14)) : hg (sndM h K x y T hr) b j = hg h b j := by
  unfold sndM
  rw [hg_hs2, if_neg h4, hg_hs2, if_neg (by omega), hg_hs2, if_neg (by omega), hg_hs2, if_neg (by omega), hg_hs2, if_neg (by omega), hg_hs2, if_neg (by omega)]
theorem CLd_snd (r : CLd 3 v h) (h4 : v 8 0 < 4) : CLd 3 (snd v x y T) (sndC h (v 8 0) x y T (v 7 0)) := by
  have e := fun b j => sndC_e (h := h) (x := x) (y := y) (T := T) (K := v 8 0) (hr := v 7 0) b j
  have f0 : ∀ f i, f < 8 → snd v x y T f i = v f i := fun f i hf => sd_lt hf
  obtain ⟨⟨a1, a2, a3, a4⟩, b, c, d, e5, f⟩ := r
  have emH : metH (snd v x y T) = metH v := by
    funext t a b
    unfold metH pr
    simp only [f0 3 0 (by omega), fun k => f0 4 k (by omega), fun k => f0 5 k (by omega), fun k => f0 6 k (by omega)]
  have em : met (snd v x y T) = met v := by
    funext a b
    unfold met pr
    simp only [f0 3 0 (by omega), fun k => f0 4 k (by omega), fun k => f0 5 k (by omega)]
  unfold CLd
  rw [f0 0 0 (by omega), f0 3 0 (by omega), f0 7 0 (by omega), sd_8, emH, em]
  refine ⟨⟨?_, ?_, ?_, ?_⟩, fun z hz => ?_, fun k hk => ?_, fun t z ht hz => ?_, fun z hz => ?_, fun l hl => ?_⟩
  · rw [e _ _ (by omega) (by omega) (by omega) (by omega)]; exact a1
  · rw [e _ _ (by omega) (by omega) (by omega) (by omega)]; exact a2
  · unfold sndC; rw [hg_hs_eq]
  · rw [e _ _ (by omega) (by omega) (by omega) (by omega)]; exact a4
  · rw [f0 1 z (by omega), f0 2 z (by omega), e _ _ (by omega) (by omega) (by omega) (by omega), e _ _ (by omega) (by omega) (by omega) (by omega)]; exact b z hz
  · rw [f0 4 k (by omega), f0 5 k (by omega), f0 6 k (by omega), e _ _ (by omega) (by omega) (by omega) (by omega), e _ _ (by omega) (by omega) (by omega) (by omega), e _ _ (by omega) (by omega) (by omega) (by omega)]; exact c k hk
  · rw [e _ _ (by omega) (by omega) (by omega) (by omega)]; exact d t z ht hz
  · rw [e _ _ (by omega) (by omega) (by omega) (by omega)]; exact e5 z hz
  · by_cases q : l = v 8 0
    · subst q
      unfold CLe
      rw [sd_11, sd_9, sd_10]
      unfold sndC
      refine ⟨?_, ?_, ?_, fun j hj => ⟨?_, ?_⟩⟩
      · rw [hg_hs_a (by omega), hg_hs_k (by decide), hg_hs_k (by decide), hg_hs_eq]
      · rw [hg_hs_a (by omega), hg_hs_k (by decide), hg_hs_eq]
      · rw [hg_hs_a (by omega), hg_hs_eq]
      · have : j = 0 := by omega
        subst this
        rw [sd_20, hg_hs_a (by omega), hg_hs_a (by omega), hg_hs_a (by omega), hg_hs_a (by omega), hg_hs_a (by omega), hg_hs_eq]
      · have : j = 0 := by omega
        subst this
        rw [sd_30, hg_hs_a (by omega), hg_hs_a (by omega), hg_hs_a (by omega), hg_hs_a (by omega), hg_hs_eq]
    · have hl' : l < v 8 0 := by omega
      obtain ⟨s1, s2, s3, s4, s5⟩ := sd_old (x := x) (y := y) (T := T) hl' h4
      obtain ⟨g1, g2, g3, g4⟩ := f l hl'
      unfold CLe
      rw [s1, s2, s3]
      refine ⟨?_, ?_, ?_, fun j hj => ⟨?_, ?_⟩⟩
      · rw [e _ _ (by omega) (by omega) (by omega) (by omega)]; exact g1
      · rw [e _ _ (by omega) (by omega) (by omega) (by omega)]; exact g2
      · rw [e _ _ (by omega) (by omega) (by omega) (by omega)]; exact g3
      · rw [s4, e _ _ (by omega) (by omega) (by omega) (by omega)]; exact (g4 j hj).1
      · rw [s5, e _ _ (by omega) (by omega) (by omega) (by omega)]; exact (g4 j hj).2
theorem MLd_snd (w : WF v) (r : MLd v h) (h4 : v 8 0 < 4) : MLd (snd v x y T) (sndM h (v 8 0) x y T (v 7 0)) := by
  have e := fun b j => sndM_e (h := h) (x := x) (y := y) (T := T) (K := v 8 0) (hr := v 7 0) b j
  have f0 : ∀ f i, f < 8 → snd v x y T f i = v f i := fun f i hf => sd_lt hf
  obtain ⟨⟨a1, a2, a3, a4⟩, b, c, f⟩ := r
  unfold MLd
  rw [f0 0 0 (by omega), f0 3 0 (by omega), f0 7 0 (by omega), sd_8]
  refine ⟨⟨?_, ?_, ?_, ?_⟩, fun z hz => ?_, fun k hk => ?_, fun l hl => ?_⟩
  · rw [e _ _ (by omega) (by omega)]; exact a1
  · rw [e _ _ (by omega) (by omega)]; exact a2
  · unfold sndM; rw [hg_hs_eq]
  · rw [e _ _ (by omega) (by omega)]; exact a4
  · rw [f0 1 z (by omega), f0 2 z (by omega), e _ _ (by omega) (by omega), e _ _ (by omega) (by omega)]; exact b z hz
  · rw [f0 4 k (by omega), f0 5 k (by omega), f0 6 k (by omega), e _ _ (by omega) (by omega), e _ _ (by omega) (by omega), e _ _ (by omega) (by omega)]; exact c k hk
  · by_cases q : l = v 8 0
    · subst q
      rw [sd_11, sd_9, sd_10]
      unfold sndM
      refine ⟨?_, ?_, ?_, fun j hj => ⟨?_, ?_⟩⟩
      · rw [hg_hs_a (by omega), hg_hs_k (by omega), hg_hs_k (by omega), hg_hs_k (by omega), hg_hs_k (by omega), hg_hs_eq]
      · rw [hg_hs_a (by omega), hg_hs_k (by omega), hg_hs_k (by omega), hg_hs_k (by omega), hg_hs_eq]
      · rw [hg_hs_a (by omega), hg_hs_k (by omega), hg_hs_k (by omega), hg_hs_eq]
      · have : j = 0 := by omega
        subst this
        rw [sd_20, hg_hs_a (by omega), hg_hs_k (by omega), hg_hs_eq]
      · have : j = 0 := by omega
        subst this
        rw [sd_30, hg_hs_a (by omega), hg_hs_eq]
    · have hl' : l < v 8 0 := by omega
      have h7 := wf_l7 w hl'
      obtain ⟨s1, s2, s3, s4, s5⟩ := sd_old (x := x) (y := y) (T := T) hl' h4
      obtain ⟨g1, g2, g3, g4⟩ := f l hl'
      rw [s1, s2, s3]
      refine ⟨?_, ?_, ?_, fun j hj => ⟨?_, ?_⟩⟩
      · rw [e _ _ (by omega) (by omega)]; exact g1
      · rw [e _ _ (by omega) (by omega)]; exact g2
      · rw [e _ _ (by omega) (by omega)]; exact g3
      · rw [s4, e _ _ (by omega) (by omega)]; exact (g4 j hj).1
      · rw [s5, e _ _ (by omega) (by omega)]; exact (g4 j hj).2
end SND
