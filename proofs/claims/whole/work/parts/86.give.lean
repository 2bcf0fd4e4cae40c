/-! OPERATION: give; the view of a land in which a letter was passed on -/
def lrn (v : LV) (k : Nat) : LV := if isO (v 1 (hol v k)) 3 = true then vs v 2 (hol v k) (v 2 (hol v k) ||| v 10 k) else v
def adh (v : LV) (k x : Nat) : LV := fun f i => if f = 11 ∧ i = k then v 11 k + 1 else if f = 20 + k ∧ i = v 11 k then x else if f = 30 + k ∧ i = v 11 k then v 7 0 else v f i
def pas (v : LV) (k x : Nat) : LV := adh (lrn v k) k x
section LRN
variable {v : LV} {k x : Nat} {h : Hp}
theorem lrn_o {f i : Nat} (q : f ≠ 2) : lrn v k f i = v f i := by
  unfold lrn
  split
  · exact vs_ne q
  · rfl
theorem lrn_lt (w : WF v) (hk : k < v 8 0) : v 2 (hol v k) ||| v 10 k < 32 := or_lt (n := 5) (wf_w w (hol_n w hk)) (wf_i2 w hk)
theorem wf_lrn (w : WF v) (hk : k < v 8 0) : WF (lrn v k) := by
  unfold lrn
  split
  · exact wf_vs2 w (lrn_lt w hk)
  · exact w
theorem adh_o {f i : Nat} (q : f < 11) : adh v k x f i = v f i := by
  unfold adh
  rw [if_neg (by omega), if_neg (by omega), if_neg (by omega)]
theorem adh_11 : adh v k x 11 k = v 11 k + 1 := if_pos ⟨rfl, rfl⟩
theorem adh_l {l : Nat} (q : l ≠ k) : adh v k x 11 l = v 11 l := by
  unfold adh
  rw [if_neg (by omega), if_neg (by omega), if_neg (by omega)]
theorem adh_20 {j : Nat} (hk : k < 4) : adh v k x (20 + k) j = if j = v 11 k then x else v (20 + k) j := by
  unfold adh
  by_cases z : j = v 11 k
  · rw [if_neg (by omega), if_pos ⟨rfl, z⟩, if_pos z]
  · rw [if_neg (by omega), if_neg (by omega), if_neg (by omega), if_neg z]
theorem adh_30 {j : Nat} (hk : k < 4) : adh v k x (30 + k) j = if j = v 11 k then v 7 0 else v (30 + k) j := by
  unfold adh
  by_cases z : j = v 11 k
  · rw [if_neg (by omega), if_neg (by omega), if_pos ⟨rfl, z⟩, if_pos z]
  · rw [if_neg (by omega), if_neg (by omega), if_neg (by omega), if_neg z]
theorem adh_20o {l j : Nat} (hk : k < 4) (hl : l < 4) (q : l ≠ k) : adh v k x (20 + l) j = v (20 + l) j := by
  unfold adh
  rw [if_neg (by omega), if_neg (by omega), if_neg (by omega)]
theorem adh_30o {l j : Nat} (hk : k < 4) (hl : l < 4) (q : l ≠ k) : adh v k x (30 + l) j = v (30 + l) j := by
  unfold adh
  rw [if_neg (by omega), if_neg (by omega), if_neg (by omega)]
theorem adh_met : met (adh v k x) = met v := by
  funext a b
  unfold met pr
  simp only [fun k' => adh_o (v := v) (k := k) (x := x) (f := 3) (i := k') (by decide), fun k' => adh_o (v := v) (k := k) (x := x) (f := 4) (i := k') (by decide), fun k' => adh_o (v := v) (k := k) (x := x) (f := 5) (i := k') (by decide)]
theorem adh_metH : metH (adh v k x) = metH v := by
  funext t a b
  unfold metH pr
  simp only [fun k' => adh_o (v := v) (k := k) (x := x) (f := 3) (i := k') (by decide), fun k' => adh_o (v := v) (k := k) (x := x) (f := 4) (i := k') (by decide), fun k' => adh_o (v := v) (k := k) (x := x) (f := 5) (i := k') (by decide), fun k' => adh_o (v := v) (k := k) (x := x) (f := 6) (i := k') (by decide)]
theorem nd_map {f : Nat → Nat} {n : Nat} (hf : ∀ i j, i < j → j < n → f i ≠ f j) : ((List.range n).map f).Nodup := by
  refine List.pairwise_map.mpr ?_
  refine List.Pairwise.imp_of_mem ?_ (List.pairwise_lt_range (n := n))
  intro a b ha hb hab
  exact hf a b hab (List.mem_range.mp hb)
theorem few_len (w : WF v) (hk : k < v 8 0) (hx : x < v 0 0) (hno : ∀ j, j < v 11 k → v (20 + k) j ≠ x) : v 11 k + 1 ≤ v 0 0 := by
  have := pigeon (v 0 0) (x :: (List.range (v 11 k)).map (v (20 + k))) (List.nodup_cons.mpr ⟨fun q => by
    obtain ⟨j, h1, h2⟩ := List.mem_map.mp q
    exact hno j (List.mem_range.mp h1) h2, nd_map fun i j h1 h2 => wf_ne w hk h1 h2⟩) (fun z hz => by
    rcases List.mem_cons.mp hz with rfl | hz
    · exact hx
    · obtain ⟨j, h1, rfl⟩ := List.mem_map.mp hz
      exact wf_th w hk (List.mem_range.mp h1))
  simpa using this
theorem wf_adh (w : WF v) (hk : k < v 8 0) (hx : x < v 0 0) (hno : ∀ j, j < v 11 k → v (20 + k) j ≠ x) : WF (adh v k x) := by
  have hlen := few_len w hk hx hno
  have h4 := wf_l w
  have o : ∀ f i, f < 11 → adh v k x f i = v f i := fun f i q => adh_o q
  obtain ⟨a1, a2, a3, a4, a5, a6, a7⟩ := w
  unfold WF
  rw [o 0 0 (by decide), o 3 0 (by decide), o 7 0 (by decide), o 8 0 (by decide)]
  refine ⟨a1, fun y hy => ?_, a3, fun m hm => ?_, a5, a6, fun l hl => ?_⟩
  · rw [o 1 y (by decide), o 2 y (by decide)]; exact a2 y hy
  · rw [o 4 m (by decide), o 5 m (by decide), o 6 m (by decide)]; exact a4 m hm
  · obtain ⟨b1, b2, b3, b4, b5, b6, b7⟩ := a7 l hl
    rw [o 9 l (by decide), o 10 l (by decide)]
    by_cases e : l = k
    · subst e
      rw [adh_11]
      refine ⟨b1, b2, b3, by omega, hlen, fun j hj => ?_, fun i j hij hj => ?_⟩
      · rw [adh_20 (by omega), adh_30 (by omega)]
        by_cases z : j = v 11 l
        · rw [if_pos z, if_pos z]; exact ⟨hx, a5⟩
        · rw [if_neg z, if_neg z]; exact b6 j (by omega)
      · rw [adh_20 (by omega), adh_20 (by omega), if_neg (show ¬ i = v 11 l by omega)]
        by_cases z : j = v 11 l
        · rw [if_pos z]; exact hno i (by omega)
        · rw [if_neg z]; exact b7 i j hij (by omega)
    · rw [adh_l e]
      refine ⟨b1, b2, b3, b4, b5, fun j hj => ?_, fun i j hij hj => ?_⟩
      · rw [adh_20o (by omega) (by omega) e, adh_30o (by omega) (by omega) e]; exact b6 j hj
      · rw [adh_20o (by omega) (by omega) e, adh_20o (by omega) (by omega) e]; exact b7 i j hij hj
def adC (h : Hp) (k n x t : Nat) : Hp := hs (hs (hs h (20 + 3 * k + 1) n (nI x)) (20 + 3 * k + 2) n (nI t)) (20 + 3 * k) 2 (nI (n + 1))
def adM (h : Hp) (k n x t : Nat) : Hp := hs (hs (hs h 188 (17 * k + 3 + n) (nI x)) 188 (17 * k + 10 + n) (nI t)) 188 (17 * k + 2) (nI (n + 1))
theorem adC_e {n t : Nat} (b j : Nat) (q : ¬ (20 + 3 * k ≤ b ∧ b ≤ 22 + 3 * k)) : hg (adC h k n x t) b j = hg h b j := by
  unfold adC
  rw [hg_hs_a (by omega), hg_hs_a (by omega), hg_hs_a (by omega)]
theorem adM_e {n t : Nat} (b j : Nat) (q : b ≠ 188) : hg (adM h k n x t) b j = hg h b j := by
  unfold adM
  rw [hg_hs_a q, hg_hs_a q, hg_hs_a q]
theorem CLd_adh (w : WF v) (r : CLd 3 v h) (hk : k < v 8 0) : CLd 3 (adh v k x) (adC h k (v 11 k) x (v 7 0)) := by
  have h4 := wf_l w
  have o : ∀ f i, f < 11 → adh v k x f i = v f i := fun f i q => adh_o q
  have e := fun b j => adC_e (h := h) (k := k) (x := x) (n := v 11 k) (t := v 7 0) b j
  obtain ⟨⟨a1, a2, a3, a4⟩, b, c, d, e5, f⟩ := r
  unfold CLd
  rw [o 0 0 (by decide), o 3 0 (by decide), o 7 0 (by decide), o 8 0 (by decide), adh_met, adh_metH]
  refine ⟨⟨?_, ?_, ?_, ?_⟩, fun y hy => ?_, fun m hm => ?_, fun t y ht hy => ?_, fun y hy => ?_, fun l hl => ?_⟩
  · rw [e _ _ (by omega)]; exact a1
  · rw [e _ _ (by omega)]; exact a2
  · rw [e _ _ (by omega)]; exact a3
  · rw [e _ _ (by omega)]; exact a4
  · rw [o 1 y (by decide), o 2 y (by decide), e _ _ (by omega), e _ _ (by omega)]; exact b y hy
  · rw [o 4 m (by decide), o 5 m (by decide), o 6 m (by decide), e _ _ (by omega), e _ _ (by omega), e _ _ (by omega)]; exact c m hm
  · rw [e _ _ (by omega)]; exact d t y ht hy
  · rw [e _ _ (by omega)]; exact e5 y hy
  · obtain ⟨g1, g2, g3, g4⟩ := f l hl
    unfold CLe
    rw [o 9 l (by decide), o 10 l (by decide)]
    by_cases z : l = k
    · subst z
      rw [adh_11]
      unfold adC
      refine ⟨?_, ?_, ?_, fun j hj => ⟨?_, ?_⟩⟩
      · exact hg_hs_eq _ (20 + 3 * l) 2 _
      · rw [hg_hs_k (by decide), hg_hs_a (by omega), hg_hs_a (by omega)]; exact g2
      · rw [hg_hs_k (by decide), hg_hs_a (by omega), hg_hs_a (by omega)]; exact g3
      · rw [adh_20 (by omega), hg_hs_a (by omega), hg_hs_a (by omega)]
        by_cases y : j = v 11 l
        · rw [if_pos y, y]; exact hg_hs_eq _ (20 + 3 * l + 1) _ _
        · rw [if_neg y, hg_hs_k y]; exact (g4 j (by omega)).1
      · rw [adh_30 (by omega), hg_hs_a (by omega)]
        by_cases y : j = v 11 l
        · rw [if_pos y, y]; exact hg_hs_eq _ (20 + 3 * l + 2) _ _
        · rw [if_neg y, hg_hs_k y, hg_hs_a (by omega)]; exact (g4 j (by omega)).2
    · rw [adh_l z]
      refine ⟨?_, ?_, ?_, fun j hj => ⟨?_, ?_⟩⟩
      · rw [e _ _ (by omega)]; exact g1
      · rw [e _ _ (by omega)]; exact g2
      · rw [e _ _ (by omega)]; exact g3
      · rw [adh_20o (by omega) (by omega) z, e _ _ (by omega)]; exact (g4 j hj).1
      · rw [adh_30o (by omega) (by omega) z, e _ _ (by omega)]; exact (g4 j hj).2
theorem MLd_adh (w : WF v) (r : MLd v h) (hk : k < v 8 0) (h7 : v 11 k < 7) : MLd (adh v k x) (adM h k (v 11 k) x (v 7 0)) := by
  have h4 := wf_l w
  have o : ∀ f i, f < 11 → adh v k x f i = v f i := fun f i q => adh_o q
  have e := fun b j => adM_e (h := h) (k := k) (x := x) (n := v 11 k) (t := v 7 0) b j
  obtain ⟨⟨a1, a2, a3, a4⟩, b, c, f⟩ := r
  unfold MLd
  rw [o 0 0 (by decide), o 3 0 (by decide), o 7 0 (by decide), o 8 0 (by decide)]
  refine ⟨⟨?_, ?_, ?_, ?_⟩, fun y hy => ?_, fun m hm => ?_, fun l hl => ?_⟩
  · rw [e _ _ (by omega)]; exact a1
  · rw [e _ _ (by omega)]; exact a2
  · rw [e _ _ (by omega)]; exact a3
  · rw [e _ _ (by omega)]; exact a4
  · rw [o 1 y (by decide), o 2 y (by decide), e _ _ (by omega), e _ _ (by omega)]; exact b y hy
  · rw [o 4 m (by decide), o 5 m (by decide), o 6 m (by decide), e _ _ (by omega), e _ _ (by omega), e _ _ (by omega)]; exact c m hm
  · have l7 := wf_l7 w hl
    obtain ⟨g1, g2, g3, g4⟩ := f l hl
    rw [o 9 l (by decide), o 10 l (by decide)]
    unfold adM
    by_cases z : l = k
    · subst z
      rw [adh_11]
      refine ⟨?_, ?_, hg_hs_eq _ _ _ _, fun j hj => ⟨?_, ?_⟩⟩
      · rw [hg_hs_k (by omega), hg_hs_k (by omega), hg_hs_k (by omega)]; exact g1
      · rw [hg_hs_k (by omega), hg_hs_k (by omega), hg_hs_k (by omega)]; exact g2
      · rw [adh_20 (by omega), hg_hs_k (by omega), hg_hs_k (by omega)]
        by_cases y : j = v 11 l
        · rw [if_pos y, y, hg_hs_eq]
        · rw [if_neg y, hg_hs_k (by omega)]; exact (g4 j (by omega)).1
      · rw [adh_30 (by omega), hg_hs_k (by omega)]
        by_cases y : j = v 11 l
        · rw [if_pos y, y, hg_hs_eq]
        · rw [if_neg y, hg_hs_k (by omega), hg_hs_k (by omega)]; exact (g4 j (by omega)).2
    · rw [adh_l z]
      refine ⟨?_, ?_, ?_, fun j hj => ⟨?_, ?_⟩⟩
      · rw [hg_hs_k (by omega), hg_hs_k (by omega), hg_hs_k (by omega)]; exact g1
      · rw [hg_hs_k (by omega), hg_hs_k (by omega), hg_hs_k (by omega)]; exact g2
      · rw [hg_hs_k (by omega), hg_hs_k (by omega), hg_hs_k (by omega)]; exact g3
      · rw [adh_20o (by omega) (by omega) z, hg_hs_k (by omega), hg_hs_k (by omega), hg_hs_k (by omega)]; exact (g4 j hj).1
      · rw [adh_30o (by omega) (by omega) z, hg_hs_k (by omega), hg_hs_k (by omega), hg_hs_k (by omega)]; exact (g4 j hj).2
end LRN
