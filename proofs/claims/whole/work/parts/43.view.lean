/-! THE VIEW of a land: v 0 0 how many hands; v 1 x kinds; v 2 x known; v 3 0 how many meetings; v 4 k, v 5 k who; v 6 k when; v 7 0 the hour; v 8 0 how many letters; v 9 k to; v 10 k tongues; v 11 k hands so far; v (20 + k) j through; v (30 + k) j came -/
abbrev LV : Type := Nat → Nat → Nat
def vs (v : LV) (f i x : Nat) : LV := fun g j => if g = f ∧ j = i then x else v g j
def pr (v : LV) (k x y : Nat) : Bool := (v 4 k == x && v 5 k == y) || (v 4 k == y && v 5 k == x)
/-- two meet in some hour; in the hours t modulo 8 -/
def met (v : LV) (x y : Nat) : Bool := anyB (v 3 0) (fun k => pr v k x y)
def metH (v : LV) (t x y : Nat) : Bool := anyB (v 3 0) (fun k => v 6 k == t && pr v k x y)
/-- neighbours by number -/
def nb (a : Nat) : Nat := (a ||| a <<< 1 ||| a >>> 1) &&& 31
/-- what bars one from a letter in the tongues T -/
def brs (v : LV) (x T : Nat) : Nat := if v 1 x = 1 ∨ v 1 x = 4 ∨ v 1 x = 5 then 0 else if v 1 x = 2 then v 2 x &&& nb T else v 2 x &&& T
def mayB (v : LV) (x T : Nat) : Bool := brs v x T == 0
def WF (v : LV) : Prop := v 0 0 ≤ 7 ∧ (∀ x, x < v 0 0 → v 1 x < 6 ∧ v 2 x < 32) ∧ v 3 0 ≤ 16 ∧ (∀ k, k < v 3 0 → v 4 k < v 0 0 ∧ v 5 k < v 0 0 ∧ v 4 k ≠ v 5 k ∧ v 6 k < 8) ∧ v 7 0 ≤ 99 ∧ v 8 0 ≤ 4 ∧
  (∀ k, k < v 8 0 → v 9 k < v 0 0 ∧ 1 ≤ v 10 k ∧ v 10 k < 32 ∧ 1 ≤ v 11 k ∧ v 11 k ≤ v 0 0 ∧ (∀ j, j < v 11 k → v (20 + k) j < v 0 0 ∧ v (30 + k) j ≤ 99) ∧ (∀ i j, i < j → j < v 11 k → v (20 + k) i ≠ v (20 + k) j))
section WFS
variable {v : LV}
theorem wf_n (w : WF v) : v 0 0 ≤ 7 := w.1
theorem wf_k (w : WF v) {x : Nat} (h : x < v 0 0) : v 1 x < 6 := (w.2.1 x h).1
theorem wf_w (w : WF v) {x : Nat} (h : x < v 0 0) : v 2 x < 32 := (w.2.1 x h).2
theorem wf_m (w : WF v) : v 3 0 ≤ 16 := w.2.2.1
theorem wf_a (w : WF v) {k : Nat} (h : k < v 3 0) : v 4 k < v 0 0 := (w.2.2.2.1 k h).1
theorem wf_b (w : WF v) {k : Nat} (h : k < v 3 0) : v 5 k < v 0 0 := (w.2.2.2.1 k h).2.1
theorem wf_ab (w : WF v) {k : Nat} (h : k < v 3 0) : v 4 k ≠ v 5 k := (w.2.2.2.1 k h).2.2.1
theorem wf_t (w : WF v) {k : Nat} (h : k < v 3 0) : v 6 k < 8 := (w.2.2.2.1 k h).2.2.2
theorem wf_h (w : WF v) : v 7 0 ≤ 99 := w.2.2.2.2.1
theorem wf_l (w : WF v) : v 8 0 ≤ 4 := w.2.2.2.2.2.1
theorem wf_to (w : WF v) {k : Nat} (h : k < v 8 0) : v 9 k < v 0 0 := (w.2.2.2.2.2.2 k h).1
theorem wf_i1 (w : WF v) {k : Nat} (h : k < v 8 0) : 1 ≤ v 10 k := (w.2.2.2.2.2.2 k h).2.1
theorem wf_i2 (w : WF v) {k : Nat} (h : k < v 8 0) : v 10 k < 32 := (w.2.2.2.2.2.2 k h).2.2.1
theorem wf_l1 (w : WF v) {k : Nat} (h : k < v 8 0) : 1 ≤ v 11 k := (w.2.2.2.2.2.2 k h).2.2.2.1
theorem wf_l2 (w : WF v) {k : Nat} (h : k < v 8 0) : v 11 k ≤ v 0 0 := (w.2.2.2.2.2.2 k h).2.2.2.2.1
theorem wf_l7 (w : WF v) {k : Nat} (h : k < v 8 0) : v 11 k ≤ 7 := Nat.le_trans (wf_l2 w h) (wf_n w)
theorem wf_th (w : WF v) {k j : Nat} (h : k < v 8 0) (hj : j < v 11 k) : v (20 + k) j < v 0 0 := ((w.2.2.2.2.2.2 k h).2.2.2.2.2.1 j hj).1
theorem wf_ca (w : WF v) {k j : Nat} (h : k < v 8 0) (hj : j < v 11 k) : v (30 + k) j ≤ 99 := ((w.2.2.2.2.2.2 k h).2.2.2.2.2.1 j hj).2
theorem wf_ne (w : WF v) {k i j : Nat} (h : k < v 8 0) (hij : i < j) (hj : j < v 11 k) : v (20 + k) i ≠ v (20 + k) j := (w.2.2.2.2.2.2 k h).2.2.2.2.2.2 i j hij hj
theorem pr_symm (k x y : Nat) : pr v k x y = pr v k y x := Bool.or_comm _ _
theorem met_symm (x y : Nat) : met v x y = met v y x := anyB_cong fun k _ => pr_symm k x y
theorem metH_symm (t x y : Nat) : metH v t x y = metH v t y x := anyB_cong fun k _ => by rw [pr_symm]
theorem pr_iff {k x y : Nat} : pr v k x y = true ↔ (v 4 k = x ∧ v 5 k = y) ∨ (v 4 k = y ∧ v 5 k = x) := by simp [pr]
theorem met_iff {x y : Nat} : met v x y = true ↔ ∃ k, k < v 3 0 ∧ ((v 4 k = x ∧ v 5 k = y) ∨ (v 4 k = y ∧ v 5 k = x)) := by
  unfold met
  rw [anyB_iff]
  simp only [pr_iff]
theorem met_lt (w : WF v) {x y : Nat} (h : met v x y = true) : x < v 0 0 ∧ y < v 0 0 ∧ x ≠ y := by
  obtain ⟨k, hk, h | h⟩ := met_iff.mp h
  · obtain ⟨rfl, rfl⟩ := h
    exact ⟨wf_a w hk, wf_b w hk, wf_ab w hk⟩
  · obtain ⟨rfl, rfl⟩ := h
    exact ⟨wf_b w hk, wf_a w hk, (wf_ab w hk).symm⟩
theorem metH_met {t x y : Nat} (h : metH v t x y = true) : met v x y = true := by
  unfold metH at h
  rw [anyB_iff] at h
  obtain ⟨k, hk, h⟩ := h
  rw [Bool.and_eq_true] at h
  exact anyB_iff.mpr ⟨k, hk, h.2⟩
end WFS
/-! the given one's land o; the reference's -/
def CLe (q : Nat) (v : LV) (k : Nat) (h : Hp) : Prop := hg h q 2 = nI (v 11 k) ∧ hg h q 3 = nI (v 9 k) ∧ hg h q 4 = nI (v 10 k) ∧ ∀ j, j < v 11 k → hg h (q + 1) j = nI (v (20 + k) j) ∧ hg h (q + 2) j = nI (v (30 + k) j)
def CLd (o : Nat) (v : LV) (h : Hp) : Prop :=
  (hg h o 8 = nI (v 0 0) ∧ hg h o 9 = nI (v 3 0) ∧ hg h o 10 = nI (v 8 0) ∧ hg h o 11 = nI (v 7 0)) ∧
  (∀ x, x < v 0 0 → hg h (o + 1) x = nI (v 1 x) ∧ hg h (o + 2) x = nI (v 2 x)) ∧
  (∀ k, k < v 3 0 → hg h (o + 3) k = nI (v 4 k) ∧ hg h (o + 4) k = nI (v 5 k) ∧ hg h (o + 5) k = nI (v 6 k)) ∧
  (∀ t x, t < 8 → x < 7 → hg h (o + 7 + t) x = nI (ms 7 (metH v t x))) ∧
  (∀ x, x < 7 → hg h (o + 15) x = nI (ms 7 (met v x))) ∧
  (∀ k, k < v 8 0 → CLe (o + 17 + 3 * k) v k h)
def MLd (v : LV) (h : Hp) : Prop :=
  (hg h 178 8 = nI (v 0 0) ∧ hg h 178 11 = nI (v 3 0) ∧ hg h 178 14 = nI (v 8 0) ∧ hg h 178 13 = nI (v 7 0)) ∧
  (∀ x, x < v 0 0 → hg h 185 x = nI (v 1 x) ∧ hg h 186 x = nI (v 2 x)) ∧
  (∀ k, k < v 3 0 → hg h 187 (3 * k) = nI (v 4 k) ∧ hg h 187 (3 * k + 1) = nI (v 5 k) ∧ hg h 187 (3 * k + 2) = nI (v 6 k)) ∧
  (∀ k, k < v 8 0 → hg h 188 (17 * k) = nI (v 9 k) ∧ hg h 188 (17 * k + 1) = nI (v 10 k) ∧ hg h 188 (17 * k + 2) = nI (v 11 k) ∧ ∀ j, j < v 11 k → hg h 188 (17 * k + 3 + j) = nI (v (20 + k) j) ∧ hg h 188 (17 * k + 10 + j) = nI (v (30 + k) j))
section RLS
variable {o : Nat} {v : LV} {h : Hp}
theorem L_n (r : CLd o v h) : hg h o 8 = nI (v 0 0) := r.1.1
theorem L_m (r : CLd o v h) : hg h o 9 = nI (v 3 0) := r.1.2.1
theorem L_l (r : CLd o v h) : hg h o 10 = nI (v 8 0) := r.1.2.2.1
theorem L_h (r : CLd o v h) : hg h o 11 = nI (v 7 0) := r.1.2.2.2
theorem L_k (r : CLd o v h) {x : Nat} (hx : x < v 0 0) : hg h (o + 1) x = nI (v 1 x) := (r.2.1 x hx).1
theorem L_w (r : CLd o v h) {x : Nat} (hx : x < v 0 0) : hg h (o + 2) x = nI (v 2 x) := (r.2.1 x hx).2
theorem L_a (r : CLd o v h) {k : Nat} (hk : k < v 3 0) : hg h (o + 3) k = nI (v 4 k) := (r.2.2.1 k hk).1
theorem L_b (r : CLd o v h) {k : Nat} (hk : k < v 3 0) : hg h (o + 4) k = nI (v 5 k) := (r.2.2.1 k hk).2.1
theorem L_t (r : CLd o v h) {k : Nat} (hk : k < v 3 0) : hg h (o + 5) k = nI (v 6 k) := (r.2.2.1 k hk).2.2
theorem L_mH (r : CLd o v h) {t x : Nat} (ht : t < 8) (hx : x < 7) : hg h (o + 7 + t) x = nI (ms 7 (metH v t x)) := r.2.2.2.1 t x ht hx
theorem L_mE (r : CLd o v h) {x : Nat} (hx : x < 7) : hg h (o + 15) x = nI (ms 7 (met v x)) := r.2.2.2.2.1 x hx
theorem L_e (r : CLd o v h) {k : Nat} (hk : k < v 8 0) : CLe (o + 17 + 3 * k) v k h := r.2.2.2.2.2 k hk
theorem M_n (r : MLd v h) : hg h 178 8 = nI (v 0 0) := r.1.1
theorem M_m (r : MLd v h) : hg h 178 11 = nI (v 3 0) := r.1.2.1
theorem M_l (r : MLd v h) : hg h 178 14 = nI (v 8 0) := r.1.2.2.1
theorem M_h (r : MLd v h) : hg h 178 13 = nI (v 7 0) := r.1.2.2.2
theorem M_k (r : MLd v h) {x : Nat} (hx : x < v 0 0) : hg h 185 x = nI (v 1 x) := (r.2.1 x hx).1
theorem M_w (r : MLd v h) {x : Nat} (hx : x < v 0 0) : hg h 186 x = nI (v 2 x) := (r.2.1 x hx).2
theorem M_a (r : MLd v h) {k : Nat} (hk : k < v 3 0) : hg h 187 (3 * k) = nI (v 4 k) := (r.2.2.1 k hk).1
theorem M_b (r : MLd v h) {k : Nat} (hk : k < v 3 0) : hg h 187 (3 * k + 1) = nI (v 5 k) := (r.2.2.1 k hk).2.1
theorem M_t (r : MLd v h) {k : Nat} (hk : k < v 3 0) : hg h 187 (3 * k + 2) = nI (v 6 k) := (r.2.2.1 k hk).2.2
theorem M_to (r : MLd v h) {k : Nat} (hk : k < v 8 0) : hg h 188 (17 * k) = nI (v 9 k) := (r.2.2.2 k hk).1
theorem M_in (r : MLd v h) {k : Nat} (hk : k < v 8 0) : hg h 188 (17 * k + 1) = nI (v 10 k) := (r.2.2.2 k hk).2.1
theorem M_len (r : MLd v h) {k : Nat} (hk : k < v 8 0) : hg h 188 (17 * k + 2) = nI (v 11 k) := (r.2.2.2 k hk).2.2.1
theorem M_th (r : MLd v h) {k j : Nat} (hk : k < v 8 0) (hj : j < v 11 k) : hg h 188 (17 * k + 3 + j) = nI (v (20 + k) j) := ((r.2.2.2 k hk).2.2.2 j hj).1
theorem M_ca (r : MLd v h) {k j : Nat} (hk : k < v 8 0) (hj : j < v 11 k) : hg h 188 (17 * k + 10 + j) = nI (v (30 + k) j) := ((r.2.2.2 k hk).2.2.2 j hj).2
theorem E_len {q k : Nat} (r : CLe q v k h) : hg h q 2 = nI (v 11 k) := r.1
theorem E_to {q k : Nat} (r : CLe q v k h) : hg h q 3 = nI (v 9 k) := r.2.1
theorem E_in {q k : Nat} (r : CLe q v k h) : hg h q 4 = nI (v 10 k) := r.2.2.1
theorem E_th {q k j : Nat} (r : CLe q v k h) (hj : j < v 11 k) : hg h (q + 1) j = nI (v (20 + k) j) := (r.2.2.2 j hj).1
theorem E_ca {q k j : Nat} (r : CLe q v k h) (hj : j < v 11 k) : hg h (q + 2) j = nI (v (30 + k) j) := (r.2.2.2 j hj).2
end RLS
