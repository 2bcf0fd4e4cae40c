/-! CELLS by number: what is in range there -/
theorem okA_t {a cd x : Nat} (n : Nat) (h1 : shC a = cd) (h2 : shN a = n) (hx : x < n) (hn : n < 2 ^ 31) : okA a cd (nI x) = true := by
  unfold okA inB
  rw [h1, h2, nI_clamp (by omega), decide_eq_false (nI_pos (by omega)), Nat.beq_refl]
  exact Nat.ble_eq_true_of_le hx
theorem okR_t {a x : Nat} (n : Nat) (h0 : 102 ≤ shC a) (h1 : shC a ≤ 105) (h2 : shN a = n) (hx : x < n) (hn : n < 2 ^ 31) : okR a (nI x) = true := by
  unfold okR inB
  rw [h2, nI_clamp (by omega), decide_eq_false (nI_pos (by omega)), Nat.ble_eq_true_of_le h0, Nat.ble_eq_true_of_le h1]
  exact Nat.ble_eq_true_of_le hx
theorem oA_4 {x : Nat} (hx : x < 7) : okA 4 100 (nI x) = true := okA_t 7 (by decide +kernel) (by decide +kernel) hx (by decide)
theorem oA_5 {x : Nat} (hx : x < 7) : okA 5 100 (nI x) = true := okA_t 7 (by decide +kernel) (by decide +kernel) hx (by decide)
theorem oA_18 {x : Nat} (hx : x < 7) : okA 18 100 (nI x) = true := okA_t 7 (by decide +kernel) (by decide +kernel) hx (by decide)
theorem oA_34 {x : Nat} (hx : x < 7) : okA 34 100 (nI x) = true := okA_t 7 (by decide +kernel) (by decide +kernel) hx (by decide)
theorem oA_65 {x : Nat} (hx : x < 7) : okA 65 100 (nI x) = true := okA_t 7 (by decide +kernel) (by decide +kernel) hx (by decide)
theorem oA_66 {x : Nat} (hx : x < 7) : okA 66 100 (nI x) = true := okA_t 7 (by decide +kernel) (by decide +kernel) hx (by decide)
theorem oA_67 {x : Nat} (hx : x < 7) : okA 67 100 (nI x) = true := okA_t 7 (by decide +kernel) (by decide +kernel) hx (by decide)
theorem oA_69 {x : Nat} (hx : x < 5) : okA 69 100 (nI x) = true := okA_t 5 (by decide +kernel) (by decide +kernel) hx (by decide)
theorem oA_70 {x : Nat} (hx : x < 6) : okA 70 100 (nI x) = true := okA_t 6 (by decide +kernel) (by decide +kernel) hx (by decide)
theorem oA_179 {x : Nat} (hx : x < 6) : okA 179 100 (nI x) = true := okA_t 6 (by decide +kernel) (by decide +kernel) hx (by decide)
theorem oA_180 {x : Nat} (hx : x < 6) : okA 180 100 (nI x) = true := okA_t 6 (by decide +kernel) (by decide +kernel) hx (by decide)
theorem oA_181 {x : Nat} (hx : x < 240) : okA 181 100 (nI x) = true := okA_t 240 (by decide +kernel) (by decide +kernel) hx (by decide)
theorem oA_182 {x : Nat} (hx : x < 40) : okA 182 100 (nI x) = true := okA_t 40 (by decide +kernel) (by decide +kernel) hx (by decide)
theorem oA_183 {x : Nat} (hx : x < 4) : okA 183 100 (nI x) = true := okA_t 4 (by decide +kernel) (by decide +kernel) hx (by decide)
theorem oA_184 {x : Nat} (hx : x < 320) : okA 184 100 (nI x) = true := okA_t 320 (by decide +kernel) (by decide +kernel) hx (by decide)
theorem oA_185 {x : Nat} (hx : x < 7) : okA 185 100 (nI x) = true := okA_t 7 (by decide +kernel) (by decide +kernel) hx (by decide)
theorem oA_186 {x : Nat} (hx : x < 7) : okA 186 100 (nI x) = true := okA_t 7 (by decide +kernel) (by decide +kernel) hx (by decide)
theorem oA_187 {x : Nat} (hx : x < 48) : okA 187 100 (nI x) = true := okA_t 48 (by decide +kernel) (by decide +kernel) hx (by decide)
theorem oA_188 {x : Nat} (hx : x < 68) : okA 188 100 (nI x) = true := okA_t 68 (by decide +kernel) (by decide +kernel) hx (by decide)
theorem oA_189 {x : Nat} (hx : x < 7) : okA 189 100 (nI x) = true := okA_t 7 (by decide +kernel) (by decide +kernel) hx (by decide)
theorem oA_190 {x : Nat} (hx : x < 7) : okA 190 100 (nI x) = true := okA_t 7 (by decide +kernel) (by decide +kernel) hx (by decide)
theorem oA_191 {x : Nat} (hx : x < 48) : okA 191 100 (nI x) = true := okA_t 48 (by decide +kernel) (by decide +kernel) hx (by decide)
theorem oA_192 {x : Nat} (hx : x < 420) : okA 192 100 (nI x) = true := okA_t 420 (by decide +kernel) (by decide +kernel) hx (by decide)
theorem oA_193 {x : Nat} (hx : x < 7) : okA 193 100 (nI x) = true := okA_t 7 (by decide +kernel) (by decide +kernel) hx (by decide)
theorem oA_194 {x : Nat} (hx : x < 7) : okA 194 100 (nI x) = true := okA_t 7 (by decide +kernel) (by decide +kernel) hx (by decide)
theorem oA_196 {x : Nat} (hx : x < 49) : okA 196 100 (nI x) = true := okA_t 49 (by decide +kernel) (by decide +kernel) hx (by decide)
theorem oA_62 {x : Nat} (hx : x < 3) : okA 62 101 (nI x) = true := okA_t 3 (by decide +kernel) (by decide +kernel) hx (by decide)
theorem oA_195 {x : Nat} (hx : x < 128) : okA 195 101 (nI x) = true := okA_t 128 (by decide +kernel) (by decide +kernel) hx (by decide)
theorem oR_1 {x : Nat} (hx : x < 6) : okR 1 (nI x) = true := okR_t 6 (by decide +kernel) (by decide +kernel) rfl hx (by decide)
theorem oR_2 {x : Nat} (hx : x < 4) : okR 2 (nI x) = true := okR_t 4 (by decide +kernel) (by decide +kernel) rfl hx (by decide)
theorem oR_19 {x : Nat} (hx : x < 4) : okR 19 (nI x) = true := okR_t 4 (by decide +kernel) (by decide +kernel) rfl hx (by decide)
theorem oR_61 {x : Nat} (hx : x < 3) : okR 61 (nI x) = true := okR_t 3 (by decide +kernel) (by decide +kernel) rfl hx (by decide)
theorem sR_1 : ∀ {x : Nat}, x < 6 → shR 1 x = 71 + 2 * x := fun {x} h => (by decide +kernel : ∀ x, x < 6 → shR 1 x = 71 + 2 * x) x h
theorem sR_2 : ∀ {x : Nat}, x < 4 → shR 2 x = 83 + 2 * x := fun {x} h => (by decide +kernel : ∀ x, x < 4 → shR 2 x = 83 + 2 * x) x h
theorem sR_19 : ∀ {x : Nat}, x < 4 → shR 19 x = 20 + 3 * x := fun {x} h => (by decide +kernel : ∀ x, x < 4 → shR 19 x = 20 + 3 * x) x h
theorem sR_61 : ∀ {x : Nat}, x < 3 → shR 61 x = 91 + 29 * x := fun {x} h => (by decide +kernel : ∀ x, x < 3 → shR 61 x = 91 + 29 * x) x h
/-! sheets: 71 + 2 s, s < 10 (rows 0 .. 5, texts 6 .. 9) -/
def cap (s : Nat) : Nat := if s < 6 then 40 else 80
theorem cap_le (s : Nat) : cap s ≤ 80 := by unfold cap; split <;> omega
set_option maxRecDepth 100000 in
theorem shk : ∀ s, s < 10 → okO (71 + 2 * s) 4 = true ∧ okF (71 + 2 * s) 4 0 1 = true ∧ okF (71 + 2 * s) 4 1 0 = true ∧ shR (71 + 2 * s) 0 = 72 + 2 * s ∧ shC (72 + 2 * s) = 100 ∧ shN (72 + 2 * s) = cap s ∧ okN (72 + 2 * s) = true := by decide +kernel
theorem sh_O {s : Nat} (h : s < 10) : okO (71 + 2 * s) 4 = true := (shk s h).1
theorem sh_F0 {s : Nat} (h : s < 10) : okF (71 + 2 * s) 4 0 1 = true := (shk s h).2.1
theorem sh_F1 {s : Nat} (h : s < 10) : okF (71 + 2 * s) 4 1 0 = true := (shk s h).2.2.1
theorem sh_R {s : Nat} (h : s < 10) : shR (71 + 2 * s) 0 = 72 + 2 * s := (shk s h).2.2.2.1
theorem sh_C {s : Nat} (h : s < 10) : shC (72 + 2 * s) = 100 := (shk s h).2.2.2.2.1
theorem sh_N {s : Nat} (h : s < 10) : shN (72 + 2 * s) = cap s := (shk s h).2.2.2.2.2.1
theorem sh_L {s : Nat} (h : s < 10) : okN (72 + 2 * s) = true := (shk s h).2.2.2.2.2.2
theorem sh_A {s j : Nat} (h : s < 10) (hj : j < cap s) : okA (72 + 2 * s) 100 (nI j) = true := okA_t (cap s) (sh_C h) (sh_N h) hj (by have := cap_le s; omega)
theorem sh_t (t : Nat) : 83 + 2 * t = 71 + 2 * (6 + t) := by omega
/-! lands: 3, 32, 91, 120, 149 -/
def isL (o : Nat) : Prop := o = 3 ∨ o = 32 ∨ o = 91 ∨ o = 120 ∨ o = 149
theorem isL_3 : isL 3 := Or.inl rfl
theorem isL_32 : isL 32 := Or.inr (Or.inl rfl)
theorem isL_k {k : Nat} (h : k < 3) : isL (91 + 29 * k) := by unfold isL; omega
def okL (o : Nat) : Prop := okO o 0 = true ∧ (∀ k, k < 8 → okF o 0 k 1 = true) ∧ (∀ k, k < 4 → okF o 0 (8 + k) 0 = true) ∧ (∀ k, k < 6 → shR o k = o + 1 + k) ∧ shR o 6 = o + 15 ∧ shR o 7 = o + 16 ∧
  (∀ k, k < 2 → shC (o + 1 + k) = 100 ∧ shN (o + 1 + k) = 7) ∧ (∀ k, k < 3 → shC (o + 3 + k) = 100 ∧ shN (o + 3 + k) = 16) ∧ (shC (o + 6) = 105 ∧ shN (o + 6) = 8) ∧ (shC (o + 15) = 100 ∧ shN (o + 15) = 7) ∧ (shC (o + 16) = 104 ∧ shN (o + 16) = 4) ∧
  (∀ t, t < 8 → shR (o + 6) t = o + 7 + t ∧ shC (o + 7 + t) = 100 ∧ shN (o + 7 + t) = 7) ∧
  (∀ k, k < 4 → shR (o + 16) k = o + 17 + 3 * k ∧ okO (o + 17 + 3 * k) 1 = true ∧ shR (o + 17 + 3 * k) 0 = o + 18 + 3 * k ∧ shR (o + 17 + 3 * k) 1 = o + 19 + 3 * k ∧ shC (o + 18 + 3 * k) = 100 ∧ shN (o + 18 + 3 * k) = 7 ∧ shC (o + 19 + 3 * k) = 100 ∧ shN (o + 19 + 3 * k) = 7 ∧ okF (o + 17 + 3 * k) 1 0 1 = true ∧ okF (o + 17 + 3 * k) 1 1 1 = true ∧ okF (o + 17 + 3 * k) 1 2 0 = true ∧ okF (o + 17 + 3 * k) 1 3 0 = true ∧ okF (o + 17 + 3 * k) 1 4 0 = true)
theorem okL_3 : okL 3 := by unfold okL; decide +kernel
theorem okL_32 : okL 32 := by unfold okL; decide +kernel
theorem okL_91 : okL 91 := by unfold okL; decide +kernel
theorem okL_120 : okL 120 := by unfold okL; decide +kernel
theorem okL_149 : okL 149 := by unfold okL; decide +kernel
theorem okL_of {o : Nat} (h : isL o) : okL o := by
  rcases h with rfl | rfl | rfl | rfl | rfl
  · exact okL_3
  · exact okL_32
  · exact okL_91
  · exact okL_120
  · exact okL_149
section
variable {o : Nat}
theorem la_O (h : isL o) : okO o 0 = true := (okL_of h).1
theorem la_f0 (h : isL o) : okF o 0 0 1 = true := (okL_of h).2.1 0 (by decide)
theorem la_f1 (h : isL o) : okF o 0 1 1 = true := (okL_of h).2.1 1 (by decide)
theorem la_f2 (h : isL o) : okF o 0 2 1 = true := (okL_of h).2.1 2 (by decide)
theorem la_f3 (h : isL o) : okF o 0 3 1 = true := (okL_of h).2.1 3 (by decide)
theorem la_f4 (h : isL o) : okF o 0 4 1 = true := (okL_of h).2.1 4 (by decide)
theorem la_f5 (h : isL o) : okF o 0 5 1 = true := (okL_of h).2.1 5 (by decide)
theorem la_f6 (h : isL o) : okF o 0 6 1 = true := (okL_of h).2.1 6 (by decide)
theorem la_f7 (h : isL o) : okF o 0 7 1 = true := (okL_of h).2.1 7 (by decide)
theorem la_f8 (h : isL o) : okF o 0 8 0 = true := (okL_of h).2.2.1 0 (by decide)
theorem la_f9 (h : isL o) : okF o 0 9 0 = true := (okL_of h).2.2.1 1 (by decide)
theorem la_f10 (h : isL o) : okF o 0 10 0 = true := (okL_of h).2.2.1 2 (by decide)
theorem la_f11 (h : isL o) : okF o 0 11 0 = true := (okL_of h).2.2.1 3 (by decide)
theorem la_r0 (h : isL o) : shR o 0 = o + 1 := (okL_of h).2.2.2.1 0 (by decide)
theorem la_r1 (h : isL o) : shR o 1 = o + 2 := (okL_of h).2.2.2.1 1 (by decide)
theorem la_r2 (h : isL o) : shR o 2 = o + 3 := (okL_of h).2.2.2.1 2 (by decide)
theorem la_r3 (h : isL o) : shR o 3 = o + 4 := (okL_of h).2.2.2.1 3 (by decide)
theorem la_r4 (h : isL o) : shR o 4 = o + 5 := (okL_of h).2.2.2.1 4 (by decide)
theorem la_r5 (h : isL o) : shR o 5 = o + 6 := (okL_of h).2.2.2.1 5 (by decide)
theorem la_r6 (h : isL o) : shR o 6 = o + 15 := (okL_of h).2.2.2.2.1
theorem la_r7 (h : isL o) : shR o 7 = o + 16 := (okL_of h).2.2.2.2.2.1
theorem la_a1 (h : isL o) {x : Nat} (hx : x < 7) : okA (o + 1) 100 (nI x) = true := okA_t 7 ((okL_of h).2.2.2.2.2.2.1 0 (by decide)).1 ((okL_of h).2.2.2.2.2.2.1 0 (by decide)).2 hx (by decide)
theorem la_a2 (h : isL o) {x : Nat} (hx : x < 7) : okA (o + 2) 100 (nI x) = true := okA_t 7 ((okL_of h).2.2.2.2.2.2.1 1 (by decide)).1 ((okL_of h).2.2.2.2.2.2.1 1 (by decide)).2 hx (by decide)
theorem la_a3 (h : isL o) {x : Nat} (hx : x < 16) : okA (o + 3) 100 (nI x) = true := okA_t 16 ((okL_of h).2.2.2.2.2.2.2.1 0 (by decide)).1 ((okL_of h).2.2.2.2.2.2.2.1 0 (by decide)).2 hx (by decide)
theorem la_a4 (h : isL o) {x : Nat} (hx : x < 16) : okA (o + 4) 100 (nI x) = true := okA_t 16 ((okL_of h).2.2.2.2.2.2.2.1 1 (by decide)).1 ((okL_of h).2.2.2.2.2.2.2.1 1 (by decide)).2 hx (by decide)
theorem la_a5 (h : isL o) {x : Nat} (hx : x < 16) : okA (o + 5) 100 (nI x) = true := okA_t 16 ((okL_of h).2.2.2.2.2.2.2.1 2 (by decide)).1 ((okL_of h).2.2.2.2.2.2.2.1 2 (by decide)).2 hx (by decide)
theorem la_a6 (h : isL o) {x : Nat} (hx : x < 8) : okR (o + 6) (nI x) = true := okR_t 8 (by rw [(okL_of h).2.2.2.2.2.2.2.2.1.1]; decide) (by rw [(okL_of h).2.2.2.2.2.2.2.2.1.1]; decide) (okL_of h).2.2.2.2.2.2.2.2.1.2 hx (by decide)
theorem la_a15 (h : isL o) {x : Nat} (hx : x < 7) : okA (o + 15) 100 (nI x) = true := okA_t 7 (okL_of h).2.2.2.2.2.2.2.2.2.1.1 (okL_of h).2.2.2.2.2.2.2.2.2.1.2 hx (by decide)
theorem la_a16 (h : isL o) {x : Nat} (hx : x < 4) : okR (o + 16) (nI x) = true := okR_t 4 (by rw [(okL_of h).2.2.2.2.2.2.2.2.2.2.1.1]; decide) (by rw [(okL_of h).2.2.2.2.2.2.2.2.2.2.1.1]; decide) (okL_of h).2.2.2.2.2.2.2.2.2.2.1.2 hx (by decide)
theorem la_m (h : isL o) {t : Nat} (ht : t < 8) : shR (o + 6) t = o + 7 + t := ((okL_of h).2.2.2.2.2.2.2.2.2.2.2.1 t ht).1
theorem la_am (h : isL o) {t x : Nat} (ht : t < 8) (hx : x < 7) : okA (o + 7 + t) 100 (nI x) = true := okA_t 7 ((okL_of h).2.2.2.2.2.2.2.2.2.2.2.1 t ht).2.1 ((okL_of h).2.2.2.2.2.2.2.2.2.2.2.1 t ht).2.2 hx (by decide)
theorem le_r (h : isL o) {k : Nat} (hk : k < 4) : shR (o + 16) k = o + 17 + 3 * k := ((okL_of h).2.2.2.2.2.2.2.2.2.2.2.2 k hk).1
/-- letter's objects -/
def isE (q : Nat) : Prop := ∃ o k, isL o ∧ k < 4 ∧ q = o + 17 + 3 * k
theorem isE_of (h : isL o) {k : Nat} (hk : k < 4) : isE (o + 17 + 3 * k) := ⟨o, k, h, hk, rfl⟩
theorem isE_20 {k : Nat} (hk : k < 4) : isE (20 + 3 * k) := ⟨3, k, isL_3, hk, rfl⟩
end
theorem okE {q : Nat} (h : isE q) : okO q 1 = true ∧ shR q 0 = q + 1 ∧ shR q 1 = q + 2 ∧ shC (q + 1) = 100 ∧ shN (q + 1) = 7 ∧ shC (q + 2) = 100 ∧ shN (q + 2) = 7 ∧ okF q 1 0 1 = true ∧ okF q 1 1 1 = true ∧ okF q 1 2 0 = true ∧ okF q 1 3 0 = true ∧ okF q 1 4 0 = true := by
  obtain ⟨o, k, h, hk, rfl⟩ := h
  have e1 : o + 17 + 3 * k + 1 = o + 18 + 3 * k := by omega
  have e2 : o + 17 + 3 * k + 2 = o + 19 + 3 * k := by omega
  rw [e1, e2]
  exact ((okL_of h).2.2.2.2.2.2.2.2.2.2.2.2 k hk).2
section
variable {q : Nat}
theorem le_O (h : isE q) : okO q 1 = true := (okE h).1
theorem le_r0 (h : isE q) : shR q 0 = q + 1 := (okE h).2.1
theorem le_r1 (h : isE q) : shR q 1 = q + 2 := (okE h).2.2.1
theorem le_a1 (h : isE q) {j : Nat} (hj : j < 7) : okA (q + 1) 100 (nI j) = true := okA_t 7 (okE h).2.2.2.1 (okE h).2.2.2.2.1 hj (by decide)
theorem le_a2 (h : isE q) {j : Nat} (hj : j < 7) : okA (q + 2) 100 (nI j) = true := okA_t 7 (okE h).2.2.2.2.2.1 (okE h).2.2.2.2.2.2.1 hj (by decide)
theorem le_f0 (h : isE q) : okF q 1 0 1 = true := (okE h).2.2.2.2.2.2.2.1
theorem le_f1 (h : isE q) : okF q 1 1 1 = true := (okE h).2.2.2.2.2.2.2.2.1
theorem le_f2 (h : isE q) : okF q 1 2 0 = true := (okE h).2.2.2.2.2.2.2.2.2.1
theorem le_f3 (h : isE q) : okF q 1 3 0 = true := (okE h).2.2.2.2.2.2.2.2.2.2.1
theorem le_f4 (h : isE q) : okF q 1 4 0 = true := (okE h).2.2.2.2.2.2.2.2.2.2.2
end
/-! writes -/
theorem hg_hs2 (h : Hp) (a k : Nat) (v : Int32) (b j : Nat) : hg (hs h a k v) b j = if b = a ∧ j = k then v else hg h b j := rfl
theorem hg_hs_eq (h : Hp) (a k : Nat) (v : Int32) : hg (hs h a k v) a k = v := by rw [hg_hs2, if_pos ⟨rfl, rfl⟩]
theorem hg_hs_a {h : Hp} {a k : Nat} {v : Int32} {b j : Nat} (q : b ≠ a) : hg (hs h a k v) b j = hg h b j := by rw [hg_hs2, if_neg (fun z => q z.1)]
theorem hg_hs_k {h : Hp} {a k : Nat} {v : Int32} {b j : Nat} (q : j ≠ k) : hg (hs h a k v) b j = hg h b j := by rw [hg_hs2, if_neg (fun z => q z.2)]
