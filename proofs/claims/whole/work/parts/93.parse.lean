/-! THE READING of a text: views, the given one's steps -/
def hnd (v : LV) (k S : Nat) : LV := fun f i => if f = 0 ∧ i = 0 then v 0 0 + 1 else if f = 1 ∧ i = v 0 0 then k else if f = 2 ∧ i = v 0 0 then S else v f i
def WFp (v : LV) : Prop := WF v ∧ v 7 0 = 0 ∧ v 8 0 = 0
def frP (g g1 : Hp) : Prop := ∀ a j, ¬ (32 ≤ a ∧ a ≤ 60) → a ≠ 63 → hg g1 a j = hg g a j
def frQ (g g1 : Hp) : Prop := ∀ a j, ¬ (a = 178 ∧ 16 ≤ j ∧ j ≤ 18) → ¬ (189 ≤ a ∧ a ≤ 191) → hg g1 a j = hg g a j
def CT (t n : Nat) (f : Nat → Int32) (g : Hp) : Prop := hg g (83 + 2 * t) 1 = nI n ∧ ∀ j, j < n → hg g (84 + 2 * t) j = f j
def MT (t n : Nat) (f : Nat → Int32) (g : Hp) : Prop := hg g 183 t = nI n ∧ ∀ j, j < n → hg g 184 (80 * t + j) = f j
def RLd (v : LV) (g : Hp) : Prop := hg g 178 17 = nI (v 0 0) ∧ hg g 178 18 = nI (v 3 0) ∧ (∀ x, x < v 0 0 → hg g 189 x = nI (v 1 x) ∧ hg g 190 x = nI (v 2 x)) ∧ ∀ k, k < v 3 0 → hg g 191 (3 * k) = nI (v 4 k) ∧ hg g 191 (3 * k + 1) = nI (v 5 k) ∧ hg g 191 (3 * k + 2) = nI (v 6 k)
theorem CT_P {t n : Nat} {f : Nat → Int32} {g g1 : Hp} (c : CT t n f g) (q : frP g g1) : CT t n f g1 := ⟨(q _ _ (by omega) (by omega)).trans c.1, fun j hj => (q _ _ (by omega) (by omega)).trans (c.2 j hj)⟩
theorem MT_Q {t n : Nat} {f : Nat → Int32} {g g1 : Hp} (c : MT t n f g) (q : frQ g g1) : MT t n f g1 := ⟨(q _ _ (by omega) (by omega)).trans c.1, fun j hj => (q _ _ (by omega) (by omega)).trans (c.2 j hj)⟩
theorem frP_rf (g : Hp) : frP g g := fun _ _ _ _ => rfl
theorem frQ_rf (g : Hp) : frQ g g := fun _ _ _ _ => rfl
theorem frP_tr {a b c : Hp} (p : frP a b) (q : frP b c) : frP a c := fun x j h1 h2 => (q x j h1 h2).trans (p x j h1 h2)
theorem frQ_tr {a b c : Hp} (p : frQ a b) (q : frQ b c) : frQ a c := fun x j h1 h2 => (q x j h1 h2).trans (p x j h1 h2)
theorem frP_63 {g : Hp} {k : Nat} {x : Int32} : frP g (hs g 63 k x) := fun _ _ _ h2 => hg_hs_a h2
theorem frQ_178 {g : Hp} {k : Nat} {x : Int32} (hk : 16 ≤ k ∧ k ≤ 18) : frQ g (hs g 178 k x) := fun a j h1 _ => by
  rw [hg_hs2, if_neg (by omega)]
theorem frQ_r {g : Hp} {a k : Nat} {x : Int32} (ha : 189 ≤ a ∧ a ≤ 191) : frQ g (hs g a k x) := fun b j _ h2 => hg_hs_a (by omega)
theorem CLd_63 {v : LV} {g : Hp} (w : WF v) (r : CLd 32 v g) {k : Nat} {x : Int32} : CLd 32 v (hs g 63 k x) := CLd_ag r (fun a j h1 h2 => hg_hs_a (by omega)) (wf_l w)
section HND
variable {v : LV} {k S : Nat} {g : Hp}
theorem hnd_0 : hnd v k S 0 0 = v 0 0 + 1 := if_pos ⟨rfl, rfl⟩
theorem hnd_1 {i : Nat} : hnd v k S 1 i = if i = v 0 0 then k else v 1 i := by
  unfold hnd
  by_cases z : i = v 0 0
  · rw [if_neg (by omega), if_pos ⟨rfl, z⟩, if_pos z]
  · rw [if_neg (by omega), if_neg (by omega), if_neg (by omega), if_neg z]
theorem hnd_2 {i : Nat} : hnd v k S 2 i = if i = v 0 0 then S else v 2 i := by
  unfold hnd
  by_cases z : i = v 0 0
  · rw [if_neg (by omega), if_neg (by omega), if_pos ⟨rfl, z⟩, if_pos z]
  · rw [if_neg (by omega), if_neg (by omega), if_neg (by omega), if_neg z]
theorem hnd_o {f i : Nat} (q : 3 ≤ f) : hnd v k S f i = v f i := by
  unfold hnd
  rw [if_neg (by omega), if_neg (by omega), if_neg (by omega)]
theorem hnd_met : met (hnd v k S) = met v := by
  funext a b
  unfold met pr
  simp only [fun k' => hnd_o (v := v) (k := k) (S := S) (f := 3) (i := k') (by decide), fun k' => hnd_o (v := v) (k := k) (S := S) (f := 4) (i := k') (by decide), fun k' => hnd_o (v := v) (k := k) (S := S) (f := 5) (i := k') (by decide)]
theorem hnd_metH : metH (hnd v k S) = metH v := by
  funext t a b
  unfold metH pr
  simp only [fun k' => hnd_o (v := v) (k := k) (S := S) (f := 3) (i := k') (by decide), fun k' => hnd_o (v := v) (k := k) (S := S) (f := 4) (i := k') (by decide), fun k' => hnd_o (v := v) (k := k) (S := S) (f := 5) (i := k') (by decide), fun k' => hnd_o (v := v) (k := k) (S := S) (f := 6) (i := k') (by decide)]
theorem wf_hnd (w : WFp v) (h7 : v 0 0 < 7) (hk : k < 6) (hS : S < 32) : WFp (hnd v k S) := by
  obtain ⟨⟨a1, a2, a3, a4, a5, a6, a7⟩, w7, w8⟩ := w
  have e3 : hnd v k S 3 0 = v 3 0 := hnd_o (by decide)
  have e7 : hnd v k S 7 0 = v 7 0 := hnd_o (by decide)
  have e8 : hnd v k S 8 0 = v 8 0 := hnd_o (by decide)
  refine ⟨?_, e7.trans w7, e8.trans w8⟩
  unfold WF
  rw [hnd_0, e3, e7, e8]
  refine ⟨h7, fun x hx => ?_, a3, fun m hm => ?_, a5, a6, fun l hl => absurd hl (by omega)⟩
  · rw [hnd_1, hnd_2]
    by_cases z : x = v 0 0
    · rw [if_pos z, if_pos z]; exact ⟨hk, hS⟩
    · rw [if_neg z, if_neg z]; exact a2 x (by omega)
  · have := a4 m hm
    rw [hnd_o (by decide), hnd_o (by decide), hnd_o (by decide)]
    exact ⟨by omega, by omega, this.2.2⟩
theorem CLd_hnd {g' : Hp} (w : WFp v) (r : CLd 32 v g) (e8 : hg g' 32 8 = nI (v 0 0 + 1)) (e1 : hg g' 33 (v 0 0) = nI k) (e2 : hg g' 34 (v 0 0) = nI S) (e : ∀ a j, ¬ (a = 32 ∧ j = 8) → ¬ (a = 33 ∧ j = v 0 0) → ¬ (a = 34 ∧ j = v 0 0) → a ≠ 63 → hg g' a j = hg g a j) : CLd 32 (hnd v k S) g' := by
  obtain ⟨⟨a1, a2, a3, a4⟩, b, c, d, e5, f⟩ := r
  unfold CLd
  rw [hnd_0, hnd_o (f := 3) (by decide), hnd_o (f := 7) (by decide), hnd_o (f := 8) (by decide), hnd_met, hnd_metH]
  refine ⟨⟨e8, ?_, ?_, ?_⟩, fun x hx => ?_, fun m hm => ?_, fun t x ht hx => ?_, fun x hx => ?_, fun l hl => absurd hl (by have := w.2.2; omega)⟩
  · rw [e _ _ (by omega) (by omega) (by omega) (by omega)]; exact a2
  · rw [e _ _ (by omega) (by omega) (by omega) (by omega)]; exact a3
  · rw [e _ _ (by omega) (by omega) (by omega) (by omega)]; exact a4
  · rw [hnd_1, hnd_2]
    by_cases z : x = v 0 0
    · rw [if_pos z, if_pos z, z]; exact ⟨e1, e2⟩
    · rw [if_neg z, if_neg z, e _ _ (by omega) (by omega) (by omega) (by omega), e _ _ (by omega) (by omega) (by omega) (by omega)]; exact b x (by omega)
  · rw [hnd_o (by decide), hnd_o (by decide), hnd_o (by decide), e _ _ (by omega) (by omega) (by omega) (by omega), e _ _ (by omega) (by omega) (by omega) (by omega), e _ _ (by omega) (by omega) (by omega) (by omega)]; exact c m hm
  · rw [e _ _ (by omega) (by omega) (by omega) (by omega)]; exact d t x ht hx
  · rw [e _ _ (by omega) (by omega) (by omega) (by omega)]; exact e5 x hx
theorem CLd_hnd2 {S' : Nat} (w : WFp v) (r : CLd 32 (hnd v k S) g) : CLd 32 (hnd v k S') (hs g 34 (v 0 0) (nI S')) := by
  obtain ⟨⟨a1, a2, a3, a4⟩, b, c, d, e5, f⟩ := r
  have e : ∀ a j, ¬ (a = 34 ∧ j = v 0 0) → hg (hs g 34 (v 0 0) (nI S')) a j = hg g a j := fun a j n => by rw [hg_hs2, if_neg n]
  rw [hnd_met] at e5
  rw [hnd_metH] at d
  unfold CLd
  rw [hnd_met, hnd_metH]
  refine ⟨⟨?_, ?_, ?_, ?_⟩, fun x hx => ⟨?_, ?_⟩, fun m hm => ?_, fun t x ht hx => ?_, fun x hx => ?_, fun l hl => absurd hl (by have := w.2.2; rw [hnd_o (by decide)]; omega)⟩
  · rw [e _ _ (by omega)]; exact a1
  · rw [e _ _ (by omega)]; exact a2
  · rw [e _ _ (by omega)]; exact a3
  · rw [e _ _ (by omega)]; exact a4
  · rw [e _ _ (by omega)]; exact (b x hx).1
  · by_cases z : x = v 0 0
    · rw [hnd_2, if_pos z, z]; exact hg_hs_eq _ _ _ _
    · rw [e _ _ (by omega), hnd_2, if_neg z]
      have := (b x hx).2
      rw [hnd_2, if_neg z] at this
      exact this
  · rw [e _ _ (by omega), e _ _ (by omega), e _ _ (by omega)]; exact c m hm
  · rw [e _ _ (by omega)]; exact d t x ht hx
  · rw [e _ _ (by omega)]; exact e5 x hx
theorem RLd_hnd {g' : Hp} (r : RLd v g) (e8 : hg g' 178 17 = nI (v 0 0 + 1)) (e1 : hg g' 189 (v 0 0) = nI k) (e2 : hg g' 190 (v 0 0) = nI S) (e : ∀ a j, ¬ (a = 178 ∧ (j = 16 ∨ j = 17)) → ¬ (a = 189 ∧ j = v 0 0) → ¬ (a = 190 ∧ j = v 0 0) → hg g' a j = hg g a j) : RLd (hnd v k S) g' := by
  obtain ⟨a1, a2, b, c⟩ := r
  unfold RLd
  rw [hnd_0, hnd_o (f := 3) (by decide)]
  refine ⟨e8, ?_, fun x hx => ?_, fun m hm => ?_⟩
  · rw [e _ _ (by omega) (by omega) (by omega)]; exact a2
  · rw [hnd_1, hnd_2]
    by_cases z : x = v 0 0
    · rw [if_pos z, if_pos z, z]; exact ⟨e1, e2⟩
    · rw [if_neg z, if_neg z, e _ _ (by omega) (by omega) (by omega), e _ _ (by omega) (by omega) (by omega)]; exact b x (by omega)
  · rw [hnd_o (by decide), hnd_o (by decide), hnd_o (by decide), e _ _ (by omega) (by omega) (by omega), e _ _ (by omega) (by omega) (by omega), e _ _ (by omega) (by omega) (by omega)]; exact c m hm
theorem RLd_16 {x : Int32} (r : RLd v g) : RLd v (hs g 178 16 x) := by
  obtain ⟨a1, a2, b, c⟩ := r
  refine ⟨?_, ?_, fun x hx => ?_, fun m hm => ?_⟩
  · rw [hg_hs_k (by decide)]; exact a1
  · rw [hg_hs_k (by decide)]; exact a2
  · rw [hg_hs_a (by decide), hg_hs_a (by decide)]; exact b x hx
  · rw [hg_hs_a (by decide), hg_hs_a (by decide), hg_hs_a (by decide)]; exact c m hm
end HND
/-! signs -/
def fg (c : Int32) : Int32 := if c < 48 then -9 else if 57 < c then -9 else c - 48
theorem lt48 (c : Int32) : (c < 48) ↔ c.toInt < 48 := lt_toInt
theorem gt57 (c : Int32) : (57 < c) ↔ 57 < c.toInt := lt_toInt
theorem sub48 (c : Int32) : ((c - 48).toInt = c.toInt - 48) ∨ ((c - 48).toInt = c.toInt - 48 + 4294967296 ∧ c.toInt < -2147483600) := by
  have h1 := c.toInt_lt
  have h2 := c.le_toInt
  have e : (48 : Int32).toInt = 48 := rfl
  rw [Int32.toInt_sub, e]
  by_cases q : -2147483648 ≤ c.toInt - 48
  · left
    exact Int.bmod_eq_of_le (by omega) (by omega)
  · right
    refine ⟨?_, by omega⟩
    rw [Int.bmod_def]
    split <;> omega
theorem fg_cases (c : Int32) {m : Nat} (hm : m ≤ 10) : (∃ a, a < m ∧ fg c = nI a ∧ c - 48 = nI a ∧ c = nI (48 + a)) ∨ (¬ inR (fg c) m ∧ ¬ inR (c - 48) m) := by
  have s := sub48 c
  by_cases q : 48 ≤ c.toInt ∧ c.toInt < 48 + (m : Int)
  · left
    have e1 : c - 48 = nI (c.toInt - 48).toNat := eq_toInt.mpr (by rw [nI_toInt (by omega)]; omega)
    refine ⟨(c.toInt - 48).toNat, by omega, ?_, e1, eq_toInt.mpr (by rw [nI_toInt (by omega)]; omega)⟩
    unfold fg
    rw [if_neg (by rw [lt48]; omega), if_neg (by rw [gt57]; omega)]
    exact e1
  · right
    have h2 := c.le_toInt
    have e1 : ¬ inR (c - 48) m := by rw [inR_iff]; omega
    refine ⟨?_, e1⟩
    unfold fg
    by_cases a : c < 48
    · rw [if_pos a, inR_iff, show (-9 : Int32).toInt = -9 from rfl]; omega
    · rw [if_neg a]
      by_cases b : 57 < c
      · rw [if_pos b, inR_iff, show (-9 : Int32).toInt = -9 from rfl]; omega
      · rw [if_neg b]; exact e1
def kd (c : Int32) : Nat := if c = 99 then 1 else if c = 104 then 0 else if c = 108 then 3 else if c = 115 then 2 else if c = 117 then 4 else if c = 121 then 5 else 9
theorem kd_lt (c : Int32) : kd c < 6 ∨ kd c = 9 := by
  unfold kd
  (repeat' split) <;> omega
def kv (c : Int32) : Int32 := if kd c = 9 then -9 else nI (kd c)
theorem c_kindBy (c : Int32) (g : Hp) : F_Bp_kindBy c g = retI (kv c) g := by
  unfold F_Bp_kindBy kv kd
  by_cases h1 : c = 99
  · rw [if_pos h1, if_pos h1]; rfl
  · by_cases h2 : c = 104
    · rw [if_neg h1, if_pos h2, if_neg h1, if_pos h2]; rfl
    · by_cases h3 : c = 108
      · rw [if_neg h1, if_neg h2, if_pos h3, if_neg h1, if_neg h2, if_pos h3]; rfl
      · by_cases h4 : c = 115
        · rw [if_neg h1, if_neg h2, if_neg h3, if_pos h4, if_neg h1, if_neg h2, if_neg h3, if_pos h4]; rfl
        · by_cases h5 : c = 117
          · rw [if_neg h1, if_neg h2, if_neg h3, if_neg h4, if_pos h5, if_neg h1, if_neg h2, if_neg h3, if_neg h4, if_pos h5]; rfl
          · by_cases h6 : c = 121
            · rw [if_neg h1, if_neg h2, if_neg h3, if_neg h4, if_neg h5, if_pos h6, if_neg h1, if_neg h2, if_neg h3, if_neg h4, if_neg h5, if_pos h6]; rfl
            · rw [if_neg h1, if_neg h2, if_neg h3, if_neg h4, if_neg h5, if_neg h6, if_neg h1, if_neg h2, if_neg h3, if_neg h4, if_neg h5, if_neg h6]; rfl
theorem m_kindOf (c : Int32) (g : Hp) : F_Mo_kindOf c g = retI (kv c) g := by
  rw [← c_kindBy c g]
  unfold F_Bp_kindBy F_Mo_kindOf
  by_cases h1 : c = 99
  · subst h1
    rw [if_neg (by decide), if_pos rfl, if_pos rfl]
  · by_cases h2 : c = 104
    · subst h2
      rw [if_pos rfl, if_neg h1, if_pos rfl]
    · by_cases h3 : c = 108
      · subst h3
        rw [if_neg h2, if_neg h1, if_neg (by decide), if_pos rfl, if_neg h1, if_neg h2, if_pos rfl]
      · by_cases h4 : c = 115
        · subst h4
          rw [if_neg h2, if_neg h1, if_pos rfl, if_neg h1, if_neg h2, if_neg h3, if_pos rfl]
        · rw [if_neg h2, if_neg h1, if_neg h4, if_neg h3, if_neg h1, if_neg h2, if_neg h3, if_neg h4]
theorem kd_fig {a : Nat} (ha : a < 10) : kd (nI (48 + a)) = 9 := by
  have n : ∀ b, 58 ≤ b → b < 200 → ¬ nI (48 + a) = nI b := fun b h1 h2 z => by
    have := (nI_eq (show b < 2 ^ 31 by omega) (show 48 + a < 2 ^ 31 by omega)).mp z.symm
    omega
  unfold kd
  rw [if_neg (show ¬ nI (48 + a) = (99 : Int32) from n 99 (by decide) (by decide)), if_neg (show ¬ nI (48 + a) = (104 : Int32) from n 104 (by decide) (by decide)), if_neg (show ¬ nI (48 + a) = (108 : Int32) from n 108 (by decide) (by decide)), if_neg (show ¬ nI (48 + a) = (115 : Int32) from n 115 (by decide) (by decide)), if_neg (show ¬ nI (48 + a) = (117 : Int32) from n 117 (by decide) (by decide)), if_neg (show ¬ nI (48 + a) = (121 : Int32) from n 121 (by decide) (by decide))]
theorem kv_9 {c : Int32} (q : kd c = 9) : kv c = -9 := if_pos q
theorem kv_n {c : Int32} (q : ¬ kd c = 9) : kv c = nI (kd c) := if_neg q
