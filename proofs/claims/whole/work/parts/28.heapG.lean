/-! the static heap as a list of cells -/
def fieldG (h : Hp) (a ci j : Nat) : Value := match fk ci j with
  | 0 => .int (hg h a j)
  | 1 => .ref (shR a j)
  | _ => .long (hl h)
def fldN (ci : Nat) : Nat := (nthL fkT ci).length
def objG (h : Hp) (a ci : Nat) : GC := .inr (ci, (List.range (fldN ci)).map (fieldG h a ci))
def refG (a n : Nat) : vp_A := (n, .inr (.inr (.inr (.inr fun j => some (shR a j)))))
def cellG (h : Hp) (a : Nat) : GC := match shC a with
  | 100 => .inl (.int, shN a, .inl (hg h a))
  | 101 => .inl (.boolean, shN a, .inl (hg h a))
  | 102 => .inl (.object "BlindPost$Sheet", refG a (shN a))
  | 103 => .inl (.object "BlindPost$Land", refG a (shN a))
  | 104 => .inl (.object "BlindPost$Letter", refG a (shN a))
  | 105 => .inl (.array .int, refG a (shN a))
  | ci => objG h a ci
def toGI (h : Hp) : List GC := (List.range 197).map (cellG h)
theorem toGI_get {h : Hp} {a : Nat} (ha : a < 197) : (toGI h)[a]? = some (cellG h a) := by
  unfold toGI
  rw [List.getElem?_map, List.getElem?_range ha]
  rfl
theorem drp_len {α : Type} (l : List α) : ∀ n, (drp l n).length = l.length - n
  | 0 => rfl
  | n + 1 => by
    have := drp_len l n
    show ((drp l n).tail).length = _
    rw [List.length_tail, this]
    omega
theorem drp_nil {α : Type} {l : List α} {n : Nat} (h : l.length ≤ n) : drp l n = [] := List.eq_nil_of_length_eq_zero (by rw [drp_len]; omega)
theorem shC_big {a : Nat} (h : 197 ≤ a) : shC a = 999 := by
  unfold shC shAt
  rw [drp_nil (by show 197 ≤ a; exact h)]
theorem shC_lt {a : Nat} (h : shC a ≠ 999) : a < 197 := by
  rcases Nat.lt_or_ge a 197 with q | q
  · exact q
  · exact absurd (shC_big q) h
theorem fk_ci {ci k : Nat} (h : fk ci k ≠ 9) : ci < 8 ∧ k < fldN ci := by
  constructor
  · rcases Nat.lt_or_ge ci 8 with q | q
    · exact q
    · refine absurd ?_ h
      unfold fk nthL
      rw [drp_nil (by show 8 ≤ ci; exact q)]
      unfold nth9
      rw [drp_nil (by simp)]
  · rcases Nat.lt_or_ge k (fldN ci) with q | q
    · exact q
    · refine absurd ?_ h
      unfold fk nth9
      rw [drp_nil q]
theorem hg_hs (h : Hp) (a k : Nat) (v : Int32) (b j : Nat) : hg (hs h a k v) b j = if b = a ∧ j = k then v else hg h b j := rfl
theorem hg_hs_ne {h : Hp} {a k : Nat} {v : Int32} {b j : Nat} (q : b ≠ a) : hg (hs h a k v) b j = hg h b j := by
  rw [hg_hs, if_neg (fun z => q z.1)]
theorem hl_hs (h : Hp) (a k : Nat) (v : Int32) : hl (hs h a k v) = hl h := rfl
theorem cellG_ne {h : Hp} {a k : Nat} {v : Int32} {b : Nat} (q : b ≠ a) : cellG (hs h a k v) b = cellG h b := by
  have e1 : hg (hs h a k v) b = hg h b := funext fun j => hg_hs_ne q
  have e2 : ∀ ci, fieldG (hs h a k v) b ci = fieldG h b ci := fun ci => funext fun j => by
    unfold fieldG
    rw [hl_hs]
    split
    · rw [e1]
    · rfl
    · rfl
  unfold cellG objG
  rw [e1]
  simp only [e2]
theorem toGI_set {h h' : Hp} {a : Nat} {c : GC} (ha : a < 197) (hne : ∀ b, b ≠ a → cellG h' b = cellG h b) (hc : cellG h' a = c) : toGI h' = (toGI h).set a c := by
  apply List.ext_getElem?
  intro b
  by_cases hb : b < 197
  · rw [toGI_get hb, List.getElem?_set]
    by_cases q : a = b
    · subst q
      rw [if_pos rfl, if_pos (by unfold toGI; simpa using ha), hc]
    · rw [if_neg q, toGI_get hb, hne b (Ne.symm q)]
  · have e1 : (toGI h')[b]? = none := List.getElem?_eq_none (by unfold toGI; simpa using hb)
    have e2 : ((toGI h).set a c)[b]? = none := List.getElem?_eq_none (by rw [List.length_set]; unfold toGI; simpa using hb)
    rw [e1, e2]
theorem okF_inv {a ci k kd : Nat} (h : okF a ci k kd = true) (hkd : kd ≠ 9) : a < 197 ∧ shC a = ci ∧ ci < 8 ∧ k < fldN ci ∧ fk ci k = kd ∧ ∀ g : Hp, cellG g a = objG g a ci := by
  unfold okF at h
  rw [Bool.and_eq_true] at h
  have h1 := Nat.eq_of_beq_eq_true h.1
  have h2 := Nat.eq_of_beq_eq_true h.2
  obtain ⟨h3, h4⟩ := fk_ci (ci := ci) (k := k) (by rw [h2]; exact hkd)
  refine ⟨shC_lt (by omega), h1, h3, h4, h2, fun g => ?_⟩
  unfold cellG
  split <;> first | omega | (rw [h1])
theorem okA_inv {a code : Nat} {i : Int32} (h : okA a code i = true) (hc : code ≠ 999) : a < 197 ∧ shC a = code ∧ vp_in i (shN a) := by
  unfold okA inB at h
  simp only [Bool.and_eq_true, Bool.not_eq_true', decide_eq_false_iff_not] at h
  have h1 := Nat.eq_of_beq_eq_true h.1
  refine ⟨shC_lt (by omega), h1, fun q => ?_⟩
  rcases q with q | q
  · exact h.2.1 q
  · have := Nat.le_of_ble_eq_true h.2.2 
    omega
theorem bif_inv {ρ : Type} {c : Bool} {x : Option ρ} {z : ρ} (e : (bif c then x else none) = some z) : c = true ∧ x = some z := by
  cases c with
  | false => cases e
  | true => exact ⟨rfl, e⟩
theorem fields_get {h : Hp} {a ci k : Nat} (hk : k < fldN ci) : ((List.range (fldN ci)).map (fieldG h a ci))[k]? = some (fieldG h a ci k) := by
  rw [List.getElem?_map, List.getElem?_range hk]
  rfl
theorem fields_len (h : Hp) (a ci : Nat) : ((List.range (fldN ci)).map (fieldG h a ci)).length = fldN ci := by simp
theorem fields_set {h h' : Hp} {a ci k : Nat} {v : Value} (hk : k < fldN ci) (h1 : fieldG h' a ci k = v) (h2 : ∀ j, j ≠ k → j < fldN ci → fieldG h' a ci j = fieldG h a ci j) : (List.range (fldN ci)).map (fieldG h' a ci) = ((List.range (fldN ci)).map (fieldG h a ci)).set k v := by
  apply List.ext_getElem?
  intro j
  by_cases hj : j < fldN ci
  · rw [fields_get hj, List.getElem?_set]
    by_cases q : k = j
    · subst q
      rw [if_pos rfl, if_pos (by rw [fields_len]; exact hk), h1]
    · rw [if_neg q, fields_get hj, h2 j (Ne.symm q) hj]
  · have e1 : ((List.range (fldN ci)).map (fieldG h' a ci))[j]? = none := List.getElem?_eq_none (by rw [fields_len]; omega)
    have e2 : (((List.range (fldN ci)).map (fieldG h a ci)).set k v)[j]? = none := List.getElem?_eq_none (by rw [List.length_set, fields_len]; omega)
    rw [e1, e2]
set_option maxRecDepth 100000 in
theorem fk_2 : ∀ ci, ci < 8 → ∀ j, j < 33 → fk ci j = 2 → ci = 7 := by decide +kernel
set_option maxRecDepth 100000 in
theorem fk_2j : ∀ j, j < 33 → fk 7 j = 2 → j = 32 := by decide +kernel
set_option maxRecDepth 100000 in
theorem fldN_le : ∀ ci, ci < 8 → fldN ci ≤ 33 := by decide +kernel
set_option maxRecDepth 100000 in
theorem fk_lt : ∀ ci, ci < 8 → ∀ j, j < 33 → j < fldN ci → fk ci j < 3 := by decide +kernel
set_option maxRecDepth 100000 in
theorem shC_7 : ∀ b, b < 197 → shC b = 7 → b = 178 := by decide +kernel
set_option maxRecDepth 100000 in
theorem shC_val : ∀ b, b < 197 → shC b < 8 ∨ (100 ≤ shC b ∧ shC b ≤ 105) := by decide +kernel
theorem fieldG_hsl {h : Hp} {v : Int64} {b ci j : Nat} (hci : ci < 8) (hj : j < fldN ci) (hn : ¬ (ci = 7 ∧ j = 32)) : fieldG (hsl h v) b ci j = fieldG h b ci j := by
  have h33 := fldN_le ci hci
  have h3 := fk_lt ci hci j (by omega) hj
  unfold fieldG
  split
  · rfl
  · rfl
  · next q1 q2 =>
    exfalso
    have : fk ci j = 2 := by
      have a1 : fk ci j ≠ 0 := q1
      have a2 : fk ci j ≠ 1 := q2
      omega
    have c7 := fk_2 ci hci j (by omega) this
    subst c7
    exact hn ⟨rfl, fk_2j j (by omega) this⟩
theorem cellG_hsl {h : Hp} {v : Int64} {b : Nat} (hb : b ≠ 178) : cellG (hsl h v) b = cellG h b := by
  by_cases hl : b < 197
  · rcases shC_val b hl with q | q
    · have e1 : ∀ g : Hp, cellG g b = objG g b (shC b) := fun g => by
        unfold cellG
        split <;> first | omega | rfl
      rw [e1, e1]
      unfold objG
      congr 2
      apply List.map_congr_left
      intro j hj
      rw [List.mem_range] at hj
      exact fieldG_hsl q hj (fun z => hb (shC_7 b hl z.1))
    · have q9 : shC b = 100 ∨ shC b = 101 ∨ shC b = 102 ∨ shC b = 103 ∨ shC b = 104 ∨ shC b = 105 := by omega
      unfold cellG
      rcases q9 with e | e | e | e | e | e <;> rw [e] <;> rfl
  · unfold cellG
    rw [shC_big (by omega)]
    show objG (hsl h v) b 999 = objG h b 999
    unfold objG
    have : fldN 999 = 0 := by decide +kernel
    rw [this]
    rfl
theorem arr_cell {h : Hp} {a : Nat} (hc : shC a = 100) : cellG h a = .inl (.int, shN a, .inl (hg h a)) := by unfold cellG; rw [hc]; rfl
theorem zrr_cell {h : Hp} {a : Nat} (hc : shC a = 101) : cellG h a = .inl (.boolean, shN a, .inl (hg h a)) := by unfold cellG; rw [hc]; rfl
theorem hs_upd (h : Hp) (a k : Nat) (v : Int32) : hg (hs h a k v) a = upd (hg h a) k v := by
  funext j
  rw [hg_hs]
  unfold upd
  by_cases q : j = k
  · rw [if_pos ⟨rfl, q⟩, if_pos q]
  · rw [if_neg (fun z => q z.2), if_neg q]
set_option maxHeartbeats 4000000 in
theorem OI_ok : OpsOK OI toGI := by
  refine ⟨?_, ?_, ?_, ?_, ?_, ?_, ?_, ?_, ?_, ?_, ?_, ?_, ?_, ?_, ?_⟩
  · intro h a ci k κ z e
    obtain ⟨e1, e2⟩ := bif_inv e
    obtain ⟨h1, h2, h3, h4, h5, h6⟩ := okF_inv e1 (by decide)
    exact ⟨_, _, by rw [toGI_get h1, h6]; rfl, by rw [fields_get h4]; simp [fieldG, h5], e2⟩
  · intro h a ci k κ z e
    obtain ⟨e1, e2⟩ := bif_inv e
    obtain ⟨h1, h2, h3, h4, h5, h6⟩ := okF_inv e1 (by decide)
    exact ⟨_, _, by rw [toGI_get h1, h6]; rfl, by rw [fields_get h4]; simp [fieldG, h5], e2⟩
  · intro h a ci k κ z e
    obtain ⟨e1, e2⟩ := bif_inv e
    obtain ⟨h1, h2, h3, h4, h5, h6⟩ := okF_inv e1 (by decide)
    exact ⟨_, _, by rw [toGI_get h1, h6]; rfl, by rw [fields_get h4]; simp [fieldG, h5], e2⟩
  · intro h a ci k v κ z e
    obtain ⟨e1, e2⟩ := bif_inv e
    rw [bH_t] at e2
    obtain ⟨h1, h2, h3, h4, h5, h6⟩ := okF_inv e1 (by decide)
    refine ⟨_, hs h a k v, by rw [toGI_get h1, h6]; rfl, by rw [fields_len]; exact h4, toGI_set h1 (fun b q => cellG_ne q) ?_, e2⟩
    rw [h6]
    unfold objG
    rw [fields_set (h := h) (v := .int v) h4]
    · simp [fieldG, h5, hg_hs]
    · intro j q _
      unfold fieldG
      rw [hg_hs, if_neg (fun z => q z.2), hl_hs]
  · intro h a ci k v κ z e
    obtain ⟨e1, e2⟩ := bif_inv e
    rw [bH_t] at e2
    obtain ⟨h1, h2, h3, h4, h5, h6⟩ := okF_inv e1 (by decide)
    have c7 := fk_2 ci h3 k (by have := fldN_le ci h3; omega) h5
    subst c7
    have a178 := shC_7 a h1 h2
    refine ⟨_, hsl h v, by rw [toGI_get h1, h6]; rfl, by rw [fields_len]; exact h4, toGI_set h1 (fun b q => cellG_hsl (by omega)) ?_, e2⟩
    rw [h6]
    unfold objG
    have k32 := fk_2j k (by have := fldN_le 7 h3; omega) h5
    rw [fields_set (h := h) (v := .long v) h4]
    · simp [fieldG, h5, hsl, hl]
    · intro j q hj
      exact fieldG_hsl h3 hj (fun z => q (by omega))
  · intro h a κ z e
    obtain ⟨e1, e2⟩ := bif_inv e
    unfold okN at e1
    rw [Bool.and_eq_true] at e1
    have q1 := Nat.le_of_ble_eq_true e1.1
    have q2 := Nat.le_of_ble_eq_true e1.2
    have h1 : a < 197 := shC_lt (by omega)
    rw [toGI_get h1]
    have q9 : shC a = 100 ∨ shC a = 101 ∨ shC a = 102 ∨ shC a = 103 ∨ shC a = 104 ∨ shC a = 105 := by omega
    unfold cellG
    rcases q9 with e | e | e | e | e | e <;> rw [e] <;> exact ⟨_, _, rfl, e2⟩
  · intro h a i κ z e
    obtain ⟨e1, e2⟩ := bif_inv e
    obtain ⟨h1, h2, h3⟩ := okA_inv e1 (by decide)
    exact ⟨_, _, by rw [toGI_get h1, arr_cell h2], h3, e2⟩
  · intro h a i κ z e
    obtain ⟨e1, e2⟩ := bif_inv e
    obtain ⟨h1, h2, h3⟩ := okA_inv e1 (by decide)
    exact ⟨_, _, by rw [toGI_get h1, zrr_cell h2], h3, e2⟩
  · intro h a i κ z e
    obtain ⟨e1, e2⟩ := bif_inv e
    unfold okR inB at e1
    simp only [Bool.and_eq_true, Bool.not_eq_true', decide_eq_false_iff_not] at e1
    have q1 := Nat.le_of_ble_eq_true e1.1.1
    have q2 := Nat.le_of_ble_eq_true e1.1.2
    have h1 : a < 197 := shC_lt (by omega)
    have h3 : vp_in i (shN a) := fun q => by
      rcases q with q | q
      · exact e1.2.1 q
      · have := Nat.le_of_ble_eq_true e1.2.2
        omega
    rw [toGI_get h1]
    have q9 : shC a = 102 ∨ shC a = 103 ∨ shC a = 104 ∨ shC a = 105 := by omega
    unfold cellG
    rcases q9 with e | e | e | e <;> rw [e] <;> exact ⟨_, _, _, _, rfl, rfl, h3, rfl, e2⟩
  · intro h a i v κ z e
    obtain ⟨e1, e2⟩ := bif_inv e
    rw [bH_t] at e2
    obtain ⟨h1, h2, h3⟩ := okA_inv e1 (by decide)
    exact ⟨_, _, _, by rw [toGI_get h1, arr_cell h2], h3, toGI_set h1 (fun b q => cellG_ne q) (by rw [arr_cell h2, hs_upd]), e2⟩
  · intro h a i v κ z e
    obtain ⟨e1, e2⟩ := bif_inv e
    rw [bH_t] at e2
    obtain ⟨h1, h2, h3⟩ := okA_inv e1 (by decide)
    exact ⟨_, _, _, by rw [toGI_get h1, zrr_cell h2], h3, toGI_set h1 (fun b q => cellG_ne q) (by rw [zrr_cell h2, hs_upd]), e2⟩
  · intro h a i b j n κ z e
    obtain ⟨e1, e2⟩ := bif_inv e
    rw [bH_t] at e2
    unfold okC at e1
    simp only [Bool.and_eq_true, Bool.not_eq_true', decide_eq_false_iff_not] at e1
    obtain ⟨⟨⟨⟨⟨⟨q1, q2⟩, q3⟩, q4⟩, q5⟩, q6⟩, q7⟩ := e1
    have q1 := Nat.eq_of_beq_eq_true q1
    have q2 := Nat.eq_of_beq_eq_true q2
    have h1 : a < 197 := shC_lt (by omega)
    have h2 : b < 197 := shC_lt (by omega)
    refine ⟨_, _, _, _, hcp h a i b j n, by rw [toGI_get h1, arr_cell q1], by rw [toGI_get h2, arr_cell q2], q3, q4, q5, Nat.le_of_ble_eq_true q6, Nat.le_of_ble_eq_true q7, toGI_set h2 (fun x q => ?_) ?_, e2⟩
    · have e1 : hg (hcp h a i b j n) x = hg h x := funext fun y => by
        show (if x = b then _ else _) = _
        rw [if_neg q]
        rfl
      have e3 : ∀ ci, fieldG (hcp h a i b j n) x ci = fieldG h x ci := fun ci => funext fun y => by
        unfold fieldG
        split
        · rw [e1]
        · rfl
        · rfl
      unfold cellG objG
      rw [e1]
      simp only [e3]
    · rw [arr_cell q2]
      congr 4
      funext y
      show (if b = b then _ else _) = _
      rw [if_pos rfl]
      rfl
  · intro h a ci k v κ
    rfl
  · intro h a i v κ
    rfl
  · intro h a ci r z e
    obtain ⟨e1, e2⟩ := bif_inv e
    unfold okO at e1
    rw [Bool.and_eq_true] at e1
    have q1 := Nat.eq_of_beq_eq_true e1.1
    have q2 := Nat.le_of_ble_eq_true e1.2
    have h1 : a < 197 := shC_lt (by omega)
    refine ⟨⟨(List.range (fldN ci)).map (fieldG h a ci), ?_⟩, e2⟩
    rw [toGI_get h1]
    show some (cellG h a) = some (objG h a ci)
    congr 1
    unfold cellG
    split <;> first | omega | (rw [q1])
