/-! the constructors' contracts -/
theorem eqG_get : ∀ {g y : List GC}, eqG g y = true → ∀ {k : Nat} {c : GC}, y[k]? = some c → ∃ b, g[k]? = some b ∧ eqC b c = true
  | [], [], _, k, c, hk => by simp at hk
  | [], _ :: _, h, _, _, _ => by cases h
  | _ :: _, [], h, _, _, _ => by cases h
  | a :: s, b :: t, h, k, c, hk => by
    have h : (eqC a b && eqG s t) = true := h
    rw [Bool.and_eq_true] at h
    cases k with
    | zero => cases hk; exact ⟨a, rfl, h.1⟩
    | succ k => exact eqG_get (g := s) (y := t) h.2 (k := k) hk
theorem eqG_len : ∀ {g y : List GC}, eqG g y = true → g.length = y.length
  | [], [], _ => rfl
  | [], _ :: _, h => by cases h
  | _ :: _, [], h => by cases h
  | a :: s, b :: t, h => by
    have h : (eqC a b && eqG s t) = true := h
    rw [Bool.and_eq_true] at h
    simp [eqG_len h.2]
theorem arrV_eq {cA : ClassId} {n : Nat} {f g : Nat → Value} (h : ∀ j, j < n → f j = g j) : arrV cA n f = arrV cA n g := by
  unfold arrV
  congr 2
  funext j
  exact h j.val j.isLt
theorem eqC_cell {B : Nat} {cA : ClassId} {D : va_G} {H : Heap} {a : Nat} {b c : GC} (h : eqC b c = true) (hv : va_at D vwCl (a, conc B cA b) H) : va_at D vwCl (a, conc B cA c) H := by
  unfold eqC at h
  split at h
  · rw [Bool.and_eq_true] at h
    have h1 := Nat.eq_of_beq_eq_true h.1
    have h2 := of_decide_eq_true h.2
    subst h1
    subst h2
    exact hv
  · next t n f u m g =>
    rw [Bool.and_eq_true, Bool.and_eq_true] at h
    have h2 := Nat.eq_of_beq_eq_true h.1.2
    subst h2
    have hv : H[a]? = some (arrV cA n (fun j => .int (f j))) := hv
    show H[a]? = some (arrV cA n (fun j => .int (g j)))
    rw [hv, arrV_eq (f := fun j => .int (f j)) (g := fun j => .int (g j)) fun j hj => by
      have := List.all_eq_true.mp h.2 j (List.mem_range.mpr hj)
      show Value.int (f j) = Value.int (g j)
      rw [of_decide_eq_true this]]
  · next t n f u m g =>
    rw [Bool.and_eq_true, Bool.and_eq_true] at h
    have h2 := Nat.eq_of_beq_eq_true h.1.2
    subst h2
    have hv : H[a]? = some (arrV cA n (fun j => va_rf ((f j).map fun a => B + a))) := hv
    show H[a]? = some (arrV cA n (fun j => va_rf ((g j).map fun a => B + a)))
    rw [hv, arrV_eq (f := fun j => va_rf ((f j).map fun a => B + a)) (g := fun j => va_rf ((g j).map fun a => B + a)) fun j hj => by
      have := List.all_eq_true.mp h.2 j (List.mem_range.mpr hj)
      show va_rf ((f j).map fun a => B + a) = va_rf ((g j).map fun a => B + a)
      rw [of_decide_eq_true this]]
  · cases h
theorem eqC_ty {b : GC} {ty : FieldType} {x : vp_A} (h : eqC b (.inl (ty, x)) = true) : ∃ x0, b = .inl (ty, x0) := by
  unfold eqC at h
  split at h
  · next h1 => cases h1
  · next t n f u m g h1 =>
    rw [Bool.and_eq_true, Bool.and_eq_true] at h
    have h2 := of_decide_eq_true h.1.1
    subst h2
    cases h1
    exact ⟨_, rfl⟩
  · next t n f u m g h1 =>
    rw [Bool.and_eq_true, Bool.and_eq_true] at h
    have h2 := of_decide_eq_true h.1.1
    subst h2
    cases h1
    exact ⟨_, rfl⟩
  · cases h
theorem eqG_Wd {D : va_G} {s : State} {B : Nat} {g y : List GC} {H : Heap} (h : eqG g y = true) (hW : Wd D s B g H) : Wd D s B y H := by
  obtain ⟨kc, hP, hT⟩ := hW
  refine ⟨kc, fun k q hk => ?_, fun k ty x hk => ?_⟩
  · obtain ⟨c, hc, rfl⟩ := toW_inv hk
    obtain ⟨b, hb, hbc⟩ := eqG_get h hc
    exact eqC_cell hbc (hP k _ (toW_get hb))
  · obtain ⟨b, hb, hbc⟩ := eqG_get h hk
    obtain ⟨x0, rfl⟩ := eqC_ty hbc
    exact hT k ty x0 hb
theorem eqS_inv {x : Option (List GC)} {y : List GC} (h : eqS x y = true) : ∃ g, x = some g ∧ eqG g y = true := by
  unfold eqS at h
  split at h
  · next g => exact ⟨g, rfl, h⟩
  · cases h
theorem okc_Le : ∀ as G G', ctrC [] 2 14 kx_Le ko_Le 1 as G = some G' → OkC 195 1 2 14 as G G' := fun as G G' h => okC_of (own := 1) rfl rfl rfl rfl (Nat.le_refl _) kxc_Le koc_Le (fun q h => absurd h List.not_mem_nil) h
theorem okc_Pa : ∀ as G G', ctrC [] 1 5 kx_Pa ko_Pa 3 as G = some G' → OkC 206 1 1 5 as G G' := fun as G G' h => okC_of (own := 2) rfl rfl rfl rfl (Nat.le_refl _) kxc_Pa koc_Pa (fun q h => absurd h List.not_mem_nil) h
theorem okc_Re : ∀ as G G', ctrC [] 0 0 kx_Re ko_Re 2 as G = some G' → OkC 216 1 0 0 as G G' := fun as G G' h => okC_of (own := 3) rfl rfl rfl rfl (Nat.le_refl _) kxc_Re koc_Re (fun q h => absurd h List.not_mem_nil) h
theorem okc_Sh : ∀ as G G', ctrC [] 1 80 kx_Sh ko_Sh 2 as G = some G' → OkC 224 1 1 80 as G G' := fun as G G' h => okC_of (own := 4) rfl rfl rfl rfl (Nat.le_refl _) kxc_Sh koc_Sh (fun q h => absurd h List.not_mem_nil) h
theorem okc_Wa : ∀ as G G', ctrC [] 3 21 kx_Wa ko_Wa 2 as G = some G' → OkC 232 1 3 21 as G G' := fun as G G' h => okC_of (own := 5) rfl rfl rfl rfl (Nat.le_refl _) kxc_Wa koc_Wa (fun q h => absurd h List.not_mem_nil) h
theorem soc_La : SemCOK S_cLa 2 := List.forall_mem_cons.mpr ⟨⟨mt_195, rfl, 1, by omega, okc_Le⟩, fun _ h => absurd h List.not_mem_nil⟩
theorem okc_La : ∀ as G G', ctrC S_cLa 28 213 kx_La ko_La 2 as G = some G' → OkC 172 2 28 213 as G G' := fun as G G' h => okC_of (own := 0) rfl rfl rfl rfl (by omega) kxc_La koc_La soc_La h
theorem soc_Bp : SemCOK S_cBp 3 := List.forall_mem_cons.mpr ⟨⟨mt_172, rfl, 2, by omega, okc_La⟩, List.forall_mem_cons.mpr ⟨⟨mt_216, rfl, 1, by omega, okc_Re⟩, List.forall_mem_cons.mpr ⟨⟨mt_232, rfl, 1, by omega, okc_Wa⟩, List.forall_mem_cons.mpr ⟨⟨mt_206, rfl, 1, by omega, okc_Pa⟩, List.forall_mem_cons.mpr ⟨⟨mt_224, rfl, 1, by omega, okc_Sh⟩, fun _ h => absurd h List.not_mem_nil⟩⟩⟩⟩⟩
/-- the two constructors that the law calls -/
theorem okc_Bp : ∃ g, eqG g bpG = true ∧ OkC 0 3 177 3000 [.ref 0] [.inr (6, dfl 6)] g := by
  obtain ⟨g, h1, h2⟩ := eqS_inv ev_Bp
  exact ⟨g, h2, okC_of (own := 6) rfl rfl rfl rfl (by omega) kxc_Bp koc_Bp soc_Bp h1⟩
theorem okc_Mo : ∃ g, eqG g (toGI h0) = true ∧ OkC 70 1 18 2000 [.ref 178] (bpG ++ [.inr (7, dfl 7)]) g := by
  obtain ⟨g, h1, h2⟩ := eqS_inv ev_Mo
  exact ⟨g, h2, okC_of (own := 7) rfl rfl rfl rfl (by omega) kxc_Mo koc_Mo (fun q h => absurd h List.not_mem_nil) h1⟩
