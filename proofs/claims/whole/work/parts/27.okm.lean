/-! the contract of a method out of its run -/
def entL : Nat → List Value → Loca
  | n, [] => List.replicate n none
  | n, v :: vs => if v.category = 2 then some v :: none :: entL (n - 2) vs else some v :: entL (n - 1) vs
theorem entL_len : ∀ (vs : List Value) (n : Nat), (lg_sl vs).length ≤ n → (entL n vs).length = n
  | [], n, _ => by simp [entL]
  | v :: vs, n, h => by
    have e1 : lg_sl (v :: vs) = (if v.category = 2 then [Slot.val v, .second] else [Slot.val v]) ++ lg_sl vs := rfl
    rw [e1, List.length_append] at h
    unfold entL
    split
    · next hc =>
      rw [if_pos hc] at h
      simp only [List.length_cons, List.length_nil] at h ⊢
      rw [entL_len vs (n - 2) (by omega)]
      omega
    · next hc =>
      rw [if_neg hc] at h
      simp only [List.length_cons, List.length_nil] at h ⊢
      rw [entL_len vs (n - 1) (by omega)]
      omega
theorem entL_get (B : Nat) : ∀ (vs : List Value) (n off i : Nat) (v : Value), lget (entL n vs) i = some v → (off + i, cv B v) ∈ lv_args off (vs.map (cv B))
  | [], n, off, i, v, h => by
    rw [entL, lget_rep] at h
    cases h
  | u :: vs, n, off, i, v, h => by
    rw [List.map_cons, lv_args, cv_cat]
    unfold entL at h
    split at h
    · next hc =>
      rw [if_pos hc]
      match i, h with
      | 0, h => cases h; exact List.mem_cons_self
      | 1, h => cases h
      | i + 2, h =>
        have := entL_get B vs (n - 2) (off + 2) i v h
        rw [show off + 2 + i = off + (i + 2) by omega] at this
        exact List.mem_cons_of_mem _ this
    · next hc =>
      rw [if_neg hc]
      match i, h with
      | 0, h => cases h; exact List.mem_cons_self
      | i + 1, h =>
        have := entL_get B vs (n - 1) (off + 1) i v h
        rw [show off + 1 + i = off + (i + 1) by omega] at this
        exact List.mem_cons_of_mem _ this
theorem sl_len_map (B : Nat) (vs : List Value) : (lg_sl (vs.map (cv B))).length = (lg_sl vs).length := by
  induction vs with
  | nil => rfl
  | cons v vs ih =>
    have e1 : ∀ v vs, lg_sl (v :: vs) = (if v.category = 2 then [Slot.val v, .second] else [Slot.val v]) ++ lg_sl vs := fun _ _ => rfl
    rw [List.map_cons, e1, e1, cv_cat, List.length_append, List.length_append, ih]
    split <;> rfl
def rkT : Nat → Option FieldType
  | 0 => none
  | 1 => some .int
  | 2 => some .boolean
  | _ => some .long
theorem okm_of {Hp : Type} {toG : Hp → List GC} {mi own d rk : Nat} {as : List Value} {h : Hp} {z : Option Value × Hp} (hp : plainName (mtY mi).cls = true) (hown : ownN own = (mtY mi).cls) (h1 : 1 ≤ d) (hrk : mtR mi = rkT rk) (hlen : (lg_sl as).length ≤ mtM mi) (hE : Ends toG own mi d rk z 0 (entL (mtM mi) as) [] h) : Okm toG mi d as h z := by
  intro l D B
  refine Met.ofW (cc := mtC mi) (maxL := mtM mi) (ret := mtR mi) hp rfl ?_
  intro p e s m args below meth c s₁ Bd hml hv
  obtain ⟨rfl, hW, hK, hN⟩ := hv
  have hx := Bd.exec
  have hb := Bd.bytes
  have hr := Bd.returns
  have hts0 := atoms_spec (ws := Cond.code (mtY mi) (mtC mi) (mtM mi) (mtR mi) :: lw_g) Bd.pre
  have hts : ∀ w ∈ lw_g, w.before (as.map (cv B)).toArray s = true := fun w hw => hts0 w (List.mem_cons_of_mem _ hw)
  have hown' : s.vm.findClass (mtY mi).cls = some m.cls := findClass_of_methodNamed Bd.named
  have hlocks := Bd.notSynchronized
  have hl := lv_entry (as.map (cv B)) (n := mtM mi) (by rw [sl_len_map]; exact hlen)
  rw [lg_entry_eq]
  have ha : al_has B ((lg_sl (as.map (cv B)) ++ List.replicate (mtM mi - (lg_sl (as.map (cv B))).length) Slot.unset).toArray) (mtM mi) (entL (mtM mi) as) := by
    refine ⟨entL_len as _ hlen, hl.1, hl.2.1, fun i v hv => ?_⟩
    have := entL_get B as (mtM mi) 0 i v hv
    rw [Nat.zero_add] at this
    exact hl.2.2 _ this
  refine hE p l e (rmD d) s m (as.map (cv B)).toArray below meth c B s.heap 0 0 (MQ below (Qz toG D B z) (as.map (cv B)).toArray s 0 0 (fun q => B ≤ q)) D ⟨hx, hb, hml, hts, by rw [hown]; exact hown', hK, hN, ⟨Nat.le_refl _, Nat.le_refl _⟩, h1, ⟨Nat.le_refl _, Nat.le_refl _⟩⟩ ⟨?_, ?_, ?_, ?_⟩ s.heap [] _ hW va_S.rf ha
  · intro v h pc L e1 e2 hd H locs ls hX hS ha
    subst e1
    subst e2
    exact W.iret hx hb (by rw [hr, hrk]; rfl) (fun t ht hW => ⟨⟨v, (), rfl, rfl, Wd_moved hW.alike (by rw [ht]; exact hX)⟩, hS.F ht⟩) hS.2.2 hd
  · intro v h pc L e1 e0 e2 hd H locs ls hX hS ha
    subst e1
    subst e2
    exact W.zret (ty := .boolean) hx hb (by rw [hr, hrk]; rfl) (by rcases e0 with rfl | rfl <;> rfl) (fun t ht hW => ⟨⟨v, (), rfl, rfl, Wd_moved hW.alike (by rw [ht]; exact hX)⟩, hS.F ht⟩) hS.2.2 hd
  · intro v h pc L e1 e2 hd H locs ls hX hS ha
    subst e1
    subst e2
    exact W.lret hx hb (by rw [hr, hrk]; rfl) (fun t ht hW => ⟨⟨v, (), rfl, rfl, Wd_moved hW.alike (by rw [ht]; exact hX)⟩, hS.F ht⟩) hS.2.2 hd
  · intro h pc L e1 e2 hd H locs ls hX hS ha
    subst e1
    subst e2
    exact W.vret hx hb (by rw [hr, hrk]; rfl) (fun t ht hW => ⟨⟨(), rfl, trivial, Wd_moved hW.alike (by rw [ht]; exact hX)⟩, hS.F ht⟩) hS.2.2 hd
/-- loops: if every round goes on well, so does the loop -/
theorem loop_E {σ ρ : Type} {b : σ → (σ → Option ρ) → Option ρ} {z : ρ} {P : σ → Prop} (hs : ∀ s κ, (∀ s', κ s' = some z → P s') → b s κ = some z → P s) : ∀ n s, loopC b n s = some z → P s
  | 0, s, h => by cases h
  | n + 1, s, h => hs s (loopC b n) (loop_E hs n) h
