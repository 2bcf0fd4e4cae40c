/-! THE READING of a meeting, both sides at once -/
theorem loopS {S ρ : Type} {b : S → (S → Option ρ) → Option ρ} {k : Nat} {s : S} : loopC b (k + 1) s = b s (loopC b k) := rfl
theorem loopF {S ρ : Type} {b : S → (S → Option ρ) → Option ρ} {s : S} : loopC b FU s = b s (loopC b 4095) := rfl
theorem loopF1 {S ρ : Type} {b : S → (S → Option ρ) → Option ρ} {s : S} : loopC b 4095 s = b s (loopC b 4094) := rfl
theorem loopF2 {S ρ : Type} {b : S → (S → Option ρ) → Option ρ} {s : S} : loopC b 4094 s = b s (loopC b 4093) := rfl
theorem loopF3 {S ρ : Type} {b : S → (S → Option ρ) → Option ρ} {s : S} : loopC b 4093 s = b s (loopC b 4092) := rfl
section MTB
variable {v : LV} {g g' gA gB gA1 gB1 : Hp} {R : Res Hp} {t n i q e : Nat} {f : Nat → Int32}
def PhF (q : Nat) (gA : Hp) (R : Res Hp) (gB : Hp) (t n : Nat) : Prop := ∃ p h1 h2, p ≤ n ∧ (∀ K, n < K + q → loopC Re_faultOf_14 K (83 + 2 * t, nI q, gA) = retI (nI p) h1) ∧ R = retI 0 h2 ∧ hg h2 178 16 = nI p ∧ frP gA h1 ∧ frQ gB h2
def PhT (q e : Nat) (gA : Hp) (R : Res Hp) (gB : Hp) (t n : Nat) : Prop := ∃ v' h1 h2, q + e ≤ n ∧ (∀ K, loopC Re_faultOf_14 (K + e) (83 + 2 * t, nI q, gA) = loopC Re_faultOf_14 K (83 + 2 * t, nI (q + e), h1)) ∧ WFp v' ∧ CLd 32 v' h1 ∧ hg h1 63 1 = 0 ∧ R = retI 1 h2 ∧ RLd v' h2 ∧ hg h2 178 16 = nI (q + e) ∧ frP gA h1 ∧ frQ gB h2
theorem PhF_s (hq : q ≤ n) (s : ∀ κ, Re_faultOf_14 (83 + 2 * t, nI q, gA) κ = κ (83 + 2 * t, nI (q + 1), gA1)) (f1 : frP gA gA1) (f2 : frQ gB gB1) (h : PhF (q + 1) gA1 R gB1 t n) : PhF q gA R gB t n := by
  obtain ⟨p, h1, h2, a1, a2, a3, a4, a5, a6⟩ := h
  refine ⟨p, h1, h2, a1, fun K hK => ?_, a3, a4, frP_tr f1 a5, frQ_tr f2 a6⟩
  obtain ⟨k, rfl⟩ : ∃ k, K = k + 1 := ⟨K - 1, by omega⟩
  rw [loopS, s]
  exact a2 k (by omega)
theorem PhT_s (s : ∀ κ, Re_faultOf_14 (83 + 2 * t, nI q, gA) κ = κ (83 + 2 * t, nI (q + 1), gA1)) (f1 : frP gA gA1) (f2 : frQ gB gB1) (h : PhT (q + 1) e gA1 R gB1 t n) : PhT q (e + 1) gA R gB t n := by
  obtain ⟨v', h1, h2, a1, a2, a3, a4, a5, a6, a7, a8, a9, b1⟩ := h
  have eq : q + 1 + e = q + (e + 1) := by omega
  rw [eq] at a1 a2 a8
  refine ⟨v', h1, h2, a1, fun K => ?_, a3, a4, a5, a6, a7, a8, frP_tr f1 a9, frQ_tr f2 b1⟩
  rw [← Nat.add_assoc, loopS, s]
  exact a2 K
theorem c_endF {s : Int32} (ht : t < 4) (hn : n ≤ 80) (c : CT t n f g) (st : hg g 63 1 = s) (hs2 : ¬ s < 2) {K : Nat} (hK : 0 < K) : loopC Re_faultOf_14 K (83 + 2 * t, nI n, g) = retI (nI n) g := by
  obtain ⟨k, rfl⟩ : ∃ k, K = k + 1 := ⟨K - 1, by omega⟩
  rw [loopS, c_rdEnd ht hn c, st, if_neg hs2]
theorem PhF_end {s : Int32} (ht : t < 4) (hn : n ≤ 80) (c : CT t n f gA) (st : hg gA 63 1 = s) (hs2 : ¬ s < 2) (hq : q = n) (e1 : R = retI 0 gB) (e16 : hg gB 178 16 = nI q) : PhF q gA R gB t n := by
  subst hq
  exact ⟨q, gA, gB, Nat.le_refl _, fun K hK => c_endF ht hn c st hs2 (by omega), e1, e16, frP_rf _, frQ_rf _⟩
theorem PhF_at (hq : q < n) (s : ∀ κ, Re_faultOf_14 (83 + 2 * t, nI q, gA) κ = retI (nI q) gA1) (f1 : frP gA gA1) (e1 : R = retI 0 gB) (e16 : hg gB 178 16 = nI q) : PhF q gA R gB t n := by
  refine ⟨q, gA1, gB, Nat.le_of_lt hq, fun K hK => ?_, e1, e16, f1, frQ_rf _⟩
  obtain ⟨k, rfl⟩ : ∃ k, K = k + 1 := ⟨K - 1, by omega⟩
  rw [loopS, s]
theorem m_rmBeg (rM : RLd v g') (hm : v 3 0 < 16) (e16 : hg g' 178 16 = nI i) : F_Mo_readsMeeting (nI t) g' = Mo_readsMeeting_30 (nI t, nI (3 * v 3 0), 0, hs g' 178 16 (nI (i + 1))) (loopC Mo_readsMeeting_30 4095) := by
  have e : ¬ nI (v 3 0) = (16 : Int32) := fun z => by
    have := (nI_eq (a := v 3 0) (b := 16) (by omega) (by decide)).mp z
    omega
  unfold F_Mo_readsMeeting
  rw [rM.2.1, if_neg e, bH_t, e16, nI_s, hg_hs_k (show (18 : Nat) ≠ 16 by decide), rM.2.1, show (3 : Int32) * nI (v 3 0) = nI (3 * v 3 0) from nI_mul 3 _]
  exact loopF
theorem inRbn {x : Int32} {m : Nat} (q : ¬ inR x m) : ¬ inRb x m = true := q
theorem ph3 {a b : Nat} (ht : t < 4) (hn : n ≤ 80) (cA : CT t n f gA) (cB : MT t n f gB) (w : WFp v) (rA : CLd 32 v gA) (rB : RLd v gB) (hq : q ≤ n) (hm : v 3 0 < 16) (e16 : hg gB 178 16 = nI q) (st : hg gA 63 1 = 4) (k3 : hg gA 63 3 = nI a) (k4 : hg gA 63 4 = nI b) (j0 : hg gB 191 (3 * v 3 0) = nI a) (j1 : hg gB 191 (3 * v 3 0 + 1) = nI b) (ha : a < v 0 0) (hb : b < v 0 0) (hab : a ≠ b) : PhF q gA (Mo_readsMeeting_30 (nI t, nI (3 * v 3 0), 2, gB) (loopC Mo_readsMeeting_30 4093)) gB t n ∨ PhT q 1 gA (Mo_readsMeeting_30 (nI t, nI (3 * v 3 0), 2, gB) (loopC Mo_readsMeeting_30 4093)) gB t n := by
  have hn7 := w.1.1
  by_cases p1 : q < n
  · have s1 : sgn n f q = f q := if_pos p1
    rcases fg_cases (f q) (m := 8) (by omega) with ⟨s, hs8, a1, a2, a3⟩ | ⟨b1, b2⟩
    · right
      obtain ⟨g1, c1, c2, c3, c4⟩ := c_timeT ht hn cA p1 w rA st k3 k4 a1 hm ha hb hab hs8
      have u1 : inRb (nI s) 8 = true := (inR_nI (by omega)).mpr hs8
      have wn := wf_mtg w.1 hm ha hb hab hs8
      have rN : RLd v (hs (hs gB 191 (3 * v 3 0 + 2) (nI s)) 178 16 (nI (q + 1))) := RLd_16 (RLd_191 (by decide) rB)
      have e18 : hg (hs (hs gB 191 (3 * v 3 0 + 2) (nI s)) 178 16 (nI (q + 1))) 178 18 = nI (v 3 0) := rN.2.1
      have eR : Mo_readsMeeting_30 (nI t, nI (3 * v 3 0), 2, gB) (loopC Mo_readsMeeting_30 4093) = retI 1 (hs (hs (hs gB 191 (3 * v 3 0 + 2) (nI s)) 178 16 (nI (q + 1))) 178 18 (nI (v 3 0 + 1))) := by
        rw [m_rm2 ht hn cB e16 hq hm, s1, a2, if_pos u1, loopF3, m_rm3 e18]
      refine ⟨mtg v a b s, g1, hs (hs (hs gB 191 (3 * v 3 0 + 2) (nI s)) 178 16 (nI (q + 1))) 178 18 (nI (v 3 0 + 1)), p1, fun K => ?_, ⟨wn, ?_, ?_⟩, c2, c3, eR, RLd_mtg rN ?_ ?_ ?_, ?_, c4, frQ_tr (frQ_r (by decide)) (frQ_tr (frQ_178 (by decide)) (frQ_178 (by decide)))⟩
      · rw [loopS, c1]
      · rw [mtg_o (by omega)]; exact w.2.1
      · rw [mtg_o (by omega)]; exact w.2.2
      · rw [hg_hs_a (by decide), hg_hs_k (by omega)]; exact j0
      · rw [hg_hs_a (by decide), hg_hs_k (by omega)]; exact j1
      · rw [hg_hs_a (by decide), hg_hs_eq]
      · rw [hg_hs_k (by decide), hg_hs_eq]
    · left
      refine PhF_at p1 (fun κ => c_timeF ht hn cA p1 st b1 κ) (frP_rf _) ?_ e16
      rw [m_rm2 ht hn cB e16 hq hm, s1, if_neg (inRbn b2)]
  · left
    refine PhF_end ht hn cA st (by decide) (by omega) ?_ e16
    rw [m_rm2 ht hn cB e16 hq hm, if_neg (inRbn (sgn_in (by decide) p1))]
theorem ph2 {a : Nat} (ht : t < 4) (hn : n ≤ 80) (cA : CT t n f gA) (cB : MT t n f gB) (w : WFp v) (rA : CLd 32 v gA) (rB : RLd v gB) (hq : q ≤ n) (hm : v 3 0 < 16) (e16 : hg gB 178 16 = nI q) (st : hg gA 63 1 = 3) (k3 : hg gA 63 3 = nI a) (j0 : hg gB 191 (3 * v 3 0) = nI a) (ha : a < v 0 0) : PhF q gA (Mo_readsMeeting_30 (nI t, nI (3 * v 3 0), 1, gB) (loopC Mo_readsMeeting_30 4094)) gB t n ∨ PhT q 2 gA (Mo_readsMeeting_30 (nI t, nI (3 * v 3 0), 1, gB) (loopC Mo_readsMeeting_30 4094)) gB t n := by
  have hn7 := w.1.1
  have eR := m_rm1 ht hn cB e16 hq w.1 rB hm (loopC Mo_readsMeeting_30 4094)
  rw [j0] at eR
  by_cases p1 : q < n
  · have s1 : sgn n f q = f q := if_pos p1
    have C := fun κ => c_other ht hn cA p1 w.1 rA st κ
    rw [k3] at C
    rw [s1] at eR
    have bad : ¬ (inRb (fg (f q)) (v 0 0) = true ∧ ¬ fg (f q) = nI a) → ¬ (inRb (f q - 48) (v 0 0) = true ∧ ¬ f q - 48 = nI a) → PhF q gA (Mo_readsMeeting_30 (nI t, nI (3 * v 3 0), 1, gB) (loopC Mo_readsMeeting_30 4094)) gB t n := fun q1 q2 => by
      rw [if_neg q2] at eR
      exact PhF_at p1 (fun κ => by rw [C κ, if_neg q1]) (frP_tr frP_63 frP_63) eR e16
    rcases fg_cases (f q) (m := v 0 0) (by omega) with ⟨b, hb, a1, a2, a3⟩ | ⟨b1, b2⟩
    · by_cases z : b = a
      · subst z
        exact Or.inl (bad (fun y => y.2 a1) (fun y => y.2 a2))
      · have z' : ¬ nI b = nI a := fun y => z ((nI_eq (by omega) (by omega)).mp y)
        have u1 : inRb (nI b) (v 0 0) = true := (inR_nI (by omega)).mpr hb
        rw [a2, if_pos ⟨u1, z'⟩, loopF2] at eR
        have C' : ∀ κ, Re_faultOf_14 (83 + 2 * t, nI q, gA) κ = κ (83 + 2 * t, nI (q + 1), hs (hs gA 63 4 (nI b)) 63 1 4) := fun κ => by
          rw [C κ, a1, if_pos ⟨u1, z'⟩]
        have f1 : frP gA (hs (hs gA 63 4 (nI b)) 63 1 4) := frP_tr frP_63 frP_63
        have f2 : frQ gB (hs (hs gB 191 (3 * v 3 0 + 1) (nI b)) 178 16 (nI (q + 1))) := frQ_tr (frQ_r (by decide)) (frQ_178 (by decide))
        rw [eR]
        have P := ph3 (a := a) (b := b) ht hn (CT_P cA f1) (MT_Q cB f2) w (CLd_63 w.1 (CLd_63 w.1 rA)) (RLd_16 (RLd_191 (by decide) rB)) p1 hm (hg_hs_eq _ _ _ _) (hg_hs_eq _ _ _ _) (by rw [hg_hs_k (by decide), hg_hs_k (by decide)]; exact k3) (by rw [hg_hs_k (by decide), hg_hs_eq]) (by rw [hg_hs_a (by decide), hg_hs_k (by omega)]; exact j0) (by rw [hg_hs_a (by decide), hg_hs_eq]) ha hb (fun y => z y.symm)
        rcases P with P | P
        · exact Or.inl (PhF_s hq C' f1 f2 P)
        · exact Or.inr (PhT_s C' f1 f2 P)
    · exact Or.inl (bad (fun y => b1 y.1) (fun y => b2 y.1))
  · left
    refine PhF_end ht hn cA st (by decide) (by omega) ?_ e16
    rw [eR, if_neg (fun y => sgn_in (by omega) p1 y.1)]
theorem ph1 (ht : t < 4) (hn : n ≤ 80) (cA : CT t n f gA) (cB : MT t n f gB) (w : WFp v) (rA : CLd 32 v gA) (rB : RLd v gB) (hq : q ≤ n) (hm : v 3 0 < 16) (e16 : hg gB 178 16 = nI q) (st : hg gA 63 1 = 2) : PhF q gA (Mo_readsMeeting_30 (nI t, nI (3 * v 3 0), 0, gB) (loopC Mo_readsMeeting_30 4095)) gB t n ∨ PhT q 3 gA (Mo_readsMeeting_30 (nI t, nI (3 * v 3 0), 0, gB) (loopC Mo_readsMeeting_30 4095)) gB t n := by
  have hn7 := w.1.1
  have eR := m_rm0 ht hn cB e16 hq w.1 rB hm (loopC Mo_readsMeeting_30 4095)
  by_cases p1 : q < n
  · have s1 : sgn n f q = f q := if_pos p1
    have C := fun κ => c_one ht hn cA p1 w.1 rA st κ
    rw [s1] at eR
    rcases fg_cases (f q) (m := v 0 0) (by omega) with ⟨a, ha, a1, a2, a3⟩ | ⟨b1, b2⟩
    · have u1 : inRb (nI a) (v 0 0) = true := (inR_nI (by omega)).mpr ha
      rw [a2, if_pos u1, loopF1] at eR
      have C' : ∀ κ, Re_faultOf_14 (83 + 2 * t, nI q, gA) κ = κ (83 + 2 * t, nI (q + 1), hs (hs gA 63 3 (nI a)) 63 1 3) := fun κ => by
        rw [C κ, a1, if_pos u1]
      have f1 : frP gA (hs (hs gA 63 3 (nI a)) 63 1 3) := frP_tr frP_63 frP_63
      have f2 : frQ gB (hs (hs gB 191 (3 * v 3 0) (nI a)) 178 16 (nI (q + 1))) := frQ_tr (frQ_r (by decide)) (frQ_178 (by decide))
      rw [eR]
      have P := ph2 (a := a) ht hn (CT_P cA f1) (MT_Q cB f2) w (CLd_63 w.1 (CLd_63 w.1 rA)) (RLd_16 (RLd_191 (c := 0) (by decide) rB)) p1 hm (hg_hs_eq _ _ _ _) (hg_hs_eq _ _ _ _) (by rw [hg_hs_k (by decide), hg_hs_eq]) (by rw [hg_hs_a (by decide), hg_hs_eq]) ha
      rcases P with P | P
      · exact Or.inl (PhF_s hq C' f1 f2 P)
      · exact Or.inr (PhT_s C' f1 f2 P)
    · left
      refine PhF_at p1 (fun κ => by rw [C κ, if_neg (inRbn b1)]) (frP_tr frP_63 frP_63) ?_ e16
      rw [eR, if_neg (inRbn b2)]
  · left
    refine PhF_end ht hn cA st (by decide) (by omega) ?_ e16
    rw [eR, if_neg (inRbn (sgn_in (by omega) p1))]
theorem meeting (ht : t < 4) (hn : n ≤ 80) (cC : CT t n f g) (cM : MT t n f g') (w : WFp v) (rC : CLd 32 v g) (rM : RLd v g') (hi : i < n) (hm : v 3 0 < 16) (e16 : hg g' 178 16 = nI i) : PhF (i + 1) (hs g 63 1 2) (F_Mo_readsMeeting (nI t) g') (hs g' 178 16 (nI (i + 1))) t n ∨ PhT (i + 1) 3 (hs g 63 1 2) (F_Mo_readsMeeting (nI t) g') (hs g' 178 16 (nI (i + 1))) t n := by
  rw [m_rmBeg (t := t) rM hm e16]
  exact ph1 ht hn (CT_P cC frP_63) (MT_Q cM (frQ_178 (by decide))) w (CLd_63 w.1 rC) (RLd_16 rM) hi hm (hg_hs_eq _ _ _ _) (hg_hs_eq _ _ _ _)
end MTB
