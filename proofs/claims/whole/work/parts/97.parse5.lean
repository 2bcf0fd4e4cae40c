/-! THE READING of a hand, both sides at once -/
def rlf (S : Nat) (lf : Int32) : Prop := (S = 0 ∧ lf = -nI 9) ∨ ∃ b, b < 5 ∧ lf = nI b ∧ 2 ^ b ≤ S ∧ S < 2 ^ (b + 1)
theorem rlf_d1 {b a S : Nat} (h1 : 2 ^ b ≤ S) (h2 : S < 2 ^ (b + 1)) : a ≤ b ↔ ¬ S >>> a = 0 := by
  rw [Nat.shiftRight_eq_div_pow]
  constructor
  · intro h
    have := Nat.pow_le_pow_right (n := 2) (by decide) h
    have := Nat.div_pos (show 2 ^ a ≤ S by omega) (Nat.two_pow_pos a)
    omega
  · intro h
    rcases Nat.lt_or_ge b a with z | z
    · have := Nat.pow_le_pow_right (n := 2) (by decide) (show b + 1 ≤ a from z)
      exact absurd (Nat.div_eq_of_lt (show S < 2 ^ a by omega)) h
    · exact z
theorem rlf_d2 : ∀ a, a < 5 → ∀ S, S < 32 → S >>> a = 0 → 2 ^ a ≤ S ||| 2 ^ a ∧ S ||| 2 ^ a < 2 ^ (a + 1) ∧ S ||| 2 ^ a < 32 := by decide +kernel
theorem rlf_le {S a : Nat} {lf : Int32} (r : rlf S lf) (hS : S < 32) (ha : a < 5) : nI a ≤ lf ↔ ¬ S >>> a = 0 := by
  rcases r with ⟨rfl, rfl⟩ | ⟨b, hb, rfl, h1, h2⟩
  · rw [Nat.zero_shiftRight]
    constructor
    · intro z
      rw [le_toInt, nI_toInt (by omega), show (-nI 9).toInt = -9 by decide] at z
      omega
    · intro z
      exact absurd rfl z
  · rw [← rlf_d1 h1 h2]
    exact nI_leI (by omega) (by omega)
theorem fg_no {c : Int32} (q : ¬ inR (fg c) 10) : fg c = -9 := by
  unfold fg at q ⊢
  by_cases a : c < 48
  · rw [if_pos a]
  · rw [if_neg a] at q ⊢
    by_cases b : 57 < c
    · rw [if_pos b]
    · rw [if_neg b] at q
      exfalso
      refine q ?_
      have := sub48 c
      rw [lt48] at a
      rw [gt57] at b
      rw [inR_iff]
      omega
theorem inV_48 {c : Int32} (q : ¬ inR (c - 48) 10) : ¬ inV c 48 58 := by
  have := sub48 c
  rw [inR_iff] at q
  rw [inV_iff]
  omega
theorem inV_9 : ¬ inV (-9) 48 58 := by decide
section HD
variable {v : LV} {g gA gB : Hp} {R : Res Hp} {t n q k S : Nat} {lf : Int32} {f : Nat → Int32}
theorem c_tgT {a : Nat} (ht : t < 4) (hn : n ≤ 80) (c : CT t n f g) (hq : q < n) (w : WFp v) (h7 : v 0 0 < 7) (r : CLd 32 (hnd v k S) g) (st : hg g 63 1 = 1) (e2 : hg g 63 2 = lf) (ea : fg (f q) = nI a) (ha : a < 5) (hl : ¬ nI a ≤ lf) (κ : (Nat × Int32 × Hp) → Res Hp) : Re_faultOf_14 (83 + 2 * t, nI q, g) κ = κ (83 + 2 * t, nI (q + 1), hs (hs g 34 (v 0 0) (nI (S ||| 2 ^ a))) 63 2 (nI a)) := by
  have e8 : hg g 32 8 = nI (v 0 0 + 1) := (L_n r).trans (by rw [hnd_0])
  have e34 : hg g 34 (v 0 0) = nI S := (L_w (x := v 0 0) r (by rw [hnd_0]; omega)).trans (by rw [hnd_2, if_pos rfl])
  have z0 : ¬ nI (v 0 0 + 1) = (0 : Int32) := fun z => by
    have := (nI_eq (a := v 0 0 + 1) (b := 0) (by omega) (by decide)).mp z
    omega
  have eT : F_Re_takesTongue (nI a) g = retI 1 (hs (hs g 34 (v 0 0) (nI (S ||| 2 ^ a))) 63 2 (nI a)) := by
    unfold F_Re_takesTongue
    rw [c_noTongue, bI_ret, tf_f (fun z => z ((inR_nI (by omega)).mpr ha)), if_pos rfl, e2, if_neg hl, e8, if_neg z0, show nI (v 0 0 + 1) - 1 = nI (v 0 0) from nI_sb (a := v 0 0 + 1) (b := 1) (by omega), oA_34 h7, cond_true, c_bit (by omega), bI_ret, cond_true, bH_t, bH_t, nI_clamp (by omega), e34, nI_or, retZ_1]
  rw [c_rdStep ht hn c hq, tk_1 st, ea, eT, bI_ret, if_neg one0, retZ_1, bI_ret, if_neg one0]
theorem c_tgF {a : Nat} (ht : t < 4) (hn : n ≤ 80) (c : CT t n f g) (hq : q < n) (w : WFp (hnd v k S)) (r : CLd 32 (hnd v k S) g) (st : hg g 63 1 = 1) (e2 : hg g 63 2 = lf) (ea : fg (f q) = nI a) (ec : f q = nI (48 + a)) (ha : a < 10) (hl : 5 ≤ a ∨ nI a ≤ lf) (κ : (Nat × Int32 × Hp) → Res Hp) : Re_faultOf_14 (83 + 2 * t, nI q, g) κ = retI (nI q) g := by
  have eT : F_Re_takesTongue (nI a) g = retI 0 g := by
    unfold F_Re_takesTongue
    rw [c_noTongue, bI_ret]
    by_cases z : a < 5
    · rw [tf_f (fun y => y ((inR_nI (by omega)).mpr z)), if_pos rfl, e2, if_pos (hl.resolve_left (by omega)), retZ_0]
    · rw [tf_t (fun y => z ((inR_nI (by omega)).mp y)), if_neg one0, retZ_0]
  have n1 : ¬ nI (48 + a) = (32 : Int32) := fun z => by
    have := (nI_eq (a := 48 + a) (b := 32) (by omega) (by decide)).mp z
    omega
  have n2 : ¬ nI (48 + a) = (109 : Int32) := fun z => by
    have := (nI_eq (a := 48 + a) (b := 109) (by omega) (by decide)).mp z
    omega
  have eS := st_no (c := nI (48 + a)) w.1 r n1 n2 (Or.inl (kd_fig ha))
  rw [c_rdStep ht hn c hq, tk_1 st, ea, eT, bI_ret, if_pos rfl, ec, eS, bI_ret, if_pos rfl, retZ_0, bI_ret, if_pos rfl]
theorem m_in57 (x : Int32) (h : Hp) : F_Mo_in x 48 57 h = retI (tf (inV x 48 58)) h := m_in (lo := 48) (n := 58) (by decide) (by decide) (by decide) h
theorem m_hdEnd (ht : t < 4) (hn : n ≤ 80) (c : MT t n f g) (hq : q ≤ n) (r : RLd v g) (h7 : v 0 0 < 7) (e16 : hg g 178 16 = nI q) (hx : ¬ inV (sgn n f q) 48 58) (κ : (Int32 × Int32 × Int32 × Hp) → Res Hp) : Mo_readsHand_45 (nI t, nI k, nI S, g) κ = retI 1 (hs (hs (hs g 189 (v 0 0) (nI k)) 190 (v 0 0) (nI S)) 178 17 (nI (v 0 0 + 1))) := by
  unfold Mo_readsHand_45
  dsimp only
  rw [m_here ht hn c e16 hq, bI_ret, m_in57, bI_ret, tf_f hx, if_pos rfl, r.1, oA_189 h7, cond_true, bH_t, nI_clamp (by omega), hg_hs_a (show (178 : Nat) ≠ 189 by decide), r.1, oA_190 h7, cond_true, bH_t, nI_clamp (by omega), hg_hs_a (show (178 : Nat) ≠ 190 by decide), hg_hs_a (show (178 : Nat) ≠ 189 by decide), r.1, nI_s, bH_t, retZ_1]
theorem m_hdF {a : Nat} (ht : t < 4) (hn : n ≤ 80) (c : MT t n f g) (hq : q < n) (e16 : hg g 178 16 = nI q) (ec : f q = nI (48 + a)) (es : f q - 48 = nI a) (ha : a < 10) (hS : S < 32) (hl : 5 ≤ a ∨ ¬ S >>> a = 0) (κ : (Int32 × Int32 × Int32 × Hp) → Res Hp) : Mo_readsHand_45 (nI t, nI k, nI S, g) κ = retI 0 g := by
  have s1 : sgn n f q = f q := if_pos hq
  have hx : inV (f q) 48 58 := by rw [ec]; exact (inV_nI (by omega)).mpr (by omega)
  have hv0 := m_here ht hn c e16 (Nat.le_of_lt hq)
  rw [s1] at hv0
  unfold Mo_readsHand_45
  dsimp only
  rw [hv0, bI_ret, m_in57, bI_ret, tf_t hx, if_neg one0, hv0, bI_ret, es]
  by_cases z : 5 ≤ a
  · rw [if_pos (show (5 : Int32) ≤ nI a from le_nI (b := 5) (by omega) (by decide) z), retZ_0]
  · have zz : ¬ nI S >>> (nI a &&& 31) = (0 : Int32) := by
      rw [nI_shr (by omega) (by omega)]
      intro y
      have hlt : S >>> a < 2 ^ 31 := Nat.lt_of_le_of_lt (Nat.shiftRight_le S a) (by omega)
      exact (hl.resolve_left z) ((nI_eq (a := S >>> a) (b := 0) hlt (by decide)).mp y)
    rw [if_neg (show ¬ (5 : Int32) ≤ nI a from nle_nI (b := 5) (by omega) (by decide) z), if_neg zz, retZ_0]
theorem m_hdT {a : Nat} (ht : t < 4) (hn : n ≤ 80) (c : MT t n f g) (hq : q < n) (e16 : hg g 178 16 = nI q) (ec : f q = nI (48 + a)) (es : f q - 48 = nI a) (ha : a < 5) (hS : S < 32) (hl : S >>> a = 0) (κ : (Int32 × Int32 × Int32 × Hp) → Res Hp) : Mo_readsHand_45 (nI t, nI k, nI S, g) κ = κ (nI t, nI k, nI (S ||| 2 ^ a), hs g 178 16 (nI (q + 1))) := by
  have s1 : sgn n f q = f q := if_pos hq
  have hx : inV (f q) 48 58 := by rw [ec]; exact (inV_nI (by omega)).mpr (by omega)
  have hv0 := m_here ht hn c e16 (Nat.le_of_lt hq)
  rw [s1] at hv0
  have zz : nI S >>> (nI a &&& 31) = (0 : Int32) := by
    rw [nI_shr (by omega) (by omega), hl]
    rfl
  unfold Mo_readsHand_45
  dsimp only
  rw [hv0, bI_ret, m_in57, bI_ret, tf_t hx, if_neg one0, hv0, bI_ret, es, if_neg (show ¬ (5 : Int32) ≤ nI a from nle_nI (b := 5) (by omega) (by decide) (by omega)), if_pos zz, bH_t, e16, nI_s, nI_bit (by omega), nI_or]
def HdT (v : LV) (k q : Nat) (gA : Hp) (R : Res Hp) (gB : Hp) (t n : Nat) (f : Nat → Int32) : Prop := ∃ q2 S2 h1 h2, q ≤ q2 ∧ q2 ≤ n ∧ (∀ K, loopC Re_faultOf_14 (K + (q2 - q)) (83 + 2 * t, nI q, gA) = loopC Re_faultOf_14 K (83 + 2 * t, nI q2, h1)) ∧ S2 < 32 ∧ CLd 32 (hnd v k S2) h1 ∧ hg h1 63 1 = 1 ∧ (q2 < n → fg (f q2) = -9) ∧ R = retI 1 h2 ∧ RLd (hnd v k S2) h2 ∧ hg h2 178 16 = nI q2 ∧ frP gA h1 ∧ frQ gB h2
theorem HdT_s {gA1 gB1 : Hp} (s : ∀ κ, Re_faultOf_14 (83 + 2 * t, nI q, gA) κ = κ (83 + 2 * t, nI (q + 1), gA1)) (f1 : frP gA gA1) (f2 : frQ gB gB1) (h : HdT v k (q + 1) gA1 R gB1 t n f) : HdT v k q gA R gB t n f := by
  obtain ⟨q2, S2, h1, h2, a1, a2, a3, a4, a5, a6, a7, a8, a9, b1, b2, b3⟩ := h
  refine ⟨q2, S2, h1, h2, by omega, a2, fun K => ?_, a4, a5, a6, a7, a8, a9, b1, frP_tr f1 b2, frQ_tr f2 b3⟩
  rw [show K + (q2 - q) = K + (q2 - (q + 1)) + 1 by omega, loopS, s]
  exact a3 K
theorem HdT_end (ht : t < 4) (hn : n ≤ 80) (cB : MT t n f gB) (w : WFp v) (h7 : v 0 0 < 7) (rA : CLd 32 (hnd v k S) gA) (rB : RLd v gB) (hq : q ≤ n) (hS : S < 32) (st : hg gA 63 1 = 1) (e16 : hg gB 178 16 = nI q) (hx : ¬ inV (sgn n f q) 48 58) (hf : q < n → fg (f q) = -9) {K : Nat} (hK : 0 < K) : HdT v k q gA (loopC Mo_readsHand_45 K (nI t, nI k, nI S, gB)) gB t n f := by
  obtain ⟨j, rfl⟩ : ∃ j, K = j + 1 := ⟨K - 1, by omega⟩
  refine ⟨q, S, gA, hs (hs (hs gB 189 (v 0 0) (nI k)) 190 (v 0 0) (nI S)) 178 17 (nI (v 0 0 + 1)), Nat.le_refl _, hq, fun K => by rw [Nat.sub_self]; rfl, hS, rA, st, hf, ?_, RLd_hnd rB (hg_hs_eq _ _ _ _) ?_ ?_ (fun a j n1 n2 n3 => ?_), ?_, frP_rf _, frQ_tr (frQ_r (by decide)) (frQ_tr (frQ_r (by decide)) (frQ_178 (by decide)))⟩
  · rw [loopS, m_hdEnd ht hn cB hq rB h7 e16 hx]
  · rw [hg_hs_a (by decide), hg_hs_a (by decide), hg_hs_eq]
  · rw [hg_hs_a (by decide), hg_hs_eq]
  · rw [hg_hs2, if_neg (by omega), hg_hs2, if_neg n3, hg_hs2, if_neg n2]
  · rw [hg_hs_k (by decide), hg_hs_a (by decide), hg_hs_a (by decide)]; exact e16
theorem hand_figs (ht : t < 4) (hn : n ≤ 80) (w : WFp v) (h7 : v 0 0 < 7) (hk : k < 6) : ∀ (d q S : Nat) (lf : Int32) (gA gB : Hp) (K : Nat), q + d = n → d < K → CT t n f gA → MT t n f gB → CLd 32 (hnd v k S) gA → RLd v gB → S < 32 → rlf S lf → hg gA 63 1 = 1 → hg gA 63 2 = lf → hg gB 178 16 = nI q → PhF q gA (loopC Mo_readsHand_45 K (nI t, nI k, nI S, gB)) gB t n ∨ HdT v k q gA (loopC Mo_readsHand_45 K (nI t, nI k, nI S, gB)) gB t n f
  | 0, q, S, lf, gA, gB, K, hd, hK, cA, cB, rA, rB, hS, hr, st, e2, e16 => by
    refine Or.inr (HdT_end ht hn cB w h7 rA rB (by omega) hS st e16 ?_ (fun z => by omega) hK)
    unfold sgn
    rw [if_neg (by omega)]
    exact inV_9
  | d + 1, q, S, lf, gA, gB, K, hd, hK, cA, cB, rA, rB, hS, hr, st, e2, e16 => by
    have hq : q < n := by omega
    have s1 : sgn n f q = f q := if_pos hq
    rcases fg_cases (f q) (m := 10) (by decide) with ⟨a, ha, a1, a2, a3⟩ | ⟨b1, b2⟩
    · obtain ⟨j, rfl⟩ : ∃ j, K = j + 1 := ⟨K - 1, by omega⟩
      have bad : (5 ≤ a ∨ nI a ≤ lf) → (5 ≤ a ∨ ¬ S >>> a = 0) → PhF q gA (loopC Mo_readsHand_45 (j + 1) (nI t, nI k, nI S, gB)) gB t n := fun q1 q2 => by
        refine PhF_at hq (fun κ => c_tgF ht hn cA hq (wf_hnd w h7 hk hS) rA st e2 a1 a3 ha q1 κ) (frP_rf _) ?_ e16
        rw [loopS, m_hdF ht hn cB hq e16 a3 a2 ha hS q2]
      by_cases z : a < 5
      · have le := rlf_le (a := a) hr hS z
        by_cases y : S >>> a = 0
        · have nl : ¬ nI a ≤ lf := fun x => (le.mp x) y
          obtain ⟨d1, d2, d3⟩ := rlf_d2 a z S hS y
          have C := fun κ => c_tgT ht hn cA hq w h7 rA st e2 a1 z nl κ
          have f1 : frP gA (hs (hs gA 34 (v 0 0) (nI (S ||| 2 ^ a))) 63 2 (nI a)) := fun x j n1 n2 => by
            rw [hg_hs_a n2, hg_hs_a (by omega)]
          have f2 : frQ gB (hs gB 178 16 (nI (q + 1))) := frQ_178 (by decide)
          have wn := wf_hnd (k := k) (S := S ||| 2 ^ a) w h7 hk d3
          have P := hand_figs ht hn w h7 hk d (q + 1) (S ||| 2 ^ a) (nI a) (hs (hs gA 34 (v 0 0) (nI (S ||| 2 ^ a))) 63 2 (nI a)) (hs gB 178 16 (nI (q + 1))) j (by omega) (by omega) (CT_P cA f1) (MT_Q cB f2) (CLd_63 wn.1 (CLd_hnd2 w rA)) (RLd_16 rB) d3 (Or.inr ⟨a, z, rfl, d1, d2⟩) (by rw [hg_hs_k (by decide), hg_hs_a (by decide)]; exact st) (hg_hs_eq _ _ _ _) (hg_hs_eq _ _ _ _)
          rw [loopS, m_hdT ht hn cB hq e16 a3 a2 z hS y]
          rcases P with P | P
          · exact Or.inl (PhF_s (by omega) C f1 f2 P)
          · exact Or.inr (HdT_s C f1 f2 P)
        · exact Or.inl (bad (Or.inr (le.mpr y)) (Or.inr y))
      · exact Or.inl (bad (Or.inl (by omega)) (Or.inl (by omega)))
    · refine Or.inr (HdT_end ht hn cB w h7 rA rB (by omega) hS st e16 ?_ (fun _ => fg_no b1) (by omega))
      rw [s1]
      exact inV_48 b2
end HD
