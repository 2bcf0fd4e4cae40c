/-! NUMBERS for the pure functions (bt, b_.., nx_and began as rows of kit/laws/BITS.to-paste) -/
def bt (x : Int32) (i : Nat) : Bool := x.toBitVec.getLsbD i
theorem b_ext {x y : Int32} (h : ∀ i, i < 32 → bt x i = bt y i) : x = y := Int32.toBitVec_inj.mp (BitVec.eq_of_getLsbD_eq (fun i hi => h i hi))
theorem b_or (x y : Int32) (i : Nat) : bt (x ||| y) i = (bt x i || bt y i) := by unfold bt; rw [Int32.toBitVec_or, BitVec.getLsbD_or]
theorem b_and (x y : Int32) (i : Nat) : bt (x &&& y) i = (bt x i && bt y i) := by unfold bt; rw [Int32.toBitVec_and, BitVec.getLsbD_and]
theorem b_xor (x y : Int32) (i : Nat) : bt (x ^^^ y) i = (bt x i ^^ bt y i) := by unfold bt; rw [Int32.toBitVec_xor, BitVec.getLsbD_xor]
theorem b_m1 : ∀ i, i < 32 → bt (-1) i = true := by decide +kernel
theorem s_l : ∀ n, n < 32 → ((nI n &&& 31).toBitVec.smod 32).toNat = n := by decide +kernel
theorem b_shl (n : Nat) (hn : n < 32) (x : Int32) {i : Nat} (hi : i < 32) : bt (x <<< (nI n &&& 31)) i = (decide (n ≤ i) && bt x (i - n)) := by
  unfold bt
  rw [Int32.toBitVec_shiftLeft]
  show (x.toBitVec <<< ((nI n &&& 31).toBitVec.smod 32).toNat).getLsbD i = _
  rw [s_l n hn, BitVec.getLsbD_shiftLeft]
  rcases Nat.lt_or_ge i n with h | h
  · simp [h, Nat.not_le.mpr h]
  · simp [hi, h, Nat.not_lt.mpr h]
theorem b_sshr (n : Nat) (hn : n < 32) (x : Int32) {i : Nat} (hi : i < 32) : bt (x >>> (nI n &&& 31)) i = if n + i < 32 then bt x (n + i) else bt x 31 := by
  unfold bt
  rw [Int32.toBitVec_shiftRight]
  show (x.toBitVec.sshiftRight ((nI n &&& 31).toBitVec.smod 32).toNat).getLsbD i = _
  rw [s_l n hn, BitVec.getLsbD_sshiftRight, BitVec.msb_eq_getLsbD_last]
  simp [hi]
theorem bt_nI {a i : Nat} (hi : i < 32) : bt (nI a) i = a.testBit i := by
  show (BitVec.ofNat 32 a).getLsbD i = _
  rw [BitVec.getLsbD_ofNat]
  simp [hi]
/-- a set less another -/
def sdf (a b : Nat) : Nat := a ^^^ (a &&& b)
theorem sdf_tb (a b i : Nat) : (sdf a b).testBit i = (a.testBit i && !b.testBit i) := by
  unfold sdf
  rw [Nat.testBit_xor, Nat.testBit_and]
  cases a.testBit i <;> cases b.testBit i <;> rfl
theorem nI_sdf (a b : Nat) : nI a &&& (nI b ^^^ (-1 : Int32)) = nI (sdf a b) := by
  apply b_ext
  intro i hi
  rw [b_and, b_xor, bt_nI hi, bt_nI hi, bt_nI hi, b_m1 i hi, sdf_tb]
  cases a.testBit i <;> cases b.testBit i <;> rfl
theorem nI_and (a b : Nat) : nI a &&& nI b = nI (a &&& b) := by
  apply b_ext
  intro i hi
  rw [b_and, bt_nI hi, bt_nI hi, bt_nI hi, Nat.testBit_and]
theorem nI_or (a b : Nat) : nI a ||| nI b = nI (a ||| b) := by
  apply b_ext
  intro i hi
  rw [b_or, bt_nI hi, bt_nI hi, bt_nI hi, Nat.testBit_or]
theorem nI_shl (a : Nat) {k : Nat} (hk : k < 32) : nI a <<< (nI k &&& 31) = nI (a <<< k) := by
  apply b_ext
  intro i hi
  rw [b_shl k hk _ hi, bt_nI hi, bt_nI (by omega), Nat.testBit_shiftLeft]
theorem nI_bit {k : Nat} (hk : k < 32) : (1 : Int32) <<< (nI k &&& 31) = nI (2 ^ k) := by
  show nI 1 <<< (nI k &&& 31) = _
  rw [nI_shl 1 hk, Nat.one_shiftLeft]
theorem tb_small {a i j : Nat} (h : a < 2 ^ i) (hj : i ≤ j) : a.testBit j = false := Nat.testBit_lt_two_pow (Nat.lt_of_lt_of_le h (Nat.pow_le_pow_right (by decide) hj))
theorem nI_shr {a k : Nat} (ha : a < 2 ^ 31) (hk : k < 32) : nI a >>> (nI k &&& 31) = nI (a >>> k) := by
  apply b_ext
  intro i hi
  rw [b_sshr k hk _ hi, bt_nI hi, Nat.testBit_shiftRight]
  split
  · next h => rw [bt_nI h]
  · next h => rw [bt_nI (by omega), tb_small ha (Nat.le_refl _), tb_small ha (by omega)]
theorem and1 (a : Nat) : a &&& 1 = if a.testBit 0 then 1 else 0 := by
  rw [Nat.and_one_is_mod, Nat.testBit_zero]
  rcases Nat.mod_two_eq_zero_or_one a with h | h <;> simp [h]
theorem nI_inj {a b : Nat} (ha : a < 2 ^ 31) (hb : b < 2 ^ 31) : nI a = nI b ↔ a = b := nI_eq ha hb
/-- a truth as an int -/
noncomputable def tf (p : Prop) : Int32 := @ite _ p (Classical.propDecidable p) 1 0
theorem tf_t {p : Prop} (h : p) : tf p = 1 := if_pos h
theorem tf_f {p : Prop} (h : ¬ p) : tf p = 0 := if_neg h
theorem tf_eq0 (p : Prop) : (tf p = 0) = ¬ p := by
  by_cases h : p
  · rw [tf_t h]
    exact propext ⟨fun q => absurd q (by decide), fun q => absurd h q⟩
  · rw [tf_f h]
    exact propext ⟨fun _ => h, fun _ => rfl⟩
theorem tf_eq1 (p : Prop) : (tf p = 1) = p := by
  by_cases h : p
  · rw [tf_t h]
    exact propext ⟨fun _ => h, fun _ => rfl⟩
  · rw [tf_f h]
    exact propext ⟨fun q => absurd q (by decide), fun q => absurd q h⟩
theorem tf_cong {p q : Prop} (h : p ↔ q) : tf p = tf q := by rw [propext h]
theorem ite_same {α : Type} {p : Prop} {i j : Decidable p} {a b : α} : @ite _ p i a b = @ite _ p j a b := by
  by_cases h : p
  · rw [if_pos h, if_pos h]
  · rw [if_neg h, if_neg h]
section RET
variable {Hq ρ : Type}
theorem retZ_0 (h : Hq) : retZ 0 h = retI 0 h := if_pos rfl
theorem retZ_1 (h : Hq) : retZ 1 h = retI 1 h := by
  unfold retZ
  rw [if_neg (by decide), if_pos rfl]
  rfl
theorem retZ_tf (p : Prop) (h : Hq) : retZ (tf p) h = retI (tf p) h := by
  by_cases q : p
  · rw [tf_t q, retZ_1]
  · rw [tf_f q, retZ_0]
theorem ite_tf {p : Prop} [i : Decidable p] (h : Hq) : (if p then retI 1 h else retI 0 h) = retI (tf p) h := by
  by_cases q : p
  · rw [tf_t q, if_pos q]
  · rw [tf_f q, if_neg q]
theorem ite_tfn {p : Prop} [i : Decidable p] (h : Hq) : (if p then retI 0 h else retI 1 h) = retI (tf (¬ p)) h := by
  by_cases q : p
  · rw [tf_f (fun z => z q), if_pos q]
  · rw [tf_t q, if_neg q]
theorem bI_ret (v : Int32) (h : Hq) (k : Int32 → Hq → Option ρ) : bI (retI v h) k = k v h := bI_some v h k
theorem bL_ret (v : Int64) (h : Hq) (k : Int64 → Hq → Option ρ) : bL (retL v h) k = k v h := bL_some v h k
theorem bV_ret (h : Hq) (k : Hq → Option ρ) : bV (retV h) k = k h := bV_some h k
end RET
theorem lt_toInt {x y : Int32} : x < y ↔ x.toInt < y.toInt := Int32.lt_iff_toInt_lt
theorem le_toInt {x y : Int32} : x ≤ y ↔ x.toInt ≤ y.toInt := Int32.le_iff_toInt_le
theorem eq_toInt {x y : Int32} : x = y ↔ x.toInt = y.toInt := Int32.toInt_inj.symm
theorem toInt_0 : (0 : Int32).toInt = 0 := rfl
/-- an int in a range from 0 on; from lo on -/
def inRb (x : Int32) (n : Nat) : Bool := decide (0 ≤ x.toInt) && decide (x.toInt < (n : Int))
def inVb (x : Int32) (lo hi : Nat) : Bool := decide ((lo : Int) ≤ x.toInt) && decide (x.toInt < (hi : Int))
abbrev inR (x : Int32) (n : Nat) : Prop := inRb x n = true
abbrev inV (x : Int32) (lo hi : Nat) : Prop := inVb x lo hi = true
theorem inR_iff {x : Int32} {n : Nat} : inR x n ↔ 0 ≤ x.toInt ∧ x.toInt < (n : Int) := by simp [inR, inRb]
theorem inV_iff {x : Int32} {lo hi : Nat} : inV x lo hi ↔ (lo : Int) ≤ x.toInt ∧ x.toInt < (hi : Int) := by simp [inV, inVb]
theorem inR_ex {x : Int32} {n : Nat} (hn : n ≤ 2 ^ 31) (h : inR x n) : ∃ a, a < n ∧ x = nI a := by
  rw [inR_iff] at h
  refine ⟨x.toInt.toNat, by omega, eq_toInt.mpr ?_⟩
  rw [nI_toInt (by omega)]
  omega
theorem inV_ex {x : Int32} {lo hi : Nat} (hn : hi ≤ 2 ^ 31) (h : inV x lo hi) : ∃ a, lo ≤ a ∧ a < hi ∧ x = nI a := by
  rw [inV_iff] at h
  refine ⟨x.toInt.toNat, by omega, by omega, eq_toInt.mpr ?_⟩
  rw [nI_toInt (by omega)]
  omega
theorem inR_nI {a n : Nat} (ha : a < 2 ^ 31) : inR (nI a) n ↔ a < n := by
  rw [inR_iff, nI_toInt ha]
  omega
theorem inV_nI {a lo hi : Nat} (ha : a < 2 ^ 31) : inV (nI a) lo hi ↔ lo ≤ a ∧ a < hi := by
  rw [inV_iff, nI_toInt ha]
  omega
theorem inV0 (x : Int32) (n : Nat) : inV x 0 n ↔ inR x n := by
  rw [inR_iff, inV_iff]
  omega
/-- loops -/
theorem loop_for {S ρ : Type} {b : S → (S → Option ρ) → Option ρ} {N n : Nat} {r : Option ρ} {s0 : S} (st : Nat → S) (h0 : s0 = st 0) (hN : N < n) (hs : ∀ i κ, i < N → b (st i) κ = κ (st (i + 1))) (hf : ∀ κ, b (st N) κ = r) : loopC b n s0 = r := by
  subst h0
  suffices H : ∀ d i n, d + i = N → d < n → loopC b n (st i) = r from H N 0 n rfl hN
  intro d
  induction d with
  | zero =>
    intro i n h1 h2
    obtain ⟨n, rfl⟩ : ∃ k, n = k + 1 := ⟨n - 1, by omega⟩
    have : i = N := by omega
    subst this
    exact hf _
  | succ d ih =>
    intro i n h1 h2
    obtain ⟨n, rfl⟩ : ∃ k, n = k + 1 := ⟨n - 1, by omega⟩
    show b (st i) (loopC b n) = r
    rw [hs i _ (by omega)]
    exact ih (i + 1) n (by omega) (by omega)
theorem loop_inv {S ρ : Type} {b : S → (S → Option ρ) → Option ρ} {N n : Nat} {R : Option ρ → Prop} {s0 : S} (P : Nat → S → Prop) (h0 : P 0 s0) (hN : N < n) (hs : ∀ i s, i < N → P i s → ∃ s', P (i + 1) s' ∧ ∀ κ, b s κ = κ s') (hf : ∀ s, P N s → ∀ κ, R (b s κ)) : R (loopC b n s0) := by
  suffices H : ∀ d i n s, d + i = N → d < n → P i s → R (loopC b n s) from H N 0 n s0 rfl hN h0
  intro d
  induction d with
  | zero =>
    intro i n s h1 h2 hp
    obtain ⟨n, rfl⟩ : ∃ k, n = k + 1 := ⟨n - 1, by omega⟩
    have : i = N := by omega
    subst this
    exact hf s hp _
  | succ d ih =>
    intro i n s h1 h2 hp
    obtain ⟨n, rfl⟩ : ∃ k, n = k + 1 := ⟨n - 1, by omega⟩
    obtain ⟨s', p1, p2⟩ := hs i s (by omega) hp
    show R (b s (loopC b n))
    rw [p2]
    exact ih (i + 1) n s' (by omega) (by omega) p1
/-- sets: all below n with P -/
def ms : Nat → (Nat → Bool) → Nat
  | 0, _ => 0
  | n + 1, P => if P n then ms n P ||| 2 ^ n else ms n P
theorem ms_lt (n : Nat) (P : Nat → Bool) : ms n P < 2 ^ n := by
  induction n with
  | zero => exact Nat.one_pos
  | succ n ih =>
    have h1 : 2 ^ n < 2 ^ (n + 1) := Nat.pow_lt_pow_right (by decide) (Nat.lt_succ_self n)
    unfold ms
    split
    · exact Nat.or_lt_two_pow (by omega) h1
    · omega
theorem tb_pow (n i : Nat) : (2 ^ n).testBit i = decide (n = i) := Nat.testBit_two_pow
theorem ms_tb (n : Nat) (P : Nat → Bool) (i : Nat) : (ms n P).testBit i = (decide (i < n) && P i) := by
  induction n with
  | zero => simp [ms]
  | succ n ih =>
    unfold ms
    by_cases e : i = n
    · subst e
      split
      · next h => rw [Nat.testBit_or, tb_pow, h]; simp
      · next h => rw [ih]; simp [h]
    · have e1 : decide (i < n + 1) = decide (i < n) := by
        apply decide_eq_decide.mpr
        omega
      rw [e1]
      split
      · rw [Nat.testBit_or, tb_pow, ih, decide_eq_false (p := n = i) (fun q => e q.symm), Bool.or_false]
      · exact ih
theorem ms_cong {n : Nat} {P Q : Nat → Bool} (h : ∀ i, i < n → P i = Q i) : ms n P = ms n Q := by
  apply Nat.eq_of_testBit_eq
  intro i
  rw [ms_tb, ms_tb]
  by_cases e : i < n
  · rw [h i e]
  · simp [e]
theorem ms_of {n a : Nat} {P : Nat → Bool} (h : a < 2 ^ n) (hP : ∀ i, i < n → a.testBit i = P i) : a = ms n P := by
  apply Nat.eq_of_testBit_eq
  intro i
  rw [ms_tb]
  by_cases e : i < n
  · simp [e, hP i e]
  · rw [tb_small (j := i) h (by omega)]
    simp [e]
/-- how many -/
def cnt : Nat → (Nat → Bool) → Nat
  | 0, _ => 0
  | n + 1, P => if P n then cnt n P + 1 else cnt n P
theorem cnt_le (n : Nat) (P : Nat → Bool) : cnt n P ≤ n := by
  induction n with
  | zero => exact Nat.le_refl _
  | succ n ih => unfold cnt; split <;> omega
theorem cnt_cong {n : Nat} {P Q : Nat → Bool} (h : ∀ i, i < n → P i = Q i) : cnt n P = cnt n Q := by
  induction n with
  | zero => rfl
  | succ n ih =>
    unfold cnt
    rw [h n (Nat.lt_succ_self n), ih (fun i hi => h i (by omega))]
/-- any, all -/
def anyB : Nat → (Nat → Bool) → Bool
  | 0, _ => false
  | n + 1, P => anyB n P || P n
theorem anyB_iff {n : Nat} {P : Nat → Bool} : anyB n P = true ↔ ∃ k, k < n ∧ P k = true := by
  induction n with
  | zero => simp [anyB]
  | succ n ih =>
    unfold anyB
    rw [Bool.or_eq_true, ih]
    constructor
    · rintro (⟨k, h1, h2⟩ | h)
      · exact ⟨k, by omega, h2⟩
      · exact ⟨n, by omega, h⟩
    · rintro ⟨k, h1, h2⟩
      by_cases e : k = n
      · subst e; exact Or.inr h2
      · exact Or.inl ⟨k, by omega, h2⟩
theorem anyB_cong {n : Nat} {P Q : Nat → Bool} (h : ∀ i, i < n → P i = Q i) : anyB n P = anyB n Q := by
  induction n with
  | zero => rfl
  | succ n ih =>
    unfold anyB
    rw [h n (Nat.lt_succ_self n), ih (fun i hi => h i (by omega))]
/-- the number of bits of a set of at most 10 -/
def pop (a : Nat) : Nat := cnt 10 (fun i => a.testBit i)
