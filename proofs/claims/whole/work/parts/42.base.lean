/-! literals; ranges; truth tests of both sides -/
theorem lit_0 : (0 : Int32) = nI 0 := rfl
theorem lit_1 : (1 : Int32) = nI 1 := rfl
theorem lit_2 : (2 : Int32) = nI 2 := rfl
theorem lit_3 : (3 : Int32) = nI 3 := rfl
theorem lit_4 : (4 : Int32) = nI 4 := rfl
theorem lit_5 : (5 : Int32) = nI 5 := rfl
theorem lit_6 : (6 : Int32) = nI 6 := rfl
theorem lit_7 : (7 : Int32) = nI 7 := rfl
theorem lit_8 : (8 : Int32) = nI 8 := rfl
theorem lit_9 : (9 : Int32) = nI 9 := rfl
theorem lit_10 : (10 : Int32) = nI 10 := rfl
theorem lit_11 : (11 : Int32) = nI 11 := rfl
theorem lit_12 : (12 : Int32) = nI 12 := rfl
theorem lit_16 : (16 : Int32) = nI 16 := rfl
theorem lit_17 : (17 : Int32) = nI 17 := rfl
theorem lit_20 : (20 : Int32) = nI 20 := rfl
theorem lit_31 : (31 : Int32) = nI 31 := rfl
theorem lit_32 : (32 : Int32) = nI 32 := rfl
theorem lit_40 : (40 : Int32) = nI 40 := rfl
theorem lit_47 : (47 : Int32) = nI 47 := rfl
theorem lit_48 : (48 : Int32) = nI 48 := rfl
theorem lit_49 : (49 : Int32) = nI 49 := rfl
theorem lit_57 : (57 : Int32) = nI 57 := rfl
theorem lit_58 : (58 : Int32) = nI 58 := rfl
theorem lit_60 : (60 : Int32) = nI 60 := rfl
theorem lit_64 : (64 : Int32) = nI 64 := rfl
theorem lit_68 : (68 : Int32) = nI 68 := rfl
theorem lit_80 : (80 : Int32) = nI 80 := rfl
theorem lit_97 : (97 : Int32) = nI 97 := rfl
theorem lit_99 : (99 : Int32) = nI 99 := rfl
theorem lit_100 : (100 : Int32) = nI 100 := rfl
theorem lit_101 : (101 : Int32) = nI 101 := rfl
theorem lit_104 : (104 : Int32) = nI 104 := rfl
theorem lit_108 : (108 : Int32) = nI 108 := rfl
theorem lit_109 : (109 : Int32) = nI 109 := rfl
theorem lit_115 : (115 : Int32) = nI 115 := rfl
theorem lit_117 : (117 : Int32) = nI 117 := rfl
theorem lit_121 : (121 : Int32) = nI 121 := rfl
theorem lit_127 : (127 : Int32) = nI 127 := rfl
theorem lit_128 : (128 : Int32) = nI 128 := rfl
theorem lit_140 : (140 : Int32) = nI 140 := rfl
theorem lit_1000 : (1000 : Int32) = nI 1000 := rfl
theorem lit_1000000 : (1000000 : Int32) = nI 1000000 := rfl
theorem lit_1048576 : (1048576 : Int32) = nI 1048576 := rfl
theorem n_le {a b : Nat} (ha : a < 2 ^ 31) (hb : b < 2 ^ 31) : (nI b ≤ nI a) = (b ≤ a) := propext (nI_leI hb ha)
theorem n_lt {a b : Nat} (ha : a < 2 ^ 31) (hb : b < 2 ^ 31) : (nI b < nI a) = (b < a) := propext (nI_ltI hb ha)
theorem n_eq {a b : Nat} (ha : a < 2 ^ 31) (hb : b < 2 ^ 31) : (nI b = nI a) = (b = a) := propext (nI_eq hb ha)
theorem nI_eq9 {a : Nat} (ha : a < 2 ^ 31) : (nI a = -nI 9) = False := by
  refine eq_false fun q => ?_
  rw [eq_toInt, nI_toInt ha] at q
  have : (-nI 9).toInt = -9 := rfl
  omega
theorem nI_eqm {a : Nat} (ha : a < 2 ^ 31) : (nI a = -nI 1) = False := by
  refine eq_false fun q => ?_
  rw [eq_toInt, nI_toInt ha] at q
  have : (-nI 1).toInt = -1 := rfl
  omega
theorem nI_sb {a b : Nat} (h : b ≤ a) : nI a - nI b = nI (a - b) := (Int32.ofNat_sub a b h).symm
theorem of_nI (a : Nat) : Int32.ofNat a = nI a := rfl
theorem z_tf0 (p : Prop) : (tf p = nI 0) = ¬ p := tf_eq0 p
theorem z_tf1 (p : Prop) : (tf p = nI 1) = p := tf_eq1 p
theorem z_0 {Hq : Type} (h : Hq) : retZ (nI 0) h = retI (nI 0) h := retZ_0 h
theorem z_1 {Hq : Type} (h : Hq) : retZ (nI 1) h = retI (nI 1) h := retZ_1 h
theorem z_sdf (a b : Nat) : nI a &&& (nI b ^^^ -nI 1) = nI (sdf a b) := nI_sdf a b
theorem z_bit {k : Nat} (hk : k < 32) : nI 1 <<< nI (k &&& 31) = nI (2 ^ k) := by rw [← nI_and]; exact nI_bit hk
theorem z_shl (a : Nat) {k : Nat} (hk : k < 32) : nI a <<< nI (k &&& 31) = nI (a <<< k) := by rw [← nI_and]; exact nI_shl a hk
theorem z_shr {a k : Nat} (ha : a < 2 ^ 31) (hk : k < 32) : nI a >>> nI (k &&& 31) = nI (a >>> k) := by rw [← nI_and]; exact nI_shr ha hk
theorem nI_mul (a b : Nat) : nI a * nI b = nI (a * b) := (Int32.ofNat_mul a b).symm
theorem bits_of {a k : Nat} (ha : a < 2 ^ 31) (hk : k < 32) : (nI a >>> (nI k &&& 31)) &&& (1 : Int32) = if a.testBit k then 1 else 0 := by
  rw [nI_shr ha hk]
  show nI (a >>> k) &&& nI 1 = _
  rw [nI_and, and1, Nat.testBit_shiftRight, Nat.add_zero]
  split <;> rfl
section RNG
variable {Hq : Type}
theorem rg_lt {x N : Int32} {n : Nat} (hn : n < 2 ^ 31) (hN : N.toInt = n) (h : Hq) : (if x < 0 then retZ 1 h else if x < N then retZ 0 h else retZ 1 h) = retI (tf (¬ inR x n)) h := by
  rw [retZ_0, retZ_1]
  have q1 : (x < 0) ↔ x.toInt < 0 := lt_toInt
  have q2 : (x < N) ↔ x.toInt < (n : Int) := by rw [lt_toInt, hN]
  have q3 := inR_iff (x := x) (n := n)
  by_cases h1 : x < 0
  · rw [if_pos h1, tf_t (by rw [q3]; rw [q1] at h1; omega)]
  · rw [if_neg h1]
    by_cases h2 : x < N
    · rw [if_pos h2, tf_f (by rw [q3]; rw [q1] at h1; rw [q2] at h2; omega)]
    · rw [if_neg h2, tf_t (by rw [q3]; rw [q2] at h2; omega)]
theorem rg_le {x L N : Int32} {lo n : Nat} (hn : n + 1 < 2 ^ 31) (hL : L.toInt = lo) (hN : N.toInt = n) (h : Hq) : (if x < L then retZ 1 h else if x ≤ N then retZ 0 h else retZ 1 h) = retI (tf (¬ inV x lo (n + 1))) h := by
  rw [retZ_0, retZ_1]
  have q1 : (x < L) ↔ x.toInt < lo := by rw [lt_toInt, hL]
  have q2 : (x ≤ N) ↔ x.toInt ≤ (n : Int) := by rw [le_toInt, hN]
  have q3 := inV_iff (x := x) (lo := lo) (hi := n + 1)
  by_cases h1 : x < L
  · rw [if_pos h1, tf_t (by rw [q3]; rw [q1] at h1; omega)]
  · rw [if_neg h1]
    by_cases h2 : x ≤ N
    · rw [if_pos h2, tf_f (by rw [q3]; rw [q1] at h1; rw [q2] at h2; omega)]
    · rw [if_neg h2, tf_t (by rw [q3]; rw [q2] at h2; omega)]
theorem rg_in {x L N : Int32} {lo n : Nat} (hn : n < 2 ^ 31) (hL : L.toInt = lo) (hN : N.toInt + 1 = n) (h : Hq) : (if x < L then retZ 0 h else if N < x then retZ 0 h else retZ 1 h) = retI (tf (inV x lo n)) h := by
  rw [retZ_0, retZ_1]
  have q1 : (x < L) ↔ x.toInt < lo := by rw [lt_toInt, hL]
  have q2 : (N < x) ↔ N.toInt < x.toInt := lt_toInt
  have q3 := inV_iff (x := x) (lo := lo) (hi := n)
  by_cases h1 : x < L
  · rw [if_pos h1, tf_f (by rw [q3]; rw [q1] at h1; omega)]
  · rw [if_neg h1]
    by_cases h2 : N < x
    · rw [if_pos h2, tf_f (by rw [q3]; rw [q2] at h2; omega)]
    · rw [if_neg h2, tf_t (by rw [q3]; rw [q1] at h1; rw [q2] at h2; omega)]
end RNG
theorem c_noRow (x : Int32) (h : Hp) : F_Bp_noRow x h = retI (tf (¬ inR x 6)) h := rg_lt (by decide) rfl h
theorem c_noText (x : Int32) (h : Hp) : F_Bp_noText x h = retI (tf (¬ inR x 4)) h := rg_lt (by decide) rfl h
theorem c_noPlace (x : Int32) (h : Hp) : F_Bp_noPlace x h = retI (tf (¬ inR x 3)) h := rg_lt (by decide) rfl h
theorem c_noTongue (x : Int32) (h : Hp) : F_Bp_noTongue x h = retI (tf (¬ inR x 5)) h := rg_lt (by decide) rfl h
theorem c_noHour (x : Int32) (h : Hp) : F_Bp_noHour x h = retI (tf (¬ inR x 100)) h := by
  rw [← propext (inV0 x 100)]
  exact rg_le (by decide) rfl rfl h
theorem c_noTongues (x : Int32) (h : Hp) : F_Bp_noTongues x h = retI (tf (¬ inV x 1 32)) h := rg_le (by decide) rfl rfl h
theorem c_bit {k : Nat} (hk : k < 32) (h : Hp) : F_Bp_bit (nI k) h = retI (nI (2 ^ k)) h := by
  unfold F_Bp_bit
  rw [nI_bit hk]
theorem c_has {a k : Nat} (ha : a < 2 ^ 31) (hk : k < 32) (h : Hp) : F_Bp_has (nI a) (nI k) h = retI (tf (a.testBit k = true)) h := by
  unfold F_Bp_has
  rw [bits_of ha hk, retZ_0, retZ_1]
  cases a.testBit k
  · rw [tf_f (by decide)]; rfl
  · rw [tf_t rfl]; rfl
theorem m_has {a k : Nat} (ha : a < 2 ^ 31) (hk : k < 32) (h : Hp) : F_Mo_has (nI a) (nI k) h = retI (tf (a.testBit k = true)) h := c_has ha hk h
theorem m_in {x L N : Int32} {lo n : Nat} (hn : n < 2 ^ 31) (hL : L.toInt = lo) (hN : N.toInt + 1 = n) (h : Hp) : F_Mo_in x L N h = retI (tf (inV x lo n)) h := rg_in hn hL hN h
theorem m_isRow (x : Int32) (h : Hp) : F_Mo_isRow x h = retI (tf (inR x 6)) h := by
  unfold F_Mo_isRow
  rw [m_in (lo := 0) (n := 6) (by decide) rfl rfl, bI_ret, propext (inV0 _ _), retZ_tf]
theorem m_isText (x : Int32) (h : Hp) : F_Mo_isText x h = retI (tf (inR x 4)) h := by
  unfold F_Mo_isText
  rw [m_in (lo := 0) (n := 4) (by decide) rfl rfl, bI_ret, propext (inV0 _ _), retZ_tf]
theorem m_isTongue (x : Int32) (h : Hp) : F_Mo_isTongue x h = retI (tf (inR x 5)) h := by
  unfold F_Mo_isTongue
  rw [m_in (lo := 0) (n := 5) (by decide) rfl rfl, bI_ret, propext (inV0 _ _), retZ_tf]
theorem m_isSet (x : Int32) (h : Hp) : F_Mo_isSet x h = retI (tf (inV x 1 32)) h := by
  unfold F_Mo_isSet
  rw [m_in (lo := 1) (n := 32) (by decide) rfl rfl, bI_ret, retZ_tf]
/-- kinds -/
def isO (k o : Nat) : Bool := k == o || o == 0 || k == 4 && o == 1 || k == 5 && o == 3
theorem c_isOf {k o : Nat} (hk : k < 2 ^ 31) (ho : o < 2 ^ 31) (h : Hp) : F_Bp_isOf (nI k) (nI o) h = retI (tf (isO k o = true)) h := by
  unfold F_Bp_isOf isO
  simp (disch := omega) only [lit_0, lit_1, lit_2, lit_3, lit_4, lit_5, lit_6, lit_7, lit_8, lit_9, lit_10, lit_11, lit_12, lit_16, lit_17, lit_20, lit_31, lit_32, lit_40, lit_47, lit_48, lit_49, lit_57, lit_58, lit_60, lit_64, lit_68, lit_80, lit_97, lit_99, lit_100, lit_101, lit_104, lit_108, lit_109, lit_115, lit_117, lit_121, lit_127, lit_128, lit_140, lit_1000, lit_1000000, lit_1048576, n_eq, z_0, z_1]
  by_cases c : (k == o || o == 0 || k == 4 && o == 1 || k == 5 && o == 3) = true
  · rw [tf_t c]
    simp only [Bool.or_eq_true, Bool.and_eq_true, beq_iff_eq] at c
    (repeat' split) <;> first | rfl | (exfalso; omega)
  · rw [tf_f c]
    simp only [Bool.or_eq_true, Bool.and_eq_true, beq_iff_eq] at c
    (repeat' split) <;> first | rfl | (exfalso; omega)
/-- the int that comes out -/
def outI (r : Res Hp) : Int32 := match r with
  | some (some (.int v), _) => v
  | _ => 0
def hz : Hp := (fun _ _ => 0, 0)
set_option maxRecDepth 100000 in
theorem bits_dec : ∀ a, a < 1024 → outI (F_Jint_bitCount (nI a) hz) = nI (pop a) := by decide +kernel
theorem c_bits {a : Nat} (ha : a < 1024) (h : Hp) : F_Jint_bitCount (nI a) h = retI (nI (pop a)) h := by
  rw [← bits_dec a ha]
  rfl
theorem z_div {a b : Nat} (ha : a < 2 ^ 31) (hb : b < 2 ^ 31) : nI a / nI b = nI (a / b) := (Int32.ofNat_div ha hb).symm
theorem z_rem {a b : Nat} (ha : a < 2 ^ 31) (hb : b < 2 ^ 31) : nI a - nI a / nI b * nI b = nI (a % b) := by
  rw [z_div ha hb, nI_mul, nI_sb (Nat.div_mul_le_self a b)]
  have := Nat.div_add_mod a b
  rw [Nat.mul_comm] at this
  congr 1
  omega
theorem anyB_s (n : Nat) (P : Nat → Bool) : anyB (n + 1) P = (anyB n P || P n) := rfl
theorem anyB_false {n : Nat} {P : Nat → Bool} (h : ∀ k, k < n → P k = false) : anyB n P = false := by
  cases q : anyB n P with
  | false => rfl
  | true =>
    obtain ⟨k, h1, h2⟩ := anyB_iff.mp q
    rw [h k h1] at h2
    cases h2
/-- the set of all f j -/
def orb : Nat → (Nat → Nat) → Nat
  | 0, _ => 0
  | n + 1, f => orb n f ||| 2 ^ (f n)
theorem orb_s (n : Nat) (f : Nat → Nat) : orb (n + 1) f = orb n f ||| 2 ^ (f n) := rfl
theorem orb_tb (n : Nat) (f : Nat → Nat) (i : Nat) : (orb n f).testBit i = anyB n (fun j => f j == i) := by
  induction n with
  | zero => simp [orb, anyB]
  | succ n ih =>
    rw [orb_s, Nat.testBit_or, ih, anyB_s, tb_pow]
    rfl
theorem orb_lt {n m : Nat} {f : Nat → Nat} (h : ∀ j, j < n → f j < m) : orb n f < 2 ^ m := by
  induction n with
  | zero => exact Nat.two_pow_pos m
  | succ n ih => exact Nat.or_lt_two_pow (ih fun j hj => h j (by omega)) (Nat.pow_lt_pow_right (by decide) (h n (Nat.lt_succ_self n)))
theorem pow_lt31 {k : Nat} (h : k < 31) : 2 ^ k < 2 ^ 31 := Nat.pow_lt_pow_right (by decide) h
theorem ms_31 {n : Nat} (h : n ≤ 31) (P : Nat → Bool) : ms n P < 2 ^ 31 := Nat.lt_of_lt_of_le (ms_lt n P) (Nat.pow_le_pow_right (by decide) h)
theorem sdf_lt {a b n : Nat} (h : a < 2 ^ n) : sdf a b < 2 ^ n := by
  apply Nat.lt_pow_two_of_testBit
  intro i hi
  rw [sdf_tb, tb_small h hi]
  rfl
