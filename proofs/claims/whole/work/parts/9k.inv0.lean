/-! the invariant at the start -/
theorem i0_s : ∀ s, s < 10 → hg h0 (71 + 2 * s) 1 = -nI 1 ∧ mSz h0 s = -nI 9 := by
  unfold mSz
  decide +kernel
theorem i0_t : ∀ t, t < 8 → ∀ x, x < 7 → hg h0 (3 + 7 + t) x = nI 0 := by decide +kernel
theorem i0_x : ∀ x, x < 7 → hg h0 (3 + 15) x = nI 0 := by decide +kernel
theorem i0_k : ∀ k, k < 3 → hg h0 62 k = nI 0 ∧ hg h0 192 (140 * k) = -nI 9 := by decide +kernel
theorem i0_f : ∀ f, f < 6 → hg h0 70 f = hg h0 179 f := by decide +kernel
theorem Inv_h0 : Inv h0 := by
  refine ⟨⟨by decide +kernel, by decide +kernel, fun f h1 h2 => i0_f f (by omega)⟩, fun s hs9 => Or.inl (i0_s s hs9), v00, wf_v00.1, ⟨⟨by decide +kernel, by decide +kernel, by decide +kernel, by decide +kernel⟩, fun x hx => absurd hx (Nat.not_lt_zero x), fun k hk => absurd hk (Nat.not_lt_zero k), fun t x ht hx => ?_, fun x hx => ?_, fun k hk => absurd hk (Nat.not_lt_zero k)⟩, ⟨⟨by decide +kernel, by decide +kernel, by decide +kernel, by decide +kernel⟩, fun x hx => absurd hx (Nat.not_lt_zero x), fun k hk => absurd hk (Nat.not_lt_zero k), fun k hk => absurd hk (Nat.not_lt_zero k)⟩, fun k hk => Or.inl (i0_k k hk)⟩
  · rw [i0_t t ht x hx]
    rfl
  · rw [i0_x x hx]
    rfl
