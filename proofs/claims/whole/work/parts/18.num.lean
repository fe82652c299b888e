/-! bounds of the odds' numbers -/
theorem pw_T : (1000 : Nat) ^ 60 * 1000000 < bB ^ 16 := by decide +kernel
theorem pw_le {b n : Nat} (hb : b ≤ 1000) (hn : n ≤ 60) : b ^ n ≤ 1000 ^ 60 := Nat.le_trans (Nat.pow_le_pow_left hb n) (Nat.pow_le_pow_right (by decide) hn)
theorem pw_B {b n : Nat} (hb : b ≤ 1000) (hn : n ≤ 60) : b ^ n < bB ^ 16 := by
  have h1 := pw_le hb hn
  have h2 := pw_T
  omega
theorem mu_B {X b n f : Nat} (h : X ≤ b ^ n) (hb : b ≤ 1000) (hn : n ≤ 60) (hf : f ≤ 1000000) : X * f < bB ^ 16 := by
  have h1 := Nat.mul_le_mul (Nat.le_trans h (pw_le hb hn)) hf
  exact Nat.lt_of_le_of_lt h1 pw_T
