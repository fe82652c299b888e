/-! Euclid's steps, and lowest terms -/
theorem eu_half {x b : Nat} (h0 : 0 < x) (h : x ≤ b) : 2 * (b % x) < b + 1 := by
  have h1 := Nat.div_add_mod b x
  have h2 := Nat.mod_lt b h0
  have h3 : 1 ≤ b / x := (Nat.one_le_div_iff h0).mpr h
  have h4 : x * 1 ≤ x * (b / x) := Nat.mul_le_mul_left x h3
  omega
theorem eu_prod {x b t P : Nat} (h0 : 0 < x) (h : x ≤ b) (hP : x * b * 2 ^ t ≤ P) : b % x * x * 2 ^ (t + 1) ≤ P := by
  have h1 : 2 * (b % x) ≤ b := by have := eu_half h0 h; omega
  have h2 : b % x * x * 2 ≤ x * b := by
    have := Nat.mul_le_mul_right x h1
    rw [Nat.mul_comm x b]
    have e : b % x * x * 2 = 2 * (b % x) * x := by rw [Nat.mul_comm _ 2, Nat.mul_assoc]
    rw [e]; exact this
  have h3 := Nat.mul_le_mul_right (2 ^ t) h2
  have e : b % x * x * 2 ^ (t + 1) = b % x * x * 2 * 2 ^ t := by rw [Nat.pow_succ, Nat.mul_comm (2 ^ t) 2, ← Nat.mul_assoc]
  rw [e]
  exact Nat.le_trans h3 hP
theorem eu_gcd (x b : Nat) : Nat.gcd (b % x) x = Nat.gcd x b := by
  rw [Nat.gcd_comm x b, Nat.gcd_comm (b % x) x, Nat.gcd_comm b x]
  exact (Nat.gcd_rec x b).symm ▸ (Nat.gcd_comm x (b % x)) ▸ rfl
theorem lt_coprime {U L r n : Nat} (hL : L ∣ r ^ n) (h : Nat.gcd L (Nat.gcd U r) = 1) : Nat.gcd U L = 1 := by
  have h1 : Nat.Coprime (Nat.gcd U L) r := by
    have d1 : Nat.gcd (Nat.gcd U L) r ∣ Nat.gcd L (Nat.gcd U r) :=
      Nat.dvd_gcd (Nat.dvd_trans (Nat.gcd_dvd_left _ _) (Nat.gcd_dvd_right U L)) (Nat.dvd_gcd (Nat.dvd_trans (Nat.gcd_dvd_left _ _) (Nat.gcd_dvd_left U L)) (Nat.gcd_dvd_right _ _))
    rw [h] at d1
    exact Nat.dvd_one.mp d1
  have h2 : Nat.Coprime (Nat.gcd U L) (r ^ n) := Nat.Coprime.pow_right n h1
  have h3 : Nat.gcd U L ∣ r ^ n := Nat.dvd_trans (Nat.gcd_dvd_right U L) hL
  exact Nat.Coprime.eq_one_of_dvd h2 h3
theorem lt_end {U L U0 L0 g : Nat} (hU : U0 = U * g) (hL : L0 = L * g) (h : Nat.gcd U L = 1) : g = Nat.gcd U0 L0 := by
  rw [hU, hL, Nat.gcd_mul_right, h, Nat.one_mul]
theorem lt_step {U L U0 L0 g c : Nat} (hU : U0 = U * g) (hL : L0 = L * g) (cU : c ∣ U) (cL : c ∣ L) : U0 = U / c * (c * g) ∧ L0 = L / c * (c * g) := by
  rw [← Nat.mul_assoc, ← Nat.mul_assoc, Nat.div_mul_cancel cU, Nat.div_mul_cancel cL]
  exact ⟨hU, hL⟩
theorem lt_half {L c t P : Nat} (hc : 2 ≤ c) (hP : L * 2 ^ t ≤ P) : L / c * 2 ^ (t + 1) ≤ P := by
  have h1 : L / c * 2 ≤ L := Nat.le_trans (Nat.mul_le_mul_left _ hc) (Nat.div_mul_le_self L c)
  have h2 := Nat.mul_le_mul_right (2 ^ t) h1
  have e : L / c * 2 ^ (t + 1) = L / c * 2 * 2 ^ t := by rw [Nat.pow_succ, Nat.mul_comm (2 ^ t) 2, ← Nat.mul_assoc]
  rw [e]
  exact Nat.le_trans h2 hP
