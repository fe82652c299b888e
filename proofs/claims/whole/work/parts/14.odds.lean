/-! (n over k), and the parts of b^n -/
def cC : Nat → Nat → Nat
  | _, 0 => 1
  | 0, _ + 1 => 0
  | n + 1, k + 1 => cC n k + cC n (k + 1)
theorem cC_n0 (n : Nat) : cC n 0 = 1 := by cases n <;> rfl
theorem cC_s (n k : Nat) : cC (n + 1) (k + 1) = cC n k + cC n (k + 1) := rfl
theorem cC_big : ∀ (n k : Nat), n < k → cC n k = 0
  | 0, 0, h => absurd h (Nat.lt_irrefl 0)
  | 0, k + 1, _ => rfl
  | n + 1, 0, h => absurd h (Nat.not_lt_zero _)
  | n + 1, k + 1, h => by rw [cC_s, cC_big n k (by omega), cC_big n (k + 1) (by omega)]
theorem cC_nn : ∀ n : Nat, cC n n = 1
  | 0 => rfl
  | n + 1 => by rw [cC_s, cC_nn n, cC_big n (n + 1) (by omega)]
theorem cC_abs : ∀ (n k : Nat), cC n k * (n - k) = cC n (k + 1) * (k + 1)
  | 0, k => by rw [cC_big 0 (k + 1) (by omega)]; simp
  | n + 1, 0 => by
    have h := cC_abs n 0
    rw [cC_n0] at h ⊢
    rw [cC_s, cC_n0]
    omega
  | n + 1, k + 1 => by
    have h1 := cC_abs n k
    have h2 := cC_abs n (k + 1)
    rw [cC_s, cC_s, Nat.add_mul, Nat.add_mul]
    have e : n + 1 - (k + 1) = n - k := by omega
    rw [e, h1]
    by_cases hk : k < n
    · obtain ⟨z, rfl⟩ : ∃ z, n = k + 1 + z := ⟨n - k - 1, by omega⟩
      have e1 : k + 1 + z - k = z + 1 := by omega
      have e2 : k + 1 + z - (k + 1) = z := by omega
      rw [e2] at h2
      rw [e1]
      have e3 : cC (k + 1 + z) (k + 1) * (k + 1) + cC (k + 1 + z) (k + 1) * (z + 1) = cC (k + 1 + z) (k + 1) * (k + 1 + 1) + cC (k + 1 + z) (k + 1) * z := by
        rw [← Nat.mul_add, ← Nat.mul_add]; congr 1; omega
      rw [e3, h2]
    · rw [cC_big n (k + 1) (by omega), cC_big n (k + 1 + 1) (by omega)]
      simp
/-- x on, y off: that just k of n are on -/
def oJ (x y n k : Nat) : Nat := cC n k * x ^ k * y ^ (n - k)
/-- that j or more of n are on, of the d + 1 .. -/
def oT (x y n : Nat) : Nat → Nat
  | 0 => 0
  | d + 1 => oT x y n d + oJ x y n (n - d)
/-- the parts of (x + y)^n from k on -/
def oS (x y : Nat) : Nat → Nat → Nat
  | 0, 0 => 1
  | 0, _ + 1 => 0
  | n + 1, 0 => (x + y) * oS x y n 0
  | n + 1, k + 1 => x * oS x y n k + y * oS x y n (k + 1)
theorem oS_0 (x y : Nat) : ∀ n : Nat, oS x y n 0 = (x + y) ^ n
  | 0 => rfl
  | n + 1 => by
    show (x + y) * oS x y n 0 = _
    rw [oS_0 x y n, Nat.pow_succ, Nat.mul_comm]
theorem oS_big (x y : Nat) : ∀ n k : Nat, n < k → oS x y n k = 0
  | 0, 0, h => absurd h (Nat.lt_irrefl 0)
  | 0, k + 1, _ => rfl
  | n + 1, 0, h => absurd h (Nat.not_lt_zero _)
  | n + 1, k + 1, h => by
    show x * oS x y n k + y * oS x y n (k + 1) = 0
    rw [oS_big x y n k (by omega), oS_big x y n (k + 1) (by omega)]; simp
theorem oJ_s {x y n k : Nat} (h : k + 1 ≤ n) : oJ x y (n + 1) (k + 1) = x * oJ x y n k + y * oJ x y n (k + 1) := by
  unfold oJ
  obtain ⟨z, rfl⟩ : ∃ z, n = k + 1 + z := ⟨n - (k + 1), by omega⟩
  have e1 : k + 1 + z + 1 - (k + 1) = z + 1 := by omega
  have e2 : k + 1 + z - k = z + 1 := by omega
  have e3 : k + 1 + z - (k + 1) = z := by omega
  rw [cC_s, e1, e2, e3, Nat.pow_succ x k, Nat.pow_succ y z]
  generalize cC (k + 1 + z) k = a
  generalize cC (k + 1 + z) (k + 1) = b
  generalize x ^ k = u
  generalize y ^ z = v
  grind
theorem oJ_n (x y n : Nat) : oJ x y n n = x ^ n := by
  unfold oJ
  rw [cC_nn, Nat.sub_self, Nat.pow_zero]; simp
theorem oJ_0 (x y n : Nat) : oJ x y n 0 = y ^ n := by
  unfold oJ
  rw [cC_n0, Nat.sub_zero, Nat.pow_zero]; simp
theorem oS_J (x y : Nat) : ∀ n k : Nat, k ≤ n → oS x y n k = oS x y n (k + 1) + oJ x y n k
  | 0, 0, _ => by show 1 = 0 + oJ x y 0 0; rw [oJ_0]; rfl
  | 0, k + 1, h => absurd h (Nat.not_succ_le_zero _)
  | n + 1, 0, _ => by
    show (x + y) * oS x y n 0 = x * oS x y n 0 + y * oS x y n 1 + oJ x y (n + 1) 0
    have h := oS_J x y n 0 (Nat.zero_le n)
    rw [oJ_0] at h
    rw [oJ_0, Nat.add_mul, Nat.pow_succ]
    have : y * oS x y n 0 = y * oS x y n 1 + y ^ n * y := by rw [h, Nat.mul_add, Nat.mul_comm y (y ^ n)]
    omega
  | n + 1, k + 1, h => by
    show x * oS x y n k + y * oS x y n (k + 1) = x * oS x y n (k + 1) + y * oS x y n (k + 2) + oJ x y (n + 1) (k + 1)
    have h1 := oS_J x y n k (by omega)
    by_cases hk : k + 1 ≤ n
    · have h2 := oS_J x y n (k + 1) hk
      rw [oJ_s hk, h1, h2]
      grind
    · have e : k = n := by omega
      subst e
      rw [oS_big x y k (k + 1) (by omega), oS_big x y k (k + 2) (by omega)] at *
      rw [h1, oJ_n, oJ_n, Nat.pow_succ]
      simp [Nat.mul_comm]
theorem oT_S (x y n : Nat) : ∀ d : Nat, d ≤ n + 1 → oT x y n d = oS x y n (n + 1 - d)
  | 0, _ => by rw [Nat.sub_zero, oS_big x y n (n + 1) (by omega)]; rfl
  | d + 1, h => by
    show oT x y n d + oJ x y n (n - d) = _
    rw [oT_S x y n d (by omega)]
    have e1 : n + 1 - (d + 1) = n - d := by omega
    have e2 : n + 1 - d = n - d + 1 := by omega
    rw [e1, e2, ← oS_J x y n (n - d) (by omega)]
theorem oS_le (x y : Nat) : ∀ n k : Nat, oS x y n k ≤ (x + y) ^ n
  | n, 0 => by rw [oS_0]; exact Nat.le_refl _
  | 0, k + 1 => Nat.zero_le _
  | n + 1, k + 1 => by
    show x * oS x y n k + y * oS x y n (k + 1) ≤ _
    have h1 := Nat.mul_le_mul_left x (oS_le x y n k)
    have h2 := Nat.mul_le_mul_left y (oS_le x y n (k + 1))
    rw [Nat.pow_succ, Nat.mul_comm ((x + y) ^ n), Nat.add_mul]
    omega
theorem oJ_le (x y n k : Nat) (h : k ≤ n) : oJ x y n k ≤ (x + y) ^ n := by
  have h1 := oS_J x y n k h
  have h2 := oS_le x y n k
  omega
/-- one fewer: the division leaves nothing -/
theorem oJ_down {x y n k : Nat} (hk : k + 1 ≤ n) : oJ x y n (k + 1) * ((k + 1) * y) = oJ x y n k * ((n - k) * x) := by
  have h := cC_abs n k
  unfold oJ
  obtain ⟨z, rfl⟩ : ∃ z, n = k + 1 + z := ⟨n - (k + 1), by omega⟩
  have e2 : k + 1 + z - k = z + 1 := by omega
  have e3 : k + 1 + z - (k + 1) = z := by omega
  rw [e2] at h
  rw [e2, e3, Nat.pow_succ x k, Nat.pow_succ y z]
  generalize hA : cC (k + 1 + z) k = a at h ⊢
  generalize hB : cC (k + 1 + z) (k + 1) = b at h ⊢
  generalize x ^ k = u
  generalize y ^ z = v
  have e : b * (u * x) * v * ((k + 1) * y) = b * (k + 1) * (u * x * v * y) := by grind
  rw [e, ← h]
  grind
/-- the least k with which more than k aren't above the share: from the top -/
def oN (x y n above below : Nat) : Nat → Nat
  | 0 => 0
  | k + 1 => if above * (x + y) ^ n < oS x y n (k + 1) * below then k + 1 else oN x y n above below k
def oCount (x y n above below : Nat) : Nat := oN x y n above below n
