/-! what the reference's tests say of raw numbers -/
theorem kd_of {y z : Int32} (c2 : ¬ y < nI 1) (c3 : ¬ z ≤ y) (c4 : z ≤ nI 1000) : ∃ a b, y = nI a ∧ z = nI b ∧ 0 < a ∧ a < b ∧ b ≤ 1000 := by
  have h1 : nI 1 ≤ y := Int32.not_lt.mp c2
  have h2 : y < z := Int32.not_le.mp c3
  have h3 : y ≤ z := Int32.le_of_lt h2
  obtain ⟨a, a1, a2, rfl⟩ := (wi_of (by decide) (by decide)).mp ⟨h1, Int32.le_trans h3 c4⟩
  obtain ⟨b, b1, b2, rfl⟩ := (wi_of (by decide) (by decide)).mp ⟨Int32.le_trans h1 h3, c4⟩
  exact ⟨a, b, rfl, rfl, by omega, (nI_ltI (by omega) (by omega)).mp h2, b2⟩
theorem v1_of {v on : Nat} (hv : v < 2 ^ 31) (ho : on + 1 < 2 ^ 31) : nI v - 1 = nI on ↔ v = on + 1 := by
  cases v with
  | zero => exact ⟨fun q => absurd q (by intro h; have h1 : nI 0 - 1 < nI on := Int32.lt_of_lt_of_le (show nI 0 - 1 < 0 by decide) (by rw [← nI_0]; exact nI_le (Nat.zero_le _) (by omega)); rw [h] at h1; exact absurd h1 (Int32.lt_irrefl)), fun q => absurd q (by omega)⟩
  | succ v => rw [nI_pred, nI_eq (by omega) (by omega)]; omega
theorem v1_le {v on : Nat} (hv : v < 2 ^ 31) (ho : on + 1 < 2 ^ 31) : nI v - 1 ≤ nI on ↔ v ≤ on + 1 := by
  cases v with
  | zero => exact ⟨fun _ => Nat.zero_le _, fun _ => Int32.le_of_lt (Int32.lt_of_lt_of_le (show nI 0 - 1 < 0 by decide) (by rw [← nI_0]; exact nI_le (Nat.zero_le _) (by omega)))⟩
  | succ v => rw [nI_pred, nI_leI (by omega) (by omega)]; omega
theorem hu_stop {par : Nat → Nat} {on v : Nat} (h : v ≤ on + 1) : hu_ par on v v = true ↔ v = on + 1 := by
  cases v with
  | zero => rw [hu_low par on 0 0 (Nat.zero_le _)]; exact ⟨fun q => absurd q (by decide), fun q => absurd q (by omega)⟩
  | succ v =>
    unfold hu_
    rw [if_pos h]
    simp
theorem hu_go {par : Nat → Nat} {np on z : Nat} (hpar : ∀ i, i < np → par i ≤ i) (hz : z < np) (h : on < z) : hu_ par on (z + 1) (z + 1) = hu_ par on (par z) (par z) := by
  have hp := hpar z hz
  rw [hu_up (by omega), Nat.add_sub_cancel, hu_fuel hpar on z (par z) hp (by omega)]
theorem cr_low (par : Nat → Nat) (ow : Nat → Nat → Nat) (pi k : Nat) : ∀ n, n ≤ pi → cr_ par ow pi k n = 0
  | 0, _ => rfl
  | n + 1, h => by
    show cr_ par ow pi k n + _ = 0
    rw [cr_low par ow pi k n (by omega), hg_low (by omega), if_neg (by decide)]
theorem cr_y {par : Nat → Nat} {ow : Nat → Nat → Nat} {pi k i : Nat} (h : hg_ par pi i = true) : cr_ par ow pi k (i + 1) = cr_ par ow pi k i + ow i k := by
  show _ + _ = _
  rw [if_pos h]
theorem cr_n {par : Nat → Nat} {ow : Nat → Nat → Nat} {pi k i : Nat} (h : ¬ hg_ par pi i = true) : cr_ par ow pi k (i + 1) = cr_ par ow pi k i := by
  show _ + _ = _
  rw [if_neg h, Nat.add_zero]
theorem tt_mono (ow : Nat → Nat → Nat) (k : Nat) {i n : Nat} (h : i ≤ n) : tt_ ow k i ≤ tt_ ow k n := by
  induction n with
  | zero => rw [Nat.le_zero.mp h]; exact Nat.le_refl _
  | succ n ih =>
    by_cases q : i = n + 1
    · rw [q]; exact Nat.le_refl _
    · exact Nat.le_trans (ih (by omega)) (Nat.le_add_right _ _)
