/-! the reference's paper: its digits, its lowest terms -/
theorem dL_le6 {N : Nat} (h : N < zB ^ 60) : 1 ≤ dL N ∧ dL N ≤ 360 := by
  obtain ⟨h1, h2, h3⟩ := dL_is6 h
  refine ⟨h1, ?_⟩
  apply Nat.le_of_not_lt
  intro q
  rcases h3 with h3 | h3
  · omega
  · have : 10 ^ 360 ≤ 10 ^ (dL N - 1) := Nat.pow_le_pow_right (by decide) (by omega)
    rw [zB_10] at h
    exact absurd (Nat.lt_of_lt_of_le h (Nat.le_trans this h3)) (Nat.lt_irrefl _)
theorem pn_at {w : Nat} (hw : w ≤ 1) (V : Nat → Nat) : pn_ w (V 5) (V 6) = V (5 + w) := by
  unfold pn_
  rcases (show w = 0 ∨ w = 1 by omega) with rfl | rfl
  · rw [if_pos rfl]
  · rw [if_neg (by decide)]
theorem dv_s (X q : Nat) : X / 10 ^ q / 10 = X / 10 ^ (q + 1) := by rw [Nat.div_div_eq_div_mul, ← Nat.pow_succ]
def rd_ (U0 L0 p U L : Nat) : Prop := (U0 = 0 ∧ U = 0 ∧ L = 1) ∨ (¬ U0 = 0 ∧ ¬ U = 0 ∧ ∃ d, 0 < d ∧ U0 = U * d ∧ L0 = L * d ∧ ∀ q, 2 ≤ q → q < p → ¬ (q ∣ U ∧ q ∣ L))
theorem rd_0 {U0 L0 : Nat} (h : ¬ U0 = 0) : rd_ U0 L0 2 U0 L0 := Or.inr ⟨h, h, 1, by decide, by rw [Nat.mul_one], by rw [Nat.mul_one], fun q h1 h2 => absurd h1 (by omega)⟩
theorem rd_div {U0 L0 p U L : Nat} (h : rd_ U0 L0 p U L) (hp : 2 ≤ p) (hu : ¬ U = 0) (h1 : U % p = 0) (h2 : L % p = 0) : rd_ U0 L0 p (U / p) (L / p) := by
  rcases h with ⟨-, q, -⟩ | ⟨a, b, d, d0, e1, e2, e3⟩
  · exact absurd q hu
  · obtain ⟨u, hu1⟩ := Nat.dvd_of_mod_eq_zero h1
    obtain ⟨v, hv1⟩ := Nat.dvd_of_mod_eq_zero h2
    subst hu1 hv1
    have p0 : 0 < p := by omega
    rw [Nat.mul_div_cancel_left _ p0, Nat.mul_div_cancel_left _ p0]
    refine Or.inr ⟨a, fun z => b (by rw [z, Nat.mul_zero]), p * d, Nat.mul_pos p0 d0, ?_, ?_, fun q q1 q2 z => e3 q q1 q2 ⟨Nat.dvd_trans z.1 (Nat.dvd_mul_left _ _), Nat.dvd_trans z.2 (Nat.dvd_mul_left _ _)⟩⟩
    · rw [e1]; rw [Nat.mul_comm p u, Nat.mul_assoc]
    · rw [e2]; rw [Nat.mul_comm p v, Nat.mul_assoc]
theorem rd_up {U0 L0 p U L : Nat} (h : rd_ U0 L0 p U L) (hs : U = 0 ∨ ¬ U % p = 0 ∨ ¬ L % p = 0) : rd_ U0 L0 (p + 1) U L := by
  rcases h with h | ⟨a, b, d, d0, e1, e2, e3⟩
  · exact Or.inl h
  · refine Or.inr ⟨a, b, d, d0, e1, e2, fun q q1 q2 z => ?_⟩
    by_cases e : q = p
    · subst e
      rcases hs with hs | hs | hs
      · exact b hs
      · exact hs (Nat.mod_eq_zero_of_dvd z.1)
      · exact hs (Nat.mod_eq_zero_of_dvd z.2)
    · exact e3 q q1 (by omega) z
theorem rd_end {U0 b n U L : Nat} (h : rd_ U0 (b ^ n) (b + 1) U L) (hb : 0 < b) : U = pu_ U0 (b ^ n) ∧ L = pl_ U0 (b ^ n) := by
  have hbn : 0 < b ^ n := Nat.pow_pos hb
  unfold pu_ pl_
  rcases h with ⟨e1, e2, e3⟩ | ⟨a, c, d, d0, e1, e2, e3⟩
  · subst e1 e2 e3
    rw [Nat.gcd_zero_left, Nat.zero_div, Nat.div_self hbn]
    exact ⟨rfl, rfl⟩
  · have hg : Nat.gcd U L = 1 := by
      apply Decidable.byContradiction
      intro hg
      have g0 : 0 < Nat.gcd U L := Nat.gcd_pos_of_pos_left _ (by omega)
      have gL : Nat.gcd U L ∣ b ^ n := Nat.dvd_trans (Nat.gcd_dvd_right U L) ⟨d, e2⟩
      have h0 : 0 < Nat.gcd (Nat.gcd U L) b := Nat.gcd_pos_of_pos_left _ g0
      have hle : Nat.gcd (Nat.gcd U L) b ≤ b := Nat.le_of_dvd hb (Nat.gcd_dvd_right _ _)
      by_cases h1 : Nat.gcd (Nat.gcd U L) b = 1
      · have hc : Nat.Coprime (Nat.gcd U L) (b ^ n) := Nat.Coprime.pow_right n h1
        have : Nat.gcd (Nat.gcd U L) (b ^ n) = 1 := hc
        rw [Nat.gcd_eq_left gL] at this
        exact hg this
      · have hd := Nat.gcd_dvd_left (Nat.gcd U L) b
        exact e3 _ (by omega) (by omega) ⟨Nat.dvd_trans hd (Nat.gcd_dvd_left _ _), Nat.dvd_trans hd (Nat.gcd_dvd_right _ _)⟩
    have hgd : Nat.gcd U0 (b ^ n) = d := by rw [e2, e1, Nat.gcd_mul_right, hg, Nat.one_mul]
    rw [hgd, e2, e1, Nat.mul_div_cancel _ d0, Nat.mul_div_cancel _ d0]
    exact ⟨rfl, rfl⟩
def cw_ (x b n : Nat) (V : Nat → Nat) (k : Nat) : Prop := V 0 = oJ x (b - x) n k ∧ V 1 = oS x (b - x) n (k + 1)
theorem cw_s {x b n k : Nat} {V W : Nat → Nat} (h0 : 0 < x) (hk : k + 1 ≤ n) (h : cw_ x b n V (k + 1)) (w0 : W 0 = V 0 * (k + 1) * (b - x) / (n - k) / x) (w1 : W 1 = V 1 + V 0) : cw_ x b n W k := by
  obtain ⟨a0, a1⟩ := h
  refine ⟨?_, ?_⟩
  · rw [w0, a0, ci_dn h0 hk]
  · rw [w1, a0, a1, oS_J x (b - x) n (k + 1) hk]
theorem cw_le {x b n k : Nat} {V : Nat → Nat} (hx : x < b) (hk : k ≤ n) (h : cw_ x b n V k) : V 0 ≤ b ^ n ∧ V 1 ≤ b ^ n := by
  have e : x + (b - x) = b := by omega
  have h1 := oJ_le x (b - x) n k hk
  have h2 := oS_le x (b - x) n (k + 1)
  rw [e] at h1 h2
  exact ⟨by rw [h.1]; exact h1, by rw [h.2]; exact h2⟩
theorem qq_lt (q : Nat) (h : q < 2 ^ 31) : nI q - 1 < nI q := by
  cases q with
  | zero => decide
  | succ q => rw [nI_pred]; exact nI_lt (by omega) h
theorem zp_lt {b n : Nat} (hb : b ≤ 1000) (hn : n ≤ 60) {X : Nat} (h : X ≤ b ^ n) : X < zB ^ 60 := zb_lt (Nat.lt_of_le_of_lt h (pw_B hb hn))
