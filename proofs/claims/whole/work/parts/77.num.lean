/-! the reference's counts -/
def rk_ (V W : Nat → Nat) : Prop := W 5 = V 5 ∧ W 6 = V 6
theorem rk_r (V : Nat → Nat) : rk_ V V := ⟨rfl, rfl⟩
theorem rk_t {V W X : Nat → Nat} (h : rk_ V W) (g : rk_ W X) : rk_ V X := ⟨g.1.trans h.1, g.2.trans h.2⟩
theorem zb_lt {N : Nat} (h : N < bB ^ 16) : N < zB ^ 60 := Nat.lt_of_lt_of_le h (by rw [bB_10, zB_10]; exact Nat.pow_le_pow_right (by decide) (by decide))
def ci_ (x b n sA : Nat) (V0 V : Nat → Nat) (k : Nat) : Prop := V 0 = oJ x (b - x) n k ∧ V 1 = oS x (b - x) n (k + 1) ∧ V 4 = b ^ n * sA ∧ rk_ V0 V
def li_ (x b n sA sB L k : Nat) : Prop := L ≤ n ∧ ((L = k ∧ oCount x (b - x) n sA sB = oN x (b - x) n sA sB k) ∨ (k < L ∧ oCount x (b - x) n sA sB = L))
theorem ci_dn {x b n k : Nat} (h0 : 0 < x) (hk : k + 1 ≤ n) : oJ x (b - x) n (k + 1) * (k + 1) * (b - x) / (n - k) / x = oJ x (b - x) n k := by
  have h := oJ_down (x := x) (y := b - x) (n := n) (k := k) hk
  rw [Nat.div_div_eq_div_mul, Nat.mul_assoc, h, Nat.mul_div_cancel _ (Nat.mul_pos (by omega) h0)]
theorem ci_s {x b n sA k : Nat} {V0 V W : Nat → Nat} (h0 : 0 < x) (hk : k + 1 ≤ n) (h : ci_ x b n sA V0 V (k + 1)) (w0 : W 0 = V 0 * (k + 1) * (b - x) / (n - k) / x) (w1 : W 1 = V 1 + V 0) (w4 : W 4 = V 4) (w5 : rk_ V W) : ci_ x b n sA V0 W k := by
  obtain ⟨a0, a1, a4, a5⟩ := h
  refine ⟨?_, ?_, w4.trans a4, rk_t a5 w5⟩
  · rw [w0, a0, ci_dn h0 hk]
  · rw [w1, a0, a1, oS_J x (b - x) n (k + 1) hk]
theorem ci_le {x b n sA k : Nat} {V0 V : Nat → Nat} (hx : x < b) (hk : k ≤ n) (h : ci_ x b n sA V0 V k) : V 0 ≤ b ^ n ∧ V 1 ≤ b ^ n := by
  have e : x + (b - x) = b := by omega
  have h1 := oJ_le x (b - x) n k hk
  have h2 := oS_le x (b - x) n (k + 1)
  rw [e] at h1 h2
  exact ⟨by rw [h.1]; exact h1, by rw [h.2.1]; exact h2⟩
theorem li_0 (x b n sA sB : Nat) : li_ x b n sA sB n n := ⟨Nat.le_refl _, Or.inl ⟨rfl, rfl⟩⟩
theorem li_end {x b n sA sB L : Nat} (h : li_ x b n sA sB L 0) : L = oCount x (b - x) n sA sB := by
  rcases h.2 with ⟨h1, h2⟩ | ⟨h1, h2⟩
  · rw [h2, h1]; rfl
  · exact h2.symm
theorem li_s {x b n sA sB L k : Nat} {V0 V : Nat → Nat} (hx : x < b) (hk : k + 1 ≤ n) (hc : ci_ x b n sA V0 V (k + 1)) (h : li_ x b n sA sB L (k + 1)) :
    (¬ L = k + 1 → li_ x b n sA sB L k) ∧ (L = k + 1 → V 4 < (V 1 + V 0) * sB → li_ x b n sA sB L k) ∧ (L = k + 1 → ¬ V 4 < (V 1 + V 0) * sB → li_ x b n sA sB k k) := by
  have e : x + (b - x) = b := by omega
  obtain ⟨a0, a1, a4, -⟩ := hc
  have e1 : V 1 + V 0 = oS x (b - x) n (k + 1) := by rw [a0, a1, oS_J x (b - x) n (k + 1) hk]
  have e2 : oN x (b - x) n sA sB (k + 1) = if V 4 < (V 1 + V 0) * sB then k + 1 else oN x (b - x) n sA sB k := by
    rw [e1, a4, Nat.mul_comm (b ^ n)]
    show (if sA * (x + (b - x)) ^ n < _ then _ else _) = _
    rw [e]
  refine ⟨fun q => ?_, fun q c => ?_, fun q c => ?_⟩
  · rcases h.2 with ⟨h1, h2⟩ | ⟨h1, h2⟩
    · exact absurd h1 q
    · exact ⟨h.1, Or.inr ⟨by omega, h2⟩⟩
  · rcases h.2 with ⟨h1, h2⟩ | ⟨h1, h2⟩
    · rw [e2, if_pos c] at h2
      exact ⟨h.1, Or.inr ⟨by omega, by omega⟩⟩
    · exact absurd h1 (by omega)
  · rcases h.2 with ⟨h1, h2⟩ | ⟨h1, h2⟩
    · rw [e2, if_neg c] at h2
      exact ⟨by omega, Or.inl ⟨rfl, h2⟩⟩
    · exact absurd h1 (by omega)
theorem dn_lt {X b n k d : Nat} (h : X ≤ b ^ n) (hb : b ≤ 1000) (hn : n ≤ 60) (hk : k < 60) (hd : d ≤ 1000) : X * (k + 1) * d < zB ^ 60 := by
  rw [Nat.mul_assoc]
  exact zb_lt (mu_B h hb hn (Nat.le_trans (Nat.mul_le_mul (show k + 1 ≤ 60 by omega) hd) (by decide)))
theorem sm_lt {X Y b n f : Nat} (h : X + Y ≤ b ^ n) (hb : b ≤ 1000) (hn : n ≤ 60) (hf : f ≤ 1000000) : (X + Y) * f < zB ^ 60 := zb_lt (mu_B h hb hn hf)
theorem ci_sm {x b n sA k : Nat} {V0 V : Nat → Nat} (hx : x < b) (hk : k + 1 ≤ n) (hc : ci_ x b n sA V0 V (k + 1)) : V 1 + V 0 ≤ b ^ n := by
  have e : x + (b - x) = b := by omega
  have h2 := oS_le x (b - x) n (k + 1)
  rw [e] at h2
  rw [hc.1, hc.2.1, ← oS_J x (b - x) n (k + 1) hk]; exact h2
