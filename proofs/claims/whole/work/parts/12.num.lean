/-! numbers in groups of twelve digits -/
def bB : Nat := 1000000000000
theorem bB_pos : 0 < bB := by decide
theorem bB_pw (i : Nat) : 0 < bB ^ i := Nat.pow_pos bB_pos
def wG (N i : Nat) : Nat := N / bB ^ i % bB
theorem wG_lt (N i : Nat) : wG N i < bB := Nat.mod_lt _ bB_pos
theorem wG_step (N i : Nat) : N / bB ^ i = N / bB ^ (i + 1) * bB + wG N i := by
  have h := Nat.div_add_mod (N / bB ^ i) bB
  rw [Nat.div_div_eq_div_mul, ← Nat.pow_succ] at h
  unfold wG
  rw [Nat.mul_comm] at h
  exact h.symm
theorem wG_low (N i : Nat) : N % bB ^ (i + 1) = N % bB ^ i + bB ^ i * wG N i := Nat.mod_pow_succ
theorem wG_big {N i u : Nat} (h : N < bB ^ u) (hi : u ≤ i) : wG N i = 0 := by
  have h1 : N < bB ^ i := Nat.lt_of_lt_of_le h (Nat.pow_le_pow_right bB_pos hi)
  unfold wG
  rw [Nat.div_eq_of_lt h1, Nat.zero_mod]
theorem wG_0 (i : Nat) : wG 0 i = 0 := by simp [wG]
theorem wG_small {v : Nat} (h : v < bB) : wG v 0 = v := by
  unfold wG
  rw [Nat.pow_zero, Nat.div_one, Nat.mod_eq_of_lt h]
theorem md_mul (x f c B : Nat) : (x * f + c) % B = (x % B * f + c) % B := by
  conv => lhs; rw [← Nat.div_add_mod x B]
  rw [Nat.add_mul, Nat.mul_assoc, Nat.add_assoc, Nat.mul_add_mod]
theorem md_add (x y c B : Nat) : (x + y + c) % B = (x % B + y % B + c) % B := by
  have hx := Nat.div_add_mod x B
  have hy := Nat.div_add_mod y B
  have e : x + y + c = B * (x / B + y / B) + (x % B + y % B + c) := by rw [Nat.mul_add]; omega
  rw [e, Nat.mul_add_mod]
/-- times a small number -/
theorem wm_step (N f i : Nat) : N % bB ^ (i + 1) * f / bB ^ i = wG N i * f + N % bB ^ i * f / bB ^ i := by
  rw [wG_low, Nat.add_mul, Nat.mul_assoc, Nat.add_mul_div_left _ _ (bB_pw i), Nat.add_comm]
theorem wm_carry (N f i : Nat) : N % bB ^ (i + 1) * f / bB ^ (i + 1) = (wG N i * f + N % bB ^ i * f / bB ^ i) / bB := by
  rw [← wm_step, Nat.div_div_eq_div_mul, ← Nat.pow_succ]
theorem wm_dig (N f i : Nat) : wG (N * f) i = (wG N i * f + N % bB ^ i * f / bB ^ i) % bB := by
  have h : N * f / bB ^ i = N / bB ^ i * f + N % bB ^ i * f / bB ^ i := by
    have h1 : N * f = N % bB ^ i * f + bB ^ i * (N / bB ^ i * f) := by
      rw [← Nat.mul_assoc, ← Nat.add_mul, Nat.mod_add_div]
    rw [h1, Nat.add_mul_div_left _ _ (bB_pw i), Nat.add_comm]
  unfold wG
  rw [h, md_mul]
/-- the carry of a product is small -/
theorem wm_lt {N f i : Nat} (hf : 0 < f) : N % bB ^ i * f / bB ^ i < f := by
  rw [Nat.div_lt_iff_lt_mul (bB_pw i), Nat.mul_comm f]
  exact Nat.mul_lt_mul_of_pos_right (Nat.mod_lt _ (bB_pw i)) hf
/-- sums -/
theorem wa_step (N M i : Nat) : (N % bB ^ (i + 1) + M % bB ^ (i + 1)) / bB ^ i = wG N i + wG M i + (N % bB ^ i + M % bB ^ i) / bB ^ i := by
  have h : N % bB ^ (i + 1) + M % bB ^ (i + 1) = N % bB ^ i + M % bB ^ i + bB ^ i * (wG N i + wG M i) := by
    rw [wG_low, wG_low, Nat.mul_add]; omega
  rw [h, Nat.add_mul_div_left _ _ (bB_pw i), Nat.add_comm]
theorem wa_carry (N M i : Nat) : (N % bB ^ (i + 1) + M % bB ^ (i + 1)) / bB ^ (i + 1) = (wG N i + wG M i + (N % bB ^ i + M % bB ^ i) / bB ^ i) / bB := by
  rw [← wa_step, Nat.div_div_eq_div_mul, ← Nat.pow_succ]
theorem wa_dig (N M i : Nat) : wG (N + M) i = (wG N i + wG M i + (N % bB ^ i + M % bB ^ i) / bB ^ i) % bB := by
  have h : (N + M) / bB ^ i = N / bB ^ i + M / bB ^ i + (N % bB ^ i + M % bB ^ i) / bB ^ i := by
    have h1 : N + M = N % bB ^ i + M % bB ^ i + bB ^ i * (N / bB ^ i + M / bB ^ i) := by
      have a := Nat.mod_add_div N (bB ^ i)
      have b := Nat.mod_add_div M (bB ^ i)
      rw [Nat.mul_add]; omega
    rw [h1, Nat.add_mul_div_left _ _ (bB_pw i), Nat.add_comm]
  unfold wG
  rw [h, md_add]
theorem wa_lt (N M i : Nat) : (N % bB ^ i + M % bB ^ i) / bB ^ i < 2 := by
  rw [Nat.div_lt_iff_lt_mul (bB_pw i)]
  have a := Nat.mod_lt N (bB_pw i)
  have b := Nat.mod_lt M (bB_pw i)
  omega
/-- by a small number -/
theorem wd_rem {d : Nat} (N i : Nat) : N / bB ^ i % d = (N / bB ^ (i + 1) % d * bB + wG N i) % d := by
  rw [wG_step N i, md_mul]
theorem wd_dig {d : Nat} (hd : 0 < d) (N i : Nat) : wG (N / d) i = (N / bB ^ (i + 1) % d * bB + wG N i) / d := by
  have h1 : N / d / bB ^ i = N / bB ^ i / d := by rw [Nat.div_div_eq_div_mul, Nat.div_div_eq_div_mul, Nat.mul_comm]
  have h2 : N / bB ^ i = d * (N / bB ^ (i + 1) / d * bB) + (N / bB ^ (i + 1) % d * bB + wG N i) := by
    have h3 := Nat.div_add_mod (N / bB ^ (i + 1)) d
    rw [wG_step N i]
    conv => lhs; rw [← h3]
    rw [Nat.add_mul, Nat.mul_assoc]; omega
  have h4 : (N / bB ^ (i + 1) % d * bB + wG N i) / d < bB := by
    rw [Nat.div_lt_iff_lt_mul hd]
    have a := Nat.mod_lt (N / bB ^ (i + 1)) hd
    have b := wG_lt N i
    have c : (N / bB ^ (i + 1) % d + 1) * bB ≤ d * bB := Nat.mul_le_mul_right _ a
    rw [Nat.add_mul] at c
    rw [Nat.mul_comm bB]; omega
  show N / d / bB ^ i % bB = _
  rw [h1, h2, Nat.mul_add_div hd, Nat.mul_comm (N / bB ^ (i + 1) / d) bB, Nat.mul_add_mod]
  exact Nat.mod_eq_of_lt h4
/-- how many groups -/
def wUa : Nat → Nat → Nat
  | 0, _ => 1
  | f + 1, N => if N < bB then 1 else wUa f (N / bB) + 1
def wU (N : Nat) : Nat := wUa 15 N
def isU (N u : Nat) : Prop := 1 ≤ u ∧ N < bB ^ u ∧ (u = 1 ∨ bB ^ (u - 1) ≤ N)
theorem wUa_is : ∀ (f N : Nat), N < bB ^ (f + 1) → isU N (wUa f N) ∧ wUa f N ≤ f + 1
  | 0, N, h => ⟨⟨Nat.le_refl 1, h, Or.inl rfl⟩, Nat.le_refl 1⟩
  | f + 1, N, h => by
    unfold wUa
    by_cases hN : N < bB
    · rw [if_pos hN]
      exact ⟨⟨Nat.le_refl 1, by rw [Nat.pow_one]; exact hN, Or.inl rfl⟩, by omega⟩
    · rw [if_neg hN]
      have h1 : N / bB < bB ^ (f + 1) := by
        rw [Nat.div_lt_iff_lt_mul bB_pos, ← Nat.pow_succ]; exact h
      obtain ⟨⟨a, b, c⟩, d⟩ := wUa_is f (N / bB) h1
      refine ⟨⟨by omega, ?_, Or.inr ?_⟩, by omega⟩
      · rw [Nat.pow_succ, ← Nat.div_lt_iff_lt_mul bB_pos]; exact b
      · rw [Nat.add_sub_cancel]
        rcases c with c | c
        · rw [c, Nat.pow_one]; omega
        · have e : wUa f (N / bB) = wUa f (N / bB) - 1 + 1 := by omega
          rw [e, Nat.pow_succ, ← Nat.le_div_iff_mul_le bB_pos]
          exact c
theorem isU_eq {N u v : Nat} (h : isU N u) (g : isU N v) : u = v := by
  obtain ⟨a1, a2, a3⟩ := h
  obtain ⟨b1, b2, b3⟩ := g
  rcases Nat.lt_trichotomy u v with q | q | q
  · rcases b3 with b3 | b3
    · omega
    · have := Nat.lt_of_lt_of_le a2 (Nat.pow_le_pow_right bB_pos (show u ≤ v - 1 by omega))
      omega
  · exact q
  · rcases a3 with a3 | a3
    · omega
    · have := Nat.lt_of_lt_of_le b2 (Nat.pow_le_pow_right bB_pos (show v ≤ u - 1 by omega))
      omega
theorem wU_is {N : Nat} (h : N < bB ^ 16) : isU N (wU N) := (wUa_is 15 N h).1
theorem wU_le {N : Nat} (h : N < bB ^ 16) : wU N ≤ 16 := (wUa_is 15 N h).2
theorem wU_eq {N u : Nat} (h : N < bB ^ 16) (g : isU N u) : wU N = u := isU_eq (wU_is h) g
/-! the loops over groups: what the groups are behind some steps -/
theorem sub_div_mul (X : Nat) {d : Nat} : X - X / d * d = X % d := by
  have := Nat.div_add_mod X d
  rw [Nat.mul_comm] at this
  omega
theorem pw_lt {X u : Nat} (h : X / bB ^ u < bB) : X < bB ^ (u + 1) := by
  rw [Nat.pow_succ, Nat.mul_comm]
  exact (Nat.div_lt_iff_lt_mul (bB_pw u)).mp h
def mg_ (N f i j : Nat) : Nat := if j < i then wG (N * f) j else wG N j
def mc_ (N f i : Nat) : Nat := N % bB ^ i * f / bB ^ i
theorem mg_0 (N f : Nat) : (fun j => lN (mg_ N f 0 j)) = fun j => lN (wG N j) := by funext j; simp [mg_]
theorem mg_i (N f i : Nat) : mg_ N f i i = wG N i := by simp [mg_]
theorem mg_up (N f i : Nat) : vp_updL (fun j => lN (mg_ N f i j)) i (lN (wG N i * f + mc_ N f i - (wG N i * f + mc_ N f i) / bB * bB)) = fun j => lN (mg_ N f (i + 1) j) := by
  funext j
  unfold vp_updL
  by_cases h : j = i
  · subst h
    rw [if_pos rfl, sub_div_mul]
    unfold mg_ mc_
    rw [if_pos (Nat.lt_succ_self j), wm_dig]
  · rw [if_neg h]
    show lN (mg_ N f i j) = _
    unfold mg_
    by_cases h2 : j < i
    · rw [if_pos h2, if_pos (by omega)]
    · rw [if_neg h2, if_neg (by omega)]
theorem mc_0 (N f : Nat) : mc_ N f 0 = 0 := by simp [mc_, Nat.mod_one]
theorem mc_s (N f i : Nat) : mc_ N f (i + 1) = (wG N i * f + mc_ N f i) / bB := wm_carry N f i
theorem mc_end {N f u : Nat} (h : N < bB ^ u) : mc_ N f u = N * f / bB ^ u := by unfold mc_; rw [Nat.mod_eq_of_lt h]
theorem mc_le {N f i : Nat} (hf : f ≤ 1000000) : mc_ N f i ≤ 1000000 := by
  rcases Nat.eq_zero_or_pos f with h | h
  · subst h; simp [mc_]
  · have := wm_lt (N := N) (i := i) h
    unfold mc_; omega
theorem mp_lt {N f i : Nat} (hf : f ≤ 1000000) : wG N i * f + mc_ N f i < 2 ^ 63 := by
  have h1 := mc_le (N := N) (i := i) hf
  have h2 := wG_lt N i
  have h3 : wG N i * f ≤ bB * 1000000 := Nat.mul_le_mul (Nat.le_of_lt h2) hf
  have h4 : bB * 1000000 = 1000000000000000000 := by decide
  omega
theorem mg_end0 {N f u : Nat} (h : N < bB ^ u) (hc : mc_ N f u = 0) : (fun j => lN (mg_ N f u j)) = fun j => lN (wG (N * f) j) := by
  rw [mc_end h] at hc
  have h1 : N * f < bB ^ u := (Nat.div_eq_zero_iff_lt (bB_pw u)).mp hc
  funext j
  unfold mg_
  by_cases h2 : j < u
  · rw [if_pos h2]
  · rw [if_neg h2, wG_big h (by omega), wG_big h1 (by omega)]
theorem mg_end1 {N f u : Nat} (h : N < bB ^ u) (hf : f ≤ 1000000) : vp_updL (fun j => lN (mg_ N f u j)) u (lN (mc_ N f u)) = fun j => lN (wG (N * f) j) := by
  have h0 := mc_le (N := N) (i := u) hf
  rw [mc_end h] at h0
  have hb : (1000000 : Nat) < bB := by decide
  have h1 : N * f < bB ^ (u + 1) := pw_lt (by omega)
  funext j
  unfold vp_updL
  by_cases hj : j = u
  · subst hj
    rw [if_pos rfl, mc_end h]
    unfold wG
    rw [Nat.mod_eq_of_lt (by omega)]
  · rw [if_neg hj]
    show lN (mg_ N f u j) = _
    unfold mg_
    by_cases h2 : j < u
    · rw [if_pos h2]
    · rw [if_neg h2, wG_big h (by omega), wG_big h1 (by omega)]
theorem mu_end0 {N f : Nat} (hN : N < bB ^ 16) (hf : 0 < f) (hc : mc_ N f (wU N) = 0) : wU (N * f) = wU N := by
  obtain ⟨a1, a2, a3⟩ := wU_is hN
  rw [mc_end a2] at hc
  have h1 : N * f < bB ^ wU N := (Nat.div_eq_zero_iff_lt (bB_pw _)).mp hc
  have h2 := wU_le hN
  refine wU_eq (Nat.lt_of_lt_of_le h1 (Nat.pow_le_pow_right bB_pos h2)) ⟨a1, h1, ?_⟩
  rcases a3 with a3 | a3
  · exact Or.inl a3
  · exact Or.inr (Nat.le_trans a3 (Nat.le_mul_of_pos_right N hf))
theorem mu_end1 {N f : Nat} (hN : N < bB ^ 16) (hM : N * f < bB ^ 16) (hf : f ≤ 1000000) (hc : 0 < mc_ N f (wU N)) : wU (N * f) = wU N + 1 ∧ wU N < 16 := by
  obtain ⟨a1, a2, a3⟩ := wU_is hN
  have h0 := mc_le (N := N) (i := wU N) hf
  rw [mc_end a2] at hc h0
  have hb : (1000000 : Nat) < bB := by decide
  have h1 : bB ^ wU N ≤ N * f := (Nat.div_pos_iff.mp hc).2
  have h2 : N * f < bB ^ (wU N + 1) := pw_lt (by omega)
  have h3 : wU N < 16 := by
    apply Nat.lt_of_not_le
    intro h
    have := Nat.pow_le_pow_right bB_pos h
    omega
  exact ⟨wU_eq hM ⟨by omega, h2, Or.inr (by rw [Nat.add_sub_cancel]; exact h1)⟩, h3⟩
theorem wU_0 : wU 0 = 1 := by decide
