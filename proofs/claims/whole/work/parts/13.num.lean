/-! sums, divisions, compares of numbers in groups -/
def ag_ (N M i j : Nat) : Nat := if j < i then wG (N + M) j else wG N j
def ac_ (N M i : Nat) : Nat := (N % bB ^ i + M % bB ^ i) / bB ^ i
theorem ag_0 (N M : Nat) : (fun j => lN (ag_ N M 0 j)) = fun j => lN (wG N j) := by funext j; simp [ag_]
theorem ag_i (N M i : Nat) : ag_ N M i i = wG N i := by simp [ag_]
theorem ac_0 (N M : Nat) : ac_ N M 0 = 0 := by simp [ac_, Nat.mod_one]
theorem ac_lt (N M i : Nat) : ac_ N M i < 2 := wa_lt N M i
theorem ac_s (N M i : Nat) : ac_ N M (i + 1) = (wG N i + wG M i + ac_ N M i) / bB := wa_carry N M i
theorem ac_s1 {N M i : Nat} (h : bB ≤ wG N i + wG M i + ac_ N M i) : ac_ N M (i + 1) = 1 := by
  have h1 := ac_lt N M (i + 1)
  rw [ac_s] at h1 ⊢
  have := Nat.div_pos h bB_pos
  omega
theorem ac_s0 {N M i : Nat} (h : ¬ bB ≤ wG N i + wG M i + ac_ N M i) : ac_ N M (i + 1) = 0 := by
  rw [ac_s]
  exact Nat.div_eq_of_lt (by omega)
theorem ag_up {N M i x : Nat} (h : x = wG N i + wG M i + ac_ N M i - ac_ N M (i + 1) * bB) : vp_updL (fun j => lN (ag_ N M i j)) i (lN x) = fun j => lN (ag_ N M (i + 1) j) := by
  subst h
  funext j
  unfold vp_updL
  by_cases h : j = i
  · subst h
    rw [if_pos rfl, ac_s, sub_div_mul]
    unfold ag_ ac_
    rw [if_pos (Nat.lt_succ_self j), wa_dig]
  · rw [if_neg h]
    show lN (ag_ N M i j) = _
    unfold ag_
    by_cases h2 : j < i
    · rw [if_pos h2, if_pos (by omega)]
    · rw [if_neg h2, if_neg (by omega)]
theorem ac_end {N M u : Nat} (h : N < bB ^ u) (g : M < bB ^ u) : ac_ N M u = (N + M) / bB ^ u := by unfold ac_; rw [Nat.mod_eq_of_lt h, Nat.mod_eq_of_lt g]
theorem ag_end0 {N M u : Nat} (h : N < bB ^ u) (g : M < bB ^ u) (hc : ac_ N M u = 0) : (fun j => lN (ag_ N M u j)) = fun j => lN (wG (N + M) j) := by
  rw [ac_end h g] at hc
  have h1 : N + M < bB ^ u := (Nat.div_eq_zero_iff_lt (bB_pw u)).mp hc
  funext j
  unfold ag_
  by_cases h2 : j < u
  · rw [if_pos h2]
  · rw [if_neg h2, wG_big h (by omega), wG_big h1 (by omega)]
theorem ag_end1 {N M u : Nat} (h : N < bB ^ u) (g : M < bB ^ u) : vp_updL (fun j => lN (ag_ N M u j)) u (lN (ac_ N M u)) = fun j => lN (wG (N + M) j) := by
  have h0 := ac_lt N M u
  rw [ac_end h g] at h0
  have hb : (2 : Nat) < bB := by decide
  have h1 : N + M < bB ^ (u + 1) := by
    have := (Nat.div_lt_iff_lt_mul (bB_pw u)).mp h0
    have h2 : 2 * bB ^ u ≤ bB * bB ^ u := Nat.mul_le_mul_right _ (by omega)
    rw [Nat.pow_succ, Nat.mul_comm]
    omega
  funext j
  unfold vp_updL
  by_cases hj : j = u
  · subst hj
    rw [if_pos rfl, ac_end h g]
    unfold wG
    rw [Nat.mod_eq_of_lt (by omega)]
  · rw [if_neg hj]
    show lN (ag_ N M u j) = _
    unfold ag_
    by_cases h2 : j < u
    · rw [if_pos h2]
    · rw [if_neg h2, wG_big h (by omega), wG_big h1 (by omega)]
/-- division: from the top; groups i .. are done -/
def dg_ (N d i j : Nat) : Nat := if i ≤ j then wG (N / d) j else wG N j
def dl_ (N d i : Nat) : Nat := N / bB ^ i % d
theorem dg_i (N d i : Nat) : dg_ N d (i + 1) i = wG N i := by
  unfold dg_; rw [if_neg (by omega)]
theorem dg_top {N d u : Nat} (h : N < bB ^ u) : (fun j => lN (dg_ N d u j)) = fun j => lN (wG N j) := by
  funext j
  unfold dg_
  by_cases h2 : u ≤ j
  · rw [if_pos h2, wG_big h h2, wG_big (Nat.lt_of_le_of_lt (Nat.div_le_self N d) h) h2]
  · rw [if_neg h2]
theorem dg_end (N d : Nat) : (fun j => lN (dg_ N d 0 j)) = fun j => lN (wG (N / d) j) := by
  funext j; simp [dg_]
theorem dg_up {N d i : Nat} (hd : 0 < d) : vp_updL (fun j => lN (dg_ N d (i + 1) j)) i (lN ((dl_ N d (i + 1) * bB + wG N i) / d)) = fun j => lN (dg_ N d i j) := by
  funext j
  unfold vp_updL
  by_cases h : j = i
  · subst h
    rw [if_pos rfl]
    unfold dg_ dl_
    rw [if_pos (Nat.le_refl j), wd_dig hd]
  · rw [if_neg h]
    show lN (dg_ N d (i + 1) j) = _
    unfold dg_
    by_cases h2 : i + 1 ≤ j
    · rw [if_pos h2, if_pos (by omega)]
    · rw [if_neg h2, if_neg (by omega)]
theorem dl_s (N d i : Nat) : dl_ N d i = (dl_ N d (i + 1) * bB + wG N i) % d := wd_rem N i
theorem dl_top {N d u : Nat} (h : N < bB ^ u) : dl_ N d u = 0 := by unfold dl_; rw [Nat.div_eq_of_lt h, Nat.zero_mod]
theorem dl_0 (N d : Nat) : dl_ N d 0 = N % d := by simp [dl_]
theorem dl_lt {N d i : Nat} (hd : 0 < d) : dl_ N d i < d := Nat.mod_lt _ hd
theorem dp_lt {N d i : Nat} (hd : 0 < d) (h : d ≤ 1000000) : dl_ N d (i + 1) * bB + wG N i < 2 ^ 63 := by
  have h1 := dl_lt (N := N) (i := i + 1) hd
  have h2 := wG_lt N i
  have h3 : dl_ N d (i + 1) * bB ≤ 1000000 * bB := Nat.mul_le_mul_right _ (by omega)
  have h4 : 1000000 * bB = 1000000000000000000 := by decide
  have h5 : bB = 1000000000000 := rfl
  omega
theorem du_ (N d : Nat) (hN : N < bB ^ 16) (hd : 0 < d) (h : d ≤ 1000000) : wU (N / d) = if 1 < wU N ∧ wG (N / d) (wU N - 1) = 0 then wU N - 1 else wU N := by
  obtain ⟨a1, a2, a3⟩ := wU_is hN
  have q1 : N / d < bB ^ wU N := Nat.lt_of_le_of_lt (Nat.div_le_self N d) a2
  have q2 : N / d < bB ^ 16 := Nat.lt_of_le_of_lt (Nat.div_le_self N d) hN
  have hb : (1000000 : Nat) < bB := by decide
  by_cases hc : 1 < wU N ∧ wG (N / d) (wU N - 1) = 0
  · rw [if_pos hc]
    obtain ⟨c1, c2⟩ := hc
    have e : wU N = wU N - 1 + 1 := by omega
    refine wU_eq q2 ⟨by omega, ?_, ?_⟩
    · have s := wG_step (N / d) (wU N - 1)
      rw [c2, ← e, Nat.div_eq_of_lt q1] at s
      exact (Nat.div_eq_zero_iff_lt (bB_pw _)).mp (by omega)
    · rcases Nat.lt_or_ge (wU N - 1) 2 with g | g
      · exact Or.inl (by omega)
      · refine Or.inr ?_
        rcases a3 with a3 | a3
        · omega
        · rw [Nat.le_div_iff_mul_le hd]
          refine Nat.le_trans ?_ a3
          have e2 : wU N - 1 = wU N - 1 - 1 + 1 := by omega
          conv => rhs; rw [e2, Nat.pow_succ]
          exact Nat.mul_le_mul_left _ (by omega)
  · rw [if_neg hc]
    refine wU_eq q2 ⟨a1, q1, ?_⟩
    rcases Nat.lt_or_ge 1 (wU N) with g | g
    · refine Or.inr ?_
      apply Nat.le_of_not_lt
      intro z
      exact hc ⟨g, by unfold wG; rw [Nat.div_eq_of_lt z, Nat.zero_mod]⟩
    · exact Or.inl (by omega)
theorem au_ {N M u : Nat} (hN : N < bB ^ 16) (hM : M < bB ^ 16) (hS : N + M < bB ^ 16) (hu : u = max (wU N) (wU M)) : N < bB ^ u ∧ M < bB ^ u ∧ (ac_ N M u = 0 → wU (N + M) = u) ∧ (0 < ac_ N M u → wU (N + M) = u + 1 ∧ u < 16) ∧ u ≤ 16 := by
  obtain ⟨a1, a2, a3⟩ := wU_is hN
  obtain ⟨b1, b2, b3⟩ := wU_is hM
  have n1 := wU_le hN
  have n2 := wU_le hM
  have h1 : N < bB ^ u := Nat.lt_of_lt_of_le a2 (Nat.pow_le_pow_right bB_pos (by omega))
  have h2 : M < bB ^ u := Nat.lt_of_lt_of_le b2 (Nat.pow_le_pow_right bB_pos (by omega))
  refine ⟨h1, h2, ?_, ?_, by omega⟩
  · intro hc
    rw [ac_end h1 h2] at hc
    refine wU_eq hS ⟨by omega, (Nat.div_eq_zero_iff_lt (bB_pw u)).mp hc, ?_⟩
    rcases Nat.lt_or_ge 1 u with g | g
    · refine Or.inr ?_
      rcases Nat.le_total (wU N) (wU M) with q | q
      · have e : u = wU M := by omega
        rcases b3 with b3 | b3
        · omega
        · rw [e]; omega
      · have e : u = wU N := by omega
        rcases a3 with a3 | a3
        · omega
        · rw [e]; omega
    · exact Or.inl (by omega)
  · intro hc
    have h0 := ac_lt N M u
    rw [ac_end h1 h2] at hc h0
    have h3 : bB ^ u ≤ N + M := (Nat.div_pos_iff.mp hc).2
    have hb : (2 : Nat) < bB := by decide
    have h4 : N + M < bB ^ (u + 1) := by
      have := (Nat.div_lt_iff_lt_mul (bB_pw u)).mp h0
      have h2 : 2 * bB ^ u ≤ bB * bB ^ u := Nat.mul_le_mul_right _ (by omega)
      rw [Nat.pow_succ, Nat.mul_comm]
      omega
    have h5 : u < 16 := by
      apply Nat.lt_of_not_le
      intro h
      have := Nat.pow_le_pow_right bB_pos h
      omega
    exact ⟨wU_eq hS ⟨by omega, h4, Or.inr (by rw [Nat.add_sub_cancel]; exact h3)⟩, h5⟩
/-! compares, decimal digits -/
theorem wx_eq {N M k : Nat} (h : N / bB ^ (k + 1) = M / bB ^ (k + 1)) (g : wG N k = wG M k) : N / bB ^ k = M / bB ^ k := by
  rw [wG_step N k, wG_step M k, h, g]
theorem wx_gt {N M k : Nat} (h : N / bB ^ (k + 1) = M / bB ^ (k + 1)) (g : wG M k < wG N k) : M < N := by
  have a : M / bB ^ k < N / bB ^ k := by rw [wG_step N k, wG_step M k, h]; omega
  exact Nat.lt_of_div_lt_div a
theorem wx_u {N M : Nat} (hN : N < bB ^ 16) (hM : M < bB ^ 16) (h : wU M < wU N) : M < N := by
  obtain ⟨a1, a2, a3⟩ := wU_is hN
  obtain ⟨b1, b2, b3⟩ := wU_is hM
  rcases a3 with a3 | a3
  · omega
  · have := Nat.pow_le_pow_right bB_pos (show wU M ≤ wU N - 1 by omega)
    omega
/-- decimal digits -/
def isD (N d : Nat) : Prop := 1 ≤ d ∧ N < 10 ^ d ∧ (d = 1 ∨ 10 ^ (d - 1) ≤ N)
theorem isD_eq {N u v : Nat} (h : isD N u) (g : isD N v) : u = v := by
  obtain ⟨a1, a2, a3⟩ := h
  obtain ⟨b1, b2, b3⟩ := g
  rcases Nat.lt_trichotomy u v with q | q | q
  · rcases b3 with b3 | b3
    · omega
    · have := Nat.lt_of_lt_of_le a2 (Nat.pow_le_pow_right (show 0 < 10 by decide) (show u ≤ v - 1 by omega))
      omega
  · exact q
  · rcases a3 with a3 | a3
    · omega
    · have := Nat.lt_of_lt_of_le b2 (Nat.pow_le_pow_right (show 0 < 10 by decide) (show v ≤ u - 1 by omega))
      omega
def dLa : Nat → Nat → Nat
  | 0, _ => 1
  | f + 1, N => if N < 10 then 1 else dLa f (N / 10) + 1
def dL (N : Nat) : Nat := dLa 400 N
theorem dLa_is : ∀ (f N : Nat), N < 10 ^ (f + 1) → isD N (dLa f N) ∧ dLa f N ≤ f + 1
  | 0, N, h => ⟨⟨Nat.le_refl 1, h, Or.inl rfl⟩, Nat.le_refl 1⟩
  | f + 1, N, h => by
    unfold dLa
    by_cases hN : N < 10
    · rw [if_pos hN]
      exact ⟨⟨Nat.le_refl 1, by rw [Nat.pow_one]; exact hN, Or.inl rfl⟩, by omega⟩
    · rw [if_neg hN]
      have h1 : N / 10 < 10 ^ (f + 1) := by
        rw [Nat.div_lt_iff_lt_mul (by decide), ← Nat.pow_succ]; exact h
      obtain ⟨⟨a, b, c⟩, d⟩ := dLa_is f (N / 10) h1
      refine ⟨⟨by omega, ?_, Or.inr ?_⟩, by omega⟩
      · rw [Nat.pow_succ, ← Nat.div_lt_iff_lt_mul (by decide)]; exact b
      · rw [Nat.add_sub_cancel]
        rcases c with c | c
        · rw [c, Nat.pow_one]; omega
        · have e : dLa f (N / 10) = dLa f (N / 10) - 1 + 1 := by omega
          rw [e, Nat.pow_succ, ← Nat.le_div_iff_mul_le (by decide)]
          exact c
theorem bB_10 (u : Nat) : bB ^ u = 10 ^ (12 * u) := by rw [Nat.pow_mul]; rfl
theorem dL_is {N : Nat} (h : N < bB ^ 16) : isD N (dL N) := (dLa_is 400 N (Nat.lt_of_lt_of_le h (by rw [bB_10]; exact Nat.pow_le_pow_right (by decide) (by decide)))).1
/-- the length, by the top group's -/
theorem dL_top {N u i : Nat} (hu : isU N u) (hN : N < bB ^ 16) (h1 : 1 ≤ i) (h2 : wG N (u - 1) < 10 ^ i) (h3 : i = 1 ∨ 10 ^ (i - 1) ≤ wG N (u - 1)) : dL N = (u - 1) * 12 + i := by
  obtain ⟨a1, a2, a3⟩ := hu
  refine isD_eq (dL_is hN) ?_
  have e : u = u - 1 + 1 := by omega
  have s := wG_step N (u - 1)
  rw [← e, Nat.div_eq_of_lt a2, Nat.zero_mul, Nat.zero_add] at s
  refine ⟨by omega, ?_, ?_⟩
  · rw [Nat.pow_add, Nat.mul_comm (u - 1) 12, ← bB_10, Nat.mul_comm, ← Nat.div_lt_iff_lt_mul (bB_pw _), s]
    exact h2
  · rcases h3 with h3 | h3
    · subst h3
      rcases a3 with a3 | a3
      · left; omega
      · right
        rw [Nat.add_sub_cancel, Nat.mul_comm, ← bB_10]
        exact a3
    · right
      have e2 : (u - 1) * 12 + i - 1 = (u - 1) * 12 + (i - 1) := by omega
      rw [e2, Nat.pow_add, Nat.mul_comm (u - 1) 12, ← bB_10, Nat.mul_comm, ← Nat.le_div_iff_mul_le (bB_pw _), s]
      exact h3
/-- a digit, by its group -/
theorem dg_10 (N q r : Nat) (hr : r < 12) : wG N q / 10 ^ r % 10 = N / 10 ^ (12 * q + r) % 10 := by
  unfold wG
  rw [Nat.pow_add, ← Nat.div_div_eq_div_mul, ← bB_10]
  generalize N / bB ^ q = X
  have e : bB = 10 ^ r * (10 * 10 ^ (11 - r)) := by
    rw [← Nat.mul_assoc, ← Nat.pow_succ, ← Nat.pow_add]
    have : r + 1 + (11 - r) = 12 := by omega
    rw [this]; rfl
  rw [e, Nat.mod_mul_right_div_self, Nat.mod_mul_right_mod]
