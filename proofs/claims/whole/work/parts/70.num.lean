/-! the numbers of the reference: sixty groups of six digits, seven in a row -/
def zB : Nat := 1000000
theorem zB_pos : 0 < zB := by decide
theorem zB_pw (i : Nat) : 0 < zB ^ i := Nat.pow_pos zB_pos
def zG (N i : Nat) : Nat := N / zB ^ i % zB
theorem zG_lt (N i : Nat) : zG N i < zB := Nat.mod_lt _ zB_pos
theorem zG_step (N i : Nat) : N / zB ^ i = N / zB ^ (i + 1) * zB + zG N i := by
  have h := Nat.div_add_mod (N / zB ^ i) zB
  rw [Nat.div_div_eq_div_mul, ← Nat.pow_succ] at h
  unfold zG
  rw [Nat.mul_comm] at h
  exact h.symm
theorem zG_low (N i : Nat) : N % zB ^ (i + 1) = N % zB ^ i + zB ^ i * zG N i := Nat.mod_pow_succ
theorem zG_big {N i u : Nat} (h : N < zB ^ u) (hi : u ≤ i) : zG N i = 0 := by
  have h1 : N < zB ^ i := Nat.lt_of_lt_of_le h (Nat.pow_le_pow_right zB_pos hi)
  unfold zG
  rw [Nat.div_eq_of_lt h1, Nat.zero_mod]
theorem zG_0 (i : Nat) : zG 0 i = 0 := by simp [zG]
theorem zG_small {v : Nat} (h : v < zB) : zG v 0 = v := by
  unfold zG
  rw [Nat.pow_zero, Nat.div_one, Nat.mod_eq_of_lt h]
/-- times a small number -/
theorem zm_step (N f i : Nat) : N % zB ^ (i + 1) * f / zB ^ i = zG N i * f + N % zB ^ i * f / zB ^ i := by
  rw [zG_low, Nat.add_mul, Nat.mul_assoc, Nat.add_mul_div_left _ _ (zB_pw i), Nat.add_comm]
theorem zm_carry (N f i : Nat) : N % zB ^ (i + 1) * f / zB ^ (i + 1) = (zG N i * f + N % zB ^ i * f / zB ^ i) / zB := by
  rw [← zm_step, Nat.div_div_eq_div_mul, ← Nat.pow_succ]
theorem zm_dig (N f i : Nat) : zG (N * f) i = (zG N i * f + N % zB ^ i * f / zB ^ i) % zB := by
  have h : N * f / zB ^ i = N / zB ^ i * f + N % zB ^ i * f / zB ^ i := by
    have h1 : N * f = N % zB ^ i * f + zB ^ i * (N / zB ^ i * f) := by
      rw [← Nat.mul_assoc, ← Nat.add_mul, Nat.mod_add_div]
    rw [h1, Nat.add_mul_div_left _ _ (zB_pw i), Nat.add_comm]
  unfold zG
  rw [h, md_mul]
/-- the carry of a product is small -/
theorem zm_lt {N f i : Nat} (hf : 0 < f) : N % zB ^ i * f / zB ^ i < f := by
  rw [Nat.div_lt_iff_lt_mul (zB_pw i), Nat.mul_comm f]
  exact Nat.mul_lt_mul_of_pos_right (Nat.mod_lt _ (zB_pw i)) hf
/-- sums -/
theorem za_step (N M i : Nat) : (N % zB ^ (i + 1) + M % zB ^ (i + 1)) / zB ^ i = zG N i + zG M i + (N % zB ^ i + M % zB ^ i) / zB ^ i := by
  have h : N % zB ^ (i + 1) + M % zB ^ (i + 1) = N % zB ^ i + M % zB ^ i + zB ^ i * (zG N i + zG M i) := by
    rw [zG_low, zG_low, Nat.mul_add]; omega
  rw [h, Nat.add_mul_div_left _ _ (zB_pw i), Nat.add_comm]
theorem za_carry (N M i : Nat) : (N % zB ^ (i + 1) + M % zB ^ (i + 1)) / zB ^ (i + 1) = (zG N i + zG M i + (N % zB ^ i + M % zB ^ i) / zB ^ i) / zB := by
  rw [← za_step, Nat.div_div_eq_div_mul, ← Nat.pow_succ]
theorem za_dig (N M i : Nat) : zG (N + M) i = (zG N i + zG M i + (N % zB ^ i + M % zB ^ i) / zB ^ i) % zB := by
  have h : (N + M) / zB ^ i = N / zB ^ i + M / zB ^ i + (N % zB ^ i + M % zB ^ i) / zB ^ i := by
    have h1 : N + M = N % zB ^ i + M % zB ^ i + zB ^ i * (N / zB ^ i + M / zB ^ i) := by
      have a := Nat.mod_add_div N (zB ^ i)
      have b := Nat.mod_add_div M (zB ^ i)
      rw [Nat.mul_add]; omega
    rw [h1, Nat.add_mul_div_left _ _ (zB_pw i), Nat.add_comm]
  unfold zG
  rw [h, md_add]
theorem za_lt (N M i : Nat) : (N % zB ^ i + M % zB ^ i) / zB ^ i < 2 := by
  rw [Nat.div_lt_iff_lt_mul (zB_pw i)]
  have a := Nat.mod_lt N (zB_pw i)
  have b := Nat.mod_lt M (zB_pw i)
  omega
/-- by a small number -/
theorem zd_rem {d : Nat} (N i : Nat) : N / zB ^ i % d = (N / zB ^ (i + 1) % d * zB + zG N i) % d := by
  rw [zG_step N i, md_mul]
theorem zd_dig {d : Nat} (hd : 0 < d) (N i : Nat) : zG (N / d) i = (N / zB ^ (i + 1) % d * zB + zG N i) / d := by
  have h1 : N / d / zB ^ i = N / zB ^ i / d := by rw [Nat.div_div_eq_div_mul, Nat.div_div_eq_div_mul, Nat.mul_comm]
  have h2 : N / zB ^ i = d * (N / zB ^ (i + 1) / d * zB) + (N / zB ^ (i + 1) % d * zB + zG N i) := by
    have h3 := Nat.div_add_mod (N / zB ^ (i + 1)) d
    rw [zG_step N i]
    conv => lhs; rw [← h3]
    rw [Nat.add_mul, Nat.mul_assoc]; omega
  have h4 : (N / zB ^ (i + 1) % d * zB + zG N i) / d < zB := by
    rw [Nat.div_lt_iff_lt_mul hd]
    have a := Nat.mod_lt (N / zB ^ (i + 1)) hd
    have b := zG_lt N i
    have c : (N / zB ^ (i + 1) % d + 1) * zB ≤ d * zB := Nat.mul_le_mul_right _ a
    rw [Nat.add_mul] at c
    rw [Nat.mul_comm zB]; omega
  show N / d / zB ^ i % zB = _
  rw [h1, h2, Nat.mul_add_div hd, Nat.mul_comm (N / zB ^ (i + 1) / d) zB, Nat.mul_add_mod]
  exact Nat.mod_eq_of_lt h4

theorem zB_10 (u : Nat) : zB ^ u = 10 ^ (6 * u) := by rw [Nat.pow_mul]; rfl
def rl_ (V : Nat → Nat) (j : Nat) : Nat := zG (V (j / 60)) (j % 60)
def rx_ (V : Nat → Nat) (s : Nat) (g : Nat → Nat) (j : Nat) : Nat := if j / 60 = s then g (j % 60) else zG (V (j / 60)) (j % 60)
theorem r6_d (s : Nat) {k : Nat} (hk : k < 60) : (60 * s + k) / 60 = s := by omega
theorem r6_m (s : Nat) {k : Nat} (hk : k < 60) : (60 * s + k) % 60 = k := by omega
theorem rl_at (V : Nat → Nat) (s : Nat) {k : Nat} (hk : k < 60) : rl_ V (60 * s + k) = zG (V s) k := by unfold rl_; rw [r6_d s hk, r6_m s hk]
theorem rx_in (V : Nat → Nat) (s : Nat) (g : Nat → Nat) {k : Nat} (hk : k < 60) : rx_ V s g (60 * s + k) = g k := by unfold rx_; rw [r6_d s hk, r6_m s hk, if_pos rfl]
theorem rx_out (V : Nat → Nat) {s t : Nat} (g : Nat → Nat) {k : Nat} (hk : k < 60) (h : t ≠ s) : rx_ V s g (60 * t + k) = zG (V t) k := by unfold rx_; rw [r6_d t hk, r6_m t hk, if_neg h]
theorem rx_0 (V : Nat → Nat) (s : Nat) {g : Nat → Nat} (h : ∀ k, k < 60 → g k = zG (V s) k) : (fun j => lN (rl_ V j)) = fun j => lN (rx_ V s g j) := by
  funext j
  unfold rl_ rx_
  by_cases q : j / 60 = s
  · rw [if_pos q, h _ (Nat.mod_lt _ (by decide)), q]
  · rw [if_neg q]
theorem rx_end (V : Nat → Nat) (s N : Nat) {g : Nat → Nat} (h : ∀ k, k < 60 → g k = zG N k) : (fun j => lN (rx_ V s g j)) = fun j => lN (rl_ (un_ V s N) j) := by
  funext j
  unfold rl_ rx_
  by_cases q : j / 60 = s
  · rw [if_pos q, q, un_s, h _ (Nat.mod_lt _ (by decide))]
  · rw [if_neg q, un_n q]
theorem rx_up (V : Nat → Nat) (s : Nat) {g g1 : Nat → Nat} {k x : Nat} (hk : k < 60) (h : ∀ i, g1 i = if i = k then x else g i) : vp_updL (fun j => lN (rx_ V s g j)) (60 * s + k) (lN x) = fun j => lN (rx_ V s g1 j) := by
  funext j
  unfold vp_updL
  by_cases q : j = 60 * s + k
  · subst q
    rw [if_pos rfl, rx_in V s g1 hk, h, if_pos rfl]
  · rw [if_neg q]
    show lN (rx_ V s g j) = _
    unfold rx_
    by_cases q2 : j / 60 = s
    · rw [if_pos q2, if_pos q2, h, if_neg (by omega)]
    · rw [if_neg q2, if_neg q2]
/-- times -/
def ym_ (N f i k : Nat) : Nat := if k < i then zG (N * f) k else zG N k
def yc_ (N f i : Nat) : Nat := N % zB ^ i * f / zB ^ i
theorem ym_i (N f i : Nat) : ym_ N f i i = zG N i := by simp [ym_]
theorem ym_s (N f i k : Nat) : ym_ N f (i + 1) k = if k = i then (zG N i * f + yc_ N f i) % zB else ym_ N f i k := by
  unfold ym_ yc_
  by_cases h : k = i
  · subst h; rw [if_pos (by omega), if_pos rfl, zm_dig]
  · rw [if_neg h]
    by_cases h2 : k < i
    · rw [if_pos h2, if_pos (by omega)]
    · rw [if_neg h2, if_neg (by omega)]
theorem yc_0 (N f : Nat) : yc_ N f 0 = 0 := by simp [yc_, Nat.mod_one]
theorem yc_s (N f i : Nat) : yc_ N f (i + 1) = (zG N i * f + yc_ N f i) / zB := zm_carry N f i
theorem yc_le {N f i : Nat} (hf : f ≤ 1000000) : yc_ N f i ≤ 1000000 := by
  rcases Nat.eq_zero_or_pos f with h | h
  · subst h; simp [yc_]
  · have := zm_lt (N := N) (i := i) h
    unfold yc_; omega
theorem yp_lt {N f i : Nat} (hf : f ≤ 1000000) : zG N i * f + yc_ N f i < 2 ^ 63 := by
  have h1 := yc_le (N := N) (i := i) hf
  have h2 := zG_lt N i
  have h3 : zG N i * f ≤ zB * 1000000 := Nat.mul_le_mul (Nat.le_of_lt h2) hf
  have h4 : zB * 1000000 = 1000000000000 := by decide
  omega
/-- sums -/
def ya_ (N M i k : Nat) : Nat := if k < i then zG (N + M) k else zG N k
def yb_ (N M i : Nat) : Nat := (N % zB ^ i + M % zB ^ i) / zB ^ i
theorem ya_i (N M i : Nat) : ya_ N M i i = zG N i := by simp [ya_]
theorem ya_s (N M i k : Nat) : ya_ N M (i + 1) k = if k = i then (zG N i + zG M i + yb_ N M i) % zB else ya_ N M i k := by
  unfold ya_ yb_
  by_cases h : k = i
  · subst h; rw [if_pos (by omega), if_pos rfl, za_dig]
  · rw [if_neg h]
    by_cases h2 : k < i
    · rw [if_pos h2, if_pos (by omega)]
    · rw [if_neg h2, if_neg (by omega)]
theorem yb_0 (N M : Nat) : yb_ N M 0 = 0 := by simp [yb_, Nat.mod_one]
theorem yb_s (N M i : Nat) : yb_ N M (i + 1) = (zG N i + zG M i + yb_ N M i) / zB := za_carry N M i
theorem yb_lt (N M i : Nat) : zG N i + zG M i + yb_ N M i < 2 ^ 63 := by
  have h0 : yb_ N M i < 2 := za_lt N M i
  have h1 := zG_lt N i
  have h2 := zG_lt M i
  have h3 : zB = 1000000 := rfl
  omega
/-- by a small number, from the top -/
def yd_ (N d i k : Nat) : Nat := if i ≤ k then zG (N / d) k else zG N k
def yl_ (N d i : Nat) : Nat := N / zB ^ i % d
theorem yd_i (N d i : Nat) : yd_ N d (i + 1) i = zG N i := by
  unfold yd_; rw [if_neg (by omega)]
theorem yd_s {d : Nat} (hd : 0 < d) (N i k : Nat) : yd_ N d i k = if k = i then (yl_ N d (i + 1) * zB + zG N i) / d else yd_ N d (i + 1) k := by
  unfold yd_ yl_
  by_cases h : k = i
  · subst h; rw [if_pos (by omega), if_pos rfl, zd_dig hd]
  · rw [if_neg h]
    by_cases h2 : i + 1 ≤ k
    · rw [if_pos h2, if_pos (by omega)]
    · rw [if_neg h2, if_neg (by omega)]
theorem yl_s (N d i : Nat) : yl_ N d i = (yl_ N d (i + 1) * zB + zG N i) % d := zd_rem N i
theorem yl_top {N d u : Nat} (h : N < zB ^ u) : yl_ N d u = 0 := by unfold yl_; rw [Nat.div_eq_of_lt h, Nat.zero_mod]
theorem yl_0 (N d : Nat) : yl_ N d 0 = N % d := by simp [yl_]
theorem yl_lt {N d i : Nat} (hd : 0 < d) : yl_ N d i < d := Nat.mod_lt _ hd
theorem yq_lt {N d i : Nat} (hd : 0 < d) (h : d ≤ 1000000) : yl_ N d (i + 1) * zB + zG N i < 2 ^ 63 := by
  have h1 := yl_lt (N := N) (i := i + 1) hd
  have h2 := zG_lt N i
  have h3 : yl_ N d (i + 1) * zB ≤ 1000000 * zB := Nat.mul_le_mul_right _ (by omega)
  have h4 : 1000000 * zB = 1000000000000 := by decide
  have h5 : zB = 1000000 := rfl
  omega
/-- compares -/
theorem zx_eq {N M k : Nat} (h : N / zB ^ (k + 1) = M / zB ^ (k + 1)) (g : zG N k = zG M k) : N / zB ^ k = M / zB ^ k := by
  rw [zG_step N k, zG_step M k, h, g]
theorem zx_gt {N M k : Nat} (h : N / zB ^ (k + 1) = M / zB ^ (k + 1)) (g : zG M k < zG N k) : M < N := by
  have a : M / zB ^ k < N / zB ^ k := by rw [zG_step N k, zG_step M k, h]; omega
  exact Nat.lt_of_div_lt_div a
/-- is it 0 -/
def yz_ (N k : Nat) : Nat := if N % zB ^ k = 0 then 1 else 0
theorem yz_0 (N : Nat) : yz_ N 0 = 1 := by simp [yz_, Nat.mod_one]
theorem yz_y {N k : Nat} (h : yz_ N k = 1) (g : zG N k = 0) : yz_ N (k + 1) = 1 := by
  unfold yz_ at h ⊢
  rw [zG_low, g, Nat.mul_zero, Nat.add_zero]; exact h
theorem yz_n {N k : Nat} (g : zG N k ≠ 0) : yz_ N (k + 1) = 0 := by
  unfold yz_
  rw [zG_low, if_neg]
  intro q
  have h1 : zB ^ k * zG N k = 0 := (Nat.add_eq_zero_iff.mp q).2
  rcases Nat.mul_eq_zero.mp h1 with h2 | h2
  · have := zB_pw k; omega
  · exact g h2
theorem yz_z {N k : Nat} (h : yz_ N k = 0) : yz_ N (k + 1) = 0 := by
  unfold yz_ at h ⊢
  rw [zG_low, if_neg]
  intro q
  have h1 : N % zB ^ k = 0 := (Nat.add_eq_zero_iff.mp q).1
  rw [if_pos h1] at h
  exact absurd h (by decide)
theorem yz_le (N k : Nat) : yz_ N k = 0 ∨ yz_ N k = 1 := by unfold yz_; split <;> simp
theorem yz_end {N : Nat} (h : N < zB ^ 60) : yz_ N 60 = if N = 0 then 1 else 0 := by unfold yz_; rw [Nat.mod_eq_of_lt h]
/-- the length, by the top group's -/
theorem dL_is6 {N : Nat} (h : N < zB ^ 60) : isD N (dL N) := (dLa_is 400 N (Nat.lt_of_lt_of_le h (by rw [zB_10]; exact Nat.pow_le_pow_right (by decide) (by decide)))).1
theorem dL_top6 {N u i : Nat} (hN : N < zB ^ 60) (a2 : N < zB ^ (u + 1)) (a3 : u = 0 ∨ zG N u ≠ 0) (h1 : 1 ≤ i) (h2 : zG N u < 10 ^ i) (h3 : i = 1 ∨ 10 ^ (i - 1) ≤ zG N u) : dL N = 6 * u + i := by
  refine isD_eq (dL_is6 hN) ?_
  have s := zG_step N u
  rw [Nat.div_eq_of_lt a2, Nat.zero_mul, Nat.zero_add] at s
  refine ⟨by omega, ?_, ?_⟩
  · rw [Nat.pow_add, ← zB_10, Nat.mul_comm, ← Nat.div_lt_iff_lt_mul (zB_pw _), s]
    exact h2
  · rcases h3 with h3 | h3
    · subst h3
      rcases a3 with a3 | a3
      · left; omega
      · right
        rw [Nat.add_sub_cancel, ← zB_10]
        rw [← s] at a3
        exact (Nat.div_pos_iff.mp (Nat.pos_of_ne_zero a3)).2
    · right
      have e2 : 6 * u + i - 1 = 6 * u + (i - 1) := by omega
      rw [e2, Nat.pow_add, ← zB_10, Nat.mul_comm, ← Nat.le_div_iff_mul_le (zB_pw _), s]
      exact h3
theorem zG_top {N k : Nat} (h : N < zB ^ (k + 1)) (g : zG N k = 0) : N < zB ^ k := by
  have s := zG_step N k
  rw [Nat.div_eq_of_lt h, g] at s
  exact (Nat.div_eq_zero_iff_lt (zB_pw _)).mp (by omega)
/-- a digit, by its group -/
theorem yg_10 (N q r : Nat) (hr : r < 6) : zG N q / 10 ^ r % 10 = N / 10 ^ (6 * q + r) % 10 := by
  unfold zG
  rw [Nat.pow_add, ← Nat.div_div_eq_div_mul, ← zB_10]
  generalize N / zB ^ q = X
  have e : zB = 10 ^ r * (10 * 10 ^ (5 - r)) := by
    rw [← Nat.mul_assoc, ← Nat.pow_succ, ← Nat.pow_add]
    have : r + 1 + (5 - r) = 6 := by omega
    rw [this]; rfl
  rw [e, Nat.mod_mul_right_div_self, Nat.mod_mul_right_mod]
/-- one number set: the first group v, the others 0 -/
def yv_ (N v i k : Nat) : Nat := if k < i then (if k = 0 then v else 0) else zG N k
theorem yv_s (N v i k : Nat) : yv_ N v (i + 1) k = if k = i then (if i = 0 then v else 0) else yv_ N v i k := by
  unfold yv_
  by_cases h : k = i
  · subst h; rw [if_pos (by omega), if_pos rfl]
  · rw [if_neg h]
    by_cases h2 : k < i
    · rw [if_pos h2, if_pos (by omega)]
    · rw [if_neg h2, if_neg (by omega)]
theorem yv_end {N v : Nat} (hv : v < zB) : ∀ k, k < 60 → yv_ N v 60 k = zG v k := fun k hk => by
  unfold yv_
  rw [if_pos hk]
  by_cases h : k = 0
  · subst h; rw [if_pos rfl, zG_small hv]
  · rw [if_neg h, zG_big (u := 1) (by rw [Nat.pow_one]; exact hv) (by omega)]
def yy_ (N M i k : Nat) : Nat := if k < i then zG M k else zG N k
theorem yy_s (N M i k : Nat) : yy_ N M (i + 1) k = if k = i then zG M i else yy_ N M i k := by
  unfold yy_
  by_cases h : k = i
  · subst h; rw [if_pos (by omega), if_pos rfl]
  · rw [if_neg h]
    by_cases h2 : k < i
    · rw [if_pos h2, if_pos (by omega)]
    · rw [if_neg h2, if_neg (by omega)]
