/-! for the walks of Whole's methods -/
def fl_ (g : Nat → Int64) (x : Int64) (i : Nat) : Nat → Int64 := fun j => if j < i then x else g j
theorem fl_0 (g : Nat → Int64) (x : Int64) : g = fl_ g x 0 := by funext j; simp [fl_]
theorem fl_up (g : Nat → Int64) (x : Int64) (i : Nat) : vp_updL (fl_ g x i) i x = fl_ g x (i + 1) := by
  funext j
  unfold vp_updL fl_
  by_cases h : j = i
  · rw [if_pos h, if_pos (by omega)]
  · rw [if_neg h]
    by_cases h2 : j < i
    · rw [if_pos h2, if_pos (by omega)]
    · rw [if_neg h2, if_neg (by omega)]
def fi_ (g : Nat → Int32) (x : Int32) (i : Nat) : Nat → Int32 := fun j => if j < i then x else g j
theorem fi_0 (g : Nat → Int32) (x : Int32) : g = fi_ g x 0 := by funext j; simp [fi_]
theorem fi_up (g : Nat → Int32) (x : Int32) (i : Nat) : upd (fi_ g x i) i x = fi_ g x (i + 1) := by
  funext j
  unfold upd fi_
  by_cases h : j = i
  · rw [if_pos h, if_pos (by omega)]
  · rw [if_neg h]
    by_cases h2 : j < i
    · rw [if_pos h2, if_pos (by omega)]
    · rw [if_neg h2, if_neg (by omega)]
theorem wG_hi {v j : Nat} (h : v < bB) (hj : j ≠ 0) : wG v j = 0 := wG_big (u := 1) (by rw [Nat.pow_one]; exact h) (by omega)
theorem bc_up {v : Nat} (h : v < bB) : vp_updL (fun _ => lN 0) 0 (lN v) = fun j => lN (wG v j) := by
  funext j
  unfold vp_updL
  by_cases hj : j = 0
  · rw [if_pos hj, hj, wG_small h]
  · rw [if_neg hj, wG_hi h hj]
theorem bB_16 : bB ≤ bB ^ 16 := by
  have := Nat.pow_le_pow_right bB_pos (show 1 ≤ 16 by decide)
  rw [Nat.pow_one] at this
  exact this
theorem wU_small {v : Nat} (h : v < bB) : wU v = 1 := wU_eq (Nat.lt_of_lt_of_le h bB_16) ⟨Nat.le_refl 1, by rw [Nat.pow_one]; exact h, Or.inl rfl⟩
theorem jw_max {a b : Nat} (ha : a < 2 ^ 31) (hb : b < 2 ^ 31) : (if nI a < nI b then nI b else nI a) = nI (max a b) := by
  by_cases h : a < b
  · rw [if_pos ((nI_ltI ha hb).mpr h), Nat.max_eq_right (Nat.le_of_lt h)]
  · rw [if_neg (fun q => h ((nI_ltI ha hb).mp q)), Nat.max_eq_left (by omega)]
theorem nI_p1 {k : Nat} (h : 1 ≤ k) : nI (k - 1) = nI k - 1 := by
  obtain ⟨z, rfl⟩ : ∃ z, k = z + 1 := ⟨k - 1, by omega⟩
  rw [nI_pred, Nat.add_sub_cancel]
theorem dg_k {N d k : Nat} (hd : 0 < d) : dg_ N d k k = (dl_ N d (k + 1) * bB + wG N k) / d := by
  unfold dg_ dl_
  rw [if_pos (Nat.le_refl k), wd_dig hd]
theorem dl_k {N d k : Nat} : dl_ N d (k + 1) * bB + wG N k - (dl_ N d (k + 1) * bB + wG N k) / d * d = dl_ N d k := by
  rw [sub_div_mul, dl_s N d k]
theorem ap_lt {N M i : Nat} : wG N i + wG M i + ac_ N M i < 2 ^ 63 := by
  have h1 := wG_lt N i
  have h2 := wG_lt M i
  have h3 := ac_lt N M i
  have h4 : bB = 1000000000000 := rfl
  omega
theorem ap_le {N M i : Nat} : ac_ N M (i + 1) * bB ≤ wG N i + wG M i + ac_ N M i := by
  rw [ac_s]
  exact Nat.div_mul_le_self _ _
