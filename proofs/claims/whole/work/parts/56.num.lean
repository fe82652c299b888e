/-! what hangs on what, how many taps a pipe carries -/
def hu_ (par : Nat → Nat) (on : Nat) : Nat → Nat → Bool
  | 0, _ => false
  | f + 1, v => if v ≤ on + 1 then v == on + 1 else hu_ par on f (par (v - 1))
theorem hu_low (par : Nat → Nat) (on : Nat) : ∀ f v, v ≤ on → hu_ par on f v = false
  | 0, _, _ => rfl
  | f + 1, v, h => by
    unfold hu_
    rw [if_pos (by omega)]
    simp
    omega
theorem hu_at (par : Nat → Nat) (on f : Nat) : hu_ par on (f + 1) (on + 1) = true := by
  unfold hu_
  rw [if_pos (by omega)]
  simp
theorem hu_up {par : Nat → Nat} {on f v : Nat} (h : on + 1 < v) : hu_ par on (f + 1) v = hu_ par on f (par (v - 1)) := by
  show (if v ≤ on + 1 then v == on + 1 else hu_ par on f (par (v - 1))) = _
  rw [if_neg (by omega)]
theorem hu_fuel {par : Nat → Nat} {np : Nat} (hpar : ∀ i, i < np → par i ≤ i) (on : Nat) : ∀ f v, v ≤ f → v ≤ np → hu_ par on f v = hu_ par on v v
  | 0, v, h, _ => by rw [Nat.le_zero.mp h]
  | f + 1, 0, _, _ => hu_low par on (f + 1) 0 (Nat.zero_le _)
  | f + 1, v + 1, h, hn => by
    by_cases q : v + 1 ≤ on + 1
    · show (if v + 1 ≤ on + 1 then v + 1 == on + 1 else _) = (if v + 1 ≤ on + 1 then v + 1 == on + 1 else _)
      rw [if_pos q, if_pos q]
    · have hp := hpar v (by omega)
      rw [hu_up (by omega), hu_up (by omega), Nat.add_sub_cancel, hu_fuel hpar on f (par v) (by omega) (by omega), hu_fuel hpar on v (par v) hp (by omega)]
def hg_ (par : Nat → Nat) (on j : Nat) : Bool := hu_ par on (j + 1) (j + 1)
theorem hg_self (par : Nat → Nat) (on : Nat) : hg_ par on on = true := hu_at par on on
theorem hg_low {par : Nat → Nat} {on j : Nat} (h : j < on) : hg_ par on j = false := hu_low par on _ _ h
theorem hg_up {par : Nat → Nat} {np on j : Nat} (hpar : ∀ i, i < np → par i ≤ i) (hj : j < np) (h : on < j) : hg_ par on j = (if par j = 0 then false else hg_ par on (par j - 1)) := by
  have hp := hpar j hj
  unfold hg_
  rw [hu_up (by omega), Nat.add_sub_cancel, hu_fuel hpar on j (par j) hp (by omega)]
  by_cases q : par j = 0
  · rw [if_pos q, q]; rfl
  · rw [if_neg q, show par j - 1 + 1 = par j from by omega]
theorem hg_0 {par : Nat → Nat} {np : Nat} (hpar : ∀ i, i < np → par i ≤ i) (hp1 : ∀ i, 0 < i → i < np → 1 ≤ par i) : ∀ j, j < np → hg_ par 0 j = true := by
  intro j
  induction j using Nat.strongRecOn with
  | ind j ih =>
    intro hj
    rcases Nat.eq_zero_or_pos j with h | h
    · subst h; exact hg_self par 0
    · have h1 := hpar j hj
      have h2 := hp1 j h hj
      rw [hg_up hpar hj h, if_neg (by omega)]
      exact ih (par j - 1) (by omega) (by omega)
/-- the taps of kind k at the first n pipes that hang on i (i itself too) -/
def cr_ (par : Nat → Nat) (ow : Nat → Nat → Nat) (i k : Nat) : Nat → Nat
  | 0 => 0
  | n + 1 => cr_ par ow i k n + (if hg_ par i n = true then ow n k else 0)
def tt_ (ow : Nat → Nat → Nat) (k : Nat) : Nat → Nat
  | 0 => 0
  | n + 1 => tt_ ow k n + ow n k
theorem cr_le (par : Nat → Nat) (ow : Nat → Nat → Nat) (i k : Nat) : ∀ n, cr_ par ow i k n ≤ tt_ ow k n
  | 0 => Nat.le_refl 0
  | n + 1 => by
    have := cr_le par ow i k n
    show cr_ par ow i k n + _ ≤ tt_ ow k n + _
    split <;> omega
theorem cr_0 {par : Nat → Nat} {np : Nat} (hpar : ∀ i, i < np → par i ≤ i) (hp1 : ∀ i, 0 < i → i < np → 1 ≤ par i) (ow : Nat → Nat → Nat) (k : Nat) : ∀ n, n ≤ np → cr_ par ow 0 k n = tt_ ow k n
  | 0, _ => rfl
  | n + 1, h => by
    show cr_ par ow 0 k n + _ = tt_ ow k n + _
    rw [cr_0 hpar hp1 ow k n (by omega), hg_0 hpar hp1 n (by omega), if_pos rfl]
theorem tt_ge (ow : Nat → Nat → Nat) (k i : Nat) : ∀ n, i < n → ow i k ≤ tt_ ow k n
  | 0, h => absurd h (Nat.not_lt_zero _)
  | n + 1, h => by
    show _ ≤ tt_ ow k n + ow n k
    by_cases q : i = n
    · subst q; omega
    · have := tt_ge ow k i n (by omega)
      omega
theorem cr_ge (par : Nat → Nat) (ow : Nat → Nat → Nat) (i k j : Nat) (hj : hg_ par i j = true) : ∀ n, j < n → ow j k ≤ cr_ par ow i k n
  | 0, h => absurd h (Nat.not_lt_zero _)
  | n + 1, h => by
    show _ ≤ cr_ par ow i k n + _
    by_cases q : j = n
    · subst q; rw [if_pos hj]; omega
    · have := cr_ge par ow i k j hj n (by omega)
      omega
def u2_ (ow : Nat → Nat → Nat) (i k v : Nat) : Nat → Nat → Nat := fun a b => if a = i ∧ b = k then v else ow a b
theorem u2_I (ow : Nat → Nat → Nat) (i k v : Nat) : gs_up (fun a b => nI (ow a b)) i k (nI v) = fun a b => nI (u2_ ow i k v a b) := by
  funext a b
  unfold gs_up u2_
  by_cases h : a = i
  · by_cases h2 : b = k
    · simp [h, h2, upd]
    · simp [h, h2, upd]
  · simp [h]
theorem u2_s {ow : Nat → Nat → Nat} {i k v : Nat} : u2_ ow i k v i k = v := if_pos ⟨rfl, rfl⟩
theorem u2_n {ow : Nat → Nat → Nat} {i k v a b : Nat} (h : ¬ (a = i ∧ b = k)) : u2_ ow i k v a b = ow a b := if_neg h
theorem cr_u2 {par : Nat → Nat} {ow : Nat → Nat → Nat} {pi k v : Nat} (i b : Nat) : ∀ n, cr_ par (u2_ ow pi k v) i b n + (if b = k ∧ hg_ par i pi = true ∧ pi < n then ow pi k else 0) = cr_ par ow i b n + (if b = k ∧ hg_ par i pi = true ∧ pi < n then v else 0)
  | 0 => by simp [cr_]
  | n + 1 => by
    have h := cr_u2 (par := par) (ow := ow) (pi := pi) (k := k) (v := v) i b n
    show cr_ par (u2_ ow pi k v) i b n + (if hg_ par i n = true then u2_ ow pi k v n b else 0) + _ = cr_ par ow i b n + (if hg_ par i n = true then ow n b else 0) + _
    by_cases hb : b = k
    · subst hb
      by_cases hp : pi = n
      · subst hp
        rw [u2_s]
        by_cases hh : hg_ par i pi = true
        · simp [hh] at h ⊢
          omega
        · simp [hh] at h ⊢
          omega
      · rw [u2_n (fun q => hp q.1.symm)]
        by_cases hh : hg_ par i pi = true
        · by_cases hl : pi < n
          · simp only [hh, hl, show pi < n + 1 from by omega, and_self, if_true] at h ⊢
            omega
          · simp only [hh, hl, show ¬ pi < n + 1 from by omega, and_false, if_false] at h ⊢
            omega
        · simp only [hh, Bool.false_eq_true, false_and, and_false, if_false] at h ⊢
          omega
    · rw [u2_n (fun q => hb q.2)]
      simp only [hb, false_and, if_false] at h ⊢
      omega
/-- the change of the carried taps, in one -/
theorem cg_hu {par : Nat → Nat} {np : Nat} (hpar : ∀ i, i < np → par i ≤ i) (k : Nat) (x : Int32) : ∀ (f v : Nat) (M : Nat → Nat → Int32), v ≤ np → ∀ i b, cg_ par k x f v M i b = if b = k ∧ hu_ par i f v = true then M i b + x else M i b
  | 0, v, M, _, i, b => by simp [cg_, hu_]
  | f + 1, 0, M, _, i, b => by rw [hu_low par i _ 0 (Nat.zero_le _)]; simp [cg_]
  | f + 1, z + 1, M, hv, i, b => by
    have hp := hpar z (by omega)
    show (if z + 1 = 0 then M else cg_ par k x f (par (z + 1 - 1)) (gs_up M (z + 1 - 1) k (M (z + 1 - 1) k + x))) i b = _
    rw [if_neg (by omega), Nat.add_sub_cancel, cg_hu hpar k x f (par z) _ (by omega) i b]
    have hM : gs_up M z k (M z k + x) i b = if i = z ∧ b = k then M z k + x else M i b := by
      unfold gs_up
      by_cases h : i = z
      · by_cases h2 : b = k
        · simp [h, h2, upd]
        · simp [h, h2, upd]
      · simp [h]
    rw [hM]
    by_cases hb : b = k
    · subst hb
      rcases Nat.lt_trichotomy i z with h | h | h
      · rw [hu_up (show i + 1 < z + 1 by omega), Nat.add_sub_cancel, if_neg (show ¬ (i = z ∧ b = b) by omega)]
      · subst h
        rw [hu_low par i f (par i) hp, hu_at]
        simp
      · rw [hu_low par i f (par z) (by omega), hu_low par i (f + 1) (z + 1) (by omega), if_neg (show ¬ (i = z ∧ b = b) by omega)]
    · simp [hb]
theorem cg_cr {par : Nat → Nat} {np : Nat} (hpar : ∀ i, i < np → par i ≤ i) (hnp : np ≤ 20) {pi k n v : Nat} {x : Int32} (hpi : pi < np) (ow : Nat → Nat → Nat) (hx : ∀ c, ow pi k ≤ c → nI c + x = nI (c + v - ow pi k)) : cg_ par k x 20 (pi + 1) (fun i b => nI (cr_ par ow i b np)) = fun i b => nI (cr_ par (u2_ ow pi k v) i b np) := by
  funext i b
  rw [cg_hu hpar k x 20 (pi + 1) _ (by omega) i b, hu_fuel hpar i 20 (pi + 1) (by omega) (by omega)]
  have h := cr_u2 (par := par) (ow := ow) (pi := pi) (k := k) (v := v) i b np
  by_cases q : b = k ∧ hg_ par i pi = true
  · rw [if_pos (show b = k ∧ hu_ par i (pi + 1) (pi + 1) = true from q)]
    rw [if_pos ⟨q.1, q.2, hpi⟩, if_pos ⟨q.1, q.2, hpi⟩] at h
    have g := cr_ge par ow i k pi q.2 np hpi
    rw [q.1] at h ⊢
    rw [hx _ g]
    congr 1
    omega
  · rw [if_neg (show ¬ (b = k ∧ hu_ par i (pi + 1) (pi + 1) = true) from q)]
    rw [if_neg (fun z => q ⟨z.1, z.2.1⟩), if_neg (fun z => q ⟨z.1, z.2.1⟩)] at h
    congr 1
    omega
theorem nI_neg {c n : Nat} (h : n ≤ c) : nI c + -(nI n) = nI (c - n) := by
  rw [← Int32.sub_eq_add_neg]
  exact pk_sub h
theorem oN_le (x y n a b : Nat) : ∀ k, oN x y n a b k ≤ k
  | 0 => Nat.le_refl 0
  | k + 1 => by
    have := oN_le x y n a b k
    unfold oN
    split <;> omega
theorem oCount_le (x y n a b : Nat) : oCount x y n a b ≤ n := oN_le x y n a b n
