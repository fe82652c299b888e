/-! ints of the script, updates of tables -/
def hs_ (x : Int32) (n : Nat) : Prop := ∃ k, k < n ∧ x = nI k
def wi_ (x : Int32) (a b : Nat) : Prop := ∃ k, a ≤ k ∧ k ≤ b ∧ x = nI k
theorem wi_of {x : Int32} {a b : Nat} (ha : a < 2 ^ 31) (hb : b < 2 ^ 31) : (nI a ≤ x ∧ x ≤ nI b) ↔ wi_ x a b := by
  constructor
  · rintro ⟨h1, h2⟩
    have h0 : ¬ x < 0 := fun q => by
      have := Int32.le_trans h1 (Int32.le_of_lt q)
      rw [← nI_0, nI_leI ha (by decide)] at this
      have e : a = 0 := by omega
      rw [e, nI_0] at h1
      exact absurd q (Int32.not_lt.mpr h1)
    obtain ⟨j, hj, rfl⟩ := nI_of h0
    exact ⟨j, (nI_leI ha hj).mp h1, (nI_leI hj hb).mp h2, rfl⟩
  · rintro ⟨k, h1, h2, rfl⟩
    exact ⟨(nI_leI ha (by omega)).mpr h1, (nI_leI (by omega) hb).mpr h2⟩
theorem hs_of {x : Int32} {n : Nat} (hn : n < 2 ^ 31) : (¬ x < 0 ∧ ¬ nI n ≤ x) ↔ hs_ x n := by
  constructor
  · rintro ⟨h1, h2⟩
    rcases pk_ix x hn with h | h | h
    · exact absurd h h1
    · exact absurd h h2
    · exact h
  · rintro ⟨k, h, rfl⟩
    exact ⟨nI_pos (by omega), nI_ge h hn⟩
def un_ (f : Nat → Nat) (k v : Nat) : Nat → Nat := fun j => if j = k then v else f j
theorem un_I (f : Nat → Nat) (k v : Nat) : upd (fun i => nI (f i)) k (nI v) = fun i => nI (un_ f k v i) := by
  funext j
  unfold upd un_
  by_cases h : j = k
  · rw [if_pos h, if_pos h]
  · rw [if_neg h, if_neg h]
theorem un_s {f : Nat → Nat} {k v : Nat} : un_ f k v k = v := if_pos rfl
theorem un_n {f : Nat → Nat} {k v j : Nat} (h : j ≠ k) : un_ f k v j = f j := if_neg h
/-- the cheapest of the first n entries that has the capacity: its number and one, 0 if there is none -/
def bs_ (cp pc : Nat → Nat) (f : Nat) : Nat → Nat
  | 0 => 0
  | n + 1 => if f ≤ cp n ∧ (bs_ cp pc f n = 0 ∨ pc n < pc (bs_ cp pc f n - 1)) then n + 1 else bs_ cp pc f n
theorem bs_le (cp pc : Nat → Nat) (f : Nat) : ∀ n, bs_ cp pc f n ≤ n
  | 0 => Nat.le_refl 0
  | n + 1 => by
    have := bs_le cp pc f n
    unfold bs_
    split <;> omega
theorem nI_m1 {b : Nat} (h : b < 2 ^ 31) : nI b - 1 = -1 ↔ b = 0 := by
  cases b with
  | zero => exact ⟨fun _ => rfl, fun _ => by decide⟩
  | succ b =>
    rw [nI_pred]
    constructor
    · intro q
      have h1 : nI b < 0 := by rw [q]; decide
      exact absurd h1 (nI_pos (by omega))
    · intro q; omega
