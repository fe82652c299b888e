/-! what a call's numbers must be -/
def gk_ (x y z : Int32) (u : Nat × Nat × Nat) : Prop := x = nI u.1 ∧ y = nI u.2.1 ∧ z = nI u.2.2 ∧ 1 ≤ u.1 ∧ u.1 ≤ 10000 ∧ 0 < u.2.1 ∧ u.2.1 < u.2.2 ∧ u.2.2 ≤ 1000
def ge_ (x y z : Int32) (u : Nat × Nat × Nat) : Prop := x = nI u.1 ∧ y = nI u.2.1 ∧ z = nI u.2.2 ∧ 1 ≤ u.1 ∧ u.1 ≤ 1000000 ∧ 1 ≤ u.2.1 ∧ u.2.1 ≤ 1000 ∧ 1 ≤ u.2.2 ∧ u.2.2 ≤ 10000
theorem rq_y {r : Int32} {P : Prop} (h : (r = nI 1 ∧ P) ∨ (r = nI 0 ∧ ¬ P)) (g : ¬ r = 0) : P := by
  rcases h with ⟨_, q⟩ | ⟨q, _⟩
  · exact q
  · exact absurd (by rw [q]; decide) g
theorem rq_n {r : Int32} {P : Prop} (h : (r = nI 1 ∧ P) ∨ (r = nI 0 ∧ ¬ P)) (g : r = 0) : ¬ P := by
  rcases h with ⟨q, _⟩ | ⟨_, q⟩
  · rw [q] at g; exact absurd g (by decide)
  · exact q
theorem wi_y {x : Int32} {k a b : Nat} (h : wi_ x a b) (e : x = nI k) (hk : k < 2 ^ 31) (hb : b < 2 ^ 31) : a ≤ k ∧ k ≤ b := by
  obtain ⟨j, h1, h2, rfl⟩ := h
  have := (nI_eq (by omega) hk).mp e
  omega
