/-! the reference's tests, its arrays -/
theorem il_le {x : Int32} {a : Nat} (ha : a < 2 ^ 31) : lN a ≤ x.toInt64 ↔ nI a ≤ x := by
  rw [← nI_l ha, Int64.le_iff_toInt_le, Int32.toInt_toInt64, Int32.toInt_toInt64, ← Int32.le_iff_toInt_le]
theorem il_ge {x : Int32} {a : Nat} (ha : a < 2 ^ 31) : x.toInt64 ≤ lN a ↔ x ≤ nI a := by
  rw [← nI_l ha, Int64.le_iff_toInt_le, Int32.toInt_toInt64, Int32.toInt_toInt64, ← Int32.le_iff_toInt_le]
theorem il_of {x : Int32} {a b : Nat} (ha : a < 2 ^ 31) (hb : b < 2 ^ 31) : (lN a ≤ x.toInt64 ∧ x.toInt64 ≤ lN b) ↔ wi_ x a b := by
  rw [il_le ha, il_ge hb, wi_of ha hb]
theorem il_hs {x : Int32} {n : Nat} (hn : n < 2 ^ 31) : (lN 0 ≤ x.toInt64 ∧ x.toInt64 ≤ lN n - lN 1) ↔ hs_ x n := by
  cases n with
  | zero =>
    refine ⟨fun q => ?_, fun q => ?_⟩
    · have h1 : lN 0 ≤ lN 0 - lN 1 := Int64.le_trans q.1 q.2
      exact absurd h1 (by decide)
    · obtain ⟨k, h, -⟩ := q
      exact absurd h (Nat.not_lt_zero _)
  | succ n =>
    rw [lN_sub (by omega), Nat.add_sub_cancel, il_of (by decide) (by omega)]
    exact ⟨fun ⟨k, _, h2, h3⟩ => ⟨k, by omega, h3⟩, fun ⟨k, h2, h3⟩ => ⟨k, Nat.zero_le _, by omega, h3⟩⟩
theorem il_wl {y : Int64} {b : Nat} (hb : b < 2 ^ 63) : (lN 0 ≤ y ∧ y ≤ lN b) ↔ wl_ y b := by
  rw [← wl_of hb, Int64.not_lt, Int64.not_lt]
theorem nw_of {x : Int32} {a b : Nat} (h : nI a ≤ x ∧ x ≤ nI b) (ha : a < 2 ^ 31) (hb : b < 2 ^ 31) : wi_ x a b := (wi_of ha hb).mp h
theorem un_un {f : Nat → Nat} {k v w : Nat} : un_ (un_ f k v) k w = un_ f k w := by
  funext j
  unfold un_
  by_cases h : j = k
  · rw [if_pos h, if_pos h]
  · rw [if_neg h, if_neg h, if_neg h]
/-- the taps of the reference: eight of a pipe -/
def t8_ (ow : Nat → Nat → Nat) (j : Nat) : Nat := ow (j / 8) (j % 8)
theorem t8_at (ow : Nat → Nat → Nat) (i : Nat) {k : Nat} (hk : k < 8) : t8_ ow (8 * i + k) = ow i k := by
  unfold t8_
  rw [show (8 * i + k) / 8 = i from by omega, show (8 * i + k) % 8 = k from by omega]
theorem t8_up (ow : Nat → Nat → Nat) (i : Nat) {k : Nat} (v : Nat) (hk : k < 8) : upd (fun j => nI (t8_ ow j)) (8 * i + k) (nI v) = fun j => nI (t8_ (u2_ ow i k v) j) := by
  rw [un_I]
  funext j
  refine congrArg nI ?_
  unfold un_ t8_ u2_
  by_cases h : j = 8 * i + k
  · rw [if_pos h, if_pos (by omega)]
  · rw [if_neg h, if_neg (by omega)]
/-- what the reference has kept of the counts -/
def kq_ (xa xb : Nat → Nat) (sA sB nk : Nat) (kn : Nat → Nat) : Prop := ∀ k, k < 8 → ∀ n, n ≤ 60 → kn (61 * k + n) = 0 ∨ (k < nk ∧ kn (61 * k + n) = cn_ xa xb sA sB k n + 1)
theorem kq_none (xa xb : Nat → Nat) (sA sB nk : Nat) : kq_ xa xb sA sB nk (fun _ => 0) := fun _ _ _ _ => Or.inl rfl
theorem kq_up {xa xb : Nat → Nat} {sA sB nk : Nat} {kn : Nat → Nat} (h : kq_ xa xb sA sB nk kn) {k n : Nat} (hk : k < nk) (hn : n ≤ 60) : kq_ xa xb sA sB nk (un_ kn (61 * k + n) (cn_ xa xb sA sB k n + 1)) := fun a ha b hb => by
  unfold un_
  by_cases q : 61 * a + b = 61 * k + n
  · rw [if_pos q]
    have e1 : a = k := by omega
    have e2 : b = n := by omega
    subst e1 e2
    exact Or.inr ⟨hk, rfl⟩
  · rw [if_neg q]; exact h a ha b hb
def kz_ (kn : Nat → Nat) (i k : Nat) : Nat := if k < i then 0 else kn k
theorem kz_s (kn : Nat → Nat) (i : Nat) : un_ (kz_ kn i) i 0 = kz_ kn (i + 1) := by
  funext k
  unfold un_ kz_
  by_cases h : k = i
  · rw [if_pos h, if_pos (by omega)]
  · rw [if_neg h]
    by_cases h2 : k < i
    · rw [if_pos h2, if_pos (by omega)]
    · rw [if_neg h2, if_neg (by omega)]
theorem m1_ {q : Nat} (h : 1 ≤ q) : nI q - 1 = nI (q - 1) := (nI_p1 h).symm
theorem in_N {a f b : Nat} (ha : a < 2 ^ 63) (hf : f < 2 ^ 63) (hb : b < 2 ^ 63) : (lN a ≤ lN f ∧ lN f ≤ lN b) ↔ (a ≤ f ∧ f ≤ b) := by
  rw [← Int64.not_lt, ← Int64.not_lt, pk_lLT hf ha, pk_lLT hb hf]
  omega
theorem in_H {f n : Nat} (hf : f < 2 ^ 31) (hn : n < 2 ^ 31) : (lN 0 ≤ lN f ∧ lN f ≤ lN n - lN 1) ↔ f < n := by
  rw [← nI_l hf, il_hs hn]
  exact ⟨fun ⟨k, h1, h2⟩ => by rw [(nI_eq hf (by omega)).mp h2]; exact h1, fun h => ⟨f, h, rfl⟩⟩
