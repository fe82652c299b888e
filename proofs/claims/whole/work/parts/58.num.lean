/-! the numbers at rest in Odds; what is kept of the counts; flows, sizes, losses -/
abbrev oz : Type := Nat × Nat × Nat × Int32 × Int32 × Int32 × Int32
def cn_ (ka kb : Nat → Nat) (sA sB k n : Nat) : Nat := oCount (ka k) (kb k - ka k) n sA sB
theorem cn_le (ka kb : Nat → Nat) (sA sB k n : Nat) : cn_ ka kb sA sB k n ≤ n := oCount_le _ _ _ _ _
def ck_ (ka kb : Nat → Nat) (sA sB nk : Nat) (Mk : Nat → Nat → Int32) : Prop := ∀ k, k < 8 → ∀ n, n ≤ 60 → Mk k n = -1 ∨ (k < nk ∧ Mk k n = nI (cn_ ka kb sA sB k n))
theorem ck_none (ka kb : Nat → Nat) (sA sB nk : Nat) : ck_ ka kb sA sB nk (fun _ _ => -1) := fun _ _ _ _ => Or.inl rfl
theorem gs_upA (M : Nat → Nat → Int32) (i j : Nat) (x : Int32) (a b : Nat) : gs_up M i j x a b = if a = i ∧ b = j then x else M a b := by
  unfold gs_up
  by_cases h : a = i
  · by_cases h2 : b = j
    · simp [h, h2, upd]
    · simp [h, h2, upd]
  · simp [h]
theorem ck_up {ka kb : Nat → Nat} {sA sB nk : Nat} {Mk : Nat → Nat → Int32} (h : ck_ ka kb sA sB nk Mk) {k n : Nat} (hk : k < nk) : ck_ ka kb sA sB nk (gs_up Mk k n (nI (cn_ ka kb sA sB k n))) := fun a ha b hb => by
  rw [gs_upA]
  by_cases q : a = k ∧ b = n
  · rw [if_pos q, q.1, q.2]; exact Or.inr ⟨hk, rfl⟩
  · rw [if_neg q]; exact h a ha b hb
def kv_ (nk : Nat) (kf ka kb : Nat → Nat) : Prop := ∀ i, i < nk → 0 < ka i ∧ ka i < kb i ∧ kb i ≤ 1000 ∧ kf i ≤ 10000
def fw_ (kf ka kb : Nat → Nat) (sA sB : Nat) (ca : Nat → Nat) : Nat → Nat
  | 0 => 0
  | k + 1 => fw_ kf ka kb sA sB ca k + cn_ ka kb sA sB k (ca k) * kf k
theorem fw_le {nk : Nat} {kf ka kb : Nat → Nat} (hv : kv_ nk kf ka kb) (sA sB : Nat) {ca : Nat → Nat} (hc : ∀ k, ca k ≤ 60) : ∀ k, k ≤ nk → fw_ kf ka kb sA sB ca k ≤ 600000 * k
  | 0, _ => Nat.le_refl _
  | k + 1, h => by
    have h1 := fw_le hv sA sB hc k (by omega)
    have h2 : cn_ ka kb sA sB k (ca k) * kf k ≤ 60 * 10000 := Nat.mul_le_mul (Nat.le_trans (cn_le _ _ _ _ _ _) (hc k)) (hv k (by omega)).2.2.2
    show fw_ kf ka kb sA sB ca k + _ ≤ _
    omega
theorem bs_cap (cp pc : Nat → Nat) (f : Nat) : ∀ n, bs_ cp pc f n ≠ 0 → f ≤ cp (bs_ cp pc f n - 1)
  | 0, h => absurd rfl h
  | n + 1, h => by
    have ih := bs_cap cp pc f n
    unfold bs_ at h ⊢
    by_cases q : f ≤ cp n ∧ (bs_ cp pc f n = 0 ∨ pc n < pc (bs_ cp pc f n - 1))
    · rw [if_pos q]; exact q.1
    · rw [if_neg q] at h ⊢; exact ih h
def lv_ok (ne : Nat) (cp wd pr : Nat → Nat) : Prop := (∀ i, cp i ≤ 1000000) ∧ (∀ i, pr i ≤ 10000) ∧ (∀ i, i < ne → 1 ≤ wd i ∧ wd i ≤ 1000)
/-- what a pipe takes of the pressure, with one more; 0 without a size -/
def lo_ (cp wd pr : Nat → Nat) (ne f g : Nat) : Nat := if bs_ cp pr f ne = 0 then 0 else g * f * f / (wd (bs_ cp pr f ne - 1) * wd (bs_ cp pr f ne - 1) * wd (bs_ cp pr f ne - 1)) + 1
def lr_ (x : Nat) : Int64 := if x = 0 then -1 else lN (x - 1)
theorem lo_le {cp wd pr : Nat → Nat} {ne f g : Nat} (h : lv_ok ne cp wd pr) (hg : g ≤ 1000) : lo_ cp wd pr ne f g ≤ 1000000000000000 + 1 := by
  unfold lo_
  by_cases q : bs_ cp pr f ne = 0
  · rw [if_pos q]; omega
  · rw [if_neg q]
    have h1 := Nat.le_trans (bs_cap cp pr f ne q) (h.1 _)
    have h2 : g * f * f ≤ 1000 * 1000000 * 1000000 := Nat.mul_le_mul (Nat.mul_le_mul hg h1) h1
    have h3 := Nat.div_le_self (g * f * f) (wd (bs_ cp pr f ne - 1) * wd (bs_ cp pr f ne - 1) * wd (bs_ cp pr f ne - 1))
    omega
