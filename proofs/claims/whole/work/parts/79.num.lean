/-! the reference: what is lost, which is the farthest -/
theorem lo_n {cp wd pr : Nat → Nat} {ne f g : Nat} (h : ¬ bs_ cp pr f ne = 0) : lo_ cp wd pr ne f g - 1 = g * f * f / (wd (bs_ cp pr f ne - 1) * wd (bs_ cp pr f ne - 1) * wd (bs_ cp pr f ne - 1)) ∧ ¬ lo_ cp wd pr ne f g = 0 := by
  unfold lo_
  rw [if_neg h]
  exact ⟨Nat.add_sub_cancel _ _, Nat.succ_ne_zero _⟩
theorem lo_z {cp wd pr : Nat → Nat} {ne f g : Nat} (h : bs_ cp pr f ne = 0) : lo_ cp wd pr ne f g = 0 := by
  unfold lo_
  rw [if_pos h]
theorem lr_n {x : Nat} (h : ¬ x = 0) : lr_ x = lN (x - 1) := by unfold lr_; rw [if_neg h]
theorem lr_z {x : Nat} (h : x = 0) : lr_ x = -1 := by unfold lr_; rw [if_pos h]
def pv_ (lo par : Nat → Nat) (P t v : Nat) : Prop := P = if pe_ lo par v v = 0 then 0 else t + pe_ lo par v v
theorem pv_0 {lo par : Nat → Nat} {np i : Nat} (hpar : ∀ i, i < np → par i ≤ i) (hnp : np ≤ 20) (hi : i < np) : pv_ lo par (pd_ lo par i) 0 (i + 1) := by
  unfold pv_ pd_
  rw [pe_fuel hpar 20 (i + 1) (by omega) (by omega)]
  split <;> omega
theorem pv_end {lo par : Nat → Nat} {P t : Nat} (h : pv_ lo par P t 0) : P = t + 1 := by
  unfold pv_ at h
  rw [pe_0, if_neg (by decide)] at h
  exact h
theorem pv_z {lo par : Nat → Nat} {P t w : Nat} (h : pv_ lo par P t (w + 1)) (hl : lo w = 0) : P = 0 := by
  unfold pv_ at h
  have e : pe_ lo par (w + 1) (w + 1) = 0 := by
    show (if w + 1 = 0 then 1 else if lo (w + 1 - 1) = 0 then 0 else _) = 0
    rw [if_neg (by omega), Nat.add_sub_cancel, if_pos hl]
  rw [e, if_pos rfl] at h
  exact h
theorem pv_s {lo par : Nat → Nat} {np P t w : Nat} (hpar : ∀ i, i < np → par i ≤ i) (hw : w < np) (h : pv_ lo par P t (w + 1)) (hl : ¬ lo w = 0) : pv_ lo par P (t + (lo w - 1)) (par w) := by
  have hp := hpar w hw
  unfold pv_ at h ⊢
  have e : pe_ lo par (w + 1) (w + 1) = if pe_ lo par (par w) (par w) = 0 then 0 else pe_ lo par (par w) (par w) + (lo w - 1) := by
    show (if w + 1 = 0 then 1 else if lo (w + 1 - 1) = 0 then 0 else if pe_ lo par w (par (w + 1 - 1)) = 0 then 0 else pe_ lo par w (par (w + 1 - 1)) + (lo (w + 1 - 1) - 1)) = _
    rw [if_neg (by omega), Nat.add_sub_cancel, if_neg hl, pe_fuel hpar w (par w) hp (by omega)]
  rw [e] at h
  by_cases q : pe_ lo par (par w) (par w) = 0
  · rw [if_pos q] at h ⊢
    rw [if_pos rfl] at h
    exact h
  · rw [if_neg q] at h ⊢
    rw [if_neg (by omega)] at h
    omega
def bm_ (d : Nat → Nat) (i : Nat) (bt : Int32) (mt : Int64) : Prop := (i = 0 ∧ bt = -1 ∧ mt = -1) ∨ (0 < i ∧ bt = nI (wo_ d i) ∧ mt = lN (d (wo_ d i) - 1))
theorem bm_y {d : Nat → Nat} {i : Nat} {bt : Int32} {mt : Int64} (h : bm_ d i bt mt) (hd : ∀ j, d j < 2 ^ 63) (hz : ∀ j, j < i → ¬ d j = 0) (hn : ¬ d i = 0) (c : ¬ lN (d i - 1) ≤ mt) : bm_ d (i + 1) (nI i) (lN (d i - 1)) := by
  rcases h with ⟨h1, -, -⟩ | ⟨h1, h2, h3⟩
  · subst h1
    have e : wo_ d 1 = 0 := by show (if d 0 < d 0 then 0 else 0) = 0; split <;> rfl
    exact Or.inr ⟨by omega, by rw [e], by rw [e]⟩
  · rw [h3] at c
    have c2 := Int64.not_le.mp c
    have hw := wo_lt d i h1
    have a1 := hd i
    have a2 := hd (wo_ d i)
    have a3 := hz (wo_ d i) hw
    rw [pk_lLT (by omega) (by omega)] at c2
    have e : wo_ d (i + 1) = i := by show (if d (wo_ d i) < d i then i else wo_ d i) = i; rw [if_pos (by omega)]
    exact Or.inr ⟨by omega, by rw [e], by rw [e]⟩
theorem bm_n {d : Nat → Nat} {i : Nat} {bt : Int32} {mt : Int64} (h : bm_ d i bt mt) (hd : ∀ j, d j < 2 ^ 63) (hz : ∀ j, j < i → ¬ d j = 0) (hn : ¬ d i = 0) (c : lN (d i - 1) ≤ mt) : bm_ d (i + 1) bt mt := by
  rcases h with ⟨h1, -, h3⟩ | ⟨h1, h2, h3⟩
  · rw [h3] at c
    have h0 : lN 0 ≤ lN (d i - 1) := Int64.not_lt.mp (fun q => absurd ((pk_lLT (by have := hd i; omega) (by decide)).mp q) (by omega))
    exact absurd (Int64.le_trans h0 c) (by decide)
  · have c1 := c
    rw [h3] at c1
    have hw := wo_lt d i h1
    have a1 := hd i
    have a2 := hd (wo_ d i)
    have a3 := hz (wo_ d i) hw
    have c2 : ¬ d (wo_ d i) < d i := fun q => absurd ((pk_lLT (a := d (wo_ d i) - 1) (b := d i - 1) (by omega) (by omega)).mpr (by omega)) (Int64.not_lt.mpr c1)
    have e : wo_ d (i + 1) = wo_ d i := by show (if d (wo_ d i) < d i then i else wo_ d i) = wo_ d i; rw [if_neg c2]
    exact Or.inr ⟨by omega, by rw [e]; exact h2, by rw [e]; exact h3⟩
theorem bm_le {d : Nat → Nat} {i : Nat} {bt : Int32} {mt : Int64} (h : bm_ d i bt mt) (hd : ∀ j, d j < 2 ^ 63) : (-1 : Int64) ≤ mt := by
  rcases h with ⟨-, -, h3⟩ | ⟨h1, h2, h3⟩
  · rw [h3]; exact Int64.le_refl _
  · have h0 : lN 0 ≤ mt := by rw [h3]; exact Int64.not_lt.mp (fun q => absurd ((pk_lLT (by have := hd (wo_ d i); omega) (by decide)).mp q) (by omega))
    exact Int64.le_trans (show (-1 : Int64) ≤ lN 0 by decide) h0
theorem pd_lt {lo par : Nat → Nat} (h : ∀ i, lo i ≤ 1000000000000000 + 1) (i : Nat) : pd_ lo par i < 2 ^ 63 := by
  have := pe_le (par := par) h 20 (i + 1)
  unfold pd_
  omega
