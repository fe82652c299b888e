/-! class and reference: the same counts, the same lowest terms; what holds between two calls -/
theorem oS_g (g x y : Nat) : ∀ n k : Nat, oS (g * x) (g * y) n k = g ^ n * oS x y n k
  | 0, 0 => rfl
  | 0, k + 1 => by show 0 = _ * 0; rw [Nat.mul_zero]
  | n + 1, 0 => by
    show (g * x + g * y) * oS (g * x) (g * y) n 0 = g ^ (n + 1) * ((x + y) * oS x y n 0)
    rw [oS_g g x y n 0, Nat.pow_succ, ← Nat.mul_add]
    generalize g ^ n = u
    generalize oS x y n 0 = v
    grind
  | n + 1, k + 1 => by
    show g * x * oS (g * x) (g * y) n k + g * y * oS (g * x) (g * y) n (k + 1) = g ^ (n + 1) * (x * oS x y n k + y * oS x y n (k + 1))
    rw [oS_g g x y n k, oS_g g x y n (k + 1), Nat.pow_succ]
    generalize g ^ n = u
    generalize oS x y n k = v
    generalize oS x y n (k + 1) = w
    grind
theorem oJ_g (g x y : Nat) {n k : Nat} (h : k ≤ n) : oJ (g * x) (g * y) n k = g ^ n * oJ x y n k := by
  have h1 := oS_J (g * x) (g * y) n k h
  rw [oS_g, oS_g, oS_J x y n k h, Nat.mul_add] at h1
  omega
theorem oN_g {g : Nat} (hg : 0 < g) (x y n a b : Nat) : ∀ k, oN (g * x) (g * y) n a b k = oN x y n a b k
  | 0 => rfl
  | k + 1 => by
    show (if a * (g * x + g * y) ^ n < oS (g * x) (g * y) n (k + 1) * b then k + 1 else oN (g * x) (g * y) n a b k) = (if a * (x + y) ^ n < oS x y n (k + 1) * b then k + 1 else oN x y n a b k)
    rw [oN_g hg x y n a b k, oS_g, ← Nat.mul_add, Nat.mul_pow]
    have e : a * (g ^ n * (x + y) ^ n) < g ^ n * oS x y n (k + 1) * b ↔ a * (x + y) ^ n < oS x y n (k + 1) * b := by
      rw [Nat.mul_left_comm, Nat.mul_assoc]
      exact Nat.mul_lt_mul_left (Nat.pow_pos hg)
    by_cases q : a * (x + y) ^ n < oS x y n (k + 1) * b
    · rw [if_pos q, if_pos (e.mpr q)]
    · rw [if_neg q, if_neg (fun z => q (e.mp z))]
def kg_ (nk : Nat) (ka kb xa xb : Nat → Nat) : Prop := ∀ i, i < nk → ∃ g, 0 < g ∧ xa i = g * ka i ∧ xb i = g * kb i
theorem cn_g {nk : Nat} {ka kb xa xb : Nat → Nat} (h : kg_ nk ka kb xa xb) {k : Nat} (hk : k < nk) (sA sB n : Nat) : cn_ ka kb sA sB k n = cn_ xa xb sA sB k n := by
  obtain ⟨g, g0, e1, e2⟩ := h k hk
  unfold cn_ oCount
  rw [e1, e2, ← Nat.mul_sub, oN_g g0]
theorem fw_g {nk : Nat} {ka kb xa xb : Nat → Nat} (h : kg_ nk ka kb xa xb) (kf : Nat → Nat) (sA sB : Nat) (ca : Nat → Nat) : ∀ k, k ≤ nk → fw_ kf ka kb sA sB ca k = fw_ kf xa xb sA sB ca k
  | 0, _ => rfl
  | k + 1, hk => by
    show fw_ kf ka kb sA sB ca k + cn_ ka kb sA sB k (ca k) * kf k = fw_ kf xa xb sA sB ca k + cn_ xa xb sA sB k (ca k) * kf k
    rw [fw_g h kf sA sB ca k (by omega), cn_g h (by omega)]
theorem pu_g {c : Nat} (hc : 0 < c) (V B : Nat) : pu_ (c * V) (c * B) = pu_ V B ∧ pl_ (c * V) (c * B) = pl_ V B := by
  unfold pu_ pl_
  rw [Nat.gcd_mul_left, Nat.mul_div_mul_left _ _ hc, Nat.mul_div_mul_left _ _ hc]
  exact ⟨rfl, rfl⟩
theorem wv_g {nk : Nat} {ka kb xa xb : Nat → Nat} (h : kg_ nk ka kb xa xb) {k : Nat} (hk : k < nk) {n j : Nat} (hj : j ≤ n) (bz : Int32) : pu_ (wv_ xa xb k n j bz) (xb k ^ n) = pu_ (wv_ ka kb k n j bz) (kb k ^ n) ∧ pl_ (wv_ xa xb k n j bz) (xb k ^ n) = pl_ (wv_ ka kb k n j bz) (kb k ^ n) := by
  obtain ⟨g, g0, e1, e2⟩ := h k hk
  have e3 : wv_ xa xb k n j bz = g ^ n * wv_ ka kb k n j bz := by
    unfold wv_
    rw [e1, e2, ← Nat.mul_sub]
    split
    · exact oJ_g g _ _ hj
    · exact oS_g g _ _ _ _
  rw [e3, e2, Nat.mul_pow]
  exact pu_g (Nat.pow_pos g0) _ _
theorem cn_un {ka kb : Nat → Nat} {sA sB k n m v w : Nat} (h : k ≠ m) : cn_ (un_ ka m v) (un_ kb m w) sA sB k n = cn_ ka kb sA sB k n := by
  unfold cn_
  rw [un_n h, un_n h]
theorem ck_un {ka kb : Nat → Nat} {sA sB nk v w : Nat} {Mk : Nat → Nat → Int32} (h : ck_ ka kb sA sB nk Mk) : ck_ (un_ ka nk v) (un_ kb nk w) sA sB (nk + 1) Mk := fun k hk n hn => by
  rcases h k hk n hn with q | ⟨q1, q2⟩
  · exact Or.inl q
  · exact Or.inr ⟨by omega, by rw [cn_un (by omega)]; exact q2⟩
theorem kq_un {ka kb : Nat → Nat} {sA sB nk v w : Nat} {kn : Nat → Nat} (h : kq_ ka kb sA sB nk kn) : kq_ (un_ ka nk v) (un_ kb nk w) sA sB (nk + 1) kn := fun k hk n hn => by
  rcases h k hk n hn with q | ⟨q1, q2⟩
  · exact Or.inl q
  · exact Or.inr ⟨by omega, by rw [cn_un (by omega)]; exact q2⟩
theorem kv_un {nk : Nat} {kf ka kb : Nat → Nat} {f a b : Nat} (h : kv_ nk kf ka kb) (h1 : 0 < a) (h2 : a < b) (h3 : b ≤ 1000) (h4 : f ≤ 10000) : kv_ (nk + 1) (un_ kf nk f) (un_ ka nk a) (un_ kb nk b) := fun i hi => by
  by_cases e : i = nk
  · subst e; rw [un_s, un_s, un_s]; exact ⟨h1, h2, h3, h4⟩
  · rw [un_n e, un_n e, un_n e]; exact h i (by omega)
theorem gd_lt {a b : Nat} (h1 : 0 < a) (h2 : a < b) : 0 < a / Nat.gcd a b ∧ a / Nat.gcd a b < b / Nat.gcd a b ∧ b / Nat.gcd a b ≤ b ∧ a = Nat.gcd a b * (a / Nat.gcd a b) ∧ b = Nat.gcd a b * (b / Nat.gcd a b) := by
  have g0 : 0 < Nat.gcd a b := Nat.gcd_pos_of_pos_left _ h1
  have ea : Nat.gcd a b * (a / Nat.gcd a b) = a := Nat.mul_div_cancel' (Nat.gcd_dvd_left a b)
  have eb : Nat.gcd a b * (b / Nat.gcd a b) = b := Nat.mul_div_cancel' (Nat.gcd_dvd_right a b)
  refine ⟨Nat.div_pos (Nat.le_of_dvd h1 (Nat.gcd_dvd_left a b)) g0, ?_, Nat.div_le_self _ _, ea.symm, eb.symm⟩
  apply Nat.lt_of_mul_lt_mul_left (a := Nat.gcd a b)
  rw [ea, eb]; exact h2
def iv_ (nk : Nat) (kf ka kb xa xb : Nat → Nat) (np : Nat) (par ln : Nat → Nat) (ow : Nat → Nat → Nat) (sA sB ne : Nat) (cp wd pr : Nat → Nat) (Mk : Nat → Nat → Int32) (wr NU NL : Nat) (V kn : Nat → Nat) : Prop :=
  (nk ≤ 8 ∧ kv_ nk kf ka kb ∧ kv_ nk kf xa xb ∧ kg_ nk ka kb xa xb) ∧ (np ≤ 20 ∧ (∀ i, i < np → par i ≤ i) ∧ (∀ i, 0 < i → i < np → 1 ≤ par i) ∧ (∀ i, ln i ≤ 1000)) ∧ ((∀ k, tt_ ow k np ≤ 60) ∧ (∀ i k, np ≤ i → ow i k = 0)) ∧
  (sA ≤ 1000000 ∧ 0 < sB ∧ sB ≤ 1000000) ∧ (ne ≤ 20 ∧ lv_ok ne cp wd pr) ∧ ck_ ka kb sA sB nk Mk ∧ kq_ xa xb sA sB nk kn ∧ (wr ≤ 1 ∧ NU < bB ^ 16 ∧ NL < bB ^ 16 ∧ V 5 = NU ∧ V 6 = NL)
section IV
variable {nk : Nat} {kf ka kb xa xb : Nat → Nat} {np : Nat} {par ln : Nat → Nat} {ow : Nat → Nat → Nat} {sA sB ne : Nat} {cp wd pr : Nat → Nat} {Mk : Nat → Nat → Int32} {wr NU NL : Nat} {V kn : Nat → Nat}
theorem iv_kind (h : iv_ nk kf ka kb xa xb np par ln ow sA sB ne cp wd pr Mk wr NU NL V kn) {f a b : Nat} (hn : nk < 8) (hf : f ≤ 10000) (h1 : 0 < a) (h2 : a < b) (h3 : b ≤ 1000) : iv_ (nk + 1) (un_ kf nk f) (un_ ka nk (a / Nat.gcd a b)) (un_ kb nk (b / Nat.gcd a b)) (un_ xa nk a) (un_ xb nk b) np par ln ow sA sB ne cp wd pr Mk wr NU NL V kn := by
  obtain ⟨⟨a1, a2, a3, a4⟩, b1, c1, d1, e1, f1, g1, w1⟩ := h
  obtain ⟨q1, q2, q3, q4, q5⟩ := gd_lt h1 h2
  refine ⟨⟨by omega, kv_un a2 q1 q2 (by omega) hf, kv_un a3 h1 h2 h3 hf, fun i hi => ?_⟩, b1, c1, d1, e1, ck_un f1, kq_un g1, w1⟩
  by_cases e : i = nk
  · subst e; rw [un_s, un_s, un_s, un_s]; exact ⟨Nat.gcd a b, Nat.gcd_pos_of_pos_left _ h1, q4, q5⟩
  · rw [un_n e, un_n e, un_n e, un_n e]; exact a4 i (by omega)
theorem iv_pipe (h : iv_ nk kf ka kb xa xb np par ln ow sA sB ne cp wd pr Mk wr NU NL V kn) {q g : Nat} (hn : np < 20) (h0 : np = 0 → q = 0) (h1 : ¬ np = 0 → 1 ≤ q ∧ q ≤ np) (hg : g ≤ 1000) : iv_ nk kf ka kb xa xb (np + 1) (un_ par np q) (un_ ln np g) ow sA sB ne cp wd pr Mk wr NU NL V kn := by
  obtain ⟨a1, ⟨b1, b2, b3, b4⟩, ⟨c1, c2⟩, d1, e1, f1, g1, w1⟩ := h
  refine ⟨a1, ⟨by omega, fun i hi => ?_, fun i hi hj => ?_, fun i => ?_⟩, ⟨fun k => ?_, fun i k hi => c2 i k (by omega)⟩, d1, e1, f1, g1, w1⟩
  · by_cases e : i = np
    · subst e; rw [un_s]; rcases Nat.eq_zero_or_pos i with z | z
      · rw [h0 z]; omega
      · exact (h1 (by omega)).2
    · rw [un_n e]; exact b2 i (by omega)
  · by_cases e : i = np
    · subst e; rw [un_s]; exact (h1 (by omega)).1
    · rw [un_n e]; exact b3 i hi (by omega)
  · by_cases e : i = np
    · subst e; rw [un_s]; exact hg
    · rw [un_n e]; exact b4 i
  · show tt_ ow k np + ow np k ≤ 60
    rw [c2 np k (Nat.le_refl _)]; exact c1 k
theorem tt_u2 {pi k v : Nat} (b : Nat) : ∀ n, tt_ (u2_ ow pi k v) b n + (if b = k ∧ pi < n then ow pi k else 0) = tt_ ow b n + (if b = k ∧ pi < n then v else 0)
  | 0 => by rw [if_neg (by omega), if_neg (by omega)]; rfl
  | n + 1 => by
    have ih := tt_u2 (pi := pi) (k := k) (v := v) b n
    show tt_ (u2_ ow pi k v) b n + u2_ ow pi k v n b + _ = tt_ ow b n + ow n b + _
    by_cases e : n = pi ∧ b = k
    · obtain ⟨e1, e2⟩ := e
      subst e1; subst e2
      rw [if_neg (by omega), if_neg (by omega)] at ih
      rw [if_pos ⟨rfl, by omega⟩, if_pos ⟨rfl, by omega⟩, u2_s]
      omega
    · rw [u2_n e]
      by_cases z : b = k ∧ pi < n
      · rw [if_pos z, if_pos z] at ih
        rw [if_pos ⟨z.1, by omega⟩, if_pos ⟨z.1, by omega⟩]
        omega
      · rw [if_neg z, if_neg z] at ih
        rw [if_neg (fun y => z ⟨y.1, by omega⟩), if_neg (fun y => z ⟨y.1, by omega⟩)]
        omega
theorem iv_ow (h : iv_ nk kf ka kb xa xb np par ln ow sA sB ne cp wd pr Mk wr NU NL V kn) {pi k v : Nat} (hp : pi < np) (hv : tt_ ow k np + v ≤ 60 + ow pi k) : iv_ nk kf ka kb xa xb np par ln (u2_ ow pi k v) sA sB ne cp wd pr Mk wr NU NL V kn := by
  obtain ⟨a1, b1, ⟨c1, c2⟩, d1, e1, f1, g1, w1⟩ := h
  refine ⟨a1, b1, ⟨fun b => ?_, fun i b hi => ?_⟩, d1, e1, f1, g1, w1⟩
  · have h1 := tt_u2 (ow := ow) (pi := pi) (k := k) (v := v) b np
    have h2 := c1 b
    by_cases e : b = k
    · subst e
      rw [if_pos ⟨rfl, hp⟩, if_pos ⟨rfl, hp⟩] at h1
      omega
    · rw [if_neg (fun y => e y.1), if_neg (fun y => e y.1)] at h1
      omega
  · rw [u2_n (by omega)]; exact c2 i b hi
theorem iv_share (h : iv_ nk kf ka kb xa xb np par ln ow sA sB ne cp wd pr Mk wr NU NL V kn) {f b : Nat} (h1 : f ≤ b) (h2 : 1 ≤ b) (h3 : b ≤ 1000000) : iv_ nk kf ka kb xa xb np par ln ow f b ne cp wd pr (fun _ _ => -1) wr NU NL V (fun _ => 0) := by
  obtain ⟨a1, b1, c1, d1, e1, f1, g1, w1⟩ := h
  exact ⟨a1, b1, c1, ⟨by omega, by omega, h3⟩, e1, ck_none _ _ _ _ _, kq_none _ _ _ _ _, w1⟩
theorem iv_entry (h : iv_ nk kf ka kb xa xb np par ln ow sA sB ne cp wd pr Mk wr NU NL V kn) {a b d : Nat} (hn : ne < 20) (h1 : a ≤ 1000000) (h2 : 1 ≤ b) (h3 : b ≤ 1000) (h4 : d ≤ 10000) : iv_ nk kf ka kb xa xb np par ln ow sA sB (ne + 1) (un_ cp ne a) (un_ wd ne b) (un_ pr ne d) Mk wr NU NL V kn := by
  obtain ⟨a1, b1, c1, d1, ⟨e1, e2, e3, e4⟩, f1, g1, w1⟩ := h
  refine ⟨a1, b1, c1, d1, ⟨by omega, fun i => ?_, fun i => ?_, fun i hi => ?_⟩, f1, g1, w1⟩
  · by_cases e : i = ne
    · subst e; rw [un_s]; exact h1
    · rw [un_n e]; exact e2 i
  · by_cases e : i = ne
    · subst e; rw [un_s]; exact h4
    · rw [un_n e]; exact e3 i
  · by_cases e : i = ne
    · subst e; rw [un_s]; exact ⟨h2, h3⟩
    · rw [un_n e]; exact e4 i (by omega)
theorem iv_cnt (h : iv_ nk kf ka kb xa xb np par ln ow sA sB ne cp wd pr Mk wr NU NL V kn) {Mk2 : Nat → Nat → Int32} {V2 kn2 : Nat → Nat} (h1 : ck_ ka kb sA sB nk Mk2) (h2 : kq_ xa xb sA sB nk kn2) (h3 : rk_ V V2) : iv_ nk kf ka kb xa xb np par ln ow sA sB ne cp wd pr Mk2 wr NU NL V2 kn2 := by
  obtain ⟨a1, b1, c1, d1, e1, f1, g1, w1, w2, w3, w4, w5⟩ := h
  exact ⟨a1, b1, c1, d1, e1, h1, h2, w1, w2, w3, h3.1.trans w4, h3.2.trans w5⟩
theorem iv_write (h : iv_ nk kf ka kb xa xb np par ln ow sA sB ne cp wd pr Mk wr NU NL V kn) {N2 L2 : Nat} {V2 : Nat → Nat} (h1 : N2 < bB ^ 16) (h2 : L2 < bB ^ 16) (h3 : V2 5 = N2) (h4 : V2 6 = L2) : iv_ nk kf ka kb xa xb np par ln ow sA sB ne cp wd pr Mk 1 N2 L2 V2 kn := by
  obtain ⟨a1, b1, c1, d1, e1, f1, g1, w1⟩ := h
  exact ⟨a1, b1, c1, d1, e1, f1, g1, by decide, h1, h2, h3, h4⟩
end IV
theorem hu_un {par : Nat → Nat} {np : Nat} (hpar : ∀ i, i < np → par i ≤ i) (q on : Nat) : ∀ f v, v ≤ np → hu_ (un_ par np q) on f v = hu_ par on f v
  | 0, _, _ => rfl
  | f + 1, v, h => by
    show (if v ≤ on + 1 then v == on + 1 else hu_ (un_ par np q) on f (un_ par np q (v - 1))) = (if v ≤ on + 1 then v == on + 1 else hu_ par on f (par (v - 1)))
    by_cases z : v ≤ on + 1
    · rw [if_pos z, if_pos z]
    · have hp := hpar (v - 1) (by omega)
      rw [if_neg z, if_neg z, un_n (by omega), hu_un hpar q on f (par (v - 1)) (by omega)]
theorem cr_un {par : Nat → Nat} {np : Nat} (hpar : ∀ i, i < np → par i ≤ i) (q : Nat) (ow : Nat → Nat → Nat) (i b : Nat) : ∀ n, n ≤ np → cr_ (un_ par np q) ow i b n = cr_ par ow i b n
  | 0, _ => rfl
  | n + 1, h => by
    show cr_ (un_ par np q) ow i b n + (if hu_ (un_ par np q) i (n + 1) (n + 1) = true then ow n b else 0) = cr_ par ow i b n + (if hu_ par i (n + 1) (n + 1) = true then ow n b else 0)
    rw [cr_un hpar q ow i b n (by omega), hu_un hpar q i (n + 1) (n + 1) (by omega)]
theorem cr_pipe {par : Nat → Nat} {np : Nat} {ow : Nat → Nat → Nat} (hpar : ∀ i, i < np → par i ≤ i) (how : ∀ i k, np ≤ i → ow i k = 0) (q : Nat) : (fun i b => nI (cr_ par ow i b np)) = fun i b => nI (cr_ (un_ par np q) ow i b (np + 1)) := by
  funext i b
  refine congrArg nI ?_
  show _ = cr_ (un_ par np q) ow i b np + (if _ then ow np b else 0)
  rw [cr_un hpar q ow i b np (Nat.le_refl _), how np b (Nat.le_refl _)]
  split <;> rfl
theorem fw_31 {nk : Nat} {kf ka kb : Nat → Nat} (hv : kv_ nk kf ka kb) (hn : nk ≤ 8) (sA sB : Nat) {ca : Nat → Nat} (hc : ∀ k, ca k ≤ 60) : fw_ kf ka kb sA sB ca nk < 2 ^ 31 := by
  have := fw_le hv sA sB hc nk (Nat.le_refl _)
  omega
