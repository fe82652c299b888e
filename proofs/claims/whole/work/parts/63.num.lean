/-! a call that gives a known reference; the paper's numbers -/
section JWC3
variable {p : Program} {l : Launch} {e : Env} {R : Room} {s : State} {m : MethodId} {args : Array Value} {below : List Frame} {meth : Method} {c : Code} {H : Heap} {locs : List Loc} {cells slots : Nat} {Q : State → Prop}
variable {pc : Nat} {ls : Array Slot} {st0 rest : List Value} {D : va_G} {cl : List vw_C} {A0 : Nat → Prop} {ws wc wr : va_W} {H0 : Heap} {mc ms : Nat} {a : Array Value}
def jw_Br (D : va_G) (cl : List vw_C) (A : Nat → Prop) {S : Type} (ad : S → Nat) (w1 : S → va_W) : S → Nat → State → Prop := fun u a t => a = ad u ∧ jw_B D cl A w1 u t
theorem jw_callr {S : Type} {post : S → Prop} {ad : S → Nat} {w1 : S → va_W} (hP : va_P D cl ws H) (hD : va_D A0 ws) (hS : va_S A0 H0 H locs) (hA : ∀ q, H0.size ≤ q → A0 q) (isC isR : List Nat) (hC : isC.map (fun i => ws[i]?) = wc.map some) (hR : isR.map (fun i => ws[i]?) = wr.map some) (hn : va_nd isR = true) (hdis : ∀ i ∈ isR, i ∉ isC)
    (hr : va_Run p l e R s m args below meth c H locs cells slots mc ms (F0 m pc ls st0) rest (va_Qr post (jw_Br D cl (va_A wc H.size) ad w1) (va_A wc H.size) a) (va_A wc H.size))
    (kk : ∀ (u : S) (H1 : Heap) (locs1 : List Loc), post u → va_P D cl (wr ++ w1 u) H1 → va_D A0 (wr ++ w1 u) → va_S A0 H0 H1 locs1 → W p l e R s m args below meth c H1 locs1 (cells + mc) (slots + ms) Q (F0 m (pc + 3) ls (.ref (ad u) :: rest))) :
    W p l e R s m args below meth c H locs cells slots Q (F0 m pc ls st0) := by
  have hF := va_free (wc := wc) hD hS hA isC hC
  refine va_callr hr hS (fun q _ h => hF q h) hF (fun u ra t H1 locs1 ht hvm hw hB hz1 hk1 hS1 => ?_)
  obtain ⟨rfl, hP1, hD1⟩ := hB
  rw [ht] at hP1
  obtain ⟨hP2, hD2⟩ := va_join hP hD isC isR hC hR hn hdis hk1 hF hP1 hD1
  exact kk u H1 locs1 hw hP2 hD2 hS1
end JWC3
def pn_ (w NU NL : Nat) : Nat := if w = 0 then NU else NL
theorem dL_le {N : Nat} (h : N < bB ^ 16) : 1 ≤ dL N ∧ dL N ≤ 192 := by
  obtain ⟨h1, h2, h3⟩ := dL_is h
  refine ⟨h1, ?_⟩
  apply Decidable.byContradiction
  intro q
  rcases h3 with h3 | h3
  · omega
  · have : 10 ^ 192 ≤ 10 ^ (dL N - 1) := Nat.pow_le_pow_right (by decide) (by omega)
    rw [bB_10] at h
    omega
def gq_ (wr NU NL : Nat) (x y : Int32) (u : Nat × Nat) : Prop := u.1 ≤ 1 ∧ x = nI u.1 ∧ wr = 1 ∧ u.2 < dL (pn_ u.1 NU NL) ∧ y = nI u.2
def gr_ (x y : Int32) (u : Nat × Nat) : Prop := u.1 ≤ 1 ∧ x = nI u.1 ∧ 2 ≤ u.2 ∧ u.2 ≤ 1000000 ∧ y = nI u.2
/-- just k, or more than k, of n are on: of b^n parts -/
def wv_ (ka kb : Nat → Nat) (k n j : Nat) (b : Int32) : Nat := if b = 0 then oJ (ka k) (kb k - ka k) n j else oS (ka k) (kb k - ka k) n (j + 1)
def pu_ (V B : Nat) : Nat := V / Nat.gcd V B
def pl_ (V B : Nat) : Nat := B / Nat.gcd V B
def gw_ (np nk : Nat) (ca : Nat → Nat → Nat) (x y z : Int32) (u : Nat × Nat × Nat) : Prop := u.1 < np ∧ u.2.1 < nk ∧ x = nI u.1 ∧ y = nI u.2.1 ∧ u.2.2 ≤ ca u.1 u.2.1 ∧ z = nI u.2.2
theorem wv_le {ka kb : Nat → Nat} {k n j : Nat} {b : Int32} (hk : ka k < kb k) (hj : j ≤ n) : wv_ ka kb k n j b ≤ kb k ^ n := by
  have e : ka k + (kb k - ka k) = kb k := by omega
  unfold wv_
  split
  · have := oJ_le (ka k) (kb k - ka k) n j hj; rw [e] at this; exact this
  · have := oS_le (ka k) (kb k - ka k) n (j + 1); rw [e] at this; exact this
