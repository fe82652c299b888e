/-! grids in a world of two -/
theorem gs_get2 {cI : ClassId} {n k n1 k1 : Nat} {r r1 : Nat → Nat} {M M1 : Nat → Nat → Int32} {X Y : va_W} {x i : Nat} (hx : X.length + n1 = x) (hi : i < n) : (X ++ (gs_ cI n1 k1 r1 M1 ++ (gs_ cI n k r M ++ Y)))[x + i]? = some (r i, .inl (cI, k, .inl (M i))) := by
  have h := gs_get (cI := cI) (k := k) (r := r) (M := M) (Y := Y) (X := X ++ gs_ cI n1 k1 r1 M1) (x := x) (by rw [List.length_append, gs_len]; exact hx) hi
  rw [List.append_assoc] at h
  exact h
theorem gs_set2 {cI : ClassId} {n k n1 k1 : Nat} {r r1 : Nat → Nat} {M M1 : Nat → Nat → Int32} {X Y : va_W} {x i j : Nat} {v : Int32} (hx : X.length + n1 = x) (hi : i < n) : (X ++ (gs_ cI n1 k1 r1 M1 ++ (gs_ cI n k r M ++ Y))).set (x + i) (r i, .inl (cI, k, .inl (upd (M i) j v))) = X ++ (gs_ cI n1 k1 r1 M1 ++ (gs_ cI n k r (gs_up M i j v) ++ Y)) := by
  have h := gs_set (cI := cI) (k := k) (r := r) (M := M) (Y := Y) (X := X ++ gs_ cI n1 k1 r1 M1) (x := x) (j := j) (v := v) (by rw [List.length_append, gs_len]; exact hx) hi
  rw [List.append_assoc, List.append_assoc] at h
  exact h
/-- so much more in column k, from v - 1 up the parents -/
def cg_ (par : Nat → Nat) (k : Nat) (x : Int32) : Nat → Nat → (Nat → Nat → Int32) → (Nat → Nat → Int32)
  | 0, _, M => M
  | f + 1, v, M => if v = 0 then M else cg_ par k x f (par (v - 1)) (gs_up M (v - 1) k (M (v - 1) k + x))
theorem un_P (f : Nat → Nat) (k v : Nat) : upd (fun i => nI (f i) - 1) k (nI v - 1) = fun i => nI (un_ f k v i) - 1 := by
  funext j
  unfold upd un_
  by_cases h : j = k
  · rw [if_pos h, if_pos h]
  · rw [if_neg h, if_neg h]
