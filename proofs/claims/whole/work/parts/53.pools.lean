/-! a call on one cell, in its place -/
section JWT
variable {p : Program} {l : Launch} {e : Env} {R : Room} {s : State} {m : MethodId} {args : Array Value} {below : List Frame} {meth : Method} {c : Code} {H : Heap} {locs : List Loc} {cells slots : Nat} {Q : State → Prop}
variable {pc : Nat} {ls : Array Slot} {st0 rest : List Value} {D : va_G} {cl : List vw_C} {A0 : Nat → Prop} {ws : va_W} {H0 : Heap} {mc ms : Nat} {av : Array Value}
theorem jw_callAtv {S : Type} {post : S → Prop} {e1 : S → va_E} {q0 a : Nat} {e0 : va_E} (hP : va_P D cl ws H) (hD : va_D A0 ws) (hS : va_S A0 H0 H locs) (hA : ∀ q, H0.size ≤ q → A0 q) (ha : ws[q0]? = some (a, e0))
    (hr : va_Run p l e R s m args below meth c H locs cells slots mc ms (F0 m pc ls st0) rest (va_Qv post (jw_B D cl (va_A [(a, e0)] H.size) (fun u => [(a, e1 u)])) (va_A [(a, e0)] H.size) av) (va_A [(a, e0)] H.size))
    (kk : ∀ (u : S) (H1 : Heap) (locs1 : List Loc), post u → va_P D cl (ws.set q0 (a, e1 u)) H1 → va_D A0 (ws.set q0 (a, e1 u)) → va_S A0 H0 H1 locs1 → W p l e R s m args below meth c H1 locs1 (cells + mc) (slots + ms) Q (F0 m (pc + 3) ls rest)) :
    W p l e R s m args below meth c H locs cells slots Q (F0 m pc ls st0) := by
  have hF : ∀ q, va_A [(a, e0)] H.size q → A0 q := by
    intro q h
    rcases h with ⟨k, e9, h⟩ | h
    · have hk : k = 0 := by
        have := (List.getElem?_eq_some_iff.mp h).1
        simp at this
        exact this
      subst hk
      cases h
      exact hD.2 q0 _ ha
    · exact hA q (Nat.le_trans hS.1 h)
  refine va_callv hr hS (fun q _ h => hF q h) hF (fun u t H1 locs1 ht hvm hw hB hz1 hk1 hS1 => ?_)
  obtain ⟨hP1, hD1⟩ := hB
  rw [ht] at hP1
  refine kk u H1 locs1 hw (fun k z hz => ?_) (hD.set ha) hS1
  rw [List.getElem?_set] at hz
  by_cases hk : q0 = k
  · subst hk
    rw [if_pos rfl, if_pos (List.getElem?_eq_some_iff.mp ha).1] at hz
    cases hz
    exact hP1 0 _ rfl
  · rw [if_neg hk] at hz
    refine (hP k z hz).kept (hk1 z.1 ((hP k z hz).lt) ?_)
    intro h
    rcases h with ⟨j, e9, h⟩ | h
    · have hj : j = 0 := by
        have := (List.getElem?_eq_some_iff.mp h).1
        simp at this
        exact this
      subst hj
      cases h
      exact hk (hD.1 q0 k _ _ ha hz rfl)
    · have := (hP k z hz).lt
      omega
end JWT
def gs_row (M : Nat → Nat → Int32) (i : Nat) (f : Nat → Int32) : Nat → Nat → Int32 := fun a => if a = i then f else M a
theorem gs_setR {cI : ClassId} {n k : Nat} {r : Nat → Nat} {M : Nat → Nat → Int32} {X Y : va_W} {x i : Nat} {f : Nat → Int32} (hx : X.length = x) (hi : i < n) : (X ++ (gs_ cI n k r M ++ Y)).set (x + i) (r i, .inl (cI, k, .inl f)) = X ++ (gs_ cI n k r (gs_row M i f) ++ Y) := by
  subst hx
  refine (List.set_append_right (s := X) (X.length + i) _ (by omega)).trans ?_
  rw [Nat.add_sub_cancel_left]
  refine congrArg (X ++ ·) ((List.set_append_left (s := gs_ cI n k r M) i _ (by rw [gs_len]; exact hi)).trans ?_)
  refine congrArg (· ++ Y) ?_
  apply List.ext_getElem?
  intro z
  rw [List.getElem?_set]
  by_cases hz : i = z
  · subst hz
    rw [gs_len, gs_at (M := gs_row M i f) hi]
    simp [hi, gs_row]
  · simp only [hz, if_false]
    by_cases hzn : z < n
    · rw [gs_at hzn, gs_at hzn]
      simp [gs_row, Ne.symm hz]
    · rw [List.getElem?_eq_none (by rw [gs_len]; omega), List.getElem?_eq_none (by rw [gs_len]; omega)]
theorem gs_setR3 {cI : ClassId} {n k n1 k1 n2 k2 : Nat} {r r1 r2 : Nat → Nat} {M M1 M2 : Nat → Nat → Int32} {X Y : va_W} {x i : Nat} {f : Nat → Int32} (hx : X.length + n1 + n2 = x) (hi : i < n) : (X ++ (gs_ cI n1 k1 r1 M1 ++ (gs_ cI n2 k2 r2 M2 ++ (gs_ cI n k r M ++ Y)))).set (x + i) (r i, .inl (cI, k, .inl f)) = X ++ (gs_ cI n1 k1 r1 M1 ++ (gs_ cI n2 k2 r2 M2 ++ (gs_ cI n k r (gs_row M i f) ++ Y))) := by
  have h := gs_setR (cI := cI) (k := k) (r := r) (M := M) (Y := Y) (X := X ++ (gs_ cI n1 k1 r1 M1 ++ gs_ cI n2 k2 r2 M2)) (x := x) (f := f) (by rw [List.length_append, List.length_append, gs_len, gs_len]; omega) hi
  simp only [List.append_assoc] at h
  exact h
theorem gs_congr {cI : ClassId} {n k : Nat} {r : Nat → Nat} {M M' : Nat → Nat → Int32} (h : ∀ i, i < n → M i = M' i) : gs_ cI n k r M = gs_ cI n k r M' := by
  unfold gs_
  apply List.map_congr_left
  intro i hi
  rw [h i (List.mem_range.mp hi)]
def fc_ (M : Nat → Nat → Int32) (i : Nat) : Nat → Nat → Int32 := fun a => if a < i then (fun _ => -1) else M a
theorem fc_0 (M : Nat → Nat → Int32) : M = fc_ M 0 := by funext a; simp [fc_]
theorem fc_up (M : Nat → Nat → Int32) (i : Nat) : gs_row (fc_ M i) i (fun _ => -1) = fc_ M (i + 1) := by
  funext a
  unfold gs_row fc_
  by_cases h : a = i
  · rw [if_pos h, if_pos (by omega)]
  · rw [if_neg h]
    by_cases h2 : a < i
    · rw [if_pos h2, if_pos (by omega)]
    · rw [if_neg h2, if_neg (by omega)]
def gp_ (np : Nat) (x y : Int32) (u : Nat × Nat) : Prop := x = nI u.1 - 1 ∧ (np = 0 → u.1 = 0) ∧ (¬ np = 0 → 1 ≤ u.1 ∧ u.1 ≤ np) ∧ y = nI u.2 ∧ 1 ≤ u.2 ∧ u.2 ≤ 1000
theorem gp_n {np : Nat} {x y : Int32} (h0 : ¬ np = 0) (h : ¬ hs_ x np) (u : Nat × Nat) : ¬ gp_ np x y u := by
  rintro ⟨q1, -, q3, -⟩
  obtain ⟨q4, q5⟩ := q3 h0
  exact h ⟨u.1 - 1, by omega, by rw [q1, nI_p1 q4]⟩
