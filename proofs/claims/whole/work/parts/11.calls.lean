/-! a call and the frame rule behind it, in one row -/
/-- a method's start: the world, apart, the classes, and a context X -/
def jw_Pc (D : va_G) (cl : List vw_C) (tys : List (ClassId × FieldType)) (ws : va_W) (sz : Nat) (X : State → Prop) (av : List Value) : Array Value → State → Prop := va_Pc av (fun U => U.heap.size = sz ∧ va_P D cl ws U.heap ∧ va_D (fun _ => True) ws ∧ va_K D cl tys U ∧ X U)
/-- the world behind a method -/
def jw_B (D : va_G) (cl : List vw_C) (A : Nat → Prop) {S : Type} (w1 : S → va_W) : S → State → Prop := fun u t => va_P D cl (w1 u) t.heap ∧ va_D A (w1 u)
/-- .. behind one that has thrown -/
def jw_BX (D : va_G) (cl : List vw_C) (A : Nat → Prop) {S : Type} (ex : String → S → Prop) (w1 : S → va_W) : String → S → State → Prop := fun E u t => ex E u ∧ va_P D cl (w1 u) t.heap ∧ va_D A (w1 u)
def jw_X (X : State → Prop) : Prop := ∀ u U : State, u.WarmedH U.vm → U.heap = u.heap → X u → X U
theorem jw_blind {D : va_G} {cl : List vw_C} {tys : List (ClassId × FieldType)} {ws : va_W} {sz : Nat} {X : State → Prop} {av : List Value} (hX : jw_X X) : FrameBlind (jw_Pc D cl tys ws sz X av) := fun a U g mk q => by
  obtain ⟨q0, q1, qP, qD, qK, qX⟩ := q
  exact ⟨q0, q1, qP, qD, va_K.moved (u := U) (U := U.calling g mk a) (Vm.Alike.refl U.vm) qK, hX U (U.calling g mk a) (State.WarmedH.refl U) rfl qX⟩
theorem jw_pre {D : va_G} {cl : List vw_C} {tys : List (ClassId × FieldType)} {wc : va_W} {X : State → Prop} {av : List Value} {s : State} {H : Heap} {A : Nat → Prop} (hP : va_P D cl wc H) (hD : va_D A wc) (hK : va_K D cl tys s) (hX : ∀ U : State, U.heap = H → s.WarmedH U.vm → X U) : ∀ U : State, U.heap = H → s.WarmedH U.vm → jw_Pc D cl tys wc H.size X av av.toArray U := fun U hU hW => ⟨rfl, by rw [hU], by rw [hU]; exact hP, hD.weaken (fun _ _ _ _ => trivial), va_K.moved hW.alike hK, hX U hU hW⟩
section JWC
variable {p : Program} {l : Launch} {e : Env} {R : Room} {s : State} {m : MethodId} {args : Array Value} {below : List Frame} {meth : Method} {c : Code} {H : Heap} {locs : List Loc} {cells slots : Nat} {Q : State → Prop}
variable {pc : Nat} {ls : Array Slot} {st0 rest : List Value} {D : va_G} {cl : List vw_C} {A0 : Nat → Prop} {ws wc wr : va_W} {H0 : Heap} {mc ms : Nat} {a : Array Value}
theorem jw_calli {S : Type} {post : Int32 → S → Prop} {w1 : S → va_W} (hP : va_P D cl ws H) (hD : va_D A0 ws) (hS : va_S A0 H0 H locs) (hA : ∀ q, H0.size ≤ q → A0 q) (isC isR : List Nat) (hC : isC.map (fun i => ws[i]?) = wc.map some) (hR : isR.map (fun i => ws[i]?) = wr.map some) (hn : va_nd isR = true) (hdis : ∀ i ∈ isR, i ∉ isC)
    (hr : va_Run p l e R s m args below meth c H locs cells slots mc ms (F0 m pc ls st0) rest (va_Qi post (jw_B D cl (va_A wc H.size) w1) (va_A wc H.size) a) (va_A wc H.size))
    (kk : ∀ (r : Int32) (u : S) (H1 : Heap) (locs1 : List Loc), post r u → va_P D cl (wr ++ w1 u) H1 → va_D A0 (wr ++ w1 u) → va_S A0 H0 H1 locs1 → W p l e R s m args below meth c H1 locs1 (cells + mc) (slots + ms) Q (F0 m (pc + 3) ls (.int r :: rest))) :
    W p l e R s m args below meth c H locs cells slots Q (F0 m pc ls st0) := by
  have hF := va_free (wc := wc) hD hS hA isC hC
  refine va_calli hr hS (fun q _ h => hF q h) hF (fun r u t H1 locs1 ht hvm hw hB hz1 hk1 hS1 => ?_)
  obtain ⟨hP1, hD1⟩ := hB
  rw [ht] at hP1
  obtain ⟨hP2, hD2⟩ := va_join hP hD isC isR hC hR hn hdis hk1 hF hP1 hD1
  exact kk r u H1 locs1 hw hP2 hD2 hS1
theorem jw_calll {S : Type} {post : Int64 → S → Prop} {w1 : S → va_W} (hP : va_P D cl ws H) (hD : va_D A0 ws) (hS : va_S A0 H0 H locs) (hA : ∀ q, H0.size ≤ q → A0 q) (isC isR : List Nat) (hC : isC.map (fun i => ws[i]?) = wc.map some) (hR : isR.map (fun i => ws[i]?) = wr.map some) (hn : va_nd isR = true) (hdis : ∀ i ∈ isR, i ∉ isC)
    (hr : va_Run p l e R s m args below meth c H locs cells slots mc ms (F0 m pc ls st0) rest (va_Ql post (jw_B D cl (va_A wc H.size) w1) (va_A wc H.size) a) (va_A wc H.size))
    (kk : ∀ (r : Int64) (u : S) (H1 : Heap) (locs1 : List Loc), post r u → va_P D cl (wr ++ w1 u) H1 → va_D A0 (wr ++ w1 u) → va_S A0 H0 H1 locs1 → W p l e R s m args below meth c H1 locs1 (cells + mc) (slots + ms) Q (F0 m (pc + 3) ls (.long r :: rest))) :
    W p l e R s m args below meth c H locs cells slots Q (F0 m pc ls st0) := by
  have hF := va_free (wc := wc) hD hS hA isC hC
  refine va_calll hr hS (fun q _ h => hF q h) hF (fun r u t H1 locs1 ht hvm hw hB hz1 hk1 hS1 => ?_)
  obtain ⟨hP1, hD1⟩ := hB
  rw [ht] at hP1
  obtain ⟨hP2, hD2⟩ := va_join hP hD isC isR hC hR hn hdis hk1 hF hP1 hD1
  exact kk r u H1 locs1 hw hP2 hD2 hS1
theorem jw_callv {S : Type} {post : S → Prop} {w1 : S → va_W} (hP : va_P D cl ws H) (hD : va_D A0 ws) (hS : va_S A0 H0 H locs) (hA : ∀ q, H0.size ≤ q → A0 q) (isC isR : List Nat) (hC : isC.map (fun i => ws[i]?) = wc.map some) (hR : isR.map (fun i => ws[i]?) = wr.map some) (hn : va_nd isR = true) (hdis : ∀ i ∈ isR, i ∉ isC)
    (hr : va_Run p l e R s m args below meth c H locs cells slots mc ms (F0 m pc ls st0) rest (va_Qv post (jw_B D cl (va_A wc H.size) w1) (va_A wc H.size) a) (va_A wc H.size))
    (kk : ∀ (u : S) (H1 : Heap) (locs1 : List Loc), post u → va_P D cl (wr ++ w1 u) H1 → va_D A0 (wr ++ w1 u) → va_S A0 H0 H1 locs1 → W p l e R s m args below meth c H1 locs1 (cells + mc) (slots + ms) Q (F0 m (pc + 3) ls (rest))) :
    W p l e R s m args below meth c H locs cells slots Q (F0 m pc ls st0) := by
  have hF := va_free (wc := wc) hD hS hA isC hC
  refine va_callv hr hS (fun q _ h => hF q h) hF (fun u t H1 locs1 ht hvm hw hB hz1 hk1 hS1 => ?_)
  obtain ⟨hP1, hD1⟩ := hB
  rw [ht] at hP1
  obtain ⟨hP2, hD2⟩ := va_join hP hD isC isR hC hR hn hdis hk1 hF hP1 hD1
  exact kk u H1 locs1 hw hP2 hD2 hS1
end JWC
/-! rows of a grid: n arrays of k ints each, at r 0 .. r (n - 1) -/
def gs_ (cI : ClassId) (n k : Nat) (r : Nat → Nat) (M : Nat → Nat → Int32) : va_W := (List.range n).map (fun i => (r i, .inl (cI, k, .inl (M i))))
def gs_up (M : Nat → Nat → Int32) (i j : Nat) (x : Int32) : Nat → Nat → Int32 := fun a => if a = i then upd (M i) j x else M a
theorem gs_len (cI : ClassId) (n k : Nat) (r : Nat → Nat) (M : Nat → Nat → Int32) : (gs_ cI n k r M).length = n := by simp [gs_]
theorem gs_at {cI : ClassId} {n k : Nat} {r : Nat → Nat} {M : Nat → Nat → Int32} {i : Nat} (hi : i < n) : (gs_ cI n k r M)[i]? = some (r i, .inl (cI, k, .inl (M i))) := by
  simp [gs_, hi]
theorem gs_get {cI : ClassId} {n k : Nat} {r : Nat → Nat} {M : Nat → Nat → Int32} {X Y : va_W} {x i : Nat} (hx : X.length = x) (hi : i < n) : (X ++ (gs_ cI n k r M ++ Y))[x + i]? = some (r i, .inl (cI, k, .inl (M i))) := by
  subst hx
  rw [List.getElem?_append_right (by omega), Nat.add_sub_cancel_left, List.getElem?_append_left (by rw [gs_len]; exact hi), gs_at hi]
theorem gs_set {cI : ClassId} {n k : Nat} {r : Nat → Nat} {M : Nat → Nat → Int32} {X Y : va_W} {x i j : Nat} {v : Int32} (hx : X.length = x) (hi : i < n) : (X ++ (gs_ cI n k r M ++ Y)).set (x + i) (r i, .inl (cI, k, .inl (upd (M i) j v))) = X ++ (gs_ cI n k r (gs_up M i j v) ++ Y) := by
  subst hx
  refine (List.set_append_right (s := X) (X.length + i) _ (by omega)).trans ?_
  rw [Nat.add_sub_cancel_left]
  refine congrArg (X ++ ·) ((List.set_append_left (s := gs_ cI n k r M) i _ (by rw [gs_len]; exact hi)).trans ?_)
  refine congrArg (· ++ Y) ?_
  apply List.ext_getElem?
  intro z
  rw [List.getElem?_set]
  by_cases hz : i = z
  · subst hz
    rw [gs_len, gs_at (M := gs_up M i j v) hi]
    simp [hi, gs_up]
  · simp only [hz, if_false]
    by_cases hzn : z < n
    · rw [gs_at hzn, gs_at hzn]
      simp [gs_up, Ne.symm hz]
    · rw [List.getElem?_eq_none (by rw [gs_len]; omega), List.getElem?_eq_none (by rw [gs_len]; omega)]
