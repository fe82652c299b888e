/-! calls in a world with a pool: Q: the callee has none of it; P: it has all of it -/
section JWQ
variable {p : Program} {l : Launch} {e : Env} {R : Room} {s : State} {m : MethodId} {args : Array Value} {below : List Frame} {meth : Method} {c : Code} {H : Heap} {locs : List Loc} {cells slots : Nat} {Q : State → Prop}
variable {pc : Nat} {ls : Array Slot} {st0 rest : List Value} {D : va_G} {cl : List vw_C} {A0 : Nat → Prop} {X cx wr pl : va_W} {H0 : Heap} {mc ms : Nat} {a : Array Value}
theorem jw_inP {q : Nat} {n : Nat} (h : va_A cx n q) : va_A (cx ++ pl) n q := by
  rcases h with ⟨k, e, h⟩ | h
  · exact Or.inl ⟨k, e, by rw [List.getElem?_append_left (List.getElem?_eq_some_iff.mp h).1]; exact h⟩
  · exact Or.inr h
theorem jw_callQi {S : Type} {post : Int32 → S → Prop} {w1 : S → va_W} (hP : va_P D cl (X ++ pl) H) (hD : va_D A0 (X ++ pl)) (hS : va_S A0 H0 H locs) (hA : ∀ q, H0.size ≤ q → A0 q) (isC isR : List Nat) (hC : isC.map (fun i => X[i]?) = cx.map some) (hR : isR.map (fun i => X[i]?) = wr.map some) (hn : va_nd isR = true) (hdis : ∀ i ∈ isR, i ∉ isC)
    (hr : va_Run p l e R s m args below meth c H locs cells slots mc ms (F0 m pc ls st0) rest (va_Qi post (jw_B D cl (va_A cx H.size) w1) (va_A cx H.size) a) (va_A cx H.size))
    (kk : ∀ (r : Int32) (u : S) (H1 : Heap) (locs1 : List Loc), post r u → va_P D cl ((wr ++ w1 u) ++ pl) H1 → va_D A0 ((wr ++ w1 u) ++ pl) → va_S A0 H0 H1 locs1 → W p l e R s m args below meth c H1 locs1 (cells + mc) (slots + ms) Q (F0 m (pc + 3) ls (.int r :: rest))) :
    W p l e R s m args below meth c H locs cells slots Q (F0 m pc ls st0) := by
  have hF : ∀ q, va_A cx H.size q → A0 q := fun q h => va_freeP (cx := cx) hD hS hA isC hC q (jw_inP h)
  refine va_calli hr hS (fun q _ h => hF q h) hF (fun r u t H1 locs1 ht hvm hw hB hz1 hk1 hS1 => ?_)
  obtain ⟨hP1, hD1⟩ := hB
  rw [ht] at hP1
  obtain ⟨hP2, hD2⟩ := va_joinQ hP hD isC isR hC hR hn hdis hk1 hF hP1 hD1
  exact kk r u H1 locs1 hw hP2 hD2 hS1
theorem xm_callQi {S SX : Type} {post : Int32 → S → Prop} {w1 : S → va_W} {px : String → SX → Prop} {wx : SX → va_W} (hP : va_P D cl (X ++ pl) H) (hD : va_D A0 (X ++ pl)) (hS : va_S A0 H0 H locs) (hA : ∀ q, H0.size ≤ q → A0 q) (isC isR : List Nat) (hC : isC.map (fun i => X[i]?) = cx.map some) (hR : isR.map (fun i => X[i]?) = wr.map some) (hn : va_nd isR = true) (hdis : ∀ i ∈ isR, i ∉ isC)
    (hr : xRun p l e R s m args below meth c H locs cells slots mc ms (F0 m pc ls st0) rest (va_Qi post (jw_B D cl (va_A cx H.size) w1) (va_A cx H.size) a) (xm_E D cl (va_A cx H.size) px wx) (va_A cx H.size))
    (kx : ∀ (E : String) (q9 : Addr) (u : SX) (t : State) (H1 : Heap) (locs1 : List Loc), px E u → va_P D cl ((wr ++ wx u) ++ pl) H1 → va_D A0 ((wr ++ wx u) ++ pl) → va_S A0 H0 H1 locs1 → t.heap = H1 → xm_o E s q9 t → xW p l e R s m args below meth c H1 locs1 (cells + mc) (slots + ms) Q (F0 m pc ls rest) q9)
    (kk : ∀ (r : Int32) (u : S) (H1 : Heap) (locs1 : List Loc), post r u → va_P D cl ((wr ++ w1 u) ++ pl) H1 → va_D A0 ((wr ++ w1 u) ++ pl) → va_S A0 H0 H1 locs1 → W p l e R s m args below meth c H1 locs1 (cells + mc) (slots + ms) Q (F0 m (pc + 3) ls (.int r :: rest))) :
    W p l e R s m args below meth c H locs cells slots Q (F0 m pc ls st0) := by
  have hF : ∀ q, va_A cx H.size q → A0 q := fun q h => va_freeP (cx := cx) hD hS hA isC hC q (jw_inP h)
  intro T hT X1
  rcases hr T hT X1 with ⟨v, st₀, t, T', L, h0, X', hL, e1, e2, ⟨⟨r, u, hv, hp, hb⟩, hf⟩, st⟩ | ⟨q, E, st₀, t, T', L, h0, X', hL, e1, e2, ⟨u, hp, hb, hf⟩, ho, st⟩
  · cases hv
    obtain ⟨hS1, hk1⟩ := xm_keep h0 e1 hS hF hF hL hf
    obtain ⟨hP2, hD2⟩ := va_joinQ hP hD isC isR hC hR hn hdis hk1 hF (by rw [e1]; exact hb.1) hb.2
    obtain ⟨t2, a1, b1⟩ := kk r u T'.heap (locs ++ L) hp hP2 hD2 hS1 T' rfl X'
    exact ⟨t2, st t2 a1, b1⟩
  · obtain ⟨hS1, hk1⟩ := xm_keep h0 e1 hS hF hF hL hf
    obtain ⟨hP2, hD2⟩ := va_joinQ hP hD isC isR hC hR hn hdis hk1 hF (by rw [e1]; exact hb.1) hb.2
    obtain ⟨t2, a1, b1⟩ := kx E q u t T'.heap (locs ++ L) hp hP2 hD2 hS1 e1.symm ho T' rfl X'
    exact ⟨t2, st t2 a1, b1⟩
theorem jw_callQl {S : Type} {post : Int64 → S → Prop} {w1 : S → va_W} (hP : va_P D cl (X ++ pl) H) (hD : va_D A0 (X ++ pl)) (hS : va_S A0 H0 H locs) (hA : ∀ q, H0.size ≤ q → A0 q) (isC isR : List Nat) (hC : isC.map (fun i => X[i]?) = cx.map some) (hR : isR.map (fun i => X[i]?) = wr.map some) (hn : va_nd isR = true) (hdis : ∀ i ∈ isR, i ∉ isC)
    (hr : va_Run p l e R s m args below meth c H locs cells slots mc ms (F0 m pc ls st0) rest (va_Ql post (jw_B D cl (va_A cx H.size) w1) (va_A cx H.size) a) (va_A cx H.size))
    (kk : ∀ (r : Int64) (u : S) (H1 : Heap) (locs1 : List Loc), post r u → va_P D cl ((wr ++ w1 u) ++ pl) H1 → va_D A0 ((wr ++ w1 u) ++ pl) → va_S A0 H0 H1 locs1 → W p l e R s m args below meth c H1 locs1 (cells + mc) (slots + ms) Q (F0 m (pc + 3) ls (.long r :: rest))) :
    W p l e R s m args below meth c H locs cells slots Q (F0 m pc ls st0) := by
  have hF : ∀ q, va_A cx H.size q → A0 q := fun q h => va_freeP (cx := cx) hD hS hA isC hC q (jw_inP h)
  refine va_calll hr hS (fun q _ h => hF q h) hF (fun r u t H1 locs1 ht hvm hw hB hz1 hk1 hS1 => ?_)
  obtain ⟨hP1, hD1⟩ := hB
  rw [ht] at hP1
  obtain ⟨hP2, hD2⟩ := va_joinQ hP hD isC isR hC hR hn hdis hk1 hF hP1 hD1
  exact kk r u H1 locs1 hw hP2 hD2 hS1
theorem xm_callQl {S SX : Type} {post : Int64 → S → Prop} {w1 : S → va_W} {px : String → SX → Prop} {wx : SX → va_W} (hP : va_P D cl (X ++ pl) H) (hD : va_D A0 (X ++ pl)) (hS : va_S A0 H0 H locs) (hA : ∀ q, H0.size ≤ q → A0 q) (isC isR : List Nat) (hC : isC.map (fun i => X[i]?) = cx.map some) (hR : isR.map (fun i => X[i]?) = wr.map some) (hn : va_nd isR = true) (hdis : ∀ i ∈ isR, i ∉ isC)
    (hr : xRun p l e R s m args below meth c H locs cells slots mc ms (F0 m pc ls st0) rest (va_Ql post (jw_B D cl (va_A cx H.size) w1) (va_A cx H.size) a) (xm_E D cl (va_A cx H.size) px wx) (va_A cx H.size))
    (kx : ∀ (E : String) (q9 : Addr) (u : SX) (t : State) (H1 : Heap) (locs1 : List Loc), px E u → va_P D cl ((wr ++ wx u) ++ pl) H1 → va_D A0 ((wr ++ wx u) ++ pl) → va_S A0 H0 H1 locs1 → t.heap = H1 → xm_o E s q9 t → xW p l e R s m args below meth c H1 locs1 (cells + mc) (slots + ms) Q (F0 m pc ls rest) q9)
    (kk : ∀ (r : Int64) (u : S) (H1 : Heap) (locs1 : List Loc), post r u → va_P D cl ((wr ++ w1 u) ++ pl) H1 → va_D A0 ((wr ++ w1 u) ++ pl) → va_S A0 H0 H1 locs1 → W p l e R s m args below meth c H1 locs1 (cells + mc) (slots + ms) Q (F0 m (pc + 3) ls (.long r :: rest))) :
    W p l e R s m args below meth c H locs cells slots Q (F0 m pc ls st0) := by
  have hF : ∀ q, va_A cx H.size q → A0 q := fun q h => va_freeP (cx := cx) hD hS hA isC hC q (jw_inP h)
  intro T hT X1
  rcases hr T hT X1 with ⟨v, st₀, t, T', L, h0, X', hL, e1, e2, ⟨⟨r, u, hv, hp, hb⟩, hf⟩, st⟩ | ⟨q, E, st₀, t, T', L, h0, X', hL, e1, e2, ⟨u, hp, hb, hf⟩, ho, st⟩
  · cases hv
    obtain ⟨hS1, hk1⟩ := xm_keep h0 e1 hS hF hF hL hf
    obtain ⟨hP2, hD2⟩ := va_joinQ hP hD isC isR hC hR hn hdis hk1 hF (by rw [e1]; exact hb.1) hb.2
    obtain ⟨t2, a1, b1⟩ := kk r u T'.heap (locs ++ L) hp hP2 hD2 hS1 T' rfl X'
    exact ⟨t2, st t2 a1, b1⟩
  · obtain ⟨hS1, hk1⟩ := xm_keep h0 e1 hS hF hF hL hf
    obtain ⟨hP2, hD2⟩ := va_joinQ hP hD isC isR hC hR hn hdis hk1 hF (by rw [e1]; exact hb.1) hb.2
    obtain ⟨t2, a1, b1⟩ := kx E q u t T'.heap (locs ++ L) hp hP2 hD2 hS1 e1.symm ho T' rfl X'
    exact ⟨t2, st t2 a1, b1⟩
theorem jw_callQv {S : Type} {post : S → Prop} {w1 : S → va_W} (hP : va_P D cl (X ++ pl) H) (hD : va_D A0 (X ++ pl)) (hS : va_S A0 H0 H locs) (hA : ∀ q, H0.size ≤ q → A0 q) (isC isR : List Nat) (hC : isC.map (fun i => X[i]?) = cx.map some) (hR : isR.map (fun i => X[i]?) = wr.map some) (hn : va_nd isR = true) (hdis : ∀ i ∈ isR, i ∉ isC)
    (hr : va_Run p l e R s m args below meth c H locs cells slots mc ms (F0 m pc ls st0) rest (va_Qv post (jw_B D cl (va_A cx H.size) w1) (va_A cx H.size) a) (va_A cx H.size))
    (kk : ∀ (u : S) (H1 : Heap) (locs1 : List Loc), post u → va_P D cl ((wr ++ w1 u) ++ pl) H1 → va_D A0 ((wr ++ w1 u) ++ pl) → va_S A0 H0 H1 locs1 → W p l e R s m args below meth c H1 locs1 (cells + mc) (slots + ms) Q (F0 m (pc + 3) ls (rest))) :
    W p l e R s m args below meth c H locs cells slots Q (F0 m pc ls st0) := by
  have hF : ∀ q, va_A cx H.size q → A0 q := fun q h => va_freeP (cx := cx) hD hS hA isC hC q (jw_inP h)
  refine va_callv hr hS (fun q _ h => hF q h) hF (fun u t H1 locs1 ht hvm hw hB hz1 hk1 hS1 => ?_)
  obtain ⟨hP1, hD1⟩ := hB
  rw [ht] at hP1
  obtain ⟨hP2, hD2⟩ := va_joinQ hP hD isC isR hC hR hn hdis hk1 hF hP1 hD1
  exact kk u H1 locs1 hw hP2 hD2 hS1
theorem xm_callQv {S SX : Type} {post : S → Prop} {w1 : S → va_W} {px : String → SX → Prop} {wx : SX → va_W} (hP : va_P D cl (X ++ pl) H) (hD : va_D A0 (X ++ pl)) (hS : va_S A0 H0 H locs) (hA : ∀ q, H0.size ≤ q → A0 q) (isC isR : List Nat) (hC : isC.map (fun i => X[i]?) = cx.map some) (hR : isR.map (fun i => X[i]?) = wr.map some) (hn : va_nd isR = true) (hdis : ∀ i ∈ isR, i ∉ isC)
    (hr : xRun p l e R s m args below meth c H locs cells slots mc ms (F0 m pc ls st0) rest (va_Qv post (jw_B D cl (va_A cx H.size) w1) (va_A cx H.size) a) (xm_E D cl (va_A cx H.size) px wx) (va_A cx H.size))
    (kx : ∀ (E : String) (q9 : Addr) (u : SX) (t : State) (H1 : Heap) (locs1 : List Loc), px E u → va_P D cl ((wr ++ wx u) ++ pl) H1 → va_D A0 ((wr ++ wx u) ++ pl) → va_S A0 H0 H1 locs1 → t.heap = H1 → xm_o E s q9 t → xW p l e R s m args below meth c H1 locs1 (cells + mc) (slots + ms) Q (F0 m pc ls rest) q9)
    (kk : ∀ (u : S) (H1 : Heap) (locs1 : List Loc), post u → va_P D cl ((wr ++ w1 u) ++ pl) H1 → va_D A0 ((wr ++ w1 u) ++ pl) → va_S A0 H0 H1 locs1 → W p l e R s m args below meth c H1 locs1 (cells + mc) (slots + ms) Q (F0 m (pc + 3) ls (rest))) :
    W p l e R s m args below meth c H locs cells slots Q (F0 m pc ls st0) := by
  have hF : ∀ q, va_A cx H.size q → A0 q := fun q h => va_freeP (cx := cx) hD hS hA isC hC q (jw_inP h)
  intro T hT X1
  rcases hr T hT X1 with ⟨v, st₀, t, T', L, h0, X', hL, e1, e2, ⟨⟨u, hv, hp, hb⟩, hf⟩, st⟩ | ⟨q, E, st₀, t, T', L, h0, X', hL, e1, e2, ⟨u, hp, hb, hf⟩, ho, st⟩
  · cases hv
    obtain ⟨hS1, hk1⟩ := xm_keep h0 e1 hS hF hF hL hf
    obtain ⟨hP2, hD2⟩ := va_joinQ hP hD isC isR hC hR hn hdis hk1 hF (by rw [e1]; exact hb.1) hb.2
    obtain ⟨t2, a1, b1⟩ := kk u T'.heap (locs ++ L) hp hP2 hD2 hS1 T' rfl X'
    exact ⟨t2, st t2 a1, b1⟩
  · obtain ⟨hS1, hk1⟩ := xm_keep h0 e1 hS hF hF hL hf
    obtain ⟨hP2, hD2⟩ := va_joinQ hP hD isC isR hC hR hn hdis hk1 hF (by rw [e1]; exact hb.1) hb.2
    obtain ⟨t2, a1, b1⟩ := kx E q u t T'.heap (locs ++ L) hp hP2 hD2 hS1 e1.symm ho T' rfl X'
    exact ⟨t2, st t2 a1, b1⟩
theorem jw_callPi {S : Type} {post : Int32 → S → Prop} {w1 pl1 : S → va_W} (hP : va_P D cl (X ++ pl) H) (hD : va_D A0 (X ++ pl)) (hS : va_S A0 H0 H locs) (hA : ∀ q, H0.size ≤ q → A0 q) (isC isR : List Nat) (hC : isC.map (fun i => X[i]?) = cx.map some) (hR : isR.map (fun i => X[i]?) = wr.map some) (hn : va_nd isR = true) (hdis : ∀ i ∈ isR, i ∉ isC)
    (hr : va_Run p l e R s m args below meth c H locs cells slots mc ms (F0 m pc ls st0) rest (va_Qi post (jw_B D cl (va_A (cx ++ pl) H.size) (fun u => w1 u ++ pl1 u)) (va_A (cx ++ pl) H.size) a) (va_A (cx ++ pl) H.size))
    (kk : ∀ (r : Int32) (u : S) (H1 : Heap) (locs1 : List Loc), post r u → va_P D cl ((wr ++ w1 u) ++ pl1 u) H1 → va_D A0 ((wr ++ w1 u) ++ pl1 u) → va_S A0 H0 H1 locs1 → W p l e R s m args below meth c H1 locs1 (cells + mc) (slots + ms) Q (F0 m (pc + 3) ls (.int r :: rest))) :
    W p l e R s m args below meth c H locs cells slots Q (F0 m pc ls st0) := by
  have hF : ∀ q, va_A (cx ++ pl) H.size q → A0 q := va_freeP (cx := cx) hD hS hA isC hC
  refine va_calli hr hS (fun q _ h => hF q h) hF (fun r u t H1 locs1 ht hvm hw hB hz1 hk1 hS1 => ?_)
  obtain ⟨hP1, hD1⟩ := hB
  rw [ht] at hP1
  obtain ⟨hP2, hD2⟩ := va_joinP hP hD isC isR hC hR hn hdis hk1 hF hP1 hD1
  exact kk r u H1 locs1 hw hP2 hD2 hS1
theorem xm_callPi {S SX : Type} {post : Int32 → S → Prop} {w1 pl1 : S → va_W} {px : String → SX → Prop} {wx plx : SX → va_W} (hP : va_P D cl (X ++ pl) H) (hD : va_D A0 (X ++ pl)) (hS : va_S A0 H0 H locs) (hA : ∀ q, H0.size ≤ q → A0 q) (isC isR : List Nat) (hC : isC.map (fun i => X[i]?) = cx.map some) (hR : isR.map (fun i => X[i]?) = wr.map some) (hn : va_nd isR = true) (hdis : ∀ i ∈ isR, i ∉ isC)
    (hr : xRun p l e R s m args below meth c H locs cells slots mc ms (F0 m pc ls st0) rest (va_Qi post (jw_B D cl (va_A (cx ++ pl) H.size) (fun u => w1 u ++ pl1 u)) (va_A (cx ++ pl) H.size) a) (xm_E D cl (va_A (cx ++ pl) H.size) px (fun u => wx u ++ plx u)) (va_A (cx ++ pl) H.size))
    (kx : ∀ (E : String) (q9 : Addr) (u : SX) (t : State) (H1 : Heap) (locs1 : List Loc), px E u → va_P D cl ((wr ++ wx u) ++ plx u) H1 → va_D A0 ((wr ++ wx u) ++ plx u) → va_S A0 H0 H1 locs1 → t.heap = H1 → xm_o E s q9 t → xW p l e R s m args below meth c H1 locs1 (cells + mc) (slots + ms) Q (F0 m pc ls rest) q9)
    (kk : ∀ (r : Int32) (u : S) (H1 : Heap) (locs1 : List Loc), post r u → va_P D cl ((wr ++ w1 u) ++ pl1 u) H1 → va_D A0 ((wr ++ w1 u) ++ pl1 u) → va_S A0 H0 H1 locs1 → W p l e R s m args below meth c H1 locs1 (cells + mc) (slots + ms) Q (F0 m (pc + 3) ls (.int r :: rest))) :
    W p l e R s m args below meth c H locs cells slots Q (F0 m pc ls st0) := by
  have hF : ∀ q, va_A (cx ++ pl) H.size q → A0 q := va_freeP (cx := cx) hD hS hA isC hC
  intro T hT X1
  rcases hr T hT X1 with ⟨v, st₀, t, T', L, h0, X', hL, e1, e2, ⟨⟨r, u, hv, hp, hb⟩, hf⟩, st⟩ | ⟨q, E, st₀, t, T', L, h0, X', hL, e1, e2, ⟨u, hp, hb, hf⟩, ho, st⟩
  · cases hv
    obtain ⟨hS1, hk1⟩ := xm_keep h0 e1 hS hF hF hL hf
    obtain ⟨hP2, hD2⟩ := va_joinP hP hD isC isR hC hR hn hdis hk1 hF (by rw [e1]; exact hb.1) hb.2
    obtain ⟨t2, a1, b1⟩ := kk r u T'.heap (locs ++ L) hp hP2 hD2 hS1 T' rfl X'
    exact ⟨t2, st t2 a1, b1⟩
  · obtain ⟨hS1, hk1⟩ := xm_keep h0 e1 hS hF hF hL hf
    obtain ⟨hP2, hD2⟩ := va_joinP hP hD isC isR hC hR hn hdis hk1 hF (by rw [e1]; exact hb.1) hb.2
    obtain ⟨t2, a1, b1⟩ := kx E q u t T'.heap (locs ++ L) hp hP2 hD2 hS1 e1.symm ho T' rfl X'
    exact ⟨t2, st t2 a1, b1⟩
theorem jw_callPl {S : Type} {post : Int64 → S → Prop} {w1 pl1 : S → va_W} (hP : va_P D cl (X ++ pl) H) (hD : va_D A0 (X ++ pl)) (hS : va_S A0 H0 H locs) (hA : ∀ q, H0.size ≤ q → A0 q) (isC isR : List Nat) (hC : isC.map (fun i => X[i]?) = cx.map some) (hR : isR.map (fun i => X[i]?) = wr.map some) (hn : va_nd isR = true) (hdis : ∀ i ∈ isR, i ∉ isC)
    (hr : va_Run p l e R s m args below meth c H locs cells slots mc ms (F0 m pc ls st0) rest (va_Ql post (jw_B D cl (va_A (cx ++ pl) H.size) (fun u => w1 u ++ pl1 u)) (va_A (cx ++ pl) H.size) a) (va_A (cx ++ pl) H.size))
    (kk : ∀ (r : Int64) (u : S) (H1 : Heap) (locs1 : List Loc), post r u → va_P D cl ((wr ++ w1 u) ++ pl1 u) H1 → va_D A0 ((wr ++ w1 u) ++ pl1 u) → va_S A0 H0 H1 locs1 → W p l e R s m args below meth c H1 locs1 (cells + mc) (slots + ms) Q (F0 m (pc + 3) ls (.long r :: rest))) :
    W p l e R s m args below meth c H locs cells slots Q (F0 m pc ls st0) := by
  have hF : ∀ q, va_A (cx ++ pl) H.size q → A0 q := va_freeP (cx := cx) hD hS hA isC hC
  refine va_calll hr hS (fun q _ h => hF q h) hF (fun r u t H1 locs1 ht hvm hw hB hz1 hk1 hS1 => ?_)
  obtain ⟨hP1, hD1⟩ := hB
  rw [ht] at hP1
  obtain ⟨hP2, hD2⟩ := va_joinP hP hD isC isR hC hR hn hdis hk1 hF hP1 hD1
  exact kk r u H1 locs1 hw hP2 hD2 hS1
theorem xm_callPl {S SX : Type} {post : Int64 → S → Prop} {w1 pl1 : S → va_W} {px : String → SX → Prop} {wx plx : SX → va_W} (hP : va_P D cl (X ++ pl) H) (hD : va_D A0 (X ++ pl)) (hS : va_S A0 H0 H locs) (hA : ∀ q, H0.size ≤ q → A0 q) (isC isR : List Nat) (hC : isC.map (fun i => X[i]?) = cx.map some) (hR : isR.map (fun i => X[i]?) = wr.map some) (hn : va_nd isR = true) (hdis : ∀ i ∈ isR, i ∉ isC)
    (hr : xRun p l e R s m args below meth c H locs cells slots mc ms (F0 m pc ls st0) rest (va_Ql post (jw_B D cl (va_A (cx ++ pl) H.size) (fun u => w1 u ++ pl1 u)) (va_A (cx ++ pl) H.size) a) (xm_E D cl (va_A (cx ++ pl) H.size) px (fun u => wx u ++ plx u)) (va_A (cx ++ pl) H.size))
    (kx : ∀ (E : String) (q9 : Addr) (u : SX) (t : State) (H1 : Heap) (locs1 : List Loc), px E u → va_P D cl ((wr ++ wx u) ++ plx u) H1 → va_D A0 ((wr ++ wx u) ++ plx u) → va_S A0 H0 H1 locs1 → t.heap = H1 → xm_o E s q9 t → xW p l e R s m args below meth c H1 locs1 (cells + mc) (slots + ms) Q (F0 m pc ls rest) q9)
    (kk : ∀ (r : Int64) (u : S) (H1 : Heap) (locs1 : List Loc), post r u → va_P D cl ((wr ++ w1 u) ++ pl1 u) H1 → va_D A0 ((wr ++ w1 u) ++ pl1 u) → va_S A0 H0 H1 locs1 → W p l e R s m args below meth c H1 locs1 (cells + mc) (slots + ms) Q (F0 m (pc + 3) ls (.long r :: rest))) :
    W p l e R s m args below meth c H locs cells slots Q (F0 m pc ls st0) := by
  have hF : ∀ q, va_A (cx ++ pl) H.size q → A0 q := va_freeP (cx := cx) hD hS hA isC hC
  intro T hT X1
  rcases hr T hT X1 with ⟨v, st₀, t, T', L, h0, X', hL, e1, e2, ⟨⟨r, u, hv, hp, hb⟩, hf⟩, st⟩ | ⟨q, E, st₀, t, T', L, h0, X', hL, e1, e2, ⟨u, hp, hb, hf⟩, ho, st⟩
  · cases hv
    obtain ⟨hS1, hk1⟩ := xm_keep h0 e1 hS hF hF hL hf
    obtain ⟨hP2, hD2⟩ := va_joinP hP hD isC isR hC hR hn hdis hk1 hF (by rw [e1]; exact hb.1) hb.2
    obtain ⟨t2, a1, b1⟩ := kk r u T'.heap (locs ++ L) hp hP2 hD2 hS1 T' rfl X'
    exact ⟨t2, st t2 a1, b1⟩
  · obtain ⟨hS1, hk1⟩ := xm_keep h0 e1 hS hF hF hL hf
    obtain ⟨hP2, hD2⟩ := va_joinP hP hD isC isR hC hR hn hdis hk1 hF (by rw [e1]; exact hb.1) hb.2
    obtain ⟨t2, a1, b1⟩ := kx E q u t T'.heap (locs ++ L) hp hP2 hD2 hS1 e1.symm ho T' rfl X'
    exact ⟨t2, st t2 a1, b1⟩
theorem jw_callPv {S : Type} {post : S → Prop} {w1 pl1 : S → va_W} (hP : va_P D cl (X ++ pl) H) (hD : va_D A0 (X ++ pl)) (hS : va_S A0 H0 H locs) (hA : ∀ q, H0.size ≤ q → A0 q) (isC isR : List Nat) (hC : isC.map (fun i => X[i]?) = cx.map some) (hR : isR.map (fun i => X[i]?) = wr.map some) (hn : va_nd isR = true) (hdis : ∀ i ∈ isR, i ∉ isC)
    (hr : va_Run p l e R s m args below meth c H locs cells slots mc ms (F0 m pc ls st0) rest (va_Qv post (jw_B D cl (va_A (cx ++ pl) H.size) (fun u => w1 u ++ pl1 u)) (va_A (cx ++ pl) H.size) a) (va_A (cx ++ pl) H.size))
    (kk : ∀ (u : S) (H1 : Heap) (locs1 : List Loc), post u → va_P D cl ((wr ++ w1 u) ++ pl1 u) H1 → va_D A0 ((wr ++ w1 u) ++ pl1 u) → va_S A0 H0 H1 locs1 → W p l e R s m args below meth c H1 locs1 (cells + mc) (slots + ms) Q (F0 m (pc + 3) ls (rest))) :
    W p l e R s m args below meth c H locs cells slots Q (F0 m pc ls st0) := by
  have hF : ∀ q, va_A (cx ++ pl) H.size q → A0 q := va_freeP (cx := cx) hD hS hA isC hC
  refine va_callv hr hS (fun q _ h => hF q h) hF (fun u t H1 locs1 ht hvm hw hB hz1 hk1 hS1 => ?_)
  obtain ⟨hP1, hD1⟩ := hB
  rw [ht] at hP1
  obtain ⟨hP2, hD2⟩ := va_joinP hP hD isC isR hC hR hn hdis hk1 hF hP1 hD1
  exact kk u H1 locs1 hw hP2 hD2 hS1
theorem xm_callPv {S SX : Type} {post : S → Prop} {w1 pl1 : S → va_W} {px : String → SX → Prop} {wx plx : SX → va_W} (hP : va_P D cl (X ++ pl) H) (hD : va_D A0 (X ++ pl)) (hS : va_S A0 H0 H locs) (hA : ∀ q, H0.size ≤ q → A0 q) (isC isR : List Nat) (hC : isC.map (fun i => X[i]?) = cx.map some) (hR : isR.map (fun i => X[i]?) = wr.map some) (hn : va_nd isR = true) (hdis : ∀ i ∈ isR, i ∉ isC)
    (hr : xRun p l e R s m args below meth c H locs cells slots mc ms (F0 m pc ls st0) rest (va_Qv post (jw_B D cl (va_A (cx ++ pl) H.size) (fun u => w1 u ++ pl1 u)) (va_A (cx ++ pl) H.size) a) (xm_E D cl (va_A (cx ++ pl) H.size) px (fun u => wx u ++ plx u)) (va_A (cx ++ pl) H.size))
    (kx : ∀ (E : String) (q9 : Addr) (u : SX) (t : State) (H1 : Heap) (locs1 : List Loc), px E u → va_P D cl ((wr ++ wx u) ++ plx u) H1 → va_D A0 ((wr ++ wx u) ++ plx u) → va_S A0 H0 H1 locs1 → t.heap = H1 → xm_o E s q9 t → xW p l e R s m args below meth c H1 locs1 (cells + mc) (slots + ms) Q (F0 m pc ls rest) q9)
    (kk : ∀ (u : S) (H1 : Heap) (locs1 : List Loc), post u → va_P D cl ((wr ++ w1 u) ++ pl1 u) H1 → va_D A0 ((wr ++ w1 u) ++ pl1 u) → va_S A0 H0 H1 locs1 → W p l e R s m args below meth c H1 locs1 (cells + mc) (slots + ms) Q (F0 m (pc + 3) ls (rest))) :
    W p l e R s m args below meth c H locs cells slots Q (F0 m pc ls st0) := by
  have hF : ∀ q, va_A (cx ++ pl) H.size q → A0 q := va_freeP (cx := cx) hD hS hA isC hC
  intro T hT X1
  rcases hr T hT X1 with ⟨v, st₀, t, T', L, h0, X', hL, e1, e2, ⟨⟨u, hv, hp, hb⟩, hf⟩, st⟩ | ⟨q, E, st₀, t, T', L, h0, X', hL, e1, e2, ⟨u, hp, hb, hf⟩, ho, st⟩
  · cases hv
    obtain ⟨hS1, hk1⟩ := xm_keep h0 e1 hS hF hF hL hf
    obtain ⟨hP2, hD2⟩ := va_joinP hP hD isC isR hC hR hn hdis hk1 hF (by rw [e1]; exact hb.1) hb.2
    obtain ⟨t2, a1, b1⟩ := kk u T'.heap (locs ++ L) hp hP2 hD2 hS1 T' rfl X'
    exact ⟨t2, st t2 a1, b1⟩
  · obtain ⟨hS1, hk1⟩ := xm_keep h0 e1 hS hF hF hL hf
    obtain ⟨hP2, hD2⟩ := va_joinP hP hD isC isR hC hR hn hdis hk1 hF (by rw [e1]; exact hb.1) hb.2
    obtain ⟨t2, a1, b1⟩ := kx E q u t T'.heap (locs ++ L) hp hP2 hD2 hS1 e1.symm ho T' rfl X'
    exact ⟨t2, st t2 a1, b1⟩
end JWQ
theorem gs_get3 {cI : ClassId} {n k n1 k1 n2 k2 : Nat} {r r1 r2 : Nat → Nat} {M M1 M2 : Nat → Nat → Int32} {X Y : va_W} {x i : Nat} (hx : X.length + n1 + n2 = x) (hi : i < n) : (X ++ (gs_ cI n1 k1 r1 M1 ++ (gs_ cI n2 k2 r2 M2 ++ (gs_ cI n k r M ++ Y))))[x + i]? = some (r i, .inl (cI, k, .inl (M i))) := by
  have h := gs_get2 (cI := cI) (k := k) (r := r) (M := M) (Y := Y) (X := X ++ gs_ cI n1 k1 r1 M1) (n1 := n2) (k1 := k2) (r1 := r2) (M1 := M2) (x := x) (by rw [List.length_append, gs_len]; exact hx) hi
  rw [List.append_assoc] at h
  exact h
theorem gs_set3 {cI : ClassId} {n k n1 k1 n2 k2 : Nat} {r r1 r2 : Nat → Nat} {M M1 M2 : Nat → Nat → Int32} {X Y : va_W} {x i j : Nat} {v : Int32} (hx : X.length + n1 + n2 = x) (hi : i < n) : (X ++ (gs_ cI n1 k1 r1 M1 ++ (gs_ cI n2 k2 r2 M2 ++ (gs_ cI n k r M ++ Y)))).set (x + i) (r i, .inl (cI, k, .inl (upd (M i) j v))) = X ++ (gs_ cI n1 k1 r1 M1 ++ (gs_ cI n2 k2 r2 M2 ++ (gs_ cI n k r (gs_up M i j v) ++ Y))) := by
  have h := gs_set2 (cI := cI) (k := k) (r := r) (M := M) (Y := Y) (X := X ++ gs_ cI n1 k1 r1 M1) (n1 := n2) (k1 := k2) (r1 := r2) (M1 := M2) (x := x) (j := j) (v := v) (by rw [List.length_append, gs_len]; exact hx) hi
  rw [List.append_assoc, List.append_assoc] at h
  exact h
