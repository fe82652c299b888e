/-! the context of methods that throw -/
def XR_ : List (Nat × String) := [(228, "out of bounds, or there is none such"), (76, "there are 8 kinds"), (90, "there are 20 pipes"), (102, "there would be more than 60 taps of the kind"), (113, "there are 20 entries"), (172, "there is no paper"), (201, "a pipe on the way has no size"), (206, "there is no pipe"), (208, "a pipe has no size")]
def XR (U : State) : Prop := ∀ q ∈ XR_, ∃ a, vk_R "UseOdds" q.1 q.2 a U
def XC (A : Nat → Prop) (U : State) : Prop := TX U ∧ XT U ∧ XR U ∧ eh_ "UNASSIGNED_STACK" Bundle.steD A U U.heap ∧ eh_ "SUPPRESSED_SENTINEL" Bundle.listD A U U.heap
theorem jx_XC (A : Nat → Prop) : jw_X (XC A) := fun u U hW hh h => ⟨h.1.warm hW, h.2.1.warm hW, fun q hq => (h.2.2.1 q hq).elim fun a z => ⟨a, z.warm hW⟩, by rw [hh]; exact h.2.2.2.1.moved hW.alike, by rw [hh]; exact h.2.2.2.2.moved hW.alike⟩
theorem XC.call {A B : Nat → Prop} {s : State} {H : Heap} {locs : List Loc} (h : XC A s) (hS : va_S A s.heap H locs) (hAB : ∀ q, B q → A q) : ∀ U : State, U.heap = H → s.WarmedH U.vm → XC B U := fun U hU hW =>
  ⟨h.1.warm hW, h.2.1.warm hW, fun q hq => (h.2.2.1 q hq).elim fun a z => ⟨a, z.warm hW⟩, by rw [hU]; exact ((h.2.2.2.1.kept hS.2.1).moved hW.alike).narrow hAB, by rw [hU]; exact ((h.2.2.2.2.kept hS.2.1).moved hW.alike).narrow hAB⟩
theorem XC.at {A : Nat → Prop} {s : State} {H : Heap} {locs : List Loc} (h : XC A s) (hS : va_S A s.heap H locs) (args : Array Value) (U : State) (hv : U.vm = s.vm) (hU : U.heap = H) : (∀ w ∈ TW, w.before args U = true) ∧ (∀ q ∈ XR_, (Cond.stringRef "UseOdds" q.1 q.2).before args U = true) ∧ ∀ a ∈ XA_ ++ XS_, a.before args U = true := by
  have hal : s.vm.Alike U.vm := by rw [hv]; exact Vm.Alike.refl _
  have e1 : eh_ "UNASSIGNED_STACK" Bundle.steD A U U.heap := by rw [hU]; exact (h.2.2.2.1.kept hS.2.1).moved hal
  have e2 : eh_ "SUPPRESSED_SENTINEL" Bundle.listD A U U.heap := by rw [hU]; exact (h.2.2.2.2.kept hS.2.1).moved hal
  refine ⟨fun w hw => va_tabs (tw_on hw).1 hv.symm (h.1 w hw), fun q hq => ?_, fun a ha => ?_⟩
  · obtain ⟨x, hx⟩ := h.2.2.1 q hq
    exact (vk_R.same hv hx).1
  · rcases xt_all a ha with k | k
    · have k2 := k
      unfold xt_k at k2
      exact va_tabs (Bool.and_eq_true_iff.mp k2).1 hv.symm (h.2.1 a (List.mem_filter.mpr ⟨ha, k⟩))
    · simp only [xt_4, List.mem_cons, List.not_mem_nil, or_false] at k
      rcases k with rfl | rfl | rfl | rfl
      · exact (e1.words args).1
      · exact (e2.words args).1
      · exact (e1.words args).2
      · exact (e2.words args).2
section XTT
variable {p : Program} {l : Launch} {e : Env} {R : Room} {s : State} {m : MethodId} {args : Array Value} {below : List Frame} {meth : Method} {c : Code} {H : Heap} {locs : List Loc} {cells slots : Nat} {Qc : Array Value → State → Outcome → State → Prop} {mc ms : Nat} {ls : Array Slot} {rest : List Value} {pc : Nat} {cc : ByteArray} {text : String} {is : Nat} {A : Nat → Prop} {D : va_G} {cl : List vw_C} {SX : Type} {px : String → SX → Prop} {wx : SX → va_W}
theorem xt_E {cls : String} (u : SX) (hpx : px cls u) (hP : va_P D cl (wx u) H) (hD : va_D A (wx u)) (hS : va_S A s.heap H locs) : ∀ t : State, H.size ≤ t.heap.size → (∀ q : Nat, q < H.size → t.heap[q]? = H[q]?) → xm_E D cl A px wx cls s t := fun t h1 h2 =>
  ⟨u, hpx, ⟨hP.kept (fun k q hk => h2 q.1 ((hP k q hk).lt)), hD⟩, Nat.le_trans hS.1 h1, fun q g1 g2 => by rw [h2 q (Nat.lt_of_lt_of_le g1 hS.1)]; exact hS.2.1 q g1 g2⟩
theorem xt_iae (hx : p.tables.exec = Jvm.exec) (hb : c.code = cc) (hl : l.stackTraces = false) (hown : s.vm.findClass "UseOdds" = some m.cls) (hX : XC A s) (hS : va_S A s.heap H locs) (hq : (is, text) ∈ XR_) (hsize : ls.size = c.maxLocals)
    (d0 : decode cc pc = .ok (.new 226, 3)) (d3 : decode cc (pc + 3) = .ok (.dup, 1)) (d4 : decode cc (pc + 4) = .ok (.ldc is, 2)) (d6 : decode cc (pc + 6) = .ok (.invokespecial 230, 3)) (d9 : decode cc (pc + 9) = .ok (.athrow, 1))
    (hout : c.exceptionTable.isEmpty = true) (hRframes : 5 < R.frames) (hRlocals : (rest.map fun v => v.category).sum + 82 ≤ R.locals) (hRcells : cells + 1 ≤ R.cells) (hRslots : slots + 6 ≤ R.slots) (hlocks : meth.locks = false)
    (u : SX) (hpx : px "java/lang/IllegalArgumentException" u) (hP : va_P D cl (wx u) H) (hD : va_D A (wx u)) (hc : cells + 1 ≤ mc) (hs : slots + 6 ≤ ms) :
    W p l e R s m args below meth c H locs cells slots (xm_MQ below Qc (xm_E D cl A px wx) args s mc ms A) (F0 m pc ls rest) :=
  xm_throwG hx hb hl (own := "UseOdds") (names := ["java/lang/RuntimeException", "java/lang/Exception"]) (text := text) hown (by decide +kernel) (by decide +kernel) (fun U hv hU => by
    obtain ⟨h1, h2, h3⟩ := hX.at hS args U hv hU
    exact ⟨h1 _ tw278, h1 _ tw13, h2 _ hq, fun a ha => h3 a (List.mem_append_left _ ha)⟩) hsize d0 d3 d4 d6 d9 hout hRframes hRlocals hRcells hRslots hlocks (xt_E u hpx hP hD hS) hS.2.2 hc hs
theorem xt_ise (hx : p.tables.exec = Jvm.exec) (hb : c.code = cc) (hl : l.stackTraces = false) (hown : s.vm.findClass "UseOdds" = some m.cls) (hX : XC A s) (hS : va_S A s.heap H locs) (hq : (is, text) ∈ XR_) (hsize : ls.size = c.maxLocals)
    (d0 : decode cc pc = .ok (.new 74, 3)) (d3 : decode cc (pc + 3) = .ok (.dup, 1)) (d4 : decode cc (pc + 4) = .ok (.ldc is, 2)) (d6 : decode cc (pc + 6) = .ok (.invokespecial 78, 3)) (d9 : decode cc (pc + 9) = .ok (.athrow, 1))
    (hout : c.exceptionTable.isEmpty = true) (hRframes : 5 < R.frames) (hRlocals : (rest.map fun v => v.category).sum + 82 ≤ R.locals) (hRcells : cells + 1 ≤ R.cells) (hRslots : slots + 6 ≤ R.slots) (hlocks : meth.locks = false)
    (u : SX) (hpx : px "java/lang/IllegalStateException" u) (hP : va_P D cl (wx u) H) (hD : va_D A (wx u)) (hc : cells + 1 ≤ mc) (hs : slots + 6 ≤ ms) :
    W p l e R s m args below meth c H locs cells slots (xm_MQ below Qc (xm_E D cl A px wx) args s mc ms A) (F0 m pc ls rest) :=
  xm_throwG hx hb hl (own := "UseOdds") (names := ["java/lang/RuntimeException", "java/lang/Exception"]) (text := text) hown (by decide +kernel) (by decide +kernel) (fun U hv hU => by
    obtain ⟨h1, h2, h3⟩ := hX.at hS args U hv hU
    exact ⟨h1 _ tw345, h1 _ tw14, h2 _ hq, fun a ha => h3 a (List.mem_append_right _ ha)⟩) hsize d0 d3 d4 d6 d9 hout hRframes hRlocals hRcells hRslots hlocks (xt_E u hpx hP hD hS) hS.2.2 hc hs
end XTT
