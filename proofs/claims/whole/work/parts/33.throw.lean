/-! the same frame, as if the method were called anew in the heap that it has come to -/
theorem xm_rebase {p : Program} {l : Launch} {e : Env} {R R' : Room} {s : State} {m : MethodId} {args : Array Value} {below : List Frame} {meth : Method} {c : Code} {T : State} {locs : List Loc} {cells slots : Nat} (X : Stand p l e R s m args below meth c T locs cells slots)
    (hf : R'.frames ≤ R.frames) (hl : R'.locals ≤ R.locals) (hc : cells + R'.cells ≤ R.cells) (hs : slots + R'.slots ≤ R.slots) : Stand p l e R' ((T.setVm s.vm).setFrames (.invoking m args :: below)) m args below meth c T [] 0 0 := by
  obtain ⟨g₀, hfr⟩ := X.frames_eq
  have hcur : (T.setVm s.vm).cur < (T.setVm s.vm).threads.size := State.cur_lt_of_frames (show (T.setVm s.vm).frames = .java g₀ :: below from hfr)
  have hF : ((T.setVm s.vm).setFrames (.invoking m args :: below)).frames = .invoking m args :: below := State.frames_setFrames _ hcur
  have hme : ((T.setVm s.vm).setFrames (.invoking m args :: below)).me.stackBytes = T.me.stackBytes := State.stackBytes_setFrames (T.setVm s.vm) _
  have hlim : e.platform.stackLimits ((T.setVm s.vm).setFrames (.invoking m args :: below)).me = e.platform.stackLimits T.me := by
    rw [State.stackLimits_setFrames]; rfl
  have hbook : ((T.setVm s.vm).setFrames (.invoking m args :: below)).slotsTrue = true := X.book
  have h1 := X.heapSize
  have h2 := X.used
  have hloc : ((T.setVm s.vm).setFrames (.invoking m args :: below)).localsInUse = s.localsInUse := by
    rw [State.localsInUse_invoking hF X.method X.code, State.localsInUse_invoking X.frames X.method X.code]
  have hroom := X.room
  refine ⟨X.admits, X.cas, X.clock, hF, ?_, ?_, X.method, X.code, X.here, X.tail, ?_, hlim.symm, hme.symm, ?_⟩
  · simp only [State.hasRoom, Bool.and_eq_true, decide_eq_true_eq] at hroom ⊢
    rw [hF, hloc, hlim, hme, X.limits, X.bytes]
    rw [X.frames] at hroom
    obtain ⟨⟨⟨⟨r1, r2, r3, r4, r5, r6⟩, r7⟩, r8⟩, r9⟩ := hroom
    refine ⟨⟨⟨⟨by omega, by omega, by omega, by omega, by omega, r6⟩, ?_⟩, ?_⟩, hbook⟩
    · show T.heap.size + _ ≤ _
      omega
    · show T.slotsUsed + _ ≤ _
      omega
  · have := X.hears
    revert this
    unfold State.hears
    exact fun h => h
  · exact X.warmed
  · refine ⟨?_, Nat.le_refl _, Nat.le_refl _, ?_, ?_, fun a c0 h => ⟨c0, h, rfl, rfl, fun _ _ => rfl⟩⟩
    · show T.setVm s.vm = _
      obtain ⟨t, ht, -⟩ := State.frames_cons (show (T.setVm s.vm).frames = .java g₀ :: below from hfr)
      show T.setVm s.vm = { ((T.setVm s.vm).setFrames (.invoking m args :: below)).setFrames (T.setVm s.vm).frames with heap := T.heap, slotsUsed := T.slotsUsed }
      rw [State.setFrames_setFrames, State.setFrames_self ht]
      rfl
    · have e1 : (T.heap.toList.drop T.heap.size) = [] := List.drop_of_length_le (by simp)
      show T.slotsUsed = T.slotsUsed + ((T.heap.toList.drop T.heap.size).map (·.slots.size)).sum
      rw [e1]; simp
    · have e1 : (T.heap.toList.drop T.heap.size) = [] := List.drop_of_length_le (by simp)
      show ((T.heap.toList.drop T.heap.size).map (·.slots.size)).sum ≤ 0
      rw [e1]; simp
