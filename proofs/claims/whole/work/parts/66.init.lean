theorem vr_lay {X rows : va_W} {x : Nat × va_E} {pl : va_W} {D : va_G} {cl : List vw_C} {H : Heap} (hP : va_P D cl (((X ++ pl) ++ [x]) ++ rows) H) : va_P D cl ((X ++ [x]) ++ (pl ++ rows)) H := by
  rw [List.append_assoc (X ++ pl)] at hP
  have h := va_P.swap hP
  rw [← List.append_assoc X] at h
  have h2 := va_P.swap h
  rw [List.append_assoc (X ++ [x])] at h2
  exact h2
theorem vr_layD {X rows : va_W} {x : Nat × va_E} {pl : va_W} {A : Nat → Prop} (hD : va_D A (((X ++ pl) ++ [x]) ++ rows)) : va_D A ((X ++ [x]) ++ (pl ++ rows)) := by
  rw [List.append_assoc (X ++ pl)] at hD
  have h := va_D.swap hD
  rw [← List.append_assoc X] at h
  have h2 := va_D.swap h
  rw [List.append_assoc (X ++ [x])] at h2
  exact h2
theorem vr_outer (c : ClassId) (N h0 : Nat) : ∀ i : Nat, Jvm.Free.Multi.outerC c N h0 i = arrV c N (fun j => va_rf (if j < i then some (h0 + 1 + j) else none))
  | 0 => by
    show ({ cls := c, slots := Array.replicate N .null, vm := .none } : Cell) = _
    rw [arrV_new]
    refine congrArg (arrV c N) (funext fun j => ?_)
    simp [va_rf]
  | i + 1 => by
    show (Jvm.Free.Multi.outerC c N h0 i).setSlot i (.ref (h0 + 1 + i)) = _
    rw [vr_outer c N h0 i, arrV_store]
    refine congrArg (arrV c N) (funext fun j => ?_)
    by_cases e : j = i
    · subst e
      simp [updV, va_rf]
    · by_cases h : j < i
      · simp [updV, e, h, Nat.lt_succ_of_lt h]
      · simp [updV, e, h, show ¬ j < i + 1 by omega]

/-! constructors: the words of array classes, a new array, new int[n][k] -/
def XI (U : State) : Prop := TX U ∧ (Cond.arrayClass .int).before #[] U = true ∧ (Cond.arrayClass .long).before #[] U = true ∧ (Cond.arrayOver (.array .int)).before #[] U = true
theorem XI.warm {s U : State} (hW : s.WarmedH U.vm) (h : XI s) : XI U := ⟨h.1.warm hW, Jvm.Free.SB.ASBInit.arrayClass_alike hW.alike h.2.1, Jvm.Free.SB.ASBInit.arrayClass_alike hW.alike h.2.2.1, arrayOver_alikeB hW.alike h.2.2.2⟩
theorem jx_XI : jw_X XI := fun _ _ hW _ h => h.warm hW
theorem XI.int {s : State} (h : XI s) (A : Array Value) : (Cond.arrayClass .int).before A s = true := h.2.1
theorem XI.long {s : State} (h : XI s) (A : Array Value) : (Cond.arrayClass .long).before A s = true := h.2.2.1
theorem XI.over {s : State} (h : XI s) (A : Array Value) : (Cond.arrayOver (.array .int)).before A s = true := h.2.2.2
section JWI
variable {p : Program} {l : Launch} {e : Env} {R : Room} {s : State} {m : MethodId} {args : Array Value} {below : List Frame} {meth : Method} {c : Code} {H : Heap} {locs : List Loc} {cells slots : Nat} {Q : State → Prop}
variable {cc : ByteArray} {pc : Nat} {ls : Array Slot} {rest : List Value} {D : va_G} {cl : List vw_C} {A : Nat → Prop} {a : Nat} {cs : Nat → ClassId} {ws : va_W} {H0 : Heap}
theorem jw_newI (hx : p.tables.exec = Jvm.exec) (hb : c.code = cc) (harr : (Cond.arrayClass .int).before args s = true) (hK : va_K D cl (jt cs) s) (hP : va_P D cl ws H) (hD : va_D A ws) (hS : va_S A H0 H locs) (hA : ∀ q, H0.size ≤ q → A q) {n : Nat} (hn : n < 1000) (hcells : cells + 1 ≤ R.cells) (hslots : slots + n ≤ R.slots) (hdg : decode cc pc = .ok (.newarray .int, 2))
    (kk : ∀ (q : Nat) (H1 : Heap), va_P D cl (ws ++ [(q, .inl (cs 0, n, .inl (fun _ => nI 0)))]) H1 → va_D A (ws ++ [(q, .inl (cs 0, n, .inl (fun _ => nI 0)))]) → va_S A H0 H1 locs → W p l e R s m args below meth c H1 locs (cells + 1) (slots + n) Q (F0 m (pc + 2) ls (.ref q :: rest))) : W p l e R s m args below meth c H locs cells slots Q (F0 m pc ls (.int (nI n) :: rest)) := by
  refine va_newa (atype := .int) (ty := .int) hx hb harr rfl hK hP hD hS hA (a0 := (n, .inl (fun _ => nI 0))) (fun cA => ?_) (nI_pos (by omega)) (nI_clamp (by omega)) ?_ hcells hslots hdg (fun q cA H1 hK1 hP1 hD1 hS1 => ?_)
  · rw [vp_cell_i]
    exact congrArg (arrV cA n) (funext fun _ => congrArg Value.int nI_0)
  · exact Nat.le_trans (Nat.mul_le_mul_right _ (Nat.le_of_lt hn)) (by decide)
  · have h1 : va_RA s cA .int := (hK1.2 3 _ rfl).2
    have h2 : va_RA s (cs 0) .int := (hK.2 0 _ rfl).2
    have h3 : some cA = some (cs 0) := Eq.trans (Eq.symm h1) h2
    cases h3
    exact kk q H1 hP1 hD1 hS1
theorem jw_newJ (hx : p.tables.exec = Jvm.exec) (hb : c.code = cc) (harr : (Cond.arrayClass .long).before args s = true) (hK : va_K D cl (jt cs) s) (hP : va_P D cl ws H) (hD : va_D A ws) (hS : va_S A H0 H locs) (hA : ∀ q, H0.size ≤ q → A q) {n : Nat} (hn : n < 1000) (hcells : cells + 1 ≤ R.cells) (hslots : slots + n ≤ R.slots) (hdg : decode cc pc = .ok (.newarray .long, 2))
    (kk : ∀ (q : Nat) (H1 : Heap), va_P D cl (ws ++ [(q, .inl (cs 1, n, .inr (.inl (fun _ => lN 0))))]) H1 → va_D A (ws ++ [(q, .inl (cs 1, n, .inr (.inl (fun _ => lN 0))))]) → va_S A H0 H1 locs → W p l e R s m args below meth c H1 locs (cells + 1) (slots + n) Q (F0 m (pc + 2) ls (.ref q :: rest))) : W p l e R s m args below meth c H locs cells slots Q (F0 m pc ls (.int (nI n) :: rest)) := by
  refine va_newa (atype := .long) (ty := .long) hx hb harr rfl hK hP hD hS hA (a0 := (n, .inr (.inl (fun _ => lN 0)))) (fun cA => ?_) (nI_pos (by omega)) (nI_clamp (by omega)) ?_ hcells hslots hdg (fun q cA H1 hK1 hP1 hD1 hS1 => ?_)
  · rw [vp_cell_l]
    exact congrArg (arrV cA n) (funext fun _ => congrArg Value.long (show lN 0 = 0 by decide))
  · exact Nat.le_trans (Nat.mul_le_mul_right _ (Nat.le_of_lt hn)) (by decide)
  · have h1 : va_RA s cA .long := (hK1.2 3 _ rfl).2
    have h2 : va_RA s (cs 1) .long := (hK.2 1 _ rfl).2
    have h3 : some cA = some (cs 1) := Eq.trans (Eq.symm h1) h2
    cases h3
    exact kk q H1 hP1 hD1 hS1
theorem jw_mna {hd pl : va_W} (hx : p.tables.exec = Jvm.exec) (hb : c.code = cc) {own : String} {index : Nat} (hown : s.vm.findClass own = some m.cls) (hclink : (Cond.classLink own index "[[I").before args s = true) (hover : (Cond.arrayOver (.array .int)).before args s = true) (harr : (Cond.arrayClass .int).before args s = true)
    (hK : va_K D cl (jt cs) s) (hP : va_P D cl (hd ++ pl) H) (hD : va_D A (hd ++ pl)) (hS : va_S A H0 H locs) (hA : ∀ q, H0.size ≤ q → A q) {n k : Nat} (hn : n < 1000) (hk : k < 1000) (hcells : cells + (1 + n) ≤ R.cells) (hslots : slots + (n + n * k) ≤ R.slots) (hdg : decode cc pc = .ok (.multianewarray index 2, 4))
    (kk : ∀ (q : Nat) (r : Nat → Nat) (H1 : Heap), va_P D cl ((hd ++ [(q, .inl (cs 2, n, .inr (.inr (.inr (.inr (fun i => if i < n then some (r i) else none))))))]) ++ (pl ++ gs_ (cs 0) n k r (fun _ _ => nI 0))) H1 → va_D A ((hd ++ [(q, .inl (cs 2, n, .inr (.inr (.inr (.inr (fun i => if i < n then some (r i) else none))))))]) ++ (pl ++ gs_ (cs 0) n k r (fun _ _ => nI 0))) → va_S A H0 H1 locs →
      W p l e R s m args below meth c H1 locs (cells + 1 + n) (slots + n + n * k) Q (F0 m (pc + 4) ls (.ref q :: rest))) : W p l e R s m args below meth c H locs cells slots Q (F0 m pc ls (.int (nI k) :: .int (nI n) :: rest)) := by
  have en : (nI n).toNatClampNeg = n := nI_clamp (by omega)
  have ek : (nI k).toNatClampNeg = k := nI_clamp (by omega)
  intro T hT Xs
  obtain ⟨vm₁, cA, comp, -, fA, fC, hO, -, X', step⟩ := Xs.multianewarray2F (ty := .int) hx hown hclink hover harr (g := F0 m pc ls (.int (nI k) :: .int (nI n) :: rest)) rfl (by rw [hb]; exact hdg) rfl (nI_pos (by omega)) (nI_pos (by omega)) (by rw [en]; omega) (by rw [ek]; exact Nat.le_trans (Nat.mul_le_mul_right _ (Nat.le_of_lt hk)) (by decide)) (by rw [ek]; omega) rfl rfl (by rw [en]; exact hcells) (by rw [en, ek]; exact hslots)
  rw [en, ek] at X' step
  have e0 : some comp = some (cs 0) := Eq.trans (Eq.symm fC) ((hK.2 0 _ rfl).2 : va_RA s (cs 0) .int)
  cases e0
  have e2 : some cA = some (cs 2) := Eq.trans (Eq.symm fA) ((hK.2 2 _ rfl).2 : va_RA s (cs 2) (.array .int))
  cases e2
  generalize hF : Jvm.Free.Multi.fill (T.setVm vm₁) (cs 2) (cs 0) n k (defaultValue .int) n = F at X' step
  have hTh : (T.setVm vm₁).heap = H := hT
  obtain ⟨f1, f2, -, -⟩ := Jvm.Free.Multi.fill_facts (T.setVm vm₁) (cs 2) (cs 0) n k (defaultValue .int) n
  rw [hF, hTh] at f1 f2
  have hold : ∀ x : Nat, x < H.size → F.heap[x]? = H[x]? := fun x hx => by
    have := Jvm.Free.Multi.fill_old (T.setVm vm₁) (cs 2) (cs 0) n k (defaultValue .int) (a := x) (by rw [hTh]; exact hx) n
    rw [hF, hTh] at this
    exact this
  have hz : Jvm.Free.Multi.innerC (cs 0) k (defaultValue .int) = vp_cell (cs 0) (k, .inl (fun _ => nI 0)) := by
    rw [vp_cell_i]
    show ({ cls := cs 0, slots := Array.replicate k (.int 0), vm := .none } : Cell) = _
    rw [arrV_new]
    rfl
  have hrow : ∀ j : Nat, j < n → F.heap[H.size + 1 + j]? = some (vp_cell (cs 0) (k, .inl (fun _ => nI 0))) := fun j hj => by
    have := Jvm.Free.Multi.fill_inner (T.setVm vm₁) (cs 2) (cs 0) n k (defaultValue .int) n j hj
    rw [hF, hTh, hz] at this
    exact this
  have hout : Jvm.Free.Multi.outerC (cs 2) n H.size n = vp_cell (cs 2) (n, .inr (.inr (.inr (.inr (fun i => if i < n then some (H.size + 1 + i) else none))))) := by
    rw [vp_cell_q]
    exact vr_outer (cs 2) n H.size n
  rw [hout] at f2
  have hP0 : va_P D cl (hd ++ pl) F.heap := hP.kept (fun k9 x hx => hold x.1 ((hP k9 x hx).lt))
  have hP1 := hP0.app (w2 := [(H.size, .inl (cs 2, n, .inr (.inr (.inr (.inr (fun i => if i < n then some (H.size + 1 + i) else none))))))]) (fun k9 x hx => by
    have h0 : k9 < 1 := (List.getElem?_eq_some_iff.mp hx).1
    rw [show k9 = 0 by omega] at hx
    cases hx
    exact f2)
  have hP2 := hP1.app (w2 := gs_ (cs 0) n k (fun i => H.size + 1 + i) (fun _ _ => nI 0)) (fun k9 x hx => by
    obtain ⟨i, hi, rfl⟩ := List.mem_map.mp (List.mem_of_getElem? hx)
    exact hrow i (List.mem_range.mp hi))
  have hD1 := hD.push (e := .inl (cs 2, n, .inr (.inr (.inr (.inr (fun i => if i < n then some (H.size + 1 + i) else none)))))) hP rfl (hA _ hS.1)
  have hD2 : va_D A (((hd ++ pl) ++ [(H.size, .inl (cs 2, n, .inr (.inr (.inr (.inr (fun i => if i < n then some (H.size + 1 + i) else none))))))]) ++ gs_ (cs 0) n k (fun i => H.size + 1 + i) (fun _ _ => nI 0)) := by
    generalize hW1 : (hd ++ pl) ++ [(H.size, .inl (cs 2, n, .inr (.inr (.inr (.inr (fun i => if i < n then some (H.size + 1 + i) else none))))))] = W1 at hD1 ⊢
    have hle : ∀ (k9 : Nat) (x : Nat × va_E), W1[k9]? = some x → x.1 ≤ H.size := fun k9 x hx => by
      rw [← hW1] at hx
      by_cases hl : k9 < (hd ++ pl).length
      · rw [List.getElem?_append_left hl] at hx
        exact Nat.le_of_lt ((hP k9 x hx).lt)
      · rw [List.getElem?_append_right (by omega)] at hx
        have h0 : k9 - (hd ++ pl).length < 1 := (List.getElem?_eq_some_iff.mp hx).1
        rw [show k9 - (hd ++ pl).length = 0 by omega] at hx
        cases hx
        exact Nat.le_refl _
    have hr : ∀ (k9 : Nat) (x : Nat × va_E), (gs_ (cs 0) n k (fun i => H.size + 1 + i) (fun _ _ => nI 0))[k9]? = some x → x.1 = H.size + 1 + k9 := fun k9 x hx => by
      have h9 : k9 < n := by
        have := (List.getElem?_eq_some_iff.mp hx).1
        rw [gs_len] at this
        exact this
      rw [gs_at h9] at hx
      cases hx
      rfl
    refine ⟨fun i j x y hi hj hxy => ?_, fun k9 x hx => ?_⟩
    · by_cases h1 : i < W1.length <;> by_cases h2 : j < W1.length
      · rw [List.getElem?_append_left h1] at hi
        rw [List.getElem?_append_left h2] at hj
        exact hD1.1 i j x y hi hj hxy
      · rw [List.getElem?_append_left h1] at hi
        rw [List.getElem?_append_right (by omega)] at hj
        have := hle _ _ hi
        have := hr _ _ hj
        omega
      · rw [List.getElem?_append_right (by omega)] at hi
        rw [List.getElem?_append_left h2] at hj
        have := hr _ _ hi
        have := hle _ _ hj
        omega
      · rw [List.getElem?_append_right (by omega)] at hi hj
        have := hr _ _ hi
        have := hr _ _ hj
        omega
    · by_cases h1 : k9 < W1.length
      · rw [List.getElem?_append_left h1] at hx
        exact hD1.2 k9 x hx
      · rw [List.getElem?_append_right (by omega)] at hx
        have := hr _ _ hx
        exact hA _ (by have := hS.1; omega)
  obtain ⟨t, a1, b1⟩ := kk H.size (fun i => H.size + 1 + i) F.heap (vr_lay hP2) (vr_layD hD2) ⟨Nat.le_trans hS.1 (by omega), fun x h1 h2 => (hold x (Nat.lt_of_lt_of_le h1 hS.1)).trans (hS.2.1 x h1 h2), hS.2.2⟩ F rfl X'
  refine ⟨t, step t ?_, b1⟩
  rw [show T.heap = H from hT]
  exact a1
end JWI
theorem jw_lay1 {X pl : va_W} {x : Nat × va_E} {D : va_G} {cl : List vw_C} {H : Heap} (hP : va_P D cl ((X ++ pl) ++ [x]) H) : va_P D cl ((X ++ [x]) ++ pl) H := by
  have h := vr_lay (rows := []) (X := X) (pl := pl) (x := x) (by rw [List.append_nil]; exact hP)
  rw [List.append_nil] at h
  exact h
theorem jw_lay1D {X pl : va_W} {x : Nat × va_E} {A : Nat → Prop} (hD : va_D A ((X ++ pl) ++ [x])) : va_D A ((X ++ [x]) ++ pl) := by
  have h := vr_layD (rows := []) (X := X) (pl := pl) (x := x) (by rw [List.append_nil]; exact hD)
  rw [List.append_nil] at h
  exact h
