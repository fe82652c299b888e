set_option maxHeartbeats 4000000 in
set_option maxRecDepth 100000 in
theorem lp_A_fillJ {p : Program} {l : Launch} {e : Env} {R : Room} {s : State} {m : MethodId} {args : Array Value} {below : List Frame} {meth : Method} {c : Code} {cells slots : Nat} {Q : State → Prop} {A : Nat → Prop} {H0 : Heap} {D : va_G} {cs : Nat → ClassId} {a n : Nat} {g : Nat → Int64} {x : Int64} (hx : p.tables.exec = Jvm.exec) (hb : c.code = cd_A_fillJ) (hown : s.vm.findClass "java/util/Arrays" = some m.cls) (hts : ∀ w ∈ TW, w.before args s = true) (hK : va_K D vwCl (jt cs) s) (hn : n < 2 ^ 31) :
    ∀ (n9 i : Nat), i ≤ n → n + 1 ≤ i + n9 → ∀ (H : Heap) (locs : List Loc) (ls : Array Slot), va_P D vwCl [(a, .inl (cs 1, n, .inr (.inl (fl_ g x i))))] H → va_D A [(a, .inl (cs 1, n, .inr (.inl (fl_ g x i))))] → va_S A H0 H locs → lv_has ls 5 [(0, .ref a), (1, .long x), (3, .int (nI i)), (4, .int (nI n))] →
    (∀ (H : Heap) (locs : List Loc) (ls : Array Slot), va_P D vwCl [(a, .inl (cs 1, n, .inr (.inl (fl_ g x n))))] H → va_D A [(a, .inl (cs 1, n, .inr (.inl (fl_ g x n))))] → va_S A H0 H locs → lv_has ls 5 [(0, .ref a), (1, .long x), (3, .int (nI n)), (4, .int (nI n))] → W p l e R s m args below meth c H locs cells slots Q (F0 m 22 ls [])) → W p l e R s m args below meth c H locs cells slots Q (F0 m 6 ls []) := by
  intro n9
  induction n9 with
  | zero => intro i h1 h2; exact absurd h2 (by omega)
  | succ n9 ih =>
    intro i hi hin H locs ls hP hD hS hl kx
    refine lv_iload_n hx hb dd_A_fillJ_6 rfl (lv_at hl 2 rfl) ?_
    refine lv_iload hx hb dd_A_fillJ_7 (lv_at hl 3 rfl) ?_
    refine jw_icmp_ge (a := i) (b := n) (tgt := 22) hx hb dd_A_fillJ_9 (by decide) (by omega) (by omega) (fun c1 => ?_) (fun c1 => ?_)
    · have e1 : i = n := by omega
      rw [e1] at hP hD hl
      exact kx H locs ls hP hD hS (lv_sub hl [0, 1, 2, 3] rfl)
    · refine lv_aload_n hx hb dd_A_fillJ_12 rfl (lv_at hl 0 rfl) ?_
      refine lv_iload_n hx hb dd_A_fillJ_13 rfl (lv_at hl 2 rfl) ?_
      refine lv_lload_n hx hb dd_A_fillJ_14 rfl (lv_at hl 1 rfl) ?_
      refine jw_last hx hb hK hP hD hS 0 1 rfl rfl (i := i) (by omega) hn dd_A_fillJ_15 (fun H locs hP hD hS => ?_)
      have hP : va_P D vwCl [(a, .inl (cs 1, n, .inr (.inl (vp_updL (fl_ g x i) i x))))] H := hP
      have hD : va_D A [(a, .inl (cs 1, n, .inr (.inl (vp_updL (fl_ g x i) i x))))] := hD
      have eF : (vp_updL (fl_ g x i) i x) = (fl_ g x (i + 1)) := (fl_up g x i)
      rw [eF] at hP hD
      refine lv_iinc (v := nI (i + 1)) (lv' := [(3, .int (nI (i + 1))), (0, .ref a), (1, .long x), (4, .int (nI n))]) hx hb dd_A_fillJ_16 hl (k := 2) rfl (nI_1 i) (by decide) rfl (fun ls hl => ?_)
      refine lv_goto (tgt := 6) hx hb dd_A_fillJ_19 (by decide) ?_
      exact ih (i + 1) (by omega) (by omega) H locs ls hP hD hS (lv_sub hl [1, 2, 0, 3] rfl) kx

set_option maxHeartbeats 4000000 in
set_option maxRecDepth 100000 in
theorem c_A_fillJ (l : Launch) (D : va_G) (cs : Nat → ClassId) (a n : Nat) (g : Nat → Int64) (x : Int64) (sz : Nat) (hn : n < 2 ^ 31) : Met l ym_A_fillJ [.code ym_A_fillJ cd_A_fillJ 5 none] ({ frames := 0, cells := 0, slots := 0, locals := 0 } : Room) (jw_Pc D vwCl (jt cs) [(a, .inl (cs 1, n, .inr (.inl g)))] sz TX [.ref a, .long x]) (va_Qv (fun (u : Unit) => True) (jw_B D vwCl (va_A [(a, .inl (cs 1, n, .inr (.inl g)))] sz) (fun (u : Unit) => [(a, .inl (cs 1, n, .inr (.inl (fun _ => x))))])) (va_A [(a, .inl (cs 1, n, .inr (.inl g)))] sz)) 0 0 (va_A [(a, .inl (cs 1, n, .inr (.inl g)))] sz) := by
  refine Met.ofW (cc := cd_A_fillJ) (maxL := 5) (ret := none) (by decide) rfl ?_
  intro p e s m args below meth c s₁ B hml hv
  obtain ⟨rfl, hsz, hP, hD0, hK, hT⟩ := hv
  have hx := B.exec
  have hb := B.bytes
  have hr := B.returns
  have hts : ∀ w ∈ TW, w.before [.ref a, .long x].toArray s = true := fun w h => hT.use h _
  have hown : s.vm.findClass "java/util/Arrays" = some m.cls := findClass_of_methodNamed B.named
  have hlocks := B.notSynchronized
  subst hsz
  have hD := hD0.self (sz := s.heap.size)
  generalize hAe : va_A [(a, .inl (cs 1, n, .inr (.inl g)))] s.heap.size = A at hD ⊢
  have hA : ∀ q : Nat, s.heap.size ≤ q → A q := fun q h => by rw [← hAe]; exact Or.inr h
  have hS : va_S A s.heap s.heap [] := va_S.rf
  have hl := lv_entry ([.ref a, .long x]) (n := 5) (Nat.le_of_ble_eq_true rfl)
  rw [lg_entry_eq]
  generalize (lg_sl ([.ref a, .long x]) ++ List.replicate (5 - (lg_sl ([.ref a, .long x])).length) Slot.unset).toArray = ls at hl ⊢
  have hl : lv_has ls 5 [(0, .ref a), (1, .long x)] := hl
  have eF : g = (fl_ g x 0) := (fl_0 g x)
  rw [eF] at hP hD
  refine lv_iconst (v := nI 0) hx hb dd_A_fillJ_0 (by decide) ?_
  refine lv_istore_n (lv' := [(3, .int (nI 0)), (0, .ref a), (1, .long x)]) hx hb dd_A_fillJ_1 rfl hl (by decide) rfl (fun ls hl => ?_)
  refine lv_aload_n hx hb dd_A_fillJ_2 rfl (lv_at hl 1 rfl) ?_
  refine va_alen hx hb hK hP 0 1 rfl rfl (v := nI n) rfl dd_A_fillJ_3 ?_
  refine lv_istore (lv' := [(4, .int (nI n)), (3, .int (nI 0)), (0, .ref a), (1, .long x)]) hx hb dd_A_fillJ_4 hl (by decide) rfl (fun ls hl => ?_)
  refine lp_A_fillJ hx hb hown hts hK hn (n + 1) 0 (Nat.zero_le _) (by omega) _ _ ls hP hD hS (lv_sub hl [2, 3, 1, 0] rfl) (fun H locs ls hP hD hS hl => ?_)
  have hD := hD.set (p := 0) (e := .inl (cs 1, n, .inr (.inl (fun _ => x)))) rfl
  have hP := jw_reP (q := 0) (y := (cs 1, n, .inr (.inl (fun _ => x)))) hP rfl (jw_cellJ (fun j hj => by simp [fl_, hj]))
  have hP : va_P D vwCl [(a, .inl (cs 1, n, .inr (.inl (fun _ => x))))] H := hP
  have hD : va_D A [(a, .inl (cs 1, n, .inr (.inl (fun _ => x))))] := hD
  exact W.vret hx hb hr (fun t ht hW => ⟨⟨(), rfl, trivial, by rw [ht]; exact hP, hD⟩, hS.F ht⟩) hS.2.2 dd_A_fillJ_22

set_option maxHeartbeats 4000000 in
set_option maxRecDepth 100000 in
theorem c_H_become (l : Launch) (D : va_G) (cs : Nat → ClassId) (h0 h1 N v : Nat) (sz : Nat) (hv : v ≤ 1000000) : Met l ym_H_become [.code ym_H_become cd_H_become 2 none] ({ frames := 1, cells := 0, slots := 0, locals := 24 } : Room) (jw_Pc D vwCl (jt cs) [(h0, .inr (5, [.ref h1, .int (nI (wU N))])), (h1, .inl (cs 1, 16, .inr (.inl (fun j => lN (wG N j)))))] sz TX [.ref h0, .int (nI v)]) (va_Qv (fun (u : Unit) => True) (jw_B D vwCl (va_A [(h0, .inr (5, [.ref h1, .int (nI (wU N))])), (h1, .inl (cs 1, 16, .inr (.inl (fun j => lN (wG N j)))))] sz) (fun (u : Unit) => [(h0, .inr (5, [.ref h1, .int (nI (wU v))])), (h1, .inl (cs 1, 16, .inr (.inl (fun j => lN (wG v j)))))])) (va_A [(h0, .inr (5, [.ref h1, .int (nI (wU N))])), (h1, .inl (cs 1, 16, .inr (.inl (fun j => lN (wG N j)))))] sz)) 0 0 (va_A [(h0, .inr (5, [.ref h1, .int (nI (wU N))])), (h1, .inl (cs 1, 16, .inr (.inl (fun j => lN (wG N j)))))] sz) := by
  refine Met.ofW (cc := cd_H_become) (maxL := 2) (ret := none) (by decide) rfl ?_
  intro p e s m args below meth c s₁ B hml hv
  obtain ⟨rfl, hsz, hP, hD0, hK, hT⟩ := hv
  have hx := B.exec
  have hb := B.bytes
  have hr := B.returns
  have hts : ∀ w ∈ TW, w.before [.ref h0, .int (nI v)].toArray s = true := fun w h => hT.use h _
  have hown : s.vm.findClass "UseOdds$Whole" = some m.cls := findClass_of_methodNamed B.named
  have hlocks := B.notSynchronized
  subst hsz
  have hD := hD0.self (sz := s.heap.size)
  generalize hAe : va_A [(h0, .inr (5, [.ref h1, .int (nI (wU N))])), (h1, .inl (cs 1, 16, .inr (.inl (fun j => lN (wG N j)))))] s.heap.size = A at hD ⊢
  have hA : ∀ q : Nat, s.heap.size ≤ q → A q := fun q h => by rw [← hAe]; exact Or.inr h
  have hS : va_S A s.heap s.heap [] := va_S.rf
  have hl := lv_entry ([.ref h0, .int (nI v)]) (n := 2) (Nat.le_of_ble_eq_true rfl)
  rw [lg_entry_eq]
  generalize (lg_sl ([.ref h0, .int (nI v)]) ++ List.replicate (2 - (lg_sl ([.ref h0, .int (nI v)])).length) Slot.unset).toArray = ls at hl ⊢
  have hl : lv_has ls 2 [(0, .ref h0), (1, .int (nI v))] := hl
  have hb1 : bB = 1000000000000 := rfl
  refine lv_aload_n hx hb dd_H_become_0 rfl (lv_at hl 0 rfl) ?_
  refine va_get (D := D) (ci := 5) (v := .ref h1) (C := "UseOdds$Whole") (T := TH_) (N := 2) hx hb hts IH_ hown hK hP 0 rfl rfl 0 (by decide) (hts _ tw112) (fun _ h9 => h9) rfl dd_H_become_1 ?_
  refine lv_lconst (v := lN 0) hx hb dd_H_become_4 (by decide) ?_
  refine jw_callv (wc := [(h1, .inl (cs 1, 16, .inr (.inl (fun j => lN (wG N j)))))]) (wr := [(h0, .inr (5, [.ref h1, .int (nI (wU N))]))]) hP hD hS hA [1] [0] rfl rfl rfl (by decide) (va_runS (As := [.ref h1, .long (lN 0)]) (rest := []) ⟨hx, hb, hml, hown, hts⟩ (c_A_fillJ l D cs h1 16 (fun j => lN (wG N j)) (lN 0) _ (by decide)) ⟨jw_cB 2 hts tw228 rfl rfl tw8 tw226 (by decide +kernel) ⟨Nat.le_of_ble_eq_true rfl, Nat.le_of_ble_eq_true rfl⟩, hts _ tw227⟩ ⟨jw_blind jx_TX, jw_pre (hP.sub [1] rfl) (hD.sub [1] (by decide) rfl) hK (fun U _ hW => hT.warm hW)⟩ rfl rfl hl.1 rfl (lv_room (Nat.le_of_ble_eq_true rfl)) dd_H_become_5 ⟨Nat.le_of_ble_eq_true rfl, Nat.le_of_ble_eq_true rfl⟩) (fun u H locs hw hP hD hS => ?_)
  have hP : va_P D vwCl [(h0, .inr (5, [.ref h1, .int (nI (wU N))])), (h1, .inl (cs 1, 16, .inr (.inl (fun _ => lN 0))))] H := hP
  have hD : va_D A [(h0, .inr (5, [.ref h1, .int (nI (wU N))])), (h1, .inl (cs 1, 16, .inr (.inl (fun _ => lN 0))))] := hD
  refine lv_aload_n hx hb dd_H_become_8 rfl (lv_at hl 0 rfl) ?_
  refine va_get (D := D) (ci := 5) (v := .ref h1) (C := "UseOdds$Whole") (T := TH_) (N := 2) hx hb hts IH_ hown hK hP 0 rfl rfl 0 (by decide) (hts _ tw112) (fun _ h9 => h9) rfl dd_H_become_9 ?_
  refine lv_iconst (v := nI 0) hx hb dd_H_become_12 (by decide) ?_
  refine lv_iload_n hx hb dd_H_become_13 rfl (lv_at hl 1 rfl) ?_
  refine jw_i2l hx hb dd_H_become_14 (by omega) ?_
  refine jw_last hx hb hK hP hD hS 1 1 rfl rfl (i := 0) (by omega) (by decide) dd_H_become_15 (fun H locs hP hD hS => ?_)
  have hP : va_P D vwCl [(h0, .inr (5, [.ref h1, .int (nI (wU N))])), (h1, .inl (cs 1, 16, .inr (.inl (vp_updL (fun _ => lN 0) 0 (lN v)))))] H := hP
  have hD : va_D A [(h0, .inr (5, [.ref h1, .int (nI (wU N))])), (h1, .inl (cs 1, 16, .inr (.inl (vp_updL (fun _ => lN 0) 0 (lN v)))))] := hD
  have eF : (vp_updL (fun _ => lN 0) 0 (lN v)) = (fun j => lN (wG v j)) := (bc_up (by omega))
  rw [eF] at hP hD
  refine lv_aload_n hx hb dd_H_become_16 rfl (lv_at hl 0 rfl) ?_
  refine lv_iconst (v := nI 1) hx hb dd_H_become_17 (by decide) ?_
  refine va_put (D := D) (ci := 5) (v := .int (nI 1)) (ty := .int) (C := "UseOdds$Whole") (T := TH_) (N := 2) hx hb hts IH_ YH_ QH_ NH_ hown hK hP hD hS 0 rfl rfl 1 (by decide) (hts _ tw113) (fun _ h9 => h9) rfl (by decide +kernel) rfl rfl (Nat.le_of_ble_eq_true rfl) dd_H_become_18 (fun H locs hP hD hS => ?_)
  have hP : va_P D vwCl [(h0, .inr (5, [.ref h1, .int (nI 1)])), (h1, .inl (cs 1, 16, .inr (.inl (fun j => lN (wG v j)))))] H := hP
  have hD : va_D A [(h0, .inr (5, [.ref h1, .int (nI 1)])), (h1, .inl (cs 1, 16, .inr (.inl (fun j => lN (wG v j)))))] := hD
  have eV : (nI 1) = (nI (wU v)) := (by rw [wU_small (by omega)])
  rw [eV] at hP hD
  exact W.vret hx hb hr (fun t ht hW => ⟨⟨(), rfl, trivial, by rw [ht]; exact hP, hD⟩, hS.F ht⟩) hS.2.2 dd_H_become_21

set_option maxHeartbeats 4000000 in
set_option maxRecDepth 100000 in
theorem lp_H_becomePower {p : Program} {l : Launch} {e : Env} {R : Room} {s : State} {m : MethodId} {args : Array Value} {below : List Frame} {meth : Method} {c : Code} {cells slots : Nat} {Q : State → Prop} {A : Nat → Prop} {H0 : Heap} {D : va_G} {cs : Nat → ClassId} {h0 h1 r n : Nat} (hx : p.tables.exec = Jvm.exec) (hb : c.code = cd_H_becomePower) (hown : s.vm.findClass "UseOdds$Whole" = some m.cls) (hts : ∀ w ∈ TW, w.before args s = true) (hK : va_K D vwCl (jt cs) s) (hT : TX s) (hml : c.maxLocals = 4) (hA : ∀ q, H0.size ≤ q → A q) (hRf : 1 ≤ R.frames) (hRl : 26 ≤ R.locals) (hRc : cells ≤ R.cells) (hRs : slots ≤ R.slots) (hr0 : 0 < r) (hr1 : r ≤ 1000000) (hn : n ≤ 1000) (hM : r ^ n < bB ^ 16) :
    ∀ (n9 i : Nat), i ≤ n → n + 1 ≤ i + n9 → ∀ (H : Heap) (locs : List Loc) (ls : Array Slot), va_P D vwCl [(h0, .inr (5, [.ref h1, .int (nI (wU (r ^ i)))])), (h1, .inl (cs 1, 16, .inr (.inl (fun j => lN (wG (r ^ i) j)))))] H → va_D A [(h0, .inr (5, [.ref h1, .int (nI (wU (r ^ i)))])), (h1, .inl (cs 1, 16, .inr (.inl (fun j => lN (wG (r ^ i) j)))))] → va_S A H0 H locs → lv_has ls 4 [(0, .ref h0), (1, .int (nI r)), (2, .int (nI n)), (3, .int (nI i))] →
    (∀ (H : Heap) (locs : List Loc) (ls : Array Slot), va_P D vwCl [(h0, .inr (5, [.ref h1, .int (nI (wU (r ^ n)))])), (h1, .inl (cs 1, 16, .inr (.inl (fun j => lN (wG (r ^ n) j)))))] H → va_D A [(h0, .inr (5, [.ref h1, .int (nI (wU (r ^ n)))])), (h1, .inl (cs 1, 16, .inr (.inl (fun j => lN (wG (r ^ n) j)))))] → va_S A H0 H locs → lv_has ls 4 [(0, .ref h0), (1, .int (nI r)), (2, .int (nI n)), (3, .int (nI n))] → W p l e R s m args below meth c H locs cells slots Q (F0 m 23 ls [])) → W p l e R s m args below meth c H locs cells slots Q (F0 m 7 ls []) := by
  intro n9
  induction n9 with
  | zero => intro i h1 h2; exact absurd h2 (by omega)
  | succ n9 ih =>
    intro i hi hin H locs ls hP hD hS hl kx
    refine lv_iload_n hx hb dd_H_becomePower_7 rfl (lv_at hl 3 rfl) ?_
    refine lv_iload_n hx hb dd_H_becomePower_8 rfl (lv_at hl 2 rfl) ?_
    refine jw_icmp_ge (a := i) (b := n) (tgt := 23) hx hb dd_H_becomePower_9 (by decide) (by omega) (by omega) (fun c1 => ?_) (fun c1 => ?_)
    · have e1 : i = n := by omega
      rw [e1] at hP hD hl
      exact kx H locs ls hP hD hS (lv_sub hl [0, 1, 2, 3] rfl)
    · have q1 : r ^ i < bB ^ 16 := Nat.lt_of_le_of_lt (Nat.pow_le_pow_right hr0 (by omega)) hM
      have q2 : r ^ i * r < bB ^ 16 := by rw [← Nat.pow_succ]; exact Nat.lt_of_le_of_lt (Nat.pow_le_pow_right hr0 (by omega)) hM
      refine lv_aload_n hx hb dd_H_becomePower_12 rfl (lv_at hl 0 rfl) ?_
      refine lv_iload_n hx hb dd_H_becomePower_13 rfl (lv_at hl 1 rfl) ?_
      refine jw_callv (wc := [(h0, .inr (5, [.ref h1, .int (nI (wU (r ^ i)))])), (h1, .inl (cs 1, 16, .inr (.inl (fun j => lN (wG (r ^ i) j)))))]) (wr := []) hP hD hS hA [0, 1] [] rfl rfl rfl (by decide) (va_runV (C := "UseOdds$Whole") (As := [.int (nI r)]) (rest := []) ⟨hx, hb, hml, hown, hts⟩ (c_H_multiply l D cs h0 h1 (r ^ i) r _ q1 hr1 q2) ⟨jw_cB 1 hts tw232 rfl rfl tw6 tw229 (by decide +kernel) ⟨Nat.le_trans (Nat.le_of_ble_eq_true rfl) hRf, Nat.le_trans (Nat.le_of_ble_eq_true rfl) hRl⟩, hts _ tw230, hts _ tw231⟩ ⟨jw_blind jx_TX, va_recv hK hP (ci := 5) (q0 := 0) rfl rfl, jw_pre (hP.sub [0, 1] rfl) (hD.sub [0, 1] (by decide) rfl) hK (fun U _ hW => hT.warm hW)⟩ rfl rfl hl.1 rfl (lv_room (Nat.le_of_ble_eq_true rfl)) dd_H_becomePower_14 ⟨hRc, hRs⟩) (fun u H locs hw hP hD hS => ?_)
      have hP : va_P D vwCl [(h0, .inr (5, [.ref h1, .int (nI (wU (r ^ i * r)))])), (h1, .inl (cs 1, 16, .inr (.inl (fun j => lN (wG (r ^ i * r) j)))))] H := hP
      have hD : va_D A [(h0, .inr (5, [.ref h1, .int (nI (wU (r ^ i * r)))])), (h1, .inl (cs 1, 16, .inr (.inl (fun j => lN (wG (r ^ i * r) j)))))] := hD
      rw [← Nat.pow_succ] at hP hD
      refine lv_iinc (v := nI (i + 1)) (lv' := [(3, .int (nI (i + 1))), (0, .ref h0), (1, .int (nI r)), (2, .int (nI n))]) hx hb dd_H_becomePower_17 hl (k := 3) rfl (nI_1 i) (by decide) rfl (fun ls hl => ?_)
      refine lv_goto (tgt := 7) hx hb dd_H_becomePower_20 (by decide) ?_
      exact ih (i + 1) (by omega) (by omega) H locs ls hP hD hS (lv_sub hl [1, 2, 3, 0] rfl) kx

set_option maxHeartbeats 4000000 in
set_option maxRecDepth 100000 in
theorem c_H_becomePower (l : Launch) (D : va_G) (cs : Nat → ClassId) (h0 h1 N r n : Nat) (sz : Nat) (hr0 : 0 < r) (hr1 : r ≤ 1000000) (hn : n ≤ 1000) (hM : r ^ n < bB ^ 16) : Met l ym_H_becomePower [.code ym_H_becomePower cd_H_becomePower 4 none] ({ frames := 2, cells := 0, slots := 0, locals := 45 } : Room) (jw_Pc D vwCl (jt cs) [(h0, .inr (5, [.ref h1, .int (nI (wU N))])), (h1, .inl (cs 1, 16, .inr (.inl (fun j => lN (wG N j)))))] sz TX [.ref h0, .int (nI r), .int (nI n)]) (va_Qv (fun (u : Unit) => True) (jw_B D vwCl (va_A [(h0, .inr (5, [.ref h1, .int (nI (wU N))])), (h1, .inl (cs 1, 16, .inr (.inl (fun j => lN (wG N j)))))] sz) (fun (u : Unit) => [(h0, .inr (5, [.ref h1, .int (nI (wU (r ^ n)))])), (h1, .inl (cs 1, 16, .inr (.inl (fun j => lN (wG (r ^ n) j)))))])) (va_A [(h0, .inr (5, [.ref h1, .int (nI (wU N))])), (h1, .inl (cs 1, 16, .inr (.inl (fun j => lN (wG N j)))))] sz)) 0 0 (va_A [(h0, .inr (5, [.ref h1, .int (nI (wU N))])), (h1, .inl (cs 1, 16, .inr (.inl (fun j => lN (wG N j)))))] sz) := by
  refine Met.ofW (cc := cd_H_becomePower) (maxL := 4) (ret := none) (by decide) rfl ?_
  intro p e s m args below meth c s₁ B hml hv
  obtain ⟨rfl, hsz, hP, hD0, hK, hT⟩ := hv
  have hx := B.exec
  have hb := B.bytes
  have hr := B.returns
  have hts : ∀ w ∈ TW, w.before [.ref h0, .int (nI r), .int (nI n)].toArray s = true := fun w h => hT.use h _
  have hown : s.vm.findClass "UseOdds$Whole" = some m.cls := findClass_of_methodNamed B.named
  have hlocks := B.notSynchronized
  subst hsz
  have hD := hD0.self (sz := s.heap.size)
  generalize hAe : va_A [(h0, .inr (5, [.ref h1, .int (nI (wU N))])), (h1, .inl (cs 1, 16, .inr (.inl (fun j => lN (wG N j)))))] s.heap.size = A at hD ⊢
  have hA : ∀ q : Nat, s.heap.size ≤ q → A q := fun q h => by rw [← hAe]; exact Or.inr h
  have hS : va_S A s.heap s.heap [] := va_S.rf
  have hl := lv_entry ([.ref h0, .int (nI r), .int (nI n)]) (n := 4) (Nat.le_of_ble_eq_true rfl)
  rw [lg_entry_eq]
  generalize (lg_sl ([.ref h0, .int (nI r), .int (nI n)]) ++ List.replicate (4 - (lg_sl ([.ref h0, .int (nI r), .int (nI n)])).length) Slot.unset).toArray = ls at hl ⊢
  have hl : lv_has ls 4 [(0, .ref h0), (1, .int (nI r)), (2, .int (nI n))] := hl
  refine lv_aload_n hx hb dd_H_becomePower_0 rfl (lv_at hl 0 rfl) ?_
  refine lv_iconst (v := nI 1) hx hb dd_H_becomePower_1 (by decide) ?_
  refine jw_callv (wc := [(h0, .inr (5, [.ref h1, .int (nI (wU N))])), (h1, .inl (cs 1, 16, .inr (.inl (fun j => lN (wG N j)))))]) (wr := []) hP hD hS hA [0, 1] [] rfl rfl rfl (by decide) (va_runV (C := "UseOdds$Whole") (As := [.int (nI 1)]) (rest := []) ⟨hx, hb, hml, hown, hts⟩ (c_H_become l D cs h0 h1 N 1 _ (by decide)) ⟨jw_cB 1 hts tw225 rfl rfl tw6 tw222 (by decide +kernel) ⟨Nat.le_of_ble_eq_true rfl, Nat.le_of_ble_eq_true rfl⟩, hts _ tw223, hts _ tw224⟩ ⟨jw_blind jx_TX, va_recv hK hP (ci := 5) (q0 := 0) rfl rfl, jw_pre (hP.sub [0, 1] rfl) (hD.sub [0, 1] (by decide) rfl) hK (fun U _ hW => hT.warm hW)⟩ rfl rfl hl.1 rfl (lv_room (Nat.le_of_ble_eq_true rfl)) dd_H_becomePower_2 ⟨Nat.le_of_ble_eq_true rfl, Nat.le_of_ble_eq_true rfl⟩) (fun u H locs hw hP hD hS => ?_)
  have hP : va_P D vwCl [(h0, .inr (5, [.ref h1, .int (nI (wU 1))])), (h1, .inl (cs 1, 16, .inr (.inl (fun j => lN (wG 1 j)))))] H := hP
  have hD : va_D A [(h0, .inr (5, [.ref h1, .int (nI (wU 1))])), (h1, .inl (cs 1, 16, .inr (.inl (fun j => lN (wG 1 j)))))] := hD
  refine lv_iconst (v := nI 0) hx hb dd_H_becomePower_5 (by decide) ?_
  refine lv_istore_n (lv' := [(3, .int (nI 0)), (0, .ref h0), (1, .int (nI r)), (2, .int (nI n))]) hx hb dd_H_becomePower_6 rfl hl (by decide) rfl (fun ls hl => ?_)
  refine lp_H_becomePower (r := r) hx hb hown hts hK hT hml hA (Nat.le_of_ble_eq_true rfl) (Nat.le_of_ble_eq_true rfl) (Nat.zero_le _) (Nat.zero_le _) hr0 hr1 hn hM (n + 1) 0 (Nat.zero_le _) (by omega) _ _ ls hP hD hS (lv_sub hl [1, 2, 3, 0] rfl) (fun H locs ls hP hD hS hl => ?_)
  exact W.vret hx hb hr (fun t ht hW => ⟨⟨(), rfl, trivial, by rw [ht]; exact hP, hD⟩, hS.F ht⟩) hS.2.2 dd_H_becomePower_23

set_option maxHeartbeats 4000000 in
set_option maxRecDepth 100000 in
theorem lp_H_add {p : Program} {l : Launch} {e : Env} {R : Room} {s : State} {m : MethodId} {args : Array Value} {below : List Frame} {meth : Method} {c : Code} {cells slots : Nat} {Q : State → Prop} {A : Nat → Prop} {H0 : Heap} {D : va_G} {cs : Nat → ClassId} {h0 h1 g0 g1 N M u : Nat} (hx : p.tables.exec = Jvm.exec) (hb : c.code = cd_H_add) (hown : s.vm.findClass "UseOdds$Whole" = some m.cls) (hts : ∀ w ∈ TW, w.before args s = true) (hK : va_K D vwCl (jt cs) s) (hu : u ≤ 16) :
    ∀ (n i : Nat), i ≤ u → u + 1 ≤ i + n → ∀ (H : Heap) (locs : List Loc) (ls : Array Slot), va_P D vwCl [(h0, .inr (5, [.ref h1, .int (nI u)])), (h1, .inl (cs 1, 16, .inr (.inl (fun j => lN (ag_ N M i j))))), (g0, .inr (5, [.ref g1, .int (nI (wU M))])), (g1, .inl (cs 1, 16, .inr (.inl (fun j => lN (wG M j)))))] H → va_D A [(h0, .inr (5, [.ref h1, .int (nI u)])), (h1, .inl (cs 1, 16, .inr (.inl (fun j => lN (ag_ N M i j))))), (g0, .inr (5, [.ref g1, .int (nI (wU M))])), (g1, .inl (cs 1, 16, .inr (.inl (fun j => lN (wG M j)))))] → va_S A H0 H locs → lv_has ls 7 [(0, .ref h0), (1, .ref g0), (2, .long (lN (ac_ N M i))), (4, .int (nI i))] →
    (∀ (H : Heap) (locs : List Loc) (ls : Array Slot), va_P D vwCl [(h0, .inr (5, [.ref h1, .int (nI u)])), (h1, .inl (cs 1, 16, .inr (.inl (fun j => lN (ag_ N M u j))))), (g0, .inr (5, [.ref g1, .int (nI (wU M))])), (g1, .inl (cs 1, 16, .inr (.inl (fun j => lN (wG M j)))))] H → va_D A [(h0, .inr (5, [.ref h1, .int (nI u)])), (h1, .inl (cs 1, 16, .inr (.inl (fun j => lN (ag_ N M u j))))), (g0, .inr (5, [.ref g1, .int (nI (wU M))])), (g1, .inl (cs 1, 16, .inr (.inl (fun j => lN (wG M j)))))] → va_S A H0 H locs → lv_has ls 7 [(0, .ref h0), (1, .ref g0), (2, .long (lN (ac_ N M u))), (4, .int (nI u))] → W p l e R s m args below meth c H locs cells slots Q (F0 m 84 ls [])) → W p l e R s m args below meth c H locs cells slots Q (F0 m 20 ls []) := by
  intro n
  induction n with
  | zero => intro i h1 h2; exact absurd h2 (by omega)
  | succ n ih =>
    intro i hi hin H locs ls hP hD hS hl kx
    refine lv_iload hx hb dd_H_add_20 (lv_at hl 3 rfl) ?_
    refine lv_aload_n hx hb dd_H_add_22 rfl (lv_at hl 0 rfl) ?_
    refine va_get (D := D) (ci := 5) (v := .int (nI u)) (C := "UseOdds$Whole") (T := TH_) (N := 2) hx hb hts IH_ hown hK hP 0 rfl rfl 1 (by decide) (hts _ tw113) (fun _ h9 => h9) rfl dd_H_add_23 ?_
    refine jw_icmp_ge (a := i) (b := u) (tgt := 84) hx hb dd_H_add_26 (by decide) (by omega) (by omega) (fun c1 => ?_) (fun c1 => ?_)
    · have e1 : i = u := by omega
      rw [e1] at hP hD hl
      exact kx H locs ls hP hD hS (lv_sub hl [0, 1, 2, 3] rfl)
    · refine lv_aload_n hx hb dd_H_add_29 rfl (lv_at hl 0 rfl) ?_
      refine va_get (D := D) (ci := 5) (v := .ref h1) (C := "UseOdds$Whole") (T := TH_) (N := 2) hx hb hts IH_ hown hK hP 0 rfl rfl 0 (by decide) (hts _ tw112) (fun _ h9 => h9) rfl dd_H_add_30 ?_
      refine lv_iload hx hb dd_H_add_33 (lv_at hl 3 rfl) ?_
      refine jw_lald hx hb hK hP 1 1 rfl rfl (i := i) (by omega) (by decide) dd_H_add_35 ?_
      refine jw_cvl (y := lN (wG N i)) (by rw [ag_i]) ?_
      refine lv_aload_n hx hb dd_H_add_36 rfl (lv_at hl 1 rfl) ?_
      refine va_get (D := D) (ci := 5) (v := .ref g1) (C := "UseOdds$Whole") (T := TH_) (N := 2) hx hb hts IH_ hown hK hP 2 rfl rfl 0 (by decide) (hts _ tw112) (fun _ h9 => h9) rfl dd_H_add_37 ?_
      refine lv_iload hx hb dd_H_add_40 (lv_at hl 3 rfl) ?_
      refine jw_lald hx hb hK hP 3 1 rfl rfl (i := i) (by omega) (by decide) dd_H_add_42 ?_
      refine jw_ladd hx hb dd_H_add_43 ?_
      refine lv_lload_n hx hb dd_H_add_44 rfl (lv_at hl 2 rfl) ?_
      refine jw_ladd hx hb dd_H_add_45 ?_
      refine lv_lstore (lv' := [(5, .long (lN (((wG N i) + (wG M i)) + (ac_ N M i)))), (0, .ref h0), (1, .ref g0), (2, .long (lN (ac_ N M i))), (4, .int (nI i))]) hx hb dd_H_add_46 hl (by decide) rfl (fun ls hl => ?_)
      refine lv_lload hx hb dd_H_add_48 (lv_at hl 0 rfl) ?_
      refine lv_ldc2 (v := 1000000000000) hx hb hown (hts _ tw233) dd_H_add_50 ?_
      refine jw_cvl (y := lN 1000000000000) (by decide) ?_
      refine jw_lcmp_lt (a := ((wG N i) + (wG M i)) + (ac_ N M i)) (b := 1000000000000) (tgt := 61) hx hb dd_H_add_53 dd_H_add_54 (by decide) ap_lt (by decide) (fun c2 => ?_) (fun c2 => ?_)
      · have hb1 : bB = 1000000000000 := rfl
        refine lv_lconst (v := lN 0) hx hb dd_H_add_61 (by decide) ?_
        refine jw_cvl (y := lN (ac_ N M (i + 1))) (by rw [ac_s0 (by omega)]) ?_
        refine lv_lstore_n (lv' := [(2, .long (lN (ac_ N M (i + 1)))), (5, .long (lN (((wG N i) + (wG M i)) + (ac_ N M i)))), (0, .ref h0), (1, .ref g0), (4, .int (nI i))]) hx hb dd_H_add_62 rfl hl (by decide) rfl (fun ls hl => ?_)
        refine lv_aload_n hx hb dd_H_add_63 rfl (lv_at hl 2 rfl) ?_
        refine va_get (D := D) (ci := 5) (v := .ref h1) (C := "UseOdds$Whole") (T := TH_) (N := 2) hx hb hts IH_ hown hK hP 0 rfl rfl 0 (by decide) (hts _ tw112) (fun _ h9 => h9) rfl dd_H_add_64 ?_
        refine lv_iload hx hb dd_H_add_67 (lv_at hl 4 rfl) ?_
        refine lv_lload hx hb dd_H_add_69 (lv_at hl 1 rfl) ?_
        refine lv_lload_n hx hb dd_H_add_71 rfl (lv_at hl 0 rfl) ?_
        refine lv_ldc2 (v := 1000000000000) hx hb hown (hts _ tw233) dd_H_add_72 ?_
        refine jw_cvl (y := lN 1000000000000) (by decide) ?_
        refine jw_lmul hx hb dd_H_add_75 ?_
        refine jw_lsubR hx hb dd_H_add_76 ap_le ?_
        refine jw_last hx hb hK hP hD hS 1 1 rfl rfl (i := i) (by omega) (by decide) dd_H_add_77 (fun H locs hP hD hS => ?_)
        have hP : va_P D vwCl [(h0, .inr (5, [.ref h1, .int (nI u)])), (h1, .inl (cs 1, 16, .inr (.inl (vp_updL (fun j => lN (ag_ N M i j)) i (lN ((((wG N i) + (wG M i)) + (ac_ N M i)) - ((ac_ N M (i + 1)) * 1000000000000))))))), (g0, .inr (5, [.ref g1, .int (nI (wU M))])), (g1, .inl (cs 1, 16, .inr (.inl (fun j => lN (wG M j)))))] H := hP
        have hD : va_D A [(h0, .inr (5, [.ref h1, .int (nI u)])), (h1, .inl (cs 1, 16, .inr (.inl (vp_updL (fun j => lN (ag_ N M i j)) i (lN ((((wG N i) + (wG M i)) + (ac_ N M i)) - ((ac_ N M (i + 1)) * 1000000000000))))))), (g0, .inr (5, [.ref g1, .int (nI (wU M))])), (g1, .inl (cs 1, 16, .inr (.inl (fun j => lN (wG M j)))))] := hD
        have eF : (vp_updL (fun j => lN (ag_ N M i j)) i (lN ((((wG N i) + (wG M i)) + (ac_ N M i)) - ((ac_ N M (i + 1)) * 1000000000000)))) = (fun j => lN (ag_ N M (i + 1) j)) := (ag_up rfl)
        rw [eF] at hP hD
        refine lv_iinc (v := nI (i + 1)) (lv' := [(4, .int (nI (i + 1))), (2, .long (lN (ac_ N M (i + 1)))), (5, .long (lN (((wG N i) + (wG M i)) + (ac_ N M i)))), (0, .ref h0), (1, .ref g0)]) hx hb dd_H_add_78 hl (k := 4) rfl (nI_1 i) (by decide) rfl (fun ls hl => ?_)
        refine lv_goto (tgt := 20) hx hb dd_H_add_81 (by decide) ?_
        exact ih (i + 1) (by omega) (by omega) H locs ls hP hD hS (lv_sub hl [3, 4, 1, 0] rfl) kx
      · have hb1 : bB = 1000000000000 := rfl
        refine lv_lconst (v := lN 1) hx hb dd_H_add_57 (by decide) ?_
        refine lv_goto (tgt := 62) hx hb dd_H_add_58 (by decide) ?_
        refine jw_cvl (y := lN (ac_ N M (i + 1))) (by rw [ac_s1 (by omega)]) ?_
        refine lv_lstore_n (lv' := [(2, .long (lN (ac_ N M (i + 1)))), (5, .long (lN (((wG N i) + (wG M i)) + (ac_ N M i)))), (0, .ref h0), (1, .ref g0), (4, .int (nI i))]) hx hb dd_H_add_62 rfl hl (by decide) rfl (fun ls hl => ?_)
        refine lv_aload_n hx hb dd_H_add_63 rfl (lv_at hl 2 rfl) ?_
        refine va_get (D := D) (ci := 5) (v := .ref h1) (C := "UseOdds$Whole") (T := TH_) (N := 2) hx hb hts IH_ hown hK hP 0 rfl rfl 0 (by decide) (hts _ tw112) (fun _ h9 => h9) rfl dd_H_add_64 ?_
        refine lv_iload hx hb dd_H_add_67 (lv_at hl 4 rfl) ?_
        refine lv_lload hx hb dd_H_add_69 (lv_at hl 1 rfl) ?_
        refine lv_lload_n hx hb dd_H_add_71 rfl (lv_at hl 0 rfl) ?_
        refine lv_ldc2 (v := 1000000000000) hx hb hown (hts _ tw233) dd_H_add_72 ?_
        refine jw_cvl (y := lN 1000000000000) (by decide) ?_
        refine jw_lmul hx hb dd_H_add_75 ?_
        refine jw_lsubR hx hb dd_H_add_76 ap_le ?_
        refine jw_last hx hb hK hP hD hS 1 1 rfl rfl (i := i) (by omega) (by decide) dd_H_add_77 (fun H locs hP hD hS => ?_)
        have hP : va_P D vwCl [(h0, .inr (5, [.ref h1, .int (nI u)])), (h1, .inl (cs 1, 16, .inr (.inl (vp_updL (fun j => lN (ag_ N M i j)) i (lN ((((wG N i) + (wG M i)) + (ac_ N M i)) - ((ac_ N M (i + 1)) * 1000000000000))))))), (g0, .inr (5, [.ref g1, .int (nI (wU M))])), (g1, .inl (cs 1, 16, .inr (.inl (fun j => lN (wG M j)))))] H := hP
        have hD : va_D A [(h0, .inr (5, [.ref h1, .int (nI u)])), (h1, .inl (cs 1, 16, .inr (.inl (vp_updL (fun j => lN (ag_ N M i j)) i (lN ((((wG N i) + (wG M i)) + (ac_ N M i)) - ((ac_ N M (i + 1)) * 1000000000000))))))), (g0, .inr (5, [.ref g1, .int (nI (wU M))])), (g1, .inl (cs 1, 16, .inr (.inl (fun j => lN (wG M j)))))] := hD
        have eF : (vp_updL (fun j => lN (ag_ N M i j)) i (lN ((((wG N i) + (wG M i)) + (ac_ N M i)) - ((ac_ N M (i + 1)) * 1000000000000)))) = (fun j => lN (ag_ N M (i + 1) j)) := (ag_up rfl)
        rw [eF] at hP hD
        refine lv_iinc (v := nI (i + 1)) (lv' := [(4, .int (nI (i + 1))), (2, .long (lN (ac_ N M (i + 1)))), (5, .long (lN (((wG N i) + (wG M i)) + (ac_ N M i)))), (0, .ref h0), (1, .ref g0)]) hx hb dd_H_add_78 hl (k := 4) rfl (nI_1 i) (by decide) rfl (fun ls hl => ?_)
        refine lv_goto (tgt := 20) hx hb dd_H_add_81 (by decide) ?_
        exact ih (i + 1) (by omega) (by omega) H locs ls hP hD hS (lv_sub hl [3, 4, 1, 0] rfl) kx

set_option maxHeartbeats 4000000 in
set_option maxRecDepth 100000 in
theorem c_H_add (l : Launch) (D : va_G) (cs : Nat → ClassId) (h0 h1 g0 g1 N M : Nat) (sz : Nat) (hN : N < bB ^ 16) (hM : M < bB ^ 16) (hNM : N + M < bB ^ 16) : Met l ym_H_add [.code ym_H_add cd_H_add 7 none] ({ frames := 1, cells := 0, slots := 0, locals := 15 } : Room) (jw_Pc D vwCl (jt cs) [(h0, .inr (5, [.ref h1, .int (nI (wU N))])), (h1, .inl (cs 1, 16, .inr (.inl (fun j => lN (wG N j))))), (g0, .inr (5, [.ref g1, .int (nI (wU M))])), (g1, .inl (cs 1, 16, .inr (.inl (fun j => lN (wG M j)))))] sz TX [.ref h0, .ref g0]) (va_Qv (fun (u : Unit) => True) (jw_B D vwCl (va_A [(h0, .inr (5, [.ref h1, .int (nI (wU N))])), (h1, .inl (cs 1, 16, .inr (.inl (fun j => lN (wG N j))))), (g0, .inr (5, [.ref g1, .int (nI (wU M))])), (g1, .inl (cs 1, 16, .inr (.inl (fun j => lN (wG M j)))))] sz) (fun (u : Unit) => [(h0, .inr (5, [.ref h1, .int (nI (wU (N + M)))])), (h1, .inl (cs 1, 16, .inr (.inl (fun j => lN (wG (N + M) j))))), (g0, .inr (5, [.ref g1, .int (nI (wU M))])), (g1, .inl (cs 1, 16, .inr (.inl (fun j => lN (wG M j)))))])) (va_A [(h0, .inr (5, [.ref h1, .int (nI (wU N))])), (h1, .inl (cs 1, 16, .inr (.inl (fun j => lN (wG N j))))), (g0, .inr (5, [.ref g1, .int (nI (wU M))])), (g1, .inl (cs 1, 16, .inr (.inl (fun j => lN (wG M j)))))] sz)) 0 0 (va_A [(h0, .inr (5, [.ref h1, .int (nI (wU N))])), (h1, .inl (cs 1, 16, .inr (.inl (fun j => lN (wG N j))))), (g0, .inr (5, [.ref g1, .int (nI (wU M))])), (g1, .inl (cs 1, 16, .inr (.inl (fun j => lN (wG M j)))))] sz) := by
  refine Met.ofW (cc := cd_H_add) (maxL := 7) (ret := none) (by decide) rfl ?_
  intro p e s m args below meth c s₁ B hml hv
  obtain ⟨rfl, hsz, hP, hD0, hK, hT⟩ := hv
  have hx := B.exec
  have hb := B.bytes
  have hr := B.returns
  have hts : ∀ w ∈ TW, w.before [.ref h0, .ref g0].toArray s = true := fun w h => hT.use h _
  have hown : s.vm.findClass "UseOdds$Whole" = some m.cls := findClass_of_methodNamed B.named
  have hlocks := B.notSynchronized
  subst hsz
  have hD := hD0.self (sz := s.heap.size)
  generalize hAe : va_A [(h0, .inr (5, [.ref h1, .int (nI (wU N))])), (h1, .inl (cs 1, 16, .inr (.inl (fun j => lN (wG N j))))), (g0, .inr (5, [.ref g1, .int (nI (wU M))])), (g1, .inl (cs 1, 16, .inr (.inl (fun j => lN (wG M j)))))] s.heap.size = A at hD ⊢
  have hA : ∀ q : Nat, s.heap.size ≤ q → A q := fun q h => by rw [← hAe]; exact Or.inr h
  have hS : va_S A s.heap s.heap [] := va_S.rf
  have hl := lv_entry ([.ref h0, .ref g0]) (n := 7) (Nat.le_of_ble_eq_true rfl)
  rw [lg_entry_eq]
  generalize (lg_sl ([.ref h0, .ref g0]) ++ List.replicate (7 - (lg_sl ([.ref h0, .ref g0])).length) Slot.unset).toArray = ls at hl ⊢
  have hl : lv_has ls 7 [(0, .ref h0), (1, .ref g0)] := hl
  obtain ⟨b1, b2, b3, b4, b5⟩ := au_ hN hM hNM rfl
  have hu1 := wU_le hN
  have hu2 := wU_le hM
  refine lv_aload_n hx hb dd_H_add_0 rfl (lv_at hl 0 rfl) ?_
  refine lv_aload_n hx hb dd_H_add_1 rfl (lv_at hl 0 rfl) ?_
  refine va_get (D := D) (ci := 5) (v := .int (nI (wU N))) (C := "UseOdds$Whole") (T := TH_) (N := 2) hx hb hts IH_ hown hK hP 0 rfl rfl 1 (by decide) (hts _ tw113) (fun _ h9 => h9) rfl dd_H_add_2 ?_
  refine lv_aload_n hx hb dd_H_add_5 rfl (lv_at hl 1 rfl) ?_
  refine va_get (D := D) (ci := 5) (v := .int (nI (wU M))) (C := "UseOdds$Whole") (T := TH_) (N := 2) hx hb hts IH_ hown hK hP 2 rfl rfl 1 (by decide) (hts _ tw113) (fun _ h9 => h9) rfl dd_H_add_6 ?_
  refine va_mmax hx hb (hml.trans hl.1.symm) hown (hts _ tw252) (hts _ tw253) (hts _ tw15) (hts _ tw254) (Nat.le_of_ble_eq_true rfl) (Nat.le_of_ble_eq_true rfl) (Nat.le_of_ble_eq_true rfl) (Nat.le_of_ble_eq_true rfl) dd_H_add_9 ?_
  refine jw_cvi (y := nI (max (wU N) (wU M))) (jw_max (by omega) (by omega)) ?_
  refine va_put (D := D) (ci := 5) (v := .int (nI (max (wU N) (wU M)))) (ty := .int) (C := "UseOdds$Whole") (T := TH_) (N := 2) hx hb hts IH_ YH_ QH_ NH_ hown hK hP hD hS 0 rfl rfl 1 (by decide) (hts _ tw113) (fun _ h9 => h9) rfl (by decide +kernel) rfl rfl (Nat.le_of_ble_eq_true rfl) dd_H_add_12 (fun H locs hP hD hS => ?_)
  have hP : va_P D vwCl [(h0, .inr (5, [.ref h1, .int (nI (max (wU N) (wU M)))])), (h1, .inl (cs 1, 16, .inr (.inl (fun j => lN (wG N j))))), (g0, .inr (5, [.ref g1, .int (nI (wU M))])), (g1, .inl (cs 1, 16, .inr (.inl (fun j => lN (wG M j)))))] H := hP
  have hD : va_D A [(h0, .inr (5, [.ref h1, .int (nI (max (wU N) (wU M)))])), (h1, .inl (cs 1, 16, .inr (.inl (fun j => lN (wG N j))))), (g0, .inr (5, [.ref g1, .int (nI (wU M))])), (g1, .inl (cs 1, 16, .inr (.inl (fun j => lN (wG M j)))))] := hD
  refine lv_lconst (v := lN 0) hx hb dd_H_add_15 (by decide) ?_
  refine jw_cvl (y := lN (ac_ N M 0)) (by rw [ac_0]) ?_
  have eF : (fun j => lN (wG N j)) = (fun j => lN (ag_ N M 0 j)) := (ag_0 N M).symm
  rw [eF] at hP hD
  refine lv_lstore_n (lv' := [(2, .long (lN (ac_ N M 0))), (0, .ref h0), (1, .ref g0)]) hx hb dd_H_add_16 rfl hl (by decide) rfl (fun ls hl => ?_)
  refine lv_iconst (v := nI 0) hx hb dd_H_add_17 (by decide) ?_
  refine lv_istore (lv' := [(4, .int (nI 0)), (2, .long (lN (ac_ N M 0))), (0, .ref h0), (1, .ref g0)]) hx hb dd_H_add_18 hl (by decide) rfl (fun ls hl => ?_)
  refine lp_H_add (u := max (wU N) (wU M)) hx hb hown hts hK b5 (max (wU N) (wU M) + 1) 0 (Nat.zero_le _) (by omega) _ _ ls hP hD hS (lv_sub hl [2, 3, 1, 0] rfl) (fun H locs ls hP hD hS hl => ?_)
  have hac := ac_lt N M (max (wU N) (wU M))
  refine lv_lload_n hx hb dd_H_add_84 rfl (lv_at hl 2 rfl) ?_
  refine lv_lconst (v := lN 0) hx hb dd_H_add_85 (by decide) ?_
  refine jw_lcmp_le (a := ac_ N M (max (wU N) (wU M))) (b := 0) (tgt := 119) hx hb dd_H_add_86 dd_H_add_87 (by decide) (by omega) (by decide) (fun c1 => ?_) (fun c1 => ?_)
  · have eF : (fun j => lN (ag_ N M (max (wU N) (wU M)) j)) = (fun j => lN (wG (N + M) j)) := (ag_end0 b1 b2 (by omega))
    rw [eF] at hP hD
    have eV : (nI (max (wU N) (wU M))) = (nI (wU (N + M))) := (by rw [b3 (by omega)])
    rw [eV] at hP hD
    exact W.vret hx hb hr (fun t ht hW => ⟨⟨(), rfl, trivial, by rw [ht]; exact hP, hD⟩, hS.F ht⟩) hS.2.2 dd_H_add_119
  · refine lv_aload_n hx hb dd_H_add_90 rfl (lv_at hl 0 rfl) ?_
    refine va_get (D := D) (ci := 5) (v := .int (nI (max (wU N) (wU M)))) (C := "UseOdds$Whole") (T := TH_) (N := 2) hx hb hts IH_ hown hK hP 0 rfl rfl 1 (by decide) (hts _ tw113) (fun _ h9 => h9) rfl dd_H_add_91 ?_
    refine lv_bipush (v := nI 16) hx hb dd_H_add_94 (by decide) ?_
    refine jw_icmp_ge (a := max (wU N) (wU M)) (b := 16) (tgt := 119) hx hb dd_H_add_96 (by decide) (by omega) (by omega) (fun c2 => ?_) (fun c2 => ?_)
    · exact absurd (b4 (by omega)).2 (by omega)
    · have hu3 := (b4 (by omega)).2
      refine lv_aload_n hx hb dd_H_add_99 rfl (lv_at hl 0 rfl) ?_
      refine va_get (D := D) (ci := 5) (v := .ref h1) (C := "UseOdds$Whole") (T := TH_) (N := 2) hx hb hts IH_ hown hK hP 0 rfl rfl 0 (by decide) (hts _ tw112) (fun _ h9 => h9) rfl dd_H_add_100 ?_
      refine lv_aload_n hx hb dd_H_add_103 rfl (lv_at hl 0 rfl) ?_
      refine va_get (D := D) (ci := 5) (v := .int (nI (max (wU N) (wU M)))) (C := "UseOdds$Whole") (T := TH_) (N := 2) hx hb hts IH_ hown hK hP 0 rfl rfl 1 (by decide) (hts _ tw113) (fun _ h9 => h9) rfl dd_H_add_104 ?_
      refine lv_lload_n hx hb dd_H_add_107 rfl (lv_at hl 2 rfl) ?_
      refine jw_last hx hb hK hP hD hS 1 1 rfl rfl (i := max (wU N) (wU M)) (by omega) (by decide) dd_H_add_108 (fun H locs hP hD hS => ?_)
      have hP : va_P D vwCl [(h0, .inr (5, [.ref h1, .int (nI (max (wU N) (wU M)))])), (h1, .inl (cs 1, 16, .inr (.inl (vp_updL (fun j => lN (ag_ N M (max (wU N) (wU M)) j)) (max (wU N) (wU M)) (lN (ac_ N M (max (wU N) (wU M)))))))), (g0, .inr (5, [.ref g1, .int (nI (wU M))])), (g1, .inl (cs 1, 16, .inr (.inl (fun j => lN (wG M j)))))] H := hP
      have hD : va_D A [(h0, .inr (5, [.ref h1, .int (nI (max (wU N) (wU M)))])), (h1, .inl (cs 1, 16, .inr (.inl (vp_updL (fun j => lN (ag_ N M (max (wU N) (wU M)) j)) (max (wU N) (wU M)) (lN (ac_ N M (max (wU N) (wU M)))))))), (g0, .inr (5, [.ref g1, .int (nI (wU M))])), (g1, .inl (cs 1, 16, .inr (.inl (fun j => lN (wG M j)))))] := hD
      refine lv_aload_n hx hb dd_H_add_109 rfl (lv_at hl 0 rfl) ?_
      refine lv_dup hx hb dd_H_add_110 rfl ?_
      refine va_get (D := D) (ci := 5) (v := .int (nI (max (wU N) (wU M)))) (C := "UseOdds$Whole") (T := TH_) (N := 2) hx hb hts IH_ hown hK hP 0 rfl rfl 1 (by decide) (hts _ tw113) (fun _ h9 => h9) rfl dd_H_add_111 ?_
      refine lv_iconst (v := nI 1) hx hb dd_H_add_114 (by decide) ?_
      refine jw_iadd hx hb dd_H_add_115 ?_
      refine va_put (D := D) (ci := 5) (v := .int (nI ((max (wU N) (wU M)) + 1))) (ty := .int) (C := "UseOdds$Whole") (T := TH_) (N := 2) hx hb hts IH_ YH_ QH_ NH_ hown hK hP hD hS 0 rfl rfl 1 (by decide) (hts _ tw113) (fun _ h9 => h9) rfl (by decide +kernel) rfl rfl (Nat.le_of_ble_eq_true rfl) dd_H_add_116 (fun H locs hP hD hS => ?_)
      have hP : va_P D vwCl [(h0, .inr (5, [.ref h1, .int (nI ((max (wU N) (wU M)) + 1))])), (h1, .inl (cs 1, 16, .inr (.inl (vp_updL (fun j => lN (ag_ N M (max (wU N) (wU M)) j)) (max (wU N) (wU M)) (lN (ac_ N M (max (wU N) (wU M)))))))), (g0, .inr (5, [.ref g1, .int (nI (wU M))])), (g1, .inl (cs 1, 16, .inr (.inl (fun j => lN (wG M j)))))] H := hP
      have hD : va_D A [(h0, .inr (5, [.ref h1, .int (nI ((max (wU N) (wU M)) + 1))])), (h1, .inl (cs 1, 16, .inr (.inl (vp_updL (fun j => lN (ag_ N M (max (wU N) (wU M)) j)) (max (wU N) (wU M)) (lN (ac_ N M (max (wU N) (wU M)))))))), (g0, .inr (5, [.ref g1, .int (nI (wU M))])), (g1, .inl (cs 1, 16, .inr (.inl (fun j => lN (wG M j)))))] := hD
      have eF : (vp_updL (fun j => lN (ag_ N M (max (wU N) (wU M)) j)) (max (wU N) (wU M)) (lN (ac_ N M (max (wU N) (wU M))))) = (fun j => lN (wG (N + M) j)) := (ag_end1 b1 b2)
      rw [eF] at hP hD
      have eV : (nI ((max (wU N) (wU M)) + 1)) = (nI (wU (N + M))) := (by rw [(b4 (by omega)).1])
      rw [eV] at hP hD
      exact W.vret hx hb hr (fun t ht hW => ⟨⟨(), rfl, trivial, by rw [ht]; exact hP, hD⟩, hS.F ht⟩) hS.2.2 dd_H_add_119

set_option maxHeartbeats 4000000 in
set_option maxRecDepth 100000 in
theorem lp_H_divide {p : Program} {l : Launch} {e : Env} {R : Room} {s : State} {m : MethodId} {args : Array Value} {below : List Frame} {meth : Method} {c : Code} {cells slots : Nat} {Q : State → Prop} {A : Nat → Prop} {H0 : Heap} {D : va_G} {cs : Nat → ClassId} {h0 h1 N d top : Nat} (hx : p.tables.exec = Jvm.exec) (hb : c.code = cd_H_divide) (hown : s.vm.findClass "UseOdds$Whole" = some m.cls) (hts : ∀ w ∈ TW, w.before args s = true) (hK : va_K D vwCl (jt cs) s) (hd0 : 0 < d) (hd : d ≤ 1000000) (htop : top ≤ 16) :
    ∀ (k : Nat), k ≤ top → ∀ (H : Heap) (locs : List Loc) (ls : Array Slot), va_P D vwCl [(h0, .inr (5, [.ref h1, .int (nI (wU N))])), (h1, .inl (cs 1, 16, .inr (.inl (fun j => lN (dg_ N d k j)))))] H → va_D A [(h0, .inr (5, [.ref h1, .int (nI (wU N))])), (h1, .inl (cs 1, 16, .inr (.inl (fun j => lN (dg_ N d k j)))))] → va_S A H0 H locs → lv_has ls 7 [(0, .ref h0), (1, .int (nI d)), (2, .long (lN (dl_ N d k))), (4, .int (nI k - 1))] →
    (∀ (H : Heap) (locs : List Loc) (ls : Array Slot), va_P D vwCl [(h0, .inr (5, [.ref h1, .int (nI (wU N))])), (h1, .inl (cs 1, 16, .inr (.inl (fun j => lN (dg_ N d 0 j)))))] H → va_D A [(h0, .inr (5, [.ref h1, .int (nI (wU N))])), (h1, .inl (cs 1, 16, .inr (.inl (fun j => lN (dg_ N d 0 j)))))] → va_S A H0 H locs → lv_has ls 7 [(0, .ref h0), (1, .int (nI d)), (2, .long (lN (dl_ N d 0))), (4, .int (nI 0 - 1))] → W p l e R s m args below meth c H locs cells slots Q (F0 m 68 ls [])) → W p l e R s m args below meth c H locs cells slots Q (F0 m 16 ls []) := by
  intro k
  induction k with
  | zero =>
    intro hk H locs ls hP hD hS hl kx
    refine lv_iload hx hb dd_H_divide_16 (lv_at hl 3 rfl) ?_
    refine lv_if_lt (tgt := 68) hx hb dd_H_divide_18 (by decide) (fun c1 => ?_) (fun c1 => ?_)
    · exact kx H locs ls hP hD hS (lv_sub hl [0, 1, 2, 3] rfl)
    · exact absurd (show nI 0 - 1 < 0 by decide) c1
  | succ k ih =>
    intro hk H locs ls hP hD hS hl kx
    rw [nI_pred] at hl
    refine lv_iload hx hb dd_H_divide_16 (lv_at hl 3 rfl) ?_
    refine jw_if_lt (a := k) (tgt := 68) hx hb dd_H_divide_18 (by decide) (by omega) ?_
    refine lv_lload_n hx hb dd_H_divide_21 rfl (lv_at hl 2 rfl) ?_
    refine lv_ldc2 (v := 1000000000000) hx hb hown (hts _ tw233) dd_H_divide_22 ?_
    refine jw_cvl (y := lN 1000000000000) (by decide) ?_
    refine jw_lmul hx hb dd_H_divide_25 ?_
    refine lv_aload_n hx hb dd_H_divide_26 rfl (lv_at hl 0 rfl) ?_
    refine va_get (D := D) (ci := 5) (v := .ref h1) (C := "UseOdds$Whole") (T := TH_) (N := 2) hx hb hts IH_ hown hK hP 0 rfl rfl 0 (by decide) (hts _ tw112) (fun _ h9 => h9) rfl dd_H_divide_27 ?_
    refine lv_iload hx hb dd_H_divide_30 (lv_at hl 3 rfl) ?_
    refine jw_lald hx hb hK hP 1 1 rfl rfl (i := k) (by omega) (by decide) dd_H_divide_32 ?_
    refine jw_cvl (y := lN (wG N k)) (by rw [dg_i]) ?_
    refine jw_ladd hx hb dd_H_divide_33 ?_
    refine lv_lstore (lv' := [(5, .long (lN (((dl_ N d (k + 1)) * 1000000000000) + (wG N k)))), (0, .ref h0), (1, .int (nI d)), (2, .long (lN (dl_ N d (k + 1)))), (4, .int (nI k))]) hx hb dd_H_divide_34 hl (by decide) rfl (fun ls hl => ?_)
    refine lv_aload_n hx hb dd_H_divide_36 rfl (lv_at hl 1 rfl) ?_
    refine va_get (D := D) (ci := 5) (v := .ref h1) (C := "UseOdds$Whole") (T := TH_) (N := 2) hx hb hts IH_ hown hK hP 0 rfl rfl 0 (by decide) (hts _ tw112) (fun _ h9 => h9) rfl dd_H_divide_37 ?_
    refine lv_iload hx hb dd_H_divide_40 (lv_at hl 4 rfl) ?_
    refine lv_lload hx hb dd_H_divide_42 (lv_at hl 0 rfl) ?_
    refine lv_iload_n hx hb dd_H_divide_44 rfl (lv_at hl 2 rfl) ?_
    refine jw_i2l hx hb dd_H_divide_45 (by omega) ?_
    refine jw_ldiv hx hb dd_H_divide_46 (dp_lt hd0 hd) hd0 (by omega) ?_
    refine jw_last hx hb hK hP hD hS 1 1 rfl rfl (i := k) (by omega) (by decide) dd_H_divide_47 (fun H locs hP hD hS => ?_)
    have hP : va_P D vwCl [(h0, .inr (5, [.ref h1, .int (nI (wU N))])), (h1, .inl (cs 1, 16, .inr (.inl (vp_updL (fun j => lN (dg_ N d (k + 1) j)) k (lN ((((dl_ N d (k + 1)) * 1000000000000) + (wG N k)) / d))))))] H := hP
    have hD : va_D A [(h0, .inr (5, [.ref h1, .int (nI (wU N))])), (h1, .inl (cs 1, 16, .inr (.inl (vp_updL (fun j => lN (dg_ N d (k + 1) j)) k (lN ((((dl_ N d (k + 1)) * 1000000000000) + (wG N k)) / d))))))] := hD
    have eF : (vp_updL (fun j => lN (dg_ N d (k + 1) j)) k (lN ((((dl_ N d (k + 1)) * 1000000000000) + (wG N k)) / d))) = (fun j => lN (dg_ N d k j)) := (dg_up hd0)
    rw [eF] at hP hD
    refine lv_lload hx hb dd_H_divide_48 (lv_at hl 0 rfl) ?_
    refine lv_aload_n hx hb dd_H_divide_50 rfl (lv_at hl 1 rfl) ?_
    refine va_get (D := D) (ci := 5) (v := .ref h1) (C := "UseOdds$Whole") (T := TH_) (N := 2) hx hb hts IH_ hown hK hP 0 rfl rfl 0 (by decide) (hts _ tw112) (fun _ h9 => h9) rfl dd_H_divide_51 ?_
    refine lv_iload hx hb dd_H_divide_54 (lv_at hl 4 rfl) ?_
    refine jw_lald hx hb hK hP 1 1 rfl rfl (i := k) (by omega) (by decide) dd_H_divide_56 ?_
    refine jw_cvl (y := lN ((dl_ N d (k + 1) * 1000000000000 + wG N k) / d)) (by rw [dg_k hd0]; rfl) ?_
    refine lv_iload_n hx hb dd_H_divide_57 rfl (lv_at hl 2 rfl) ?_
    refine jw_i2l hx hb dd_H_divide_58 (by omega) ?_
    refine jw_lmul hx hb dd_H_divide_59 ?_
    refine jw_lsubR hx hb dd_H_divide_60 (Nat.div_mul_le_self _ _) ?_
    refine jw_cvl (y := lN (dl_ N d k)) (congrArg lN dl_k) ?_
    refine lv_lstore_n (lv' := [(2, .long (lN (dl_ N d k))), (5, .long (lN (((dl_ N d (k + 1)) * 1000000000000) + (wG N k)))), (0, .ref h0), (1, .int (nI d)), (4, .int (nI k))]) hx hb dd_H_divide_61 rfl hl (by decide) rfl (fun ls hl => ?_)
    refine lv_iinc (v := nI k - 1) (lv' := [(4, .int (nI k - 1)), (2, .long (lN (dl_ N d k))), (5, .long (lN (((dl_ N d (k + 1)) * 1000000000000) + (wG N k)))), (0, .ref h0), (1, .int (nI d))]) hx hb dd_H_divide_62 hl (k := 4) rfl (nI_dec k) (by decide) rfl (fun ls hl => ?_)
    refine lv_goto (tgt := 16) hx hb dd_H_divide_65 (by decide) ?_
    exact ih (by omega) H locs ls hP hD hS (lv_sub hl [3, 4, 1, 0] rfl) kx

set_option maxHeartbeats 4000000 in
set_option maxRecDepth 100000 in
theorem c_H_divide (l : Launch) (D : va_G) (cs : Nat → ClassId) (h0 h1 N d : Nat) (sz : Nat) (hN : N < bB ^ 16) (hd0 : 0 < d) (hd : d ≤ 1000000) : Met l ym_H_divide [.code ym_H_divide cd_H_divide 7 none] ({ frames := 0, cells := 0, slots := 0, locals := 0 } : Room) (jw_Pc D vwCl (jt cs) [(h0, .inr (5, [.ref h1, .int (nI (wU N))])), (h1, .inl (cs 1, 16, .inr (.inl (fun j => lN (wG N j)))))] sz TX [.ref h0, .int (nI d)]) (va_Qv (fun (u : Unit) => True) (jw_B D vwCl (va_A [(h0, .inr (5, [.ref h1, .int (nI (wU N))])), (h1, .inl (cs 1, 16, .inr (.inl (fun j => lN (wG N j)))))] sz) (fun (u : Unit) => [(h0, .inr (5, [.ref h1, .int (nI (wU (N / d)))])), (h1, .inl (cs 1, 16, .inr (.inl (fun j => lN (wG (N / d) j)))))])) (va_A [(h0, .inr (5, [.ref h1, .int (nI (wU N))])), (h1, .inl (cs 1, 16, .inr (.inl (fun j => lN (wG N j)))))] sz)) 0 0 (va_A [(h0, .inr (5, [.ref h1, .int (nI (wU N))])), (h1, .inl (cs 1, 16, .inr (.inl (fun j => lN (wG N j)))))] sz) := by
  refine Met.ofW (cc := cd_H_divide) (maxL := 7) (ret := none) (by decide) rfl ?_
  intro p e s m args below meth c s₁ B hml hv
  obtain ⟨rfl, hsz, hP, hD0, hK, hT⟩ := hv
  have hx := B.exec
  have hb := B.bytes
  have hr := B.returns
  have hts : ∀ w ∈ TW, w.before [.ref h0, .int (nI d)].toArray s = true := fun w h => hT.use h _
  have hown : s.vm.findClass "UseOdds$Whole" = some m.cls := findClass_of_methodNamed B.named
  have hlocks := B.notSynchronized
  subst hsz
  have hD := hD0.self (sz := s.heap.size)
  generalize hAe : va_A [(h0, .inr (5, [.ref h1, .int (nI (wU N))])), (h1, .inl (cs 1, 16, .inr (.inl (fun j => lN (wG N j)))))] s.heap.size = A at hD ⊢
  have hA : ∀ q : Nat, s.heap.size ≤ q → A q := fun q h => by rw [← hAe]; exact Or.inr h
  have hS : va_S A s.heap s.heap [] := va_S.rf
  have hl := lv_entry ([.ref h0, .int (nI d)]) (n := 7) (Nat.le_of_ble_eq_true rfl)
  rw [lg_entry_eq]
  generalize (lg_sl ([.ref h0, .int (nI d)]) ++ List.replicate (7 - (lg_sl ([.ref h0, .int (nI d)])).length) Slot.unset).toArray = ls at hl ⊢
  have hl : lv_has ls 7 [(0, .ref h0), (1, .int (nI d))] := hl
  obtain ⟨a1, a2, a3⟩ := wU_is hN
  have hu := wU_le hN
  have hdu := du_ N d hN hd0 hd
  refine lv_iload_n hx hb dd_H_divide_0 rfl (lv_at hl 1 rfl) ?_
  refine lv_iconst (v := nI 1) hx hb dd_H_divide_1 (by decide) ?_
  refine jw_icmp_ge (a := d) (b := 1) (tgt := 6) hx hb dd_H_divide_2 (by decide) (by omega) (by omega) (fun c0 => ?_) (fun c0 => ?_)
  · refine lv_lconst (v := lN 0) hx hb dd_H_divide_6 (by decide) ?_
    refine jw_cvl (y := lN (dl_ N d (wU N))) (by rw [dl_top a2]) ?_
    have eF : (fun j => lN (wG N j)) = (fun j => lN (dg_ N d (wU N) j)) := (dg_top a2).symm
    rw [eF] at hP hD
    refine lv_lstore_n (lv' := [(2, .long (lN (dl_ N d (wU N)))), (0, .ref h0), (1, .int (nI d))]) hx hb dd_H_divide_7 rfl hl (by decide) rfl (fun ls hl => ?_)
    refine lv_aload_n hx hb dd_H_divide_8 rfl (lv_at hl 1 rfl) ?_
    refine va_get (D := D) (ci := 5) (v := .int (nI (wU N))) (C := "UseOdds$Whole") (T := TH_) (N := 2) hx hb hts IH_ hown hK hP 0 rfl rfl 1 (by decide) (hts _ tw113) (fun _ h9 => h9) rfl dd_H_divide_9 ?_
    refine lv_iconst (v := nI 1) hx hb dd_H_divide_12 (by decide) ?_
    refine jw_isub hx hb dd_H_divide_13 (by omega) ?_
    refine jw_cvi (y := nI (wU N) - 1) (nI_p1 a1) ?_
    refine lv_istore (lv' := [(4, .int (nI (wU N) - 1)), (2, .long (lN (dl_ N d (wU N)))), (0, .ref h0), (1, .int (nI d))]) hx hb dd_H_divide_14 hl (by decide) rfl (fun ls hl => ?_)
    refine lp_H_divide hx hb hown hts hK hd0 hd hu (wU N) (Nat.le_refl _) _ _ ls hP hD hS (lv_sub hl [2, 3, 1, 0] rfl) (fun H locs ls hP hD hS hl => ?_)
    have eF : (fun j => lN (dg_ N d 0 j)) = (fun j => lN (wG (N / d) j)) := (dg_end N d)
    rw [eF] at hP hD
    refine lv_aload_n hx hb dd_H_divide_68 rfl (lv_at hl 0 rfl) ?_
    refine va_get (D := D) (ci := 5) (v := .int (nI (wU N))) (C := "UseOdds$Whole") (T := TH_) (N := 2) hx hb hts IH_ hown hK hP 0 rfl rfl 1 (by decide) (hts _ tw113) (fun _ h9 => h9) rfl dd_H_divide_69 ?_
    refine lv_iconst (v := nI 1) hx hb dd_H_divide_72 (by decide) ?_
    refine jw_icmp_le (a := wU N) (b := 1) (tgt := 102) hx hb dd_H_divide_73 (by decide) (by omega) (by omega) (fun c1 => ?_) (fun c1 => ?_)
    · have eV : (nI (wU N)) = (nI (wU (N / d))) := (by rw [hdu, if_neg (by omega)])
      rw [eV] at hP hD
      exact W.vret hx hb hr (fun t ht hW => ⟨⟨(), rfl, trivial, by rw [ht]; exact hP, hD⟩, hS.F ht⟩) hS.2.2 dd_H_divide_102
    · refine lv_aload_n hx hb dd_H_divide_76 rfl (lv_at hl 0 rfl) ?_
      refine va_get (D := D) (ci := 5) (v := .ref h1) (C := "UseOdds$Whole") (T := TH_) (N := 2) hx hb hts IH_ hown hK hP 0 rfl rfl 0 (by decide) (hts _ tw112) (fun _ h9 => h9) rfl dd_H_divide_77 ?_
      refine lv_aload_n hx hb dd_H_divide_80 rfl (lv_at hl 0 rfl) ?_
      refine va_get (D := D) (ci := 5) (v := .int (nI (wU N))) (C := "UseOdds$Whole") (T := TH_) (N := 2) hx hb hts IH_ hown hK hP 0 rfl rfl 1 (by decide) (hts _ tw113) (fun _ h9 => h9) rfl dd_H_divide_81 ?_
      refine lv_iconst (v := nI 1) hx hb dd_H_divide_84 (by decide) ?_
      refine jw_isub hx hb dd_H_divide_85 (by omega) ?_
      refine jw_lald hx hb hK hP 1 1 rfl rfl (i := (wU N) - 1) (by omega) (by decide) dd_H_divide_86 ?_
      refine lv_lconst (v := lN 0) hx hb dd_H_divide_87 (by decide) ?_
      refine jw_lcmp_ne (a := wG (N / d) ((wU N) - 1)) (b := 0) (tgt := 102) hx hb dd_H_divide_88 dd_H_divide_89 (by decide) (Nat.lt_trans (wG_lt _ _) (by decide)) (by decide) (fun c2 => ?_) (fun c2 => ?_)
      · have eV : (nI (wU N)) = (nI (wU (N / d))) := (by rw [hdu, if_neg (fun q => c2 q.2)])
        rw [eV] at hP hD
        exact W.vret hx hb hr (fun t ht hW => ⟨⟨(), rfl, trivial, by rw [ht]; exact hP, hD⟩, hS.F ht⟩) hS.2.2 dd_H_divide_102
      · refine lv_aload_n hx hb dd_H_divide_92 rfl (lv_at hl 0 rfl) ?_
        refine lv_dup hx hb dd_H_divide_93 rfl ?_
        refine va_get (D := D) (ci := 5) (v := .int (nI (wU N))) (C := "UseOdds$Whole") (T := TH_) (N := 2) hx hb hts IH_ hown hK hP 0 rfl rfl 1 (by decide) (hts _ tw113) (fun _ h9 => h9) rfl dd_H_divide_94 ?_
        refine lv_iconst (v := nI 1) hx hb dd_H_divide_97 (by decide) ?_
        refine jw_isub hx hb dd_H_divide_98 (by omega) ?_
        refine va_put (D := D) (ci := 5) (v := .int (nI ((wU N) - 1))) (ty := .int) (C := "UseOdds$Whole") (T := TH_) (N := 2) hx hb hts IH_ YH_ QH_ NH_ hown hK hP hD hS 0 rfl rfl 1 (by decide) (hts _ tw113) (fun _ h9 => h9) rfl (by decide +kernel) rfl rfl (Nat.le_of_ble_eq_true rfl) dd_H_divide_99 (fun H locs hP hD hS => ?_)
        have hP : va_P D vwCl [(h0, .inr (5, [.ref h1, .int (nI ((wU N) - 1))])), (h1, .inl (cs 1, 16, .inr (.inl (fun j => lN (wG (N / d) j)))))] H := hP
        have hD : va_D A [(h0, .inr (5, [.ref h1, .int (nI ((wU N) - 1))])), (h1, .inl (cs 1, 16, .inr (.inl (fun j => lN (wG (N / d) j)))))] := hD
        have eV : (nI ((wU N) - 1)) = (nI (wU (N / d))) := (by rw [hdu, if_pos ⟨by omega, c2⟩])
        rw [eV] at hP hD
        exact W.vret hx hb hr (fun t ht hW => ⟨⟨(), rfl, trivial, by rw [ht]; exact hP, hD⟩, hS.F ht⟩) hS.2.2 dd_H_divide_102
  · exact absurd c0 (by omega)

set_option maxHeartbeats 4000000 in
set_option maxRecDepth 100000 in
theorem lp_H_remainder {p : Program} {l : Launch} {e : Env} {R : Room} {s : State} {m : MethodId} {args : Array Value} {below : List Frame} {meth : Method} {c : Code} {cells slots : Nat} {Q : State → Prop} {A : Nat → Prop} {H0 : Heap} {D : va_G} {cs : Nat → ClassId} {h0 h1 N d top : Nat} (hx : p.tables.exec = Jvm.exec) (hb : c.code = cd_H_remainder) (hown : s.vm.findClass "UseOdds$Whole" = some m.cls) (hts : ∀ w ∈ TW, w.before args s = true) (hK : va_K D vwCl (jt cs) s) (hd0 : 0 < d) (hd : d ≤ 1000000) (htop : top ≤ 16) :
    ∀ (k : Nat), k ≤ top → ∀ (H : Heap) (locs : List Loc) (ls : Array Slot), va_P D vwCl [(h0, .inr (5, [.ref h1, .int (nI (wU N))])), (h1, .inl (cs 1, 16, .inr (.inl (fun j => lN (wG N j)))))] H → va_D A [(h0, .inr (5, [.ref h1, .int (nI (wU N))])), (h1, .inl (cs 1, 16, .inr (.inl (fun j => lN (wG N j)))))] → va_S A H0 H locs → lv_has ls 5 [(0, .ref h0), (1, .int (nI d)), (2, .long (lN (dl_ N d k))), (4, .int (nI k - 1))] →
    (∀ (H : Heap) (locs : List Loc) (ls : Array Slot), va_P D vwCl [(h0, .inr (5, [.ref h1, .int (nI (wU N))])), (h1, .inl (cs 1, 16, .inr (.inl (fun j => lN (wG N j)))))] H → va_D A [(h0, .inr (5, [.ref h1, .int (nI (wU N))])), (h1, .inl (cs 1, 16, .inr (.inl (fun j => lN (wG N j)))))] → va_S A H0 H locs → lv_has ls 5 [(0, .ref h0), (1, .int (nI d)), (2, .long (lN (dl_ N d 0))), (4, .int (nI 0 - 1))] → W p l e R s m args below meth c H locs cells slots Q (F0 m 45 ls [])) → W p l e R s m args below meth c H locs cells slots Q (F0 m 17 ls []) := by
  intro k
  induction k with
  | zero =>
    intro hk H locs ls hP hD hS hl kx
    refine lv_iload hx hb dd_H_remainder_17 (lv_at hl 3 rfl) ?_
    refine lv_if_lt (tgt := 45) hx hb dd_H_remainder_19 (by decide) (fun c1 => ?_) (fun c1 => ?_)
    · exact kx H locs ls hP hD hS (lv_sub hl [0, 1, 2, 3] rfl)
    · exact absurd (show nI 0 - 1 < 0 by decide) c1
  | succ k ih =>
    intro hk H locs ls hP hD hS hl kx
    rw [nI_pred] at hl
    refine lv_iload hx hb dd_H_remainder_17 (lv_at hl 3 rfl) ?_
    refine jw_if_lt (a := k) (tgt := 45) hx hb dd_H_remainder_19 (by decide) (by omega) ?_
    refine lv_lload_n hx hb dd_H_remainder_22 rfl (lv_at hl 2 rfl) ?_
    refine lv_ldc2 (v := 1000000000000) hx hb hown (hts _ tw233) dd_H_remainder_23 ?_
    refine jw_cvl (y := lN 1000000000000) (by decide) ?_
    refine jw_lmul hx hb dd_H_remainder_26 ?_
    refine lv_aload_n hx hb dd_H_remainder_27 rfl (lv_at hl 0 rfl) ?_
    refine va_get (D := D) (ci := 5) (v := .ref h1) (C := "UseOdds$Whole") (T := TH_) (N := 2) hx hb hts IH_ hown hK hP 0 rfl rfl 0 (by decide) (hts _ tw112) (fun _ h9 => h9) rfl dd_H_remainder_28 ?_
    refine lv_iload hx hb dd_H_remainder_31 (lv_at hl 3 rfl) ?_
    refine jw_lald hx hb hK hP 1 1 rfl rfl (i := k) (by omega) (by decide) dd_H_remainder_33 ?_
    refine jw_ladd hx hb dd_H_remainder_34 ?_
    refine lv_iload_n hx hb dd_H_remainder_35 rfl (lv_at hl 1 rfl) ?_
    refine jw_i2l hx hb dd_H_remainder_36 (by omega) ?_
    refine jw_lrem hx hb dd_H_remainder_37 (dp_lt hd0 hd) hd0 (by omega) ?_
    refine jw_cvl (y := lN (dl_ N d k)) (by rw [dl_s N d k]; rfl) ?_
    refine lv_lstore_n (lv' := [(2, .long (lN (dl_ N d k))), (0, .ref h0), (1, .int (nI d)), (4, .int (nI k))]) hx hb dd_H_remainder_38 rfl hl (by decide) rfl (fun ls hl => ?_)
    refine lv_iinc (v := nI k - 1) (lv' := [(4, .int (nI k - 1)), (2, .long (lN (dl_ N d k))), (0, .ref h0), (1, .int (nI d))]) hx hb dd_H_remainder_39 hl (k := 3) rfl (nI_dec k) (by decide) rfl (fun ls hl => ?_)
    refine lv_goto (tgt := 17) hx hb dd_H_remainder_42 (by decide) ?_
    exact ih (by omega) H locs ls hP hD hS (lv_sub hl [2, 3, 1, 0] rfl) kx

set_option maxHeartbeats 4000000 in
set_option maxRecDepth 100000 in
theorem c_H_remainder (l : Launch) (D : va_G) (cs : Nat → ClassId) (h0 h1 N d : Nat) (sz : Nat) (hN : N < bB ^ 16) (hd0 : 0 < d) (hd : d ≤ 1000000) : Met l ym_H_remainder [.code ym_H_remainder cd_H_remainder 5 (some .int)] ({ frames := 0, cells := 0, slots := 0, locals := 0 } : Room) (jw_Pc D vwCl (jt cs) [(h0, .inr (5, [.ref h1, .int (nI (wU N))])), (h1, .inl (cs 1, 16, .inr (.inl (fun j => lN (wG N j)))))] sz TX [.ref h0, .int (nI d)]) (va_Qi (fun (r : Int32) (u : Unit) => r = nI (N % d)) (jw_B D vwCl (va_A [(h0, .inr (5, [.ref h1, .int (nI (wU N))])), (h1, .inl (cs 1, 16, .inr (.inl (fun j => lN (wG N j)))))] sz) (fun (u : Unit) => [(h0, .inr (5, [.ref h1, .int (nI (wU N))])), (h1, .inl (cs 1, 16, .inr (.inl (fun j => lN (wG N j)))))])) (va_A [(h0, .inr (5, [.ref h1, .int (nI (wU N))])), (h1, .inl (cs 1, 16, .inr (.inl (fun j => lN (wG N j)))))] sz)) 0 0 (va_A [(h0, .inr (5, [.ref h1, .int (nI (wU N))])), (h1, .inl (cs 1, 16, .inr (.inl (fun j => lN (wG N j)))))] sz) := by
  refine Met.ofW (cc := cd_H_remainder) (maxL := 5) (ret := (some .int)) (by decide) rfl ?_
  intro p e s m args below meth c s₁ B hml hv
  obtain ⟨rfl, hsz, hP, hD0, hK, hT⟩ := hv
  have hx := B.exec
  have hb := B.bytes
  have hr := B.returns
  have hts : ∀ w ∈ TW, w.before [.ref h0, .int (nI d)].toArray s = true := fun w h => hT.use h _
  have hown : s.vm.findClass "UseOdds$Whole" = some m.cls := findClass_of_methodNamed B.named
  have hlocks := B.notSynchronized
  subst hsz
  have hD := hD0.self (sz := s.heap.size)
  generalize hAe : va_A [(h0, .inr (5, [.ref h1, .int (nI (wU N))])), (h1, .inl (cs 1, 16, .inr (.inl (fun j => lN (wG N j)))))] s.heap.size = A at hD ⊢
  have hA : ∀ q : Nat, s.heap.size ≤ q → A q := fun q h => by rw [← hAe]; exact Or.inr h
  have hS : va_S A s.heap s.heap [] := va_S.rf
  have hl := lv_entry ([.ref h0, .int (nI d)]) (n := 5) (Nat.le_of_ble_eq_true rfl)
  rw [lg_entry_eq]
  generalize (lg_sl ([.ref h0, .int (nI d)]) ++ List.replicate (5 - (lg_sl ([.ref h0, .int (nI d)])).length) Slot.unset).toArray = ls at hl ⊢
  have hl : lv_has ls 5 [(0, .ref h0), (1, .int (nI d))] := hl
  obtain ⟨a1, a2, a3⟩ := wU_is hN
  have hu := wU_le hN
  refine lv_iload_n hx hb dd_H_remainder_0 rfl (lv_at hl 1 rfl) ?_
  refine lv_iconst (v := nI 1) hx hb dd_H_remainder_1 (by decide) ?_
  refine jw_icmp_ge (a := d) (b := 1) (tgt := 7) hx hb dd_H_remainder_2 (by decide) (by omega) (by omega) (fun c0 => ?_) (fun c0 => ?_)
  · refine lv_lconst (v := lN 0) hx hb dd_H_remainder_7 (by decide) ?_
    refine jw_cvl (y := lN (dl_ N d (wU N))) (by rw [dl_top a2]) ?_
    refine lv_lstore_n (lv' := [(2, .long (lN (dl_ N d (wU N)))), (0, .ref h0), (1, .int (nI d))]) hx hb dd_H_remainder_8 rfl hl (by decide) rfl (fun ls hl => ?_)
    refine lv_aload_n hx hb dd_H_remainder_9 rfl (lv_at hl 1 rfl) ?_
    refine va_get (D := D) (ci := 5) (v := .int (nI (wU N))) (C := "UseOdds$Whole") (T := TH_) (N := 2) hx hb hts IH_ hown hK hP 0 rfl rfl 1 (by decide) (hts _ tw113) (fun _ h9 => h9) rfl dd_H_remainder_10 ?_
    refine lv_iconst (v := nI 1) hx hb dd_H_remainder_13 (by decide) ?_
    refine jw_isub hx hb dd_H_remainder_14 (by omega) ?_
    refine jw_cvi (y := nI (wU N) - 1) (nI_p1 a1) ?_
    refine lv_istore (lv' := [(4, .int (nI (wU N) - 1)), (2, .long (lN (dl_ N d (wU N)))), (0, .ref h0), (1, .int (nI d))]) hx hb dd_H_remainder_15 hl (by decide) rfl (fun ls hl => ?_)
    refine lp_H_remainder hx hb hown hts hK hd0 hd hu (wU N) (Nat.le_refl _) _ _ ls hP hD hS (lv_sub hl [2, 3, 1, 0] rfl) (fun H locs ls hP hD hS hl => ?_)
    refine lv_lload_n hx hb dd_H_remainder_45 rfl (lv_at hl 2 rfl) ?_
    refine jw_l2i hx hb dd_H_remainder_46 ?_
    exact W.iret (v := (nI (dl_ N d 0))) hx hb hr (fun t ht hW => ⟨⟨_, (), rfl, by rw [dl_0], by rw [ht]; exact hP, hD⟩, hS.F ht⟩) hS.2.2 dd_H_remainder_47
  · exact absurd c0 (by omega)
