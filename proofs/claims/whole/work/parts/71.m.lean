set_option maxHeartbeats 4000000 in
set_option maxRecDepth 100000 in
theorem lp_M_set {p : Program} {l : Launch} {e : Env} {R : Room} {s : State} {m : MethodId} {args : Array Value} {below : List Frame} {meth : Method} {c : Code} {cells slots : Nat} {Q : State → Prop} {A : Nat → Prop} {H0 : Heap} {D : va_G} {cs : Nat → ClassId} {m0 th nk f1 f2 f3 np g1 g2 g3 sA sB ne h1 h2 h3 w0 pa w1 : Nat} {sl v : Nat} {V : Nat → Nat} (hx : p.tables.exec = Jvm.exec) (hb : c.code = cd_M_set) (hown : s.vm.findClass "UseOddsModel" = some m.cls) (hts : ∀ w ∈ TW, w.before args s = true) (hK : va_K D vwCl (jt cs) s) (hs : sl < 7) :
    ∀ (n9 i : Nat), i ≤ 60 → 60 + 1 ≤ i + n9 → ∀ (H : Heap) (locs : List Loc) (ls : Array Slot), va_P D vwCl [(m0, .inr (7, [.int (nI th), .int (nI nk), .ref f1, .ref f2, .ref f3, .int (nI np), .ref g1, .ref g2, .ref g3, .int (nI sA), .int (nI sB), .int (nI ne), .ref h1, .ref h2, .ref h3, .ref w0, .int (nI pa), .ref w1])), (w0, .inl (cs 1, 420, .inr (.inl (fun j => lN (rx_ V sl (yv_ (V sl) v i) j)))))] H → va_D A [(m0, .inr (7, [.int (nI th), .int (nI nk), .ref f1, .ref f2, .ref f3, .int (nI np), .ref g1, .ref g2, .ref g3, .int (nI sA), .int (nI sB), .int (nI ne), .ref h1, .ref h2, .ref h3, .ref w0, .int (nI pa), .ref w1])), (w0, .inl (cs 1, 420, .inr (.inl (fun j => lN (rx_ V sl (yv_ (V sl) v i) j)))))] → va_S A H0 H locs → lv_has ls 5 [(0, .ref m0), (1, .int (nI (60 * sl))), (2, .long (lN v)), (4, .int (nI i))] →
    (∀ (H : Heap) (locs : List Loc) (ls : Array Slot), va_P D vwCl [(m0, .inr (7, [.int (nI th), .int (nI nk), .ref f1, .ref f2, .ref f3, .int (nI np), .ref g1, .ref g2, .ref g3, .int (nI sA), .int (nI sB), .int (nI ne), .ref h1, .ref h2, .ref h3, .ref w0, .int (nI pa), .ref w1])), (w0, .inl (cs 1, 420, .inr (.inl (fun j => lN (rx_ V sl (yv_ (V sl) v 60) j)))))] H → va_D A [(m0, .inr (7, [.int (nI th), .int (nI nk), .ref f1, .ref f2, .ref f3, .int (nI np), .ref g1, .ref g2, .ref g3, .int (nI sA), .int (nI sB), .int (nI ne), .ref h1, .ref h2, .ref h3, .ref w0, .int (nI pa), .ref w1])), (w0, .inl (cs 1, 420, .inr (.inl (fun j => lN (rx_ V sl (yv_ (V sl) v 60) j)))))] → va_S A H0 H locs → lv_has ls 5 [(0, .ref m0), (1, .int (nI (60 * sl))), (2, .long (lN v)), (4, .int (nI 60))] → W p l e R s m args below meth c H locs cells slots Q (F0 m 35 ls [])) → W p l e R s m args below meth c H locs cells slots Q (F0 m 3 ls []) := by
  intro n9
  induction n9 with
  | zero => intro i h1 h2; exact absurd h2 (by omega)
  | succ n9 ih =>
    intro i hi hin H locs ls hP hD hS hl kx
    refine lv_iload hx hb dd_M_set_3 (lv_at hl 3 rfl) ?_
    refine lv_bipush (v := nI 60) hx hb dd_M_set_5 (by decide) ?_
    refine jw_icmp_ge (a := i) (b := 60) (tgt := 35) hx hb dd_M_set_7 (by decide) (by omega) (by omega) (fun c1 => ?_) (fun c1 => ?_)
    · have e1 : i = 60 := by omega
      rw [e1] at hP hD hl
      exact kx H locs ls hP hD hS (lv_sub hl [0, 1, 2, 3] rfl)
    · refine lv_aload_n hx hb dd_M_set_10 rfl (lv_at hl 0 rfl) ?_
      refine va_get (D := D) (ci := 7) (v := .ref w0) (C := "UseOddsModel") (T := TM_) (N := 18) hx hb hts IM_ hown hK hP 0 rfl rfl 15 (by decide) (hts _ tw582) (fun _ h9 => h9) rfl dd_M_set_11 ?_
      refine lv_iload_n hx hb dd_M_set_14 rfl (lv_at hl 1 rfl) ?_
      refine lv_iload hx hb dd_M_set_15 (lv_at hl 3 rfl) ?_
      refine jw_iadd hx hb dd_M_set_17 ?_
      refine lv_iload hx hb dd_M_set_18 (lv_at hl 3 rfl) ?_
      refine jw_if_ne (a := i) (tgt := 27) hx hb dd_M_set_20 (by decide) (by omega) (fun c2 => ?_) (fun c2 => ?_)
      · refine lv_lconst (v := lN 0) hx hb dd_M_set_27 (by decide) ?_
        refine jw_last hx hb hK hP hD hS 1 1 rfl rfl (i := (60 * sl) + i) (by omega) (by decide) dd_M_set_28 (fun H locs hP hD hS => ?_)
        have hP : va_P D vwCl [(m0, .inr (7, [.int (nI th), .int (nI nk), .ref f1, .ref f2, .ref f3, .int (nI np), .ref g1, .ref g2, .ref g3, .int (nI sA), .int (nI sB), .int (nI ne), .ref h1, .ref h2, .ref h3, .ref w0, .int (nI pa), .ref w1])), (w0, .inl (cs 1, 420, .inr (.inl (vp_updL (fun j => lN (rx_ V sl (yv_ (V sl) v i) j)) ((60 * sl) + i) (lN 0)))))] H := hP
        have hD : va_D A [(m0, .inr (7, [.int (nI th), .int (nI nk), .ref f1, .ref f2, .ref f3, .int (nI np), .ref g1, .ref g2, .ref g3, .int (nI sA), .int (nI sB), .int (nI ne), .ref h1, .ref h2, .ref h3, .ref w0, .int (nI pa), .ref w1])), (w0, .inl (cs 1, 420, .inr (.inl (vp_updL (fun j => lN (rx_ V sl (yv_ (V sl) v i) j)) ((60 * sl) + i) (lN 0)))))] := hD
        have eF : (vp_updL (fun j => lN (rx_ V sl (yv_ (V sl) v i) j)) ((60 * sl) + i) (lN 0)) = (fun j => lN (rx_ V sl (yv_ (V sl) v (i + 1)) j)) := (rx_up V sl (by omega) (fun z => by rw [yv_s, show (if i = 0 then v else 0) = 0 from by split <;> first | rfl | (exfalso; omega)]))
        rw [eF] at hP hD
        refine lv_iinc (v := nI (i + 1)) (lv' := [(4, .int (nI (i + 1))), (0, .ref m0), (1, .int (nI (60 * sl))), (2, .long (lN v))]) hx hb dd_M_set_29 hl (k := 3) rfl (nI_1 i) (by decide) rfl (fun ls hl => ?_)
        refine lv_goto (tgt := 3) hx hb dd_M_set_32 (by decide) ?_
        exact ih (i + 1) (by omega) (by omega) H locs ls hP hD hS (lv_sub hl [1, 2, 3, 0] rfl) kx
      · refine lv_lload_n hx hb dd_M_set_23 rfl (lv_at hl 2 rfl) ?_
        refine lv_goto (tgt := 28) hx hb dd_M_set_24 (by decide) ?_
        refine jw_last hx hb hK hP hD hS 1 1 rfl rfl (i := (60 * sl) + i) (by omega) (by decide) dd_M_set_28 (fun H locs hP hD hS => ?_)
        have hP : va_P D vwCl [(m0, .inr (7, [.int (nI th), .int (nI nk), .ref f1, .ref f2, .ref f3, .int (nI np), .ref g1, .ref g2, .ref g3, .int (nI sA), .int (nI sB), .int (nI ne), .ref h1, .ref h2, .ref h3, .ref w0, .int (nI pa), .ref w1])), (w0, .inl (cs 1, 420, .inr (.inl (vp_updL (fun j => lN (rx_ V sl (yv_ (V sl) v i) j)) ((60 * sl) + i) (lN v)))))] H := hP
        have hD : va_D A [(m0, .inr (7, [.int (nI th), .int (nI nk), .ref f1, .ref f2, .ref f3, .int (nI np), .ref g1, .ref g2, .ref g3, .int (nI sA), .int (nI sB), .int (nI ne), .ref h1, .ref h2, .ref h3, .ref w0, .int (nI pa), .ref w1])), (w0, .inl (cs 1, 420, .inr (.inl (vp_updL (fun j => lN (rx_ V sl (yv_ (V sl) v i) j)) ((60 * sl) + i) (lN v)))))] := hD
        have eF : (vp_updL (fun j => lN (rx_ V sl (yv_ (V sl) v i) j)) ((60 * sl) + i) (lN v)) = (fun j => lN (rx_ V sl (yv_ (V sl) v (i + 1)) j)) := (rx_up V sl (by omega) (fun z => by rw [yv_s, show (if i = 0 then v else 0) = v from by split <;> first | rfl | (exfalso; omega)]))
        rw [eF] at hP hD
        refine lv_iinc (v := nI (i + 1)) (lv' := [(4, .int (nI (i + 1))), (0, .ref m0), (1, .int (nI (60 * sl))), (2, .long (lN v))]) hx hb dd_M_set_29 hl (k := 3) rfl (nI_1 i) (by decide) rfl (fun ls hl => ?_)
        refine lv_goto (tgt := 3) hx hb dd_M_set_32 (by decide) ?_
        exact ih (i + 1) (by omega) (by omega) H locs ls hP hD hS (lv_sub hl [1, 2, 3, 0] rfl) kx

set_option maxHeartbeats 4000000 in
set_option maxRecDepth 100000 in
theorem c_M_set (l : Launch) (D : va_G) (cs : Nat → ClassId) (m0 th nk f1 f2 f3 np g1 g2 g3 sA sB ne h1 h2 h3 w0 pa w1 : Nat) (sl nn v : Nat) (V : Nat → Nat) (sz : Nat) (hn : nn = 60 * sl) (hs : sl < 7) (hv : v < zB) : Met l ym_M_set [.code ym_M_set cd_M_set 5 none] ({ frames := 0, cells := 0, slots := 0, locals := 0 } : Room) (jw_Pc D vwCl (jt cs) [(m0, .inr (7, [.int (nI th), .int (nI nk), .ref f1, .ref f2, .ref f3, .int (nI np), .ref g1, .ref g2, .ref g3, .int (nI sA), .int (nI sB), .int (nI ne), .ref h1, .ref h2, .ref h3, .ref w0, .int (nI pa), .ref w1])), (w0, .inl (cs 1, 420, .inr (.inl (fun j => lN (rl_ V j)))))] sz TX [.ref m0, .int (nI nn), .long (lN v)]) (va_Qv (fun (u : Unit) => True) (jw_B D vwCl (va_A [(m0, .inr (7, [.int (nI th), .int (nI nk), .ref f1, .ref f2, .ref f3, .int (nI np), .ref g1, .ref g2, .ref g3, .int (nI sA), .int (nI sB), .int (nI ne), .ref h1, .ref h2, .ref h3, .ref w0, .int (nI pa), .ref w1])), (w0, .inl (cs 1, 420, .inr (.inl (fun j => lN (rl_ V j)))))] sz) (fun (u : Unit) => [(m0, .inr (7, [.int (nI th), .int (nI nk), .ref f1, .ref f2, .ref f3, .int (nI np), .ref g1, .ref g2, .ref g3, .int (nI sA), .int (nI sB), .int (nI ne), .ref h1, .ref h2, .ref h3, .ref w0, .int (nI pa), .ref w1])), (w0, .inl (cs 1, 420, .inr (.inl (fun j => lN (rl_ (un_ V sl v) j)))))])) (va_A [(m0, .inr (7, [.int (nI th), .int (nI nk), .ref f1, .ref f2, .ref f3, .int (nI np), .ref g1, .ref g2, .ref g3, .int (nI sA), .int (nI sB), .int (nI ne), .ref h1, .ref h2, .ref h3, .ref w0, .int (nI pa), .ref w1])), (w0, .inl (cs 1, 420, .inr (.inl (fun j => lN (rl_ V j)))))] sz)) 0 0 (va_A [(m0, .inr (7, [.int (nI th), .int (nI nk), .ref f1, .ref f2, .ref f3, .int (nI np), .ref g1, .ref g2, .ref g3, .int (nI sA), .int (nI sB), .int (nI ne), .ref h1, .ref h2, .ref h3, .ref w0, .int (nI pa), .ref w1])), (w0, .inl (cs 1, 420, .inr (.inl (fun j => lN (rl_ V j)))))] sz) := by
  refine Met.ofW (cc := cd_M_set) (maxL := 5) (ret := none) (by decide) rfl ?_
  intro p e s m args below meth c s₁ BL hml hv
  obtain ⟨rfl, hsz, hP, hD0, hK, hT⟩ := hv
  have hx := BL.exec
  have hb := BL.bytes
  have hr := BL.returns
  have hts : ∀ w ∈ TW, w.before [.ref m0, .int (nI nn), .long (lN v)].toArray s = true := fun w h => hT.use h _
  have hown : s.vm.findClass "UseOddsModel" = some m.cls := findClass_of_methodNamed BL.named
  have hlocks := BL.notSynchronized
  subst hsz
  have hD := hD0.self (sz := s.heap.size)
  generalize hAe : va_A [(m0, .inr (7, [.int (nI th), .int (nI nk), .ref f1, .ref f2, .ref f3, .int (nI np), .ref g1, .ref g2, .ref g3, .int (nI sA), .int (nI sB), .int (nI ne), .ref h1, .ref h2, .ref h3, .ref w0, .int (nI pa), .ref w1])), (w0, .inl (cs 1, 420, .inr (.inl (fun j => lN (rl_ V j)))))] s.heap.size = A at hD ⊢
  have hA : ∀ q : Nat, s.heap.size ≤ q → A q := fun q h => by rw [← hAe]; exact Or.inr h
  have hS : va_S A s.heap s.heap [] := va_S.rf
  have hl := lv_entry ([.ref m0, .int (nI nn), .long (lN v)]) (n := 5) (Nat.le_of_ble_eq_true rfl)
  rw [lg_entry_eq]
  generalize (lg_sl ([.ref m0, .int (nI nn), .long (lN v)]) ++ List.replicate (5 - (lg_sl ([.ref m0, .int (nI nn), .long (lN v)])).length) Slot.unset).toArray = ls at hl ⊢
  have hl : lv_has ls 5 [(0, .ref m0), (1, .int (nI nn)), (2, .long (lN v))] := hl
  subst hn
  have eF : (fun j => lN (rl_ V j)) = (fun j => lN (rx_ V sl (yv_ (V sl) v 0) j)) := (rx_0 V sl (fun k _ => by simp [yv_]))
  rw [eF] at hP hD
  refine lv_iconst (v := nI 0) hx hb dd_M_set_0 (by decide) ?_
  refine lv_istore (lv' := [(4, .int (nI 0)), (0, .ref m0), (1, .int (nI (60 * sl))), (2, .long (lN v))]) hx hb dd_M_set_1 hl (by decide) rfl (fun ls hl => ?_)
  refine lp_M_set (sl := sl) hx hb hown hts hK hs 61 0 (Nat.zero_le _) (by omega) _ _ ls hP hD hS (lv_sub hl [1, 2, 3, 0] rfl) (fun H locs ls hP hD hS hl => ?_)
  have eF : (fun j => lN (rx_ V sl (yv_ (V sl) v 60) j)) = (fun j => lN (rl_ (un_ V sl v) j)) := (rx_end V sl v (yv_end hv))
  rw [eF] at hP hD
  exact W.vret hx hb hr (fun t ht hW => ⟨⟨(), rfl, trivial, by rw [ht]; exact hP, hD⟩, hS.F ht⟩) hS.2.2 dd_M_set_35

set_option maxHeartbeats 4000000 in
set_option maxRecDepth 100000 in
theorem lp_M_copy {p : Program} {l : Launch} {e : Env} {R : Room} {s : State} {m : MethodId} {args : Array Value} {below : List Frame} {meth : Method} {c : Code} {cells slots : Nat} {Q : State → Prop} {A : Nat → Prop} {H0 : Heap} {D : va_G} {cs : Nat → ClassId} {m0 th nk f1 f2 f3 np g1 g2 g3 sA sB ne h1 h2 h3 w0 pa w1 : Nat} {sl tl : Nat} {V : Nat → Nat} (hx : p.tables.exec = Jvm.exec) (hb : c.code = cd_M_copy) (hown : s.vm.findClass "UseOddsModel" = some m.cls) (hts : ∀ w ∈ TW, w.before args s = true) (hK : va_K D vwCl (jt cs) s) (hs : sl < 7) (ht : tl < 7) (hts2 : tl ≠ sl) :
    ∀ (n9 i : Nat), i ≤ 60 → 60 + 1 ≤ i + n9 → ∀ (H : Heap) (locs : List Loc) (ls : Array Slot), va_P D vwCl [(m0, .inr (7, [.int (nI th), .int (nI nk), .ref f1, .ref f2, .ref f3, .int (nI np), .ref g1, .ref g2, .ref g3, .int (nI sA), .int (nI sB), .int (nI ne), .ref h1, .ref h2, .ref h3, .ref w0, .int (nI pa), .ref w1])), (w0, .inl (cs 1, 420, .inr (.inl (fun j => lN (rx_ V sl (yy_ (V sl) (V tl) i) j)))))] H → va_D A [(m0, .inr (7, [.int (nI th), .int (nI nk), .ref f1, .ref f2, .ref f3, .int (nI np), .ref g1, .ref g2, .ref g3, .int (nI sA), .int (nI sB), .int (nI ne), .ref h1, .ref h2, .ref h3, .ref w0, .int (nI pa), .ref w1])), (w0, .inl (cs 1, 420, .inr (.inl (fun j => lN (rx_ V sl (yy_ (V sl) (V tl) i) j)))))] → va_S A H0 H locs → lv_has ls 4 [(0, .ref m0), (1, .int (nI (60 * tl))), (2, .int (nI (60 * sl))), (3, .int (nI i))] →
    (∀ (H : Heap) (locs : List Loc) (ls : Array Slot), va_P D vwCl [(m0, .inr (7, [.int (nI th), .int (nI nk), .ref f1, .ref f2, .ref f3, .int (nI np), .ref g1, .ref g2, .ref g3, .int (nI sA), .int (nI sB), .int (nI ne), .ref h1, .ref h2, .ref h3, .ref w0, .int (nI pa), .ref w1])), (w0, .inl (cs 1, 420, .inr (.inl (fun j => lN (rx_ V sl (yy_ (V sl) (V tl) 60) j)))))] H → va_D A [(m0, .inr (7, [.int (nI th), .int (nI nk), .ref f1, .ref f2, .ref f3, .int (nI np), .ref g1, .ref g2, .ref g3, .int (nI sA), .int (nI sB), .int (nI ne), .ref h1, .ref h2, .ref h3, .ref w0, .int (nI pa), .ref w1])), (w0, .inl (cs 1, 420, .inr (.inl (fun j => lN (rx_ V sl (yy_ (V sl) (V tl) 60) j)))))] → va_S A H0 H locs → lv_has ls 4 [(0, .ref m0), (1, .int (nI (60 * tl))), (2, .int (nI (60 * sl))), (3, .int (nI 60))] → W p l e R s m args below meth c H locs cells slots Q (F0 m 30 ls [])) → W p l e R s m args below meth c H locs cells slots Q (F0 m 2 ls []) := by
  intro n9
  induction n9 with
  | zero => intro i h1 h2; exact absurd h2 (by omega)
  | succ n9 ih =>
    intro i hi hin H locs ls hP hD hS hl kx
    refine lv_iload_n hx hb dd_M_copy_2 rfl (lv_at hl 3 rfl) ?_
    refine lv_bipush (v := nI 60) hx hb dd_M_copy_3 (by decide) ?_
    refine jw_icmp_ge (a := i) (b := 60) (tgt := 30) hx hb dd_M_copy_5 (by decide) (by omega) (by omega) (fun c1 => ?_) (fun c1 => ?_)
    · have e1 : i = 60 := by omega
      rw [e1] at hP hD hl
      exact kx H locs ls hP hD hS (lv_sub hl [0, 1, 2, 3] rfl)
    · refine lv_aload_n hx hb dd_M_copy_8 rfl (lv_at hl 0 rfl) ?_
      refine va_get (D := D) (ci := 7) (v := .ref w0) (C := "UseOddsModel") (T := TM_) (N := 18) hx hb hts IM_ hown hK hP 0 rfl rfl 15 (by decide) (hts _ tw582) (fun _ h9 => h9) rfl dd_M_copy_9 ?_
      refine lv_iload_n hx hb dd_M_copy_12 rfl (lv_at hl 2 rfl) ?_
      refine lv_iload_n hx hb dd_M_copy_13 rfl (lv_at hl 3 rfl) ?_
      refine jw_iadd hx hb dd_M_copy_14 ?_
      refine lv_aload_n hx hb dd_M_copy_15 rfl (lv_at hl 0 rfl) ?_
      refine va_get (D := D) (ci := 7) (v := .ref w0) (C := "UseOddsModel") (T := TM_) (N := 18) hx hb hts IM_ hown hK hP 0 rfl rfl 15 (by decide) (hts _ tw582) (fun _ h9 => h9) rfl dd_M_copy_16 ?_
      refine lv_iload_n hx hb dd_M_copy_19 rfl (lv_at hl 1 rfl) ?_
      refine lv_iload_n hx hb dd_M_copy_20 rfl (lv_at hl 3 rfl) ?_
      refine jw_iadd hx hb dd_M_copy_21 ?_
      refine jw_lald hx hb hK hP 1 1 rfl rfl (i := (60 * tl) + i) (by omega) (by decide) dd_M_copy_22 ?_
      refine jw_cvl (y := lN (zG (V tl) i)) (by rw [rx_out V _ (by omega) hts2]) ?_
      refine jw_last hx hb hK hP hD hS 1 1 rfl rfl (i := (60 * sl) + i) (by omega) (by decide) dd_M_copy_23 (fun H locs hP hD hS => ?_)
      have hP : va_P D vwCl [(m0, .inr (7, [.int (nI th), .int (nI nk), .ref f1, .ref f2, .ref f3, .int (nI np), .ref g1, .ref g2, .ref g3, .int (nI sA), .int (nI sB), .int (nI ne), .ref h1, .ref h2, .ref h3, .ref w0, .int (nI pa), .ref w1])), (w0, .inl (cs 1, 420, .inr (.inl (vp_updL (fun j => lN (rx_ V sl (yy_ (V sl) (V tl) i) j)) ((60 * sl) + i) (lN (zG (V tl) i))))))] H := hP
      have hD : va_D A [(m0, .inr (7, [.int (nI th), .int (nI nk), .ref f1, .ref f2, .ref f3, .int (nI np), .ref g1, .ref g2, .ref g3, .int (nI sA), .int (nI sB), .int (nI ne), .ref h1, .ref h2, .ref h3, .ref w0, .int (nI pa), .ref w1])), (w0, .inl (cs 1, 420, .inr (.inl (vp_updL (fun j => lN (rx_ V sl (yy_ (V sl) (V tl) i) j)) ((60 * sl) + i) (lN (zG (V tl) i))))))] := hD
      have eF : (vp_updL (fun j => lN (rx_ V sl (yy_ (V sl) (V tl) i) j)) ((60 * sl) + i) (lN (zG (V tl) i))) = (fun j => lN (rx_ V sl (yy_ (V sl) (V tl) (i + 1)) j)) := (rx_up V sl (by omega) (fun z => by rw [yy_s]))
      rw [eF] at hP hD
      refine lv_iinc (v := nI (i + 1)) (lv' := [(3, .int (nI (i + 1))), (0, .ref m0), (1, .int (nI (60 * tl))), (2, .int (nI (60 * sl)))]) hx hb dd_M_copy_24 hl (k := 3) rfl (nI_1 i) (by decide) rfl (fun ls hl => ?_)
      refine lv_goto (tgt := 2) hx hb dd_M_copy_27 (by decide) ?_
      exact ih (i + 1) (by omega) (by omega) H locs ls hP hD hS (lv_sub hl [1, 2, 3, 0] rfl) kx

set_option maxHeartbeats 4000000 in
set_option maxRecDepth 100000 in
theorem c_M_copy (l : Launch) (D : va_G) (cs : Nat → ClassId) (m0 th nk f1 f2 f3 np g1 g2 g3 sA sB ne h1 h2 h3 w0 pa w1 : Nat) (tl sl nf nt : Nat) (V : Nat → Nat) (sz : Nat) (hn1 : nf = 60 * tl) (hn2 : nt = 60 * sl) (hs : sl < 7) (ht : tl < 7) (hts2 : tl ≠ sl) : Met l ym_M_copy [.code ym_M_copy cd_M_copy 4 none] ({ frames := 0, cells := 0, slots := 0, locals := 0 } : Room) (jw_Pc D vwCl (jt cs) [(m0, .inr (7, [.int (nI th), .int (nI nk), .ref f1, .ref f2, .ref f3, .int (nI np), .ref g1, .ref g2, .ref g3, .int (nI sA), .int (nI sB), .int (nI ne), .ref h1, .ref h2, .ref h3, .ref w0, .int (nI pa), .ref w1])), (w0, .inl (cs 1, 420, .inr (.inl (fun j => lN (rl_ V j)))))] sz TX [.ref m0, .int (nI nf), .int (nI nt)]) (va_Qv (fun (u : Unit) => True) (jw_B D vwCl (va_A [(m0, .inr (7, [.int (nI th), .int (nI nk), .ref f1, .ref f2, .ref f3, .int (nI np), .ref g1, .ref g2, .ref g3, .int (nI sA), .int (nI sB), .int (nI ne), .ref h1, .ref h2, .ref h3, .ref w0, .int (nI pa), .ref w1])), (w0, .inl (cs 1, 420, .inr (.inl (fun j => lN (rl_ V j)))))] sz) (fun (u : Unit) => [(m0, .inr (7, [.int (nI th), .int (nI nk), .ref f1, .ref f2, .ref f3, .int (nI np), .ref g1, .ref g2, .ref g3, .int (nI sA), .int (nI sB), .int (nI ne), .ref h1, .ref h2, .ref h3, .ref w0, .int (nI pa), .ref w1])), (w0, .inl (cs 1, 420, .inr (.inl (fun j => lN (rl_ (un_ V sl (V tl)) j)))))])) (va_A [(m0, .inr (7, [.int (nI th), .int (nI nk), .ref f1, .ref f2, .ref f3, .int (nI np), .ref g1, .ref g2, .ref g3, .int (nI sA), .int (nI sB), .int (nI ne), .ref h1, .ref h2, .ref h3, .ref w0, .int (nI pa), .ref w1])), (w0, .inl (cs 1, 420, .inr (.inl (fun j => lN (rl_ V j)))))] sz)) 0 0 (va_A [(m0, .inr (7, [.int (nI th), .int (nI nk), .ref f1, .ref f2, .ref f3, .int (nI np), .ref g1, .ref g2, .ref g3, .int (nI sA), .int (nI sB), .int (nI ne), .ref h1, .ref h2, .ref h3, .ref w0, .int (nI pa), .ref w1])), (w0, .inl (cs 1, 420, .inr (.inl (fun j => lN (rl_ V j)))))] sz) := by
  refine Met.ofW (cc := cd_M_copy) (maxL := 4) (ret := none) (by decide) rfl ?_
  intro p e s m args below meth c s₁ BL hml hv
  obtain ⟨rfl, hsz, hP, hD0, hK, hT⟩ := hv
  have hx := BL.exec
  have hb := BL.bytes
  have hr := BL.returns
  have hts : ∀ w ∈ TW, w.before [.ref m0, .int (nI nf), .int (nI nt)].toArray s = true := fun w h => hT.use h _
  have hown : s.vm.findClass "UseOddsModel" = some m.cls := findClass_of_methodNamed BL.named
  have hlocks := BL.notSynchronized
  subst hsz
  have hD := hD0.self (sz := s.heap.size)
  generalize hAe : va_A [(m0, .inr (7, [.int (nI th), .int (nI nk), .ref f1, .ref f2, .ref f3, .int (nI np), .ref g1, .ref g2, .ref g3, .int (nI sA), .int (nI sB), .int (nI ne), .ref h1, .ref h2, .ref h3, .ref w0, .int (nI pa), .ref w1])), (w0, .inl (cs 1, 420, .inr (.inl (fun j => lN (rl_ V j)))))] s.heap.size = A at hD ⊢
  have hA : ∀ q : Nat, s.heap.size ≤ q → A q := fun q h => by rw [← hAe]; exact Or.inr h
  have hS : va_S A s.heap s.heap [] := va_S.rf
  have hl := lv_entry ([.ref m0, .int (nI nf), .int (nI nt)]) (n := 4) (Nat.le_of_ble_eq_true rfl)
  rw [lg_entry_eq]
  generalize (lg_sl ([.ref m0, .int (nI nf), .int (nI nt)]) ++ List.replicate (4 - (lg_sl ([.ref m0, .int (nI nf), .int (nI nt)])).length) Slot.unset).toArray = ls at hl ⊢
  have hl : lv_has ls 4 [(0, .ref m0), (1, .int (nI nf)), (2, .int (nI nt))] := hl
  subst hn1
  subst hn2
  have eF : (fun j => lN (rl_ V j)) = (fun j => lN (rx_ V sl (yy_ (V sl) (V tl) 0) j)) := (rx_0 V sl (fun k _ => by simp [yy_]))
  rw [eF] at hP hD
  refine lv_iconst (v := nI 0) hx hb dd_M_copy_0 (by decide) ?_
  refine lv_istore_n (lv' := [(3, .int (nI 0)), (0, .ref m0), (1, .int (nI (60 * tl))), (2, .int (nI (60 * sl)))]) hx hb dd_M_copy_1 rfl hl (by decide) rfl (fun ls hl => ?_)
  refine lp_M_copy (sl := sl) (tl := tl) hx hb hown hts hK hs ht hts2 61 0 (Nat.zero_le _) (by omega) _ _ ls hP hD hS (lv_sub hl [1, 2, 3, 0] rfl) (fun H locs ls hP hD hS hl => ?_)
  have eF : (fun j => lN (rx_ V sl (yy_ (V sl) (V tl) 60) j)) = (fun j => lN (rl_ (un_ V sl (V tl)) j)) := (rx_end V sl (V tl) (fun k hk => by simp [yy_, hk]))
  rw [eF] at hP hD
  exact W.vret hx hb hr (fun t ht hW => ⟨⟨(), rfl, trivial, by rw [ht]; exact hP, hD⟩, hS.F ht⟩) hS.2.2 dd_M_copy_30

set_option maxHeartbeats 4000000 in
set_option maxRecDepth 100000 in
theorem lp_M_times {p : Program} {l : Launch} {e : Env} {R : Room} {s : State} {m : MethodId} {args : Array Value} {below : List Frame} {meth : Method} {c : Code} {cells slots : Nat} {Q : State → Prop} {A : Nat → Prop} {H0 : Heap} {D : va_G} {cs : Nat → ClassId} {m0 th nk f1 f2 f3 np g1 g2 g3 sA sB ne h1 h2 h3 w0 pa w1 : Nat} {sl f : Nat} {V : Nat → Nat} (hx : p.tables.exec = Jvm.exec) (hb : c.code = cd_M_times) (hown : s.vm.findClass "UseOddsModel" = some m.cls) (hts : ∀ w ∈ TW, w.before args s = true) (hK : va_K D vwCl (jt cs) s) (hs : sl < 7) (hf : f ≤ 1000000) :
    ∀ (n9 i : Nat), i ≤ 60 → 60 + 1 ≤ i + n9 → ∀ (H : Heap) (locs : List Loc) (ls : Array Slot), va_P D vwCl [(m0, .inr (7, [.int (nI th), .int (nI nk), .ref f1, .ref f2, .ref f3, .int (nI np), .ref g1, .ref g2, .ref g3, .int (nI sA), .int (nI sB), .int (nI ne), .ref h1, .ref h2, .ref h3, .ref w0, .int (nI pa), .ref w1])), (w0, .inl (cs 1, 420, .inr (.inl (fun j => lN (rx_ V sl (ym_ (V sl) f i) j)))))] H → va_D A [(m0, .inr (7, [.int (nI th), .int (nI nk), .ref f1, .ref f2, .ref f3, .int (nI np), .ref g1, .ref g2, .ref g3, .int (nI sA), .int (nI sB), .int (nI ne), .ref h1, .ref h2, .ref h3, .ref w0, .int (nI pa), .ref w1])), (w0, .inl (cs 1, 420, .inr (.inl (fun j => lN (rx_ V sl (ym_ (V sl) f i) j)))))] → va_S A H0 H locs → lv_has ls 9 [(0, .ref m0), (1, .int (nI (60 * sl))), (2, .long (lN f)), (4, .long (lN (yc_ (V sl) f i))), (6, .int (nI i))] →
    (∀ (H : Heap) (locs : List Loc) (ls : Array Slot), va_P D vwCl [(m0, .inr (7, [.int (nI th), .int (nI nk), .ref f1, .ref f2, .ref f3, .int (nI np), .ref g1, .ref g2, .ref g3, .int (nI sA), .int (nI sB), .int (nI ne), .ref h1, .ref h2, .ref h3, .ref w0, .int (nI pa), .ref w1])), (w0, .inl (cs 1, 420, .inr (.inl (fun j => lN (rx_ V sl (ym_ (V sl) f 60) j)))))] H → va_D A [(m0, .inr (7, [.int (nI th), .int (nI nk), .ref f1, .ref f2, .ref f3, .int (nI np), .ref g1, .ref g2, .ref g3, .int (nI sA), .int (nI sB), .int (nI ne), .ref h1, .ref h2, .ref h3, .ref w0, .int (nI pa), .ref w1])), (w0, .inl (cs 1, 420, .inr (.inl (fun j => lN (rx_ V sl (ym_ (V sl) f 60) j)))))] → va_S A H0 H locs → lv_has ls 9 [(0, .ref m0), (1, .int (nI (60 * sl))), (2, .long (lN f)), (4, .long (lN (yc_ (V sl) f 60))), (6, .int (nI 60))] → W p l e R s m args below meth c H locs cells slots Q (F0 m 58 ls [])) → W p l e R s m args below meth c H locs cells slots Q (F0 m 6 ls []) := by
  intro n9
  induction n9 with
  | zero => intro i h1 h2; exact absurd h2 (by omega)
  | succ n9 ih =>
    intro i hi hin H locs ls hP hD hS hl kx
    refine lv_iload hx hb dd_M_times_6 (lv_at hl 4 rfl) ?_
    refine lv_bipush (v := nI 60) hx hb dd_M_times_8 (by decide) ?_
    refine jw_icmp_ge (a := i) (b := 60) (tgt := 58) hx hb dd_M_times_10 (by decide) (by omega) (by omega) (fun c1 => ?_) (fun c1 => ?_)
    · have e1 : i = 60 := by omega
      rw [e1] at hP hD hl
      exact kx H locs ls hP hD hS (lv_sub hl [0, 1, 2, 3, 4] rfl)
    · refine lv_aload_n hx hb dd_M_times_13 rfl (lv_at hl 0 rfl) ?_
      refine va_get (D := D) (ci := 7) (v := .ref w0) (C := "UseOddsModel") (T := TM_) (N := 18) hx hb hts IM_ hown hK hP 0 rfl rfl 15 (by decide) (hts _ tw582) (fun _ h9 => h9) rfl dd_M_times_14 ?_
      refine lv_iload_n hx hb dd_M_times_17 rfl (lv_at hl 1 rfl) ?_
      refine lv_iload hx hb dd_M_times_18 (lv_at hl 4 rfl) ?_
      refine jw_iadd hx hb dd_M_times_20 ?_
      refine jw_lald hx hb hK hP 1 1 rfl rfl (i := (60 * sl) + i) (by omega) (by decide) dd_M_times_21 ?_
      refine jw_cvl (y := lN (zG (V sl) i)) (by rw [rx_in V sl _ (by omega), ym_i]) ?_
      refine lv_lload_n hx hb dd_M_times_22 rfl (lv_at hl 2 rfl) ?_
      refine jw_lmul hx hb dd_M_times_23 ?_
      refine lv_lload hx hb dd_M_times_24 (lv_at hl 3 rfl) ?_
      refine jw_ladd hx hb dd_M_times_26 ?_
      refine lv_lstore (lv' := [(7, .long (lN (((zG (V sl) i) * f) + (yc_ (V sl) f i)))), (0, .ref m0), (1, .int (nI (60 * sl))), (2, .long (lN f)), (4, .long (lN (yc_ (V sl) f i))), (6, .int (nI i))]) hx hb dd_M_times_27 hl (by decide) rfl (fun ls hl => ?_)
      refine lv_aload_n hx hb dd_M_times_29 rfl (lv_at hl 1 rfl) ?_
      refine va_get (D := D) (ci := 7) (v := .ref w0) (C := "UseOddsModel") (T := TM_) (N := 18) hx hb hts IM_ hown hK hP 0 rfl rfl 15 (by decide) (hts _ tw582) (fun _ h9 => h9) rfl dd_M_times_30 ?_
      refine lv_iload_n hx hb dd_M_times_33 rfl (lv_at hl 2 rfl) ?_
      refine lv_iload hx hb dd_M_times_34 (lv_at hl 5 rfl) ?_
      refine jw_iadd hx hb dd_M_times_36 ?_
      refine lv_lload hx hb dd_M_times_37 (lv_at hl 0 rfl) ?_
      refine lv_ldc2 (v := 1000000) hx hb hown (hts _ tw656) dd_M_times_39 ?_
      refine jw_cvl (y := lN 1000000) (by decide) ?_
      refine jw_lrem hx hb dd_M_times_42 (yp_lt hf) (by decide) (by decide) ?_
      refine jw_last hx hb hK hP hD hS 1 1 rfl rfl (i := (60 * sl) + i) (by omega) (by decide) dd_M_times_43 (fun H locs hP hD hS => ?_)
      have hP : va_P D vwCl [(m0, .inr (7, [.int (nI th), .int (nI nk), .ref f1, .ref f2, .ref f3, .int (nI np), .ref g1, .ref g2, .ref g3, .int (nI sA), .int (nI sB), .int (nI ne), .ref h1, .ref h2, .ref h3, .ref w0, .int (nI pa), .ref w1])), (w0, .inl (cs 1, 420, .inr (.inl (vp_updL (fun j => lN (rx_ V sl (ym_ (V sl) f i) j)) ((60 * sl) + i) (lN ((((zG (V sl) i) * f) + (yc_ (V sl) f i)) % 1000000))))))] H := hP
      have hD : va_D A [(m0, .inr (7, [.int (nI th), .int (nI nk), .ref f1, .ref f2, .ref f3, .int (nI np), .ref g1, .ref g2, .ref g3, .int (nI sA), .int (nI sB), .int (nI ne), .ref h1, .ref h2, .ref h3, .ref w0, .int (nI pa), .ref w1])), (w0, .inl (cs 1, 420, .inr (.inl (vp_updL (fun j => lN (rx_ V sl (ym_ (V sl) f i) j)) ((60 * sl) + i) (lN ((((zG (V sl) i) * f) + (yc_ (V sl) f i)) % 1000000))))))] := hD
      have eF : (vp_updL (fun j => lN (rx_ V sl (ym_ (V sl) f i) j)) ((60 * sl) + i) (lN ((((zG (V sl) i) * f) + (yc_ (V sl) f i)) % 1000000))) = (fun j => lN (rx_ V sl (ym_ (V sl) f (i + 1)) j)) := (rx_up V sl (by omega) (fun z => ym_s _ _ _ _))
      rw [eF] at hP hD
      refine lv_lload hx hb dd_M_times_44 (lv_at hl 0 rfl) ?_
      refine lv_ldc2 (v := 1000000) hx hb hown (hts _ tw656) dd_M_times_46 ?_
      refine jw_cvl (y := lN 1000000) (by decide) ?_
      refine jw_ldiv hx hb dd_M_times_49 (yp_lt hf) (by decide) (by decide) ?_
      refine jw_cvl (y := lN (yc_ (V sl) f (i + 1))) (congrArg lN (yc_s _ _ _).symm) ?_
      refine lv_lstore (lv' := [(4, .long (lN (yc_ (V sl) f (i + 1)))), (7, .long (lN (((zG (V sl) i) * f) + (yc_ (V sl) f i)))), (0, .ref m0), (1, .int (nI (60 * sl))), (2, .long (lN f)), (6, .int (nI i))]) hx hb dd_M_times_50 hl (by decide) rfl (fun ls hl => ?_)
      refine lv_iinc (v := nI (i + 1)) (lv' := [(6, .int (nI (i + 1))), (4, .long (lN (yc_ (V sl) f (i + 1)))), (7, .long (lN (((zG (V sl) i) * f) + (yc_ (V sl) f i)))), (0, .ref m0), (1, .int (nI (60 * sl))), (2, .long (lN f))]) hx hb dd_M_times_52 hl (k := 5) rfl (nI_1 i) (by decide) rfl (fun ls hl => ?_)
      refine lv_goto (tgt := 6) hx hb dd_M_times_55 (by decide) ?_
      exact ih (i + 1) (by omega) (by omega) H locs ls hP hD hS (lv_sub hl [3, 4, 5, 1, 0] rfl) kx

set_option maxHeartbeats 4000000 in
set_option maxRecDepth 100000 in
theorem c_M_times (l : Launch) (D : va_G) (cs : Nat → ClassId) (m0 th nk f1 f2 f3 np g1 g2 g3 sA sB ne h1 h2 h3 w0 pa w1 : Nat) (sl nn f : Nat) (V : Nat → Nat) (sz : Nat) (hn : nn = 60 * sl) (hs : sl < 7) (hf : f ≤ 1000000) : Met l ym_M_times [.code ym_M_times cd_M_times 9 none] ({ frames := 0, cells := 0, slots := 0, locals := 0 } : Room) (jw_Pc D vwCl (jt cs) [(m0, .inr (7, [.int (nI th), .int (nI nk), .ref f1, .ref f2, .ref f3, .int (nI np), .ref g1, .ref g2, .ref g3, .int (nI sA), .int (nI sB), .int (nI ne), .ref h1, .ref h2, .ref h3, .ref w0, .int (nI pa), .ref w1])), (w0, .inl (cs 1, 420, .inr (.inl (fun j => lN (rl_ V j)))))] sz TX [.ref m0, .int (nI nn), .long (lN f)]) (va_Qv (fun (u : Unit) => True) (jw_B D vwCl (va_A [(m0, .inr (7, [.int (nI th), .int (nI nk), .ref f1, .ref f2, .ref f3, .int (nI np), .ref g1, .ref g2, .ref g3, .int (nI sA), .int (nI sB), .int (nI ne), .ref h1, .ref h2, .ref h3, .ref w0, .int (nI pa), .ref w1])), (w0, .inl (cs 1, 420, .inr (.inl (fun j => lN (rl_ V j)))))] sz) (fun (u : Unit) => [(m0, .inr (7, [.int (nI th), .int (nI nk), .ref f1, .ref f2, .ref f3, .int (nI np), .ref g1, .ref g2, .ref g3, .int (nI sA), .int (nI sB), .int (nI ne), .ref h1, .ref h2, .ref h3, .ref w0, .int (nI pa), .ref w1])), (w0, .inl (cs 1, 420, .inr (.inl (fun j => lN (rl_ (un_ V sl (V sl * f)) j)))))])) (va_A [(m0, .inr (7, [.int (nI th), .int (nI nk), .ref f1, .ref f2, .ref f3, .int (nI np), .ref g1, .ref g2, .ref g3, .int (nI sA), .int (nI sB), .int (nI ne), .ref h1, .ref h2, .ref h3, .ref w0, .int (nI pa), .ref w1])), (w0, .inl (cs 1, 420, .inr (.inl (fun j => lN (rl_ V j)))))] sz)) 0 0 (va_A [(m0, .inr (7, [.int (nI th), .int (nI nk), .ref f1, .ref f2, .ref f3, .int (nI np), .ref g1, .ref g2, .ref g3, .int (nI sA), .int (nI sB), .int (nI ne), .ref h1, .ref h2, .ref h3, .ref w0, .int (nI pa), .ref w1])), (w0, .inl (cs 1, 420, .inr (.inl (fun j => lN (rl_ V j)))))] sz) := by
  refine Met.ofW (cc := cd_M_times) (maxL := 9) (ret := none) (by decide) rfl ?_
  intro p e s m args below meth c s₁ BL hml hv
  obtain ⟨rfl, hsz, hP, hD0, hK, hT⟩ := hv
  have hx := BL.exec
  have hb := BL.bytes
  have hr := BL.returns
  have hts : ∀ w ∈ TW, w.before [.ref m0, .int (nI nn), .long (lN f)].toArray s = true := fun w h => hT.use h _
  have hown : s.vm.findClass "UseOddsModel" = some m.cls := findClass_of_methodNamed BL.named
  have hlocks := BL.notSynchronized
  subst hsz
  have hD := hD0.self (sz := s.heap.size)
  generalize hAe : va_A [(m0, .inr (7, [.int (nI th), .int (nI nk), .ref f1, .ref f2, .ref f3, .int (nI np), .ref g1, .ref g2, .ref g3, .int (nI sA), .int (nI sB), .int (nI ne), .ref h1, .ref h2, .ref h3, .ref w0, .int (nI pa), .ref w1])), (w0, .inl (cs 1, 420, .inr (.inl (fun j => lN (rl_ V j)))))] s.heap.size = A at hD ⊢
  have hA : ∀ q : Nat, s.heap.size ≤ q → A q := fun q h => by rw [← hAe]; exact Or.inr h
  have hS : va_S A s.heap s.heap [] := va_S.rf
  have hl := lv_entry ([.ref m0, .int (nI nn), .long (lN f)]) (n := 9) (Nat.le_of_ble_eq_true rfl)
  rw [lg_entry_eq]
  generalize (lg_sl ([.ref m0, .int (nI nn), .long (lN f)]) ++ List.replicate (9 - (lg_sl ([.ref m0, .int (nI nn), .long (lN f)])).length) Slot.unset).toArray = ls at hl ⊢
  have hl : lv_has ls 9 [(0, .ref m0), (1, .int (nI nn)), (2, .long (lN f))] := hl
  subst hn
  have eF : (fun j => lN (rl_ V j)) = (fun j => lN (rx_ V sl (ym_ (V sl) f 0) j)) := (rx_0 V sl (fun k _ => by simp [ym_]))
  rw [eF] at hP hD
  refine lv_lconst (v := lN 0) hx hb dd_M_times_0 (by decide) ?_
  refine jw_cvl (y := lN (yc_ (V sl) f 0)) (by rw [yc_0]) ?_
  refine lv_lstore (lv' := [(4, .long (lN (yc_ (V sl) f 0))), (0, .ref m0), (1, .int (nI (60 * sl))), (2, .long (lN f))]) hx hb dd_M_times_1 hl (by decide) rfl (fun ls hl => ?_)
  refine lv_iconst (v := nI 0) hx hb dd_M_times_3 (by decide) ?_
  refine lv_istore (lv' := [(6, .int (nI 0)), (4, .long (lN (yc_ (V sl) f 0))), (0, .ref m0), (1, .int (nI (60 * sl))), (2, .long (lN f))]) hx hb dd_M_times_4 hl (by decide) rfl (fun ls hl => ?_)
  refine lp_M_times (sl := sl) hx hb hown hts hK hs hf 61 0 (Nat.zero_le _) (by omega) _ _ ls hP hD hS (lv_sub hl [2, 3, 4, 1, 0] rfl) (fun H locs ls hP hD hS hl => ?_)
  have eF : (fun j => lN (rx_ V sl (ym_ (V sl) f 60) j)) = (fun j => lN (rl_ (un_ V sl (V sl * f)) j)) := (rx_end V sl (V sl * f) (fun k hk => by simp [ym_, hk]))
  rw [eF] at hP hD
  exact W.vret hx hb hr (fun t ht hW => ⟨⟨(), rfl, trivial, by rw [ht]; exact hP, hD⟩, hS.F ht⟩) hS.2.2 dd_M_times_58

set_option maxHeartbeats 4000000 in
set_option maxRecDepth 100000 in
theorem lp_M_divide {p : Program} {l : Launch} {e : Env} {R : Room} {s : State} {m : MethodId} {args : Array Value} {below : List Frame} {meth : Method} {c : Code} {cells slots : Nat} {Q : State → Prop} {A : Nat → Prop} {H0 : Heap} {D : va_G} {cs : Nat → ClassId} {m0 th nk f1 f2 f3 np g1 g2 g3 sA sB ne h1 h2 h3 w0 pa w1 : Nat} {sl d top : Nat} {V : Nat → Nat} (hx : p.tables.exec = Jvm.exec) (hb : c.code = cd_M_divide) (hown : s.vm.findClass "UseOddsModel" = some m.cls) (hts : ∀ w ∈ TW, w.before args s = true) (hK : va_K D vwCl (jt cs) s) (hs : sl < 7) (hd0 : 0 < d) (hd : d ≤ 1000000) (htop : top ≤ 60) :
    ∀ (k : Nat), k ≤ top → ∀ (H : Heap) (locs : List Loc) (ls : Array Slot), va_P D vwCl [(m0, .inr (7, [.int (nI th), .int (nI nk), .ref f1, .ref f2, .ref f3, .int (nI np), .ref g1, .ref g2, .ref g3, .int (nI sA), .int (nI sB), .int (nI ne), .ref h1, .ref h2, .ref h3, .ref w0, .int (nI pa), .ref w1])), (w0, .inl (cs 1, 420, .inr (.inl (fun j => lN (rx_ V sl (yd_ (V sl) d k) j)))))] H → va_D A [(m0, .inr (7, [.int (nI th), .int (nI nk), .ref f1, .ref f2, .ref f3, .int (nI np), .ref g1, .ref g2, .ref g3, .int (nI sA), .int (nI sB), .int (nI ne), .ref h1, .ref h2, .ref h3, .ref w0, .int (nI pa), .ref w1])), (w0, .inl (cs 1, 420, .inr (.inl (fun j => lN (rx_ V sl (yd_ (V sl) d k) j)))))] → va_S A H0 H locs → lv_has ls 9 [(0, .ref m0), (1, .int (nI (60 * sl))), (2, .long (lN d)), (4, .long (lN (yl_ (V sl) d k))), (6, .int (nI k - 1))] →
    (∀ (H : Heap) (locs : List Loc) (ls : Array Slot), va_P D vwCl [(m0, .inr (7, [.int (nI th), .int (nI nk), .ref f1, .ref f2, .ref f3, .int (nI np), .ref g1, .ref g2, .ref g3, .int (nI sA), .int (nI sB), .int (nI ne), .ref h1, .ref h2, .ref h3, .ref w0, .int (nI pa), .ref w1])), (w0, .inl (cs 1, 420, .inr (.inl (fun j => lN (rx_ V sl (yd_ (V sl) d 0) j)))))] H → va_D A [(m0, .inr (7, [.int (nI th), .int (nI nk), .ref f1, .ref f2, .ref f3, .int (nI np), .ref g1, .ref g2, .ref g3, .int (nI sA), .int (nI sB), .int (nI ne), .ref h1, .ref h2, .ref h3, .ref w0, .int (nI pa), .ref w1])), (w0, .inl (cs 1, 420, .inr (.inl (fun j => lN (rx_ V sl (yd_ (V sl) d 0) j)))))] → va_S A H0 H locs → lv_has ls 9 [(0, .ref m0), (1, .int (nI (60 * sl))), (2, .long (lN d)), (4, .long (lN (yl_ (V sl) d 0))), (6, .int (nI 0 - 1))] → W p l e R s m args below meth c H locs cells slots Q (F0 m 55 ls [])) → W p l e R s m args below meth c H locs cells slots Q (F0 m 7 ls []) := by
  intro k
  induction k with
  | zero =>
    intro hk H locs ls hP hD hS hl kx
    refine lv_iload hx hb dd_M_divide_7 (lv_at hl 4 rfl) ?_
    refine lv_if_lt (tgt := 55) hx hb dd_M_divide_9 (by decide) (fun c1 => ?_) (fun c1 => ?_)
    · exact kx H locs ls hP hD hS (lv_sub hl [0, 1, 2, 3, 4] rfl)
    · exact absurd (show nI 0 - 1 < 0 by decide) c1
  | succ k ih =>
    intro hk H locs ls hP hD hS hl kx
    rw [nI_pred] at hl
    refine lv_iload hx hb dd_M_divide_7 (lv_at hl 4 rfl) ?_
    refine jw_if_lt (a := k) (tgt := 55) hx hb dd_M_divide_9 (by decide) (by omega) ?_
    refine lv_lload hx hb dd_M_divide_12 (lv_at hl 3 rfl) ?_
    refine lv_ldc2 (v := 1000000) hx hb hown (hts _ tw656) dd_M_divide_14 ?_
    refine jw_cvl (y := lN 1000000) (by decide) ?_
    refine jw_lmul hx hb dd_M_divide_17 ?_
    refine lv_aload_n hx hb dd_M_divide_18 rfl (lv_at hl 0 rfl) ?_
    refine va_get (D := D) (ci := 7) (v := .ref w0) (C := "UseOddsModel") (T := TM_) (N := 18) hx hb hts IM_ hown hK hP 0 rfl rfl 15 (by decide) (hts _ tw582) (fun _ h9 => h9) rfl dd_M_divide_19 ?_
    refine lv_iload_n hx hb dd_M_divide_22 rfl (lv_at hl 1 rfl) ?_
    refine lv_iload hx hb dd_M_divide_23 (lv_at hl 4 rfl) ?_
    refine jw_iadd hx hb dd_M_divide_25 ?_
    refine jw_lald hx hb hK hP 1 1 rfl rfl (i := (60 * sl) + k) (by omega) (by decide) dd_M_divide_26 ?_
    refine jw_cvl (y := lN (zG (V sl) k)) (by rw [rx_in V sl _ (by omega), yd_i]) ?_
    refine jw_ladd hx hb dd_M_divide_27 ?_
    refine lv_lstore (lv' := [(7, .long (lN (((yl_ (V sl) d (k + 1)) * 1000000) + (zG (V sl) k)))), (0, .ref m0), (1, .int (nI (60 * sl))), (2, .long (lN d)), (4, .long (lN (yl_ (V sl) d (k + 1)))), (6, .int (nI k))]) hx hb dd_M_divide_28 hl (by decide) rfl (fun ls hl => ?_)
    refine lv_aload_n hx hb dd_M_divide_30 rfl (lv_at hl 1 rfl) ?_
    refine va_get (D := D) (ci := 7) (v := .ref w0) (C := "UseOddsModel") (T := TM_) (N := 18) hx hb hts IM_ hown hK hP 0 rfl rfl 15 (by decide) (hts _ tw582) (fun _ h9 => h9) rfl dd_M_divide_31 ?_
    refine lv_iload_n hx hb dd_M_divide_34 rfl (lv_at hl 2 rfl) ?_
    refine lv_iload hx hb dd_M_divide_35 (lv_at hl 5 rfl) ?_
    refine jw_iadd hx hb dd_M_divide_37 ?_
    refine lv_lload hx hb dd_M_divide_38 (lv_at hl 0 rfl) ?_
    refine lv_lload_n hx hb dd_M_divide_40 rfl (lv_at hl 3 rfl) ?_
    refine jw_ldiv hx hb dd_M_divide_41 (yq_lt hd0 hd) hd0 (by omega) ?_
    refine jw_last hx hb hK hP hD hS 1 1 rfl rfl (i := (60 * sl) + k) (by omega) (by decide) dd_M_divide_42 (fun H locs hP hD hS => ?_)
    have hP : va_P D vwCl [(m0, .inr (7, [.int (nI th), .int (nI nk), .ref f1, .ref f2, .ref f3, .int (nI np), .ref g1, .ref g2, .ref g3, .int (nI sA), .int (nI sB), .int (nI ne), .ref h1, .ref h2, .ref h3, .ref w0, .int (nI pa), .ref w1])), (w0, .inl (cs 1, 420, .inr (.inl (vp_updL (fun j => lN (rx_ V sl (yd_ (V sl) d (k + 1)) j)) ((60 * sl) + k) (lN ((((yl_ (V sl) d (k + 1)) * 1000000) + (zG (V sl) k)) / d))))))] H := hP
    have hD : va_D A [(m0, .inr (7, [.int (nI th), .int (nI nk), .ref f1, .ref f2, .ref f3, .int (nI np), .ref g1, .ref g2, .ref g3, .int (nI sA), .int (nI sB), .int (nI ne), .ref h1, .ref h2, .ref h3, .ref w0, .int (nI pa), .ref w1])), (w0, .inl (cs 1, 420, .inr (.inl (vp_updL (fun j => lN (rx_ V sl (yd_ (V sl) d (k + 1)) j)) ((60 * sl) + k) (lN ((((yl_ (V sl) d (k + 1)) * 1000000) + (zG (V sl) k)) / d))))))] := hD
    have eF : (vp_updL (fun j => lN (rx_ V sl (yd_ (V sl) d (k + 1)) j)) ((60 * sl) + k) (lN ((((yl_ (V sl) d (k + 1)) * 1000000) + (zG (V sl) k)) / d))) = (fun j => lN (rx_ V sl (yd_ (V sl) d k) j)) := (rx_up V sl (by omega) (fun z => yd_s hd0 _ _ _))
    rw [eF] at hP hD
    refine lv_lload hx hb dd_M_divide_43 (lv_at hl 0 rfl) ?_
    refine lv_lload_n hx hb dd_M_divide_45 rfl (lv_at hl 3 rfl) ?_
    refine jw_lrem hx hb dd_M_divide_46 (yq_lt hd0 hd) hd0 (by omega) ?_
    refine jw_cvl (y := lN (yl_ (V sl) d k)) (congrArg lN (yl_s _ _ _).symm) ?_
    refine lv_lstore (lv' := [(4, .long (lN (yl_ (V sl) d k))), (7, .long (lN (((yl_ (V sl) d (k + 1)) * 1000000) + (zG (V sl) k)))), (0, .ref m0), (1, .int (nI (60 * sl))), (2, .long (lN d)), (6, .int (nI k))]) hx hb dd_M_divide_47 hl (by decide) rfl (fun ls hl => ?_)
    refine lv_iinc (v := nI k - 1) (lv' := [(6, .int (nI k - 1)), (4, .long (lN (yl_ (V sl) d k))), (7, .long (lN (((yl_ (V sl) d (k + 1)) * 1000000) + (zG (V sl) k)))), (0, .ref m0), (1, .int (nI (60 * sl))), (2, .long (lN d))]) hx hb dd_M_divide_49 hl (k := 5) rfl (nI_dec k) (by decide) rfl (fun ls hl => ?_)
    refine lv_goto (tgt := 7) hx hb dd_M_divide_52 (by decide) ?_
    exact ih (by omega) H locs ls hP hD hS (lv_sub hl [3, 4, 5, 1, 0] rfl) kx

set_option maxHeartbeats 4000000 in
set_option maxRecDepth 100000 in
theorem c_M_divide (l : Launch) (D : va_G) (cs : Nat → ClassId) (m0 th nk f1 f2 f3 np g1 g2 g3 sA sB ne h1 h2 h3 w0 pa w1 : Nat) (sl nn d : Nat) (V : Nat → Nat) (sz : Nat) (hn : nn = 60 * sl) (hs : sl < 7) (hd0 : 0 < d) (hd : d ≤ 1000000) (hV : V sl < zB ^ 60) : Met l ym_M_divide [.code ym_M_divide cd_M_divide 9 (some .long)] ({ frames := 0, cells := 0, slots := 0, locals := 0 } : Room) (jw_Pc D vwCl (jt cs) [(m0, .inr (7, [.int (nI th), .int (nI nk), .ref f1, .ref f2, .ref f3, .int (nI np), .ref g1, .ref g2, .ref g3, .int (nI sA), .int (nI sB), .int (nI ne), .ref h1, .ref h2, .ref h3, .ref w0, .int (nI pa), .ref w1])), (w0, .inl (cs 1, 420, .inr (.inl (fun j => lN (rl_ V j)))))] sz TX [.ref m0, .int (nI nn), .long (lN d)]) (va_Ql (fun (r : Int64) (u : Unit) => r = lN (V sl % d)) (jw_B D vwCl (va_A [(m0, .inr (7, [.int (nI th), .int (nI nk), .ref f1, .ref f2, .ref f3, .int (nI np), .ref g1, .ref g2, .ref g3, .int (nI sA), .int (nI sB), .int (nI ne), .ref h1, .ref h2, .ref h3, .ref w0, .int (nI pa), .ref w1])), (w0, .inl (cs 1, 420, .inr (.inl (fun j => lN (rl_ V j)))))] sz) (fun (u : Unit) => [(m0, .inr (7, [.int (nI th), .int (nI nk), .ref f1, .ref f2, .ref f3, .int (nI np), .ref g1, .ref g2, .ref g3, .int (nI sA), .int (nI sB), .int (nI ne), .ref h1, .ref h2, .ref h3, .ref w0, .int (nI pa), .ref w1])), (w0, .inl (cs 1, 420, .inr (.inl (fun j => lN (rl_ (un_ V sl (V sl / d)) j)))))])) (va_A [(m0, .inr (7, [.int (nI th), .int (nI nk), .ref f1, .ref f2, .ref f3, .int (nI np), .ref g1, .ref g2, .ref g3, .int (nI sA), .int (nI sB), .int (nI ne), .ref h1, .ref h2, .ref h3, .ref w0, .int (nI pa), .ref w1])), (w0, .inl (cs 1, 420, .inr (.inl (fun j => lN (rl_ V j)))))] sz)) 0 0 (va_A [(m0, .inr (7, [.int (nI th), .int (nI nk), .ref f1, .ref f2, .ref f3, .int (nI np), .ref g1, .ref g2, .ref g3, .int (nI sA), .int (nI sB), .int (nI ne), .ref h1, .ref h2, .ref h3, .ref w0, .int (nI pa), .ref w1])), (w0, .inl (cs 1, 420, .inr (.inl (fun j => lN (rl_ V j)))))] sz) := by
  refine Met.ofW (cc := cd_M_divide) (maxL := 9) (ret := (some .long)) (by decide) rfl ?_
  intro p e s m args below meth c s₁ BL hml hv
  obtain ⟨rfl, hsz, hP, hD0, hK, hT⟩ := hv
  have hx := BL.exec
  have hb := BL.bytes
  have hr := BL.returns
  have hts : ∀ w ∈ TW, w.before [.ref m0, .int (nI nn), .long (lN d)].toArray s = true := fun w h => hT.use h _
  have hown : s.vm.findClass "UseOddsModel" = some m.cls := findClass_of_methodNamed BL.named
  have hlocks := BL.notSynchronized
  subst hsz
  have hD := hD0.self (sz := s.heap.size)
  generalize hAe : va_A [(m0, .inr (7, [.int (nI th), .int (nI nk), .ref f1, .ref f2, .ref f3, .int (nI np), .ref g1, .ref g2, .ref g3, .int (nI sA), .int (nI sB), .int (nI ne), .ref h1, .ref h2, .ref h3, .ref w0, .int (nI pa), .ref w1])), (w0, .inl (cs 1, 420, .inr (.inl (fun j => lN (rl_ V j)))))] s.heap.size = A at hD ⊢
  have hA : ∀ q : Nat, s.heap.size ≤ q → A q := fun q h => by rw [← hAe]; exact Or.inr h
  have hS : va_S A s.heap s.heap [] := va_S.rf
  have hl := lv_entry ([.ref m0, .int (nI nn), .long (lN d)]) (n := 9) (Nat.le_of_ble_eq_true rfl)
  rw [lg_entry_eq]
  generalize (lg_sl ([.ref m0, .int (nI nn), .long (lN d)]) ++ List.replicate (9 - (lg_sl ([.ref m0, .int (nI nn), .long (lN d)])).length) Slot.unset).toArray = ls at hl ⊢
  have hl : lv_has ls 9 [(0, .ref m0), (1, .int (nI nn)), (2, .long (lN d))] := hl
  subst hn
  have eF : (fun j => lN (rl_ V j)) = (fun j => lN (rx_ V sl (yd_ (V sl) d 60) j)) := (rx_0 V sl (fun k hk => by unfold yd_; rw [if_neg (by omega)]))
  rw [eF] at hP hD
  refine lv_lconst (v := lN 0) hx hb dd_M_divide_0 (by decide) ?_
  refine jw_cvl (y := lN (yl_ (V sl) d 60)) (by rw [yl_top hV]) ?_
  refine lv_lstore (lv' := [(4, .long (lN (yl_ (V sl) d 60))), (0, .ref m0), (1, .int (nI (60 * sl))), (2, .long (lN d))]) hx hb dd_M_divide_1 hl (by decide) rfl (fun ls hl => ?_)
  refine lv_bipush (v := nI 59) hx hb dd_M_divide_3 (by decide) ?_
  refine jw_cvi (y := nI 60 - 1) (by decide) ?_
  refine lv_istore (lv' := [(6, .int (nI 60 - 1)), (4, .long (lN (yl_ (V sl) d 60))), (0, .ref m0), (1, .int (nI (60 * sl))), (2, .long (lN d))]) hx hb dd_M_divide_5 hl (by decide) rfl (fun ls hl => ?_)
  refine lp_M_divide (sl := sl) (top := 60) hx hb hown hts hK hs hd0 hd (Nat.le_refl _) 60 (Nat.le_refl _) _ _ ls hP hD hS (lv_sub hl [2, 3, 4, 1, 0] rfl) (fun H locs ls hP hD hS hl => ?_)
  have eF : (fun j => lN (rx_ V sl (yd_ (V sl) d 0) j)) = (fun j => lN (rl_ (un_ V sl (V sl / d)) j)) := (rx_end V sl (V sl / d) (fun k hk => by simp [yd_]))
  rw [eF] at hP hD
  refine lv_lload hx hb dd_M_divide_55 (lv_at hl 3 rfl) ?_
  exact W.lret (v := (lN (yl_ (V sl) d 0))) hx hb hr (fun t ht hW => ⟨⟨_, (), rfl, by rw [yl_0], by rw [ht]; exact hP, hD⟩, hS.F ht⟩) hS.2.2 dd_M_divide_57

set_option maxHeartbeats 4000000 in
set_option maxRecDepth 100000 in
theorem lp_M_leaves {p : Program} {l : Launch} {e : Env} {R : Room} {s : State} {m : MethodId} {args : Array Value} {below : List Frame} {meth : Method} {c : Code} {cells slots : Nat} {Q : State → Prop} {A : Nat → Prop} {H0 : Heap} {D : va_G} {cs : Nat → ClassId} {m0 th nk f1 f2 f3 np g1 g2 g3 sA sB ne h1 h2 h3 w0 pa w1 : Nat} {sl d top : Nat} {V : Nat → Nat} (hx : p.tables.exec = Jvm.exec) (hb : c.code = cd_M_leaves) (hown : s.vm.findClass "UseOddsModel" = some m.cls) (hts : ∀ w ∈ TW, w.before args s = true) (hK : va_K D vwCl (jt cs) s) (hs : sl < 7) (hd0 : 0 < d) (hd : d ≤ 1000000) (htop : top ≤ 60) :
    ∀ (k : Nat), k ≤ top → ∀ (H : Heap) (locs : List Loc) (ls : Array Slot), va_P D vwCl [(m0, .inr (7, [.int (nI th), .int (nI nk), .ref f1, .ref f2, .ref f3, .int (nI np), .ref g1, .ref g2, .ref g3, .int (nI sA), .int (nI sB), .int (nI ne), .ref h1, .ref h2, .ref h3, .ref w0, .int (nI pa), .ref w1])), (w0, .inl (cs 1, 420, .inr (.inl (fun j => lN (rl_ V j)))))] H → va_D A [(m0, .inr (7, [.int (nI th), .int (nI nk), .ref f1, .ref f2, .ref f3, .int (nI np), .ref g1, .ref g2, .ref g3, .int (nI sA), .int (nI sB), .int (nI ne), .ref h1, .ref h2, .ref h3, .ref w0, .int (nI pa), .ref w1])), (w0, .inl (cs 1, 420, .inr (.inl (fun j => lN (rl_ V j)))))] → va_S A H0 H locs → lv_has ls 7 [(0, .ref m0), (1, .int (nI (60 * sl))), (2, .long (lN d)), (4, .long (lN (yl_ (V sl) d k))), (6, .int (nI k - 1))] →
    (∀ (H : Heap) (locs : List Loc) (ls : Array Slot), va_P D vwCl [(m0, .inr (7, [.int (nI th), .int (nI nk), .ref f1, .ref f2, .ref f3, .int (nI np), .ref g1, .ref g2, .ref g3, .int (nI sA), .int (nI sB), .int (nI ne), .ref h1, .ref h2, .ref h3, .ref w0, .int (nI pa), .ref w1])), (w0, .inl (cs 1, 420, .inr (.inl (fun j => lN (rl_ V j)))))] H → va_D A [(m0, .inr (7, [.int (nI th), .int (nI nk), .ref f1, .ref f2, .ref f3, .int (nI np), .ref g1, .ref g2, .ref g3, .int (nI sA), .int (nI sB), .int (nI ne), .ref h1, .ref h2, .ref h3, .ref w0, .int (nI pa), .ref w1])), (w0, .inl (cs 1, 420, .inr (.inl (fun j => lN (rl_ V j)))))] → va_S A H0 H locs → lv_has ls 7 [(0, .ref m0), (1, .int (nI (60 * sl))), (2, .long (lN d)), (4, .long (lN (yl_ (V sl) d 0))), (6, .int (nI 0 - 1))] → W p l e R s m args below meth c H locs cells slots Q (F0 m 38 ls [])) → W p l e R s m args below meth c H locs cells slots Q (F0 m 7 ls []) := by
  intro k
  induction k with
  | zero =>
    intro hk H locs ls hP hD hS hl kx
    refine lv_iload hx hb dd_M_leaves_7 (lv_at hl 4 rfl) ?_
    refine lv_if_lt (tgt := 38) hx hb dd_M_leaves_9 (by decide) (fun c1 => ?_) (fun c1 => ?_)
    · exact kx H locs ls hP hD hS (lv_sub hl [0, 1, 2, 3, 4] rfl)
    · exact absurd (show nI 0 - 1 < 0 by decide) c1
  | succ k ih =>
    intro hk H locs ls hP hD hS hl kx
    rw [nI_pred] at hl
    refine lv_iload hx hb dd_M_leaves_7 (lv_at hl 4 rfl) ?_
    refine jw_if_lt (a := k) (tgt := 38) hx hb dd_M_leaves_9 (by decide) (by omega) ?_
    refine lv_lload hx hb dd_M_leaves_12 (lv_at hl 3 rfl) ?_
    refine lv_ldc2 (v := 1000000) hx hb hown (hts _ tw656) dd_M_leaves_14 ?_
    refine jw_cvl (y := lN 1000000) (by decide) ?_
    refine jw_lmul hx hb dd_M_leaves_17 ?_
    refine lv_aload_n hx hb dd_M_leaves_18 rfl (lv_at hl 0 rfl) ?_
    refine va_get (D := D) (ci := 7) (v := .ref w0) (C := "UseOddsModel") (T := TM_) (N := 18) hx hb hts IM_ hown hK hP 0 rfl rfl 15 (by decide) (hts _ tw582) (fun _ h9 => h9) rfl dd_M_leaves_19 ?_
    refine lv_iload_n hx hb dd_M_leaves_22 rfl (lv_at hl 1 rfl) ?_
    refine lv_iload hx hb dd_M_leaves_23 (lv_at hl 4 rfl) ?_
    refine jw_iadd hx hb dd_M_leaves_25 ?_
    refine jw_lald hx hb hK hP 1 1 rfl rfl (i := (60 * sl) + k) (by omega) (by decide) dd_M_leaves_26 ?_
    refine jw_cvl (y := lN (zG (V sl) k)) (by rw [rl_at V sl (by omega)]) ?_
    refine jw_ladd hx hb dd_M_leaves_27 ?_
    refine lv_lload_n hx hb dd_M_leaves_28 rfl (lv_at hl 2 rfl) ?_
    refine jw_lrem hx hb dd_M_leaves_29 (yq_lt hd0 hd) hd0 (by omega) ?_
    refine jw_cvl (y := lN (yl_ (V sl) d k)) (congrArg lN (yl_s _ _ _).symm) ?_
    refine lv_lstore (lv' := [(4, .long (lN (yl_ (V sl) d k))), (0, .ref m0), (1, .int (nI (60 * sl))), (2, .long (lN d)), (6, .int (nI k))]) hx hb dd_M_leaves_30 hl (by decide) rfl (fun ls hl => ?_)
    refine lv_iinc (v := nI k - 1) (lv' := [(6, .int (nI k - 1)), (4, .long (lN (yl_ (V sl) d k))), (0, .ref m0), (1, .int (nI (60 * sl))), (2, .long (lN d))]) hx hb dd_M_leaves_32 hl (k := 4) rfl (nI_dec k) (by decide) rfl (fun ls hl => ?_)
    refine lv_goto (tgt := 7) hx hb dd_M_leaves_35 (by decide) ?_
    exact ih (by omega) H locs ls hP hD hS (lv_sub hl [2, 3, 4, 1, 0] rfl) kx

set_option maxHeartbeats 4000000 in
set_option maxRecDepth 100000 in
theorem c_M_leaves (l : Launch) (D : va_G) (cs : Nat → ClassId) (m0 th nk f1 f2 f3 np g1 g2 g3 sA sB ne h1 h2 h3 w0 pa w1 : Nat) (sl nn d : Nat) (V : Nat → Nat) (sz : Nat) (hn : nn = 60 * sl) (hs : sl < 7) (hd0 : 0 < d) (hd : d ≤ 1000000) (hV : V sl < zB ^ 60) : Met l ym_M_leaves [.code ym_M_leaves cd_M_leaves 7 (some .long)] ({ frames := 0, cells := 0, slots := 0, locals := 0 } : Room) (jw_Pc D vwCl (jt cs) [(m0, .inr (7, [.int (nI th), .int (nI nk), .ref f1, .ref f2, .ref f3, .int (nI np), .ref g1, .ref g2, .ref g3, .int (nI sA), .int (nI sB), .int (nI ne), .ref h1, .ref h2, .ref h3, .ref w0, .int (nI pa), .ref w1])), (w0, .inl (cs 1, 420, .inr (.inl (fun j => lN (rl_ V j)))))] sz TX [.ref m0, .int (nI nn), .long (lN d)]) (va_Ql (fun (r : Int64) (u : Unit) => r = lN (V sl % d)) (jw_B D vwCl (va_A [(m0, .inr (7, [.int (nI th), .int (nI nk), .ref f1, .ref f2, .ref f3, .int (nI np), .ref g1, .ref g2, .ref g3, .int (nI sA), .int (nI sB), .int (nI ne), .ref h1, .ref h2, .ref h3, .ref w0, .int (nI pa), .ref w1])), (w0, .inl (cs 1, 420, .inr (.inl (fun j => lN (rl_ V j)))))] sz) (fun (u : Unit) => [(m0, .inr (7, [.int (nI th), .int (nI nk), .ref f1, .ref f2, .ref f3, .int (nI np), .ref g1, .ref g2, .ref g3, .int (nI sA), .int (nI sB), .int (nI ne), .ref h1, .ref h2, .ref h3, .ref w0, .int (nI pa), .ref w1])), (w0, .inl (cs 1, 420, .inr (.inl (fun j => lN (rl_ V j)))))])) (va_A [(m0, .inr (7, [.int (nI th), .int (nI nk), .ref f1, .ref f2, .ref f3, .int (nI np), .ref g1, .ref g2, .ref g3, .int (nI sA), .int (nI sB), .int (nI ne), .ref h1, .ref h2, .ref h3, .ref w0, .int (nI pa), .ref w1])), (w0, .inl (cs 1, 420, .inr (.inl (fun j => lN (rl_ V j)))))] sz)) 0 0 (va_A [(m0, .inr (7, [.int (nI th), .int (nI nk), .ref f1, .ref f2, .ref f3, .int (nI np), .ref g1, .ref g2, .ref g3, .int (nI sA), .int (nI sB), .int (nI ne), .ref h1, .ref h2, .ref h3, .ref w0, .int (nI pa), .ref w1])), (w0, .inl (cs 1, 420, .inr (.inl (fun j => lN (rl_ V j)))))] sz) := by
  refine Met.ofW (cc := cd_M_leaves) (maxL := 7) (ret := (some .long)) (by decide) rfl ?_
  intro p e s m args below meth c s₁ BL hml hv
  obtain ⟨rfl, hsz, hP, hD0, hK, hT⟩ := hv
  have hx := BL.exec
  have hb := BL.bytes
  have hr := BL.returns
  have hts : ∀ w ∈ TW, w.before [.ref m0, .int (nI nn), .long (lN d)].toArray s = true := fun w h => hT.use h _
  have hown : s.vm.findClass "UseOddsModel" = some m.cls := findClass_of_methodNamed BL.named
  have hlocks := BL.notSynchronized
  subst hsz
  have hD := hD0.self (sz := s.heap.size)
  generalize hAe : va_A [(m0, .inr (7, [.int (nI th), .int (nI nk), .ref f1, .ref f2, .ref f3, .int (nI np), .ref g1, .ref g2, .ref g3, .int (nI sA), .int (nI sB), .int (nI ne), .ref h1, .ref h2, .ref h3, .ref w0, .int (nI pa), .ref w1])), (w0, .inl (cs 1, 420, .inr (.inl (fun j => lN (rl_ V j)))))] s.heap.size = A at hD ⊢
  have hA : ∀ q : Nat, s.heap.size ≤ q → A q := fun q h => by rw [← hAe]; exact Or.inr h
  have hS : va_S A s.heap s.heap [] := va_S.rf
  have hl := lv_entry ([.ref m0, .int (nI nn), .long (lN d)]) (n := 7) (Nat.le_of_ble_eq_true rfl)
  rw [lg_entry_eq]
  generalize (lg_sl ([.ref m0, .int (nI nn), .long (lN d)]) ++ List.replicate (7 - (lg_sl ([.ref m0, .int (nI nn), .long (lN d)])).length) Slot.unset).toArray = ls at hl ⊢
  have hl : lv_has ls 7 [(0, .ref m0), (1, .int (nI nn)), (2, .long (lN d))] := hl
  subst hn
  refine lv_lconst (v := lN 0) hx hb dd_M_leaves_0 (by decide) ?_
  refine jw_cvl (y := lN (yl_ (V sl) d 60)) (by rw [yl_top hV]) ?_
  refine lv_lstore (lv' := [(4, .long (lN (yl_ (V sl) d 60))), (0, .ref m0), (1, .int (nI (60 * sl))), (2, .long (lN d))]) hx hb dd_M_leaves_1 hl (by decide) rfl (fun ls hl => ?_)
  refine lv_bipush (v := nI 59) hx hb dd_M_leaves_3 (by decide) ?_
  refine jw_cvi (y := nI 60 - 1) (by decide) ?_
  refine lv_istore (lv' := [(6, .int (nI 60 - 1)), (4, .long (lN (yl_ (V sl) d 60))), (0, .ref m0), (1, .int (nI (60 * sl))), (2, .long (lN d))]) hx hb dd_M_leaves_5 hl (by decide) rfl (fun ls hl => ?_)
  refine lp_M_leaves (sl := sl) (top := 60) hx hb hown hts hK hs hd0 hd (Nat.le_refl _) 60 (Nat.le_refl _) _ _ ls hP hD hS (lv_sub hl [2, 3, 4, 1, 0] rfl) (fun H locs ls hP hD hS hl => ?_)
  refine lv_lload hx hb dd_M_leaves_38 (lv_at hl 3 rfl) ?_
  exact W.lret (v := (lN (yl_ (V sl) d 0))) hx hb hr (fun t ht hW => ⟨⟨_, (), rfl, by rw [yl_0], by rw [ht]; exact hP, hD⟩, hS.F ht⟩) hS.2.2 dd_M_leaves_40

set_option maxHeartbeats 4000000 in
set_option maxRecDepth 100000 in
theorem lp_M_add {p : Program} {l : Launch} {e : Env} {R : Room} {s : State} {m : MethodId} {args : Array Value} {below : List Frame} {meth : Method} {c : Code} {cells slots : Nat} {Q : State → Prop} {A : Nat → Prop} {H0 : Heap} {D : va_G} {cs : Nat → ClassId} {m0 th nk f1 f2 f3 np g1 g2 g3 sA sB ne h1 h2 h3 w0 pa w1 : Nat} {sl tl : Nat} {V : Nat → Nat} (hx : p.tables.exec = Jvm.exec) (hb : c.code = cd_M_add) (hown : s.vm.findClass "UseOddsModel" = some m.cls) (hts : ∀ w ∈ TW, w.before args s = true) (hK : va_K D vwCl (jt cs) s) (hs : sl < 7) (ht : tl < 7) (hts2 : tl ≠ sl) :
    ∀ (n9 i : Nat), i ≤ 60 → 60 + 1 ≤ i + n9 → ∀ (H : Heap) (locs : List Loc) (ls : Array Slot), va_P D vwCl [(m0, .inr (7, [.int (nI th), .int (nI nk), .ref f1, .ref f2, .ref f3, .int (nI np), .ref g1, .ref g2, .ref g3, .int (nI sA), .int (nI sB), .int (nI ne), .ref h1, .ref h2, .ref h3, .ref w0, .int (nI pa), .ref w1])), (w0, .inl (cs 1, 420, .inr (.inl (fun j => lN (rx_ V sl (ya_ (V sl) (V tl) i) j)))))] H → va_D A [(m0, .inr (7, [.int (nI th), .int (nI nk), .ref f1, .ref f2, .ref f3, .int (nI np), .ref g1, .ref g2, .ref g3, .int (nI sA), .int (nI sB), .int (nI ne), .ref h1, .ref h2, .ref h3, .ref w0, .int (nI pa), .ref w1])), (w0, .inl (cs 1, 420, .inr (.inl (fun j => lN (rx_ V sl (ya_ (V sl) (V tl) i) j)))))] → va_S A H0 H locs → lv_has ls 8 [(0, .ref m0), (1, .int (nI (60 * tl))), (2, .int (nI (60 * sl))), (3, .long (lN (yb_ (V sl) (V tl) i))), (5, .int (nI i))] →
    (∀ (H : Heap) (locs : List Loc) (ls : Array Slot), va_P D vwCl [(m0, .inr (7, [.int (nI th), .int (nI nk), .ref f1, .ref f2, .ref f3, .int (nI np), .ref g1, .ref g2, .ref g3, .int (nI sA), .int (nI sB), .int (nI ne), .ref h1, .ref h2, .ref h3, .ref w0, .int (nI pa), .ref w1])), (w0, .inl (cs 1, 420, .inr (.inl (fun j => lN (rx_ V sl (ya_ (V sl) (V tl) 60) j)))))] H → va_D A [(m0, .inr (7, [.int (nI th), .int (nI nk), .ref f1, .ref f2, .ref f3, .int (nI np), .ref g1, .ref g2, .ref g3, .int (nI sA), .int (nI sB), .int (nI ne), .ref h1, .ref h2, .ref h3, .ref w0, .int (nI pa), .ref w1])), (w0, .inl (cs 1, 420, .inr (.inl (fun j => lN (rx_ V sl (ya_ (V sl) (V tl) 60) j)))))] → va_S A H0 H locs → lv_has ls 8 [(0, .ref m0), (1, .int (nI (60 * tl))), (2, .int (nI (60 * sl))), (3, .long (lN (yb_ (V sl) (V tl) 60))), (5, .int (nI 60))] → W p l e R s m args below meth c H locs cells slots Q (F0 m 63 ls [])) → W p l e R s m args below meth c H locs cells slots Q (F0 m 5 ls []) := by
  intro n9
  induction n9 with
  | zero => intro i h1 h2; exact absurd h2 (by omega)
  | succ n9 ih =>
    intro i hi hin H locs ls hP hD hS hl kx
    refine lv_iload hx hb dd_M_add_5 (lv_at hl 4 rfl) ?_
    refine lv_bipush (v := nI 60) hx hb dd_M_add_7 (by decide) ?_
    refine jw_icmp_ge (a := i) (b := 60) (tgt := 63) hx hb dd_M_add_9 (by decide) (by omega) (by omega) (fun c1 => ?_) (fun c1 => ?_)
    · have e1 : i = 60 := by omega
      rw [e1] at hP hD hl
      exact kx H locs ls hP hD hS (lv_sub hl [0, 1, 2, 3, 4] rfl)
    · refine lv_aload_n hx hb dd_M_add_12 rfl (lv_at hl 0 rfl) ?_
      refine va_get (D := D) (ci := 7) (v := .ref w0) (C := "UseOddsModel") (T := TM_) (N := 18) hx hb hts IM_ hown hK hP 0 rfl rfl 15 (by decide) (hts _ tw582) (fun _ h9 => h9) rfl dd_M_add_13 ?_
      refine lv_iload_n hx hb dd_M_add_16 rfl (lv_at hl 2 rfl) ?_
      refine lv_iload hx hb dd_M_add_17 (lv_at hl 4 rfl) ?_
      refine jw_iadd hx hb dd_M_add_19 ?_
      refine jw_lald hx hb hK hP 1 1 rfl rfl (i := (60 * sl) + i) (by omega) (by decide) dd_M_add_20 ?_
      refine jw_cvl (y := lN (zG (V sl) i)) (by rw [rx_in V sl _ (by omega), ya_i]) ?_
      refine lv_aload_n hx hb dd_M_add_21 rfl (lv_at hl 0 rfl) ?_
      refine va_get (D := D) (ci := 7) (v := .ref w0) (C := "UseOddsModel") (T := TM_) (N := 18) hx hb hts IM_ hown hK hP 0 rfl rfl 15 (by decide) (hts _ tw582) (fun _ h9 => h9) rfl dd_M_add_22 ?_
      refine lv_iload_n hx hb dd_M_add_25 rfl (lv_at hl 1 rfl) ?_
      refine lv_iload hx hb dd_M_add_26 (lv_at hl 4 rfl) ?_
      refine jw_iadd hx hb dd_M_add_28 ?_
      refine jw_lald hx hb hK hP 1 1 rfl rfl (i := (60 * tl) + i) (by omega) (by decide) dd_M_add_29 ?_
      refine jw_cvl (y := lN (zG (V tl) i)) (by rw [rx_out V _ (by omega) hts2]) ?_
      refine jw_ladd hx hb dd_M_add_30 ?_
      refine lv_lload_n hx hb dd_M_add_31 rfl (lv_at hl 3 rfl) ?_
      refine jw_ladd hx hb dd_M_add_32 ?_
      refine lv_lstore (lv' := [(6, .long (lN (((zG (V sl) i) + (zG (V tl) i)) + (yb_ (V sl) (V tl) i)))), (0, .ref m0), (1, .int (nI (60 * tl))), (2, .int (nI (60 * sl))), (3, .long (lN (yb_ (V sl) (V tl) i))), (5, .int (nI i))]) hx hb dd_M_add_33 hl (by decide) rfl (fun ls hl => ?_)
      refine lv_aload_n hx hb dd_M_add_35 rfl (lv_at hl 1 rfl) ?_
      refine va_get (D := D) (ci := 7) (v := .ref w0) (C := "UseOddsModel") (T := TM_) (N := 18) hx hb hts IM_ hown hK hP 0 rfl rfl 15 (by decide) (hts _ tw582) (fun _ h9 => h9) rfl dd_M_add_36 ?_
      refine lv_iload_n hx hb dd_M_add_39 rfl (lv_at hl 3 rfl) ?_
      refine lv_iload hx hb dd_M_add_40 (lv_at hl 5 rfl) ?_
      refine jw_iadd hx hb dd_M_add_42 ?_
      refine lv_lload hx hb dd_M_add_43 (lv_at hl 0 rfl) ?_
      refine lv_ldc2 (v := 1000000) hx hb hown (hts _ tw656) dd_M_add_45 ?_
      refine jw_cvl (y := lN 1000000) (by decide) ?_
      refine jw_lrem hx hb dd_M_add_48 (yb_lt _ _ _) (by decide) (by decide) ?_
      refine jw_last hx hb hK hP hD hS 1 1 rfl rfl (i := (60 * sl) + i) (by omega) (by decide) dd_M_add_49 (fun H locs hP hD hS => ?_)
      have hP : va_P D vwCl [(m0, .inr (7, [.int (nI th), .int (nI nk), .ref f1, .ref f2, .ref f3, .int (nI np), .ref g1, .ref g2, .ref g3, .int (nI sA), .int (nI sB), .int (nI ne), .ref h1, .ref h2, .ref h3, .ref w0, .int (nI pa), .ref w1])), (w0, .inl (cs 1, 420, .inr (.inl (vp_updL (fun j => lN (rx_ V sl (ya_ (V sl) (V tl) i) j)) ((60 * sl) + i) (lN ((((zG (V sl) i) + (zG (V tl) i)) + (yb_ (V sl) (V tl) i)) % 1000000))))))] H := hP
      have hD : va_D A [(m0, .inr (7, [.int (nI th), .int (nI nk), .ref f1, .ref f2, .ref f3, .int (nI np), .ref g1, .ref g2, .ref g3, .int (nI sA), .int (nI sB), .int (nI ne), .ref h1, .ref h2, .ref h3, .ref w0, .int (nI pa), .ref w1])), (w0, .inl (cs 1, 420, .inr (.inl (vp_updL (fun j => lN (rx_ V sl (ya_ (V sl) (V tl) i) j)) ((60 * sl) + i) (lN ((((zG (V sl) i) + (zG (V tl) i)) + (yb_ (V sl) (V tl) i)) % 1000000))))))] := hD
      have eF : (vp_updL (fun j => lN (rx_ V sl (ya_ (V sl) (V tl) i) j)) ((60 * sl) + i) (lN ((((zG (V sl) i) + (zG (V tl) i)) + (yb_ (V sl) (V tl) i)) % 1000000))) = (fun j => lN (rx_ V sl (ya_ (V sl) (V tl) (i + 1)) j)) := (rx_up V sl (by omega) (fun z => ya_s _ _ _ _))
      rw [eF] at hP hD
      refine lv_lload hx hb dd_M_add_50 (lv_at hl 0 rfl) ?_
      refine lv_ldc2 (v := 1000000) hx hb hown (hts _ tw656) dd_M_add_52 ?_
      refine jw_cvl (y := lN 1000000) (by decide) ?_
      refine jw_ldiv hx hb dd_M_add_55 (yb_lt _ _ _) (by decide) (by decide) ?_
      refine jw_cvl (y := lN (yb_ (V sl) (V tl) (i + 1))) (congrArg lN (yb_s _ _ _).symm) ?_
      refine lv_lstore_n (lv' := [(3, .long (lN (yb_ (V sl) (V tl) (i + 1)))), (6, .long (lN (((zG (V sl) i) + (zG (V tl) i)) + (yb_ (V sl) (V tl) i)))), (0, .ref m0), (1, .int (nI (60 * tl))), (2, .int (nI (60 * sl))), (5, .int (nI i))]) hx hb dd_M_add_56 rfl hl (by decide) rfl (fun ls hl => ?_)
      refine lv_iinc (v := nI (i + 1)) (lv' := [(5, .int (nI (i + 1))), (3, .long (lN (yb_ (V sl) (V tl) (i + 1)))), (6, .long (lN (((zG (V sl) i) + (zG (V tl) i)) + (yb_ (V sl) (V tl) i)))), (0, .ref m0), (1, .int (nI (60 * tl))), (2, .int (nI (60 * sl)))]) hx hb dd_M_add_57 hl (k := 5) rfl (nI_1 i) (by decide) rfl (fun ls hl => ?_)
      refine lv_goto (tgt := 5) hx hb dd_M_add_60 (by decide) ?_
      exact ih (i + 1) (by omega) (by omega) H locs ls hP hD hS (lv_sub hl [3, 4, 5, 1, 0] rfl) kx

set_option maxHeartbeats 4000000 in
set_option maxRecDepth 100000 in
theorem c_M_add (l : Launch) (D : va_G) (cs : Nat → ClassId) (m0 th nk f1 f2 f3 np g1 g2 g3 sA sB ne h1 h2 h3 w0 pa w1 : Nat) (tl sl nf nt : Nat) (V : Nat → Nat) (sz : Nat) (hn1 : nf = 60 * tl) (hn2 : nt = 60 * sl) (hs : sl < 7) (ht : tl < 7) (hts2 : tl ≠ sl) : Met l ym_M_add [.code ym_M_add cd_M_add 8 none] ({ frames := 0, cells := 0, slots := 0, locals := 0 } : Room) (jw_Pc D vwCl (jt cs) [(m0, .inr (7, [.int (nI th), .int (nI nk), .ref f1, .ref f2, .ref f3, .int (nI np), .ref g1, .ref g2, .ref g3, .int (nI sA), .int (nI sB), .int (nI ne), .ref h1, .ref h2, .ref h3, .ref w0, .int (nI pa), .ref w1])), (w0, .inl (cs 1, 420, .inr (.inl (fun j => lN (rl_ V j)))))] sz TX [.ref m0, .int (nI nf), .int (nI nt)]) (va_Qv (fun (u : Unit) => True) (jw_B D vwCl (va_A [(m0, .inr (7, [.int (nI th), .int (nI nk), .ref f1, .ref f2, .ref f3, .int (nI np), .ref g1, .ref g2, .ref g3, .int (nI sA), .int (nI sB), .int (nI ne), .ref h1, .ref h2, .ref h3, .ref w0, .int (nI pa), .ref w1])), (w0, .inl (cs 1, 420, .inr (.inl (fun j => lN (rl_ V j)))))] sz) (fun (u : Unit) => [(m0, .inr (7, [.int (nI th), .int (nI nk), .ref f1, .ref f2, .ref f3, .int (nI np), .ref g1, .ref g2, .ref g3, .int (nI sA), .int (nI sB), .int (nI ne), .ref h1, .ref h2, .ref h3, .ref w0, .int (nI pa), .ref w1])), (w0, .inl (cs 1, 420, .inr (.inl (fun j => lN (rl_ (un_ V sl (V sl + V tl)) j)))))])) (va_A [(m0, .inr (7, [.int (nI th), .int (nI nk), .ref f1, .ref f2, .ref f3, .int (nI np), .ref g1, .ref g2, .ref g3, .int (nI sA), .int (nI sB), .int (nI ne), .ref h1, .ref h2, .ref h3, .ref w0, .int (nI pa), .ref w1])), (w0, .inl (cs 1, 420, .inr (.inl (fun j => lN (rl_ V j)))))] sz)) 0 0 (va_A [(m0, .inr (7, [.int (nI th), .int (nI nk), .ref f1, .ref f2, .ref f3, .int (nI np), .ref g1, .ref g2, .ref g3, .int (nI sA), .int (nI sB), .int (nI ne), .ref h1, .ref h2, .ref h3, .ref w0, .int (nI pa), .ref w1])), (w0, .inl (cs 1, 420, .inr (.inl (fun j => lN (rl_ V j)))))] sz) := by
  refine Met.ofW (cc := cd_M_add) (maxL := 8) (ret := none) (by decide) rfl ?_
  intro p e s m args below meth c s₁ BL hml hv
  obtain ⟨rfl, hsz, hP, hD0, hK, hT⟩ := hv
  have hx := BL.exec
  have hb := BL.bytes
  have hr := BL.returns
  have hts : ∀ w ∈ TW, w.before [.ref m0, .int (nI nf), .int (nI nt)].toArray s = true := fun w h => hT.use h _
  have hown : s.vm.findClass "UseOddsModel" = some m.cls := findClass_of_methodNamed BL.named
  have hlocks := BL.notSynchronized
  subst hsz
  have hD := hD0.self (sz := s.heap.size)
  generalize hAe : va_A [(m0, .inr (7, [.int (nI th), .int (nI nk), .ref f1, .ref f2, .ref f3, .int (nI np), .ref g1, .ref g2, .ref g3, .int (nI sA), .int (nI sB), .int (nI ne), .ref h1, .ref h2, .ref h3, .ref w0, .int (nI pa), .ref w1])), (w0, .inl (cs 1, 420, .inr (.inl (fun j => lN (rl_ V j)))))] s.heap.size = A at hD ⊢
  have hA : ∀ q : Nat, s.heap.size ≤ q → A q := fun q h => by rw [← hAe]; exact Or.inr h
  have hS : va_S A s.heap s.heap [] := va_S.rf
  have hl := lv_entry ([.ref m0, .int (nI nf), .int (nI nt)]) (n := 8) (Nat.le_of_ble_eq_true rfl)
  rw [lg_entry_eq]
  generalize (lg_sl ([.ref m0, .int (nI nf), .int (nI nt)]) ++ List.replicate (8 - (lg_sl ([.ref m0, .int (nI nf), .int (nI nt)])).length) Slot.unset).toArray = ls at hl ⊢
  have hl : lv_has ls 8 [(0, .ref m0), (1, .int (nI nf)), (2, .int (nI nt))] := hl
  subst hn1
  subst hn2
  have eF : (fun j => lN (rl_ V j)) = (fun j => lN (rx_ V sl (ya_ (V sl) (V tl) 0) j)) := (rx_0 V sl (fun k _ => by simp [ya_]))
  rw [eF] at hP hD
  refine lv_lconst (v := lN 0) hx hb dd_M_add_0 (by decide) ?_
  refine jw_cvl (y := lN (yb_ (V sl) (V tl) 0)) (by rw [yb_0]) ?_
  refine lv_lstore_n (lv' := [(3, .long (lN (yb_ (V sl) (V tl) 0))), (0, .ref m0), (1, .int (nI (60 * tl))), (2, .int (nI (60 * sl)))]) hx hb dd_M_add_1 rfl hl (by decide) rfl (fun ls hl => ?_)
  refine lv_iconst (v := nI 0) hx hb dd_M_add_2 (by decide) ?_
  refine lv_istore (lv' := [(5, .int (nI 0)), (3, .long (lN (yb_ (V sl) (V tl) 0))), (0, .ref m0), (1, .int (nI (60 * tl))), (2, .int (nI (60 * sl)))]) hx hb dd_M_add_3 hl (by decide) rfl (fun ls hl => ?_)
  refine lp_M_add (sl := sl) (tl := tl) hx hb hown hts hK hs ht hts2 61 0 (Nat.zero_le _) (by omega) _ _ ls hP hD hS (lv_sub hl [2, 3, 4, 1, 0] rfl) (fun H locs ls hP hD hS hl => ?_)
  have eF : (fun j => lN (rx_ V sl (ya_ (V sl) (V tl) 60) j)) = (fun j => lN (rl_ (un_ V sl (V sl + V tl)) j)) := (rx_end V sl (V sl + V tl) (fun k hk => by simp [ya_, hk]))
  rw [eF] at hP hD
  exact W.vret hx hb hr (fun t ht hW => ⟨⟨(), rfl, trivial, by rw [ht]; exact hP, hD⟩, hS.F ht⟩) hS.2.2 dd_M_add_63

set_option maxHeartbeats 4000000 in
set_option maxRecDepth 100000 in
theorem lp_M_isAbove {p : Program} {l : Launch} {e : Env} {R : Room} {s : State} {m : MethodId} {args : Array Value} {below : List Frame} {meth : Method} {c : Code} {cells slots : Nat} {Q : State → Prop} {H : Heap} {locs : List Loc} {A : Nat → Prop} {H0 : Heap} {D : va_G} {cs : Nat → ClassId} {m0 th nk f1 f2 f3 np g1 g2 g3 sA sB ne h1 h2 h3 w0 pa w1 : Nat} {sl tl : Nat} {V : Nat → Nat} (hx : p.tables.exec = Jvm.exec) (hb : c.code = cd_M_isAbove) (hown : s.vm.findClass "UseOddsModel" = some m.cls) (hts : ∀ w ∈ TW, w.before args s = true) (hK : va_K D vwCl (jt cs) s) (hP : va_P D vwCl [(m0, .inr (7, [.int (nI th), .int (nI nk), .ref f1, .ref f2, .ref f3, .int (nI np), .ref g1, .ref g2, .ref g3, .int (nI sA), .int (nI sB), .int (nI ne), .ref h1, .ref h2, .ref h3, .ref w0, .int (nI pa), .ref w1])), (w0, .inl (cs 1, 420, .inr (.inl (fun j => lN (rl_ V j)))))] H) (hD : va_D A [(m0, .inr (7, [.int (nI th), .int (nI nk), .ref f1, .ref f2, .ref f3, .int (nI np), .ref g1, .ref g2, .ref g3, .int (nI sA), .int (nI sB), .int (nI ne), .ref h1, .ref h2, .ref h3, .ref w0, .int (nI pa), .ref w1])), (w0, .inl (cs 1, 420, .inr (.inl (fun j => lN (rl_ V j)))))]) (hS : va_S A H0 H locs) (hs : sl < 7) (ht : tl < 7) :
    ∀ (k : Nat), k ≤ 60 → V tl / zB ^ k = V sl / zB ^ k → ∀ (ls : Array Slot), lv_has ls 4 [(0, .ref m0), (1, .int (nI (60 * tl))), (2, .int (nI (60 * sl))), (3, .int (nI k - 1))] →
    (∀ ls : Array Slot, V tl = V sl → W p l e R s m args below meth c H locs cells slots Q (F0 m 60 ls [.int (nI 0)])) → (∀ ls : Array Slot, V sl < V tl → W p l e R s m args below meth c H locs cells slots Q (F0 m 52 ls [.int (nI 1)])) → (∀ ls : Array Slot, ¬ V sl < V tl → W p l e R s m args below meth c H locs cells slots Q (F0 m 52 ls [.int (nI 0)])) → W p l e R s m args below meth c H locs cells slots Q (F0 m 3 ls []) := by
  intro k
  induction k with
  | zero =>
    intro hk he ls hl kx kt kf
    refine lv_iload_n hx hb dd_M_isAbove_3 rfl (lv_at hl 3 rfl) ?_
    refine lv_if_lt (tgt := 59) hx hb dd_M_isAbove_4 (by decide) (fun c1 => ?_) (fun c1 => ?_)
    · refine lv_iconst (v := nI 0) hx hb dd_M_isAbove_59 (by decide) ?_
      exact kx ls (by simpa using he)
    · exact absurd (show nI 0 - 1 < 0 by decide) c1
  | succ k ih =>
    intro hk he ls hl kx kt kf
    rw [nI_pred] at hl
    refine lv_iload_n hx hb dd_M_isAbove_3 rfl (lv_at hl 3 rfl) ?_
    refine jw_if_lt (a := k) (tgt := 59) hx hb dd_M_isAbove_4 (by decide) (by omega) ?_
    refine lv_aload_n hx hb dd_M_isAbove_7 rfl (lv_at hl 0 rfl) ?_
    refine va_get (D := D) (ci := 7) (v := .ref w0) (C := "UseOddsModel") (T := TM_) (N := 18) hx hb hts IM_ hown hK hP 0 rfl rfl 15 (by decide) (hts _ tw582) (fun _ h9 => h9) rfl dd_M_isAbove_8 ?_
    refine lv_iload_n hx hb dd_M_isAbove_11 rfl (lv_at hl 1 rfl) ?_
    refine lv_iload_n hx hb dd_M_isAbove_12 rfl (lv_at hl 3 rfl) ?_
    refine jw_iadd hx hb dd_M_isAbove_13 ?_
    refine jw_lald hx hb hK hP 1 1 rfl rfl (i := (60 * tl) + k) (by omega) (by decide) dd_M_isAbove_14 ?_
    refine jw_cvl (y := lN (zG (V tl) k)) (by rw [rl_at V tl (by omega)]) ?_
    refine lv_aload_n hx hb dd_M_isAbove_15 rfl (lv_at hl 0 rfl) ?_
    refine va_get (D := D) (ci := 7) (v := .ref w0) (C := "UseOddsModel") (T := TM_) (N := 18) hx hb hts IM_ hown hK hP 0 rfl rfl 15 (by decide) (hts _ tw582) (fun _ h9 => h9) rfl dd_M_isAbove_16 ?_
    refine lv_iload_n hx hb dd_M_isAbove_19 rfl (lv_at hl 2 rfl) ?_
    refine lv_iload_n hx hb dd_M_isAbove_20 rfl (lv_at hl 3 rfl) ?_
    refine jw_iadd hx hb dd_M_isAbove_21 ?_
    refine jw_lald hx hb hK hP 1 1 rfl rfl (i := (60 * sl) + k) (by omega) (by decide) dd_M_isAbove_22 ?_
    refine jw_cvl (y := lN (zG (V sl) k)) (by rw [rl_at V sl (by omega)]) ?_
    refine jw_lcmp_eq (a := zG (V tl) k) (b := zG (V sl) k) (tgt := 53) hx hb dd_M_isAbove_23 dd_M_isAbove_24 (by decide) (Nat.lt_trans (zG_lt _ _) (by decide)) (Nat.lt_trans (zG_lt _ _) (by decide)) (fun c1 => ?_) (fun c1 => ?_)
    · refine lv_iinc (v := nI k - 1) (lv' := [(3, .int (nI k - 1)), (0, .ref m0), (1, .int (nI (60 * tl))), (2, .int (nI (60 * sl)))]) hx hb dd_M_isAbove_53 hl (k := 3) rfl (nI_dec k) (by decide) rfl (fun ls hl => ?_)
      refine lv_goto (tgt := 3) hx hb dd_M_isAbove_56 (by decide) ?_
      exact ih (by omega) (zx_eq he c1) ls (lv_sub hl [1, 2, 3, 0] rfl) kx kt kf
    · refine lv_aload_n hx hb dd_M_isAbove_27 rfl (lv_at hl 0 rfl) ?_
      refine va_get (D := D) (ci := 7) (v := .ref w0) (C := "UseOddsModel") (T := TM_) (N := 18) hx hb hts IM_ hown hK hP 0 rfl rfl 15 (by decide) (hts _ tw582) (fun _ h9 => h9) rfl dd_M_isAbove_28 ?_
      refine lv_iload_n hx hb dd_M_isAbove_31 rfl (lv_at hl 1 rfl) ?_
      refine lv_iload_n hx hb dd_M_isAbove_32 rfl (lv_at hl 3 rfl) ?_
      refine jw_iadd hx hb dd_M_isAbove_33 ?_
      refine jw_lald hx hb hK hP 1 1 rfl rfl (i := (60 * tl) + k) (by omega) (by decide) dd_M_isAbove_34 ?_
      refine jw_cvl (y := lN (zG (V tl) k)) (by rw [rl_at V tl (by omega)]) ?_
      refine lv_aload_n hx hb dd_M_isAbove_35 rfl (lv_at hl 0 rfl) ?_
      refine va_get (D := D) (ci := 7) (v := .ref w0) (C := "UseOddsModel") (T := TM_) (N := 18) hx hb hts IM_ hown hK hP 0 rfl rfl 15 (by decide) (hts _ tw582) (fun _ h9 => h9) rfl dd_M_isAbove_36 ?_
      refine lv_iload_n hx hb dd_M_isAbove_39 rfl (lv_at hl 2 rfl) ?_
      refine lv_iload_n hx hb dd_M_isAbove_40 rfl (lv_at hl 3 rfl) ?_
      refine jw_iadd hx hb dd_M_isAbove_41 ?_
      refine jw_lald hx hb hK hP 1 1 rfl rfl (i := (60 * sl) + k) (by omega) (by decide) dd_M_isAbove_42 ?_
      refine jw_cvl (y := lN (zG (V sl) k)) (by rw [rl_at V sl (by omega)]) ?_
      refine jw_lcmp_le (a := zG (V tl) k) (b := zG (V sl) k) (tgt := 51) hx hb dd_M_isAbove_43 dd_M_isAbove_44 (by decide) (Nat.lt_trans (zG_lt _ _) (by decide)) (Nat.lt_trans (zG_lt _ _) (by decide)) (fun c2 => ?_) (fun c2 => ?_)
      · refine lv_iconst (v := nI 0) hx hb dd_M_isAbove_51 (by decide) ?_
        exact kf ls (fun q => by have := zx_gt he.symm (show zG (V tl) k < zG (V sl) k by omega); omega)
      · refine lv_iconst (v := nI 1) hx hb dd_M_isAbove_47 (by decide) ?_
        refine lv_goto (tgt := 52) hx hb dd_M_isAbove_48 (by decide) ?_
        exact kt ls (zx_gt he (by omega))

set_option maxHeartbeats 4000000 in
set_option maxRecDepth 100000 in
theorem c_M_isAbove (l : Launch) (D : va_G) (cs : Nat → ClassId) (m0 th nk f1 f2 f3 np g1 g2 g3 sA sB ne h1 h2 h3 w0 pa w1 : Nat) (tl sl nf nt : Nat) (V : Nat → Nat) (sz : Nat) (hn1 : nf = 60 * tl) (hn2 : nt = 60 * sl) (hs : sl < 7) (ht : tl < 7) (hV1 : V tl < zB ^ 60) (hV2 : V sl < zB ^ 60) : Met l ym_M_isAbove [.code ym_M_isAbove cd_M_isAbove 4 (some .boolean)] ({ frames := 0, cells := 0, slots := 0, locals := 0 } : Room) (jw_Pc D vwCl (jt cs) [(m0, .inr (7, [.int (nI th), .int (nI nk), .ref f1, .ref f2, .ref f3, .int (nI np), .ref g1, .ref g2, .ref g3, .int (nI sA), .int (nI sB), .int (nI ne), .ref h1, .ref h2, .ref h3, .ref w0, .int (nI pa), .ref w1])), (w0, .inl (cs 1, 420, .inr (.inl (fun j => lN (rl_ V j)))))] sz TX [.ref m0, .int (nI nf), .int (nI nt)]) (va_Qi (fun (r : Int32) (u : Unit) => r = nI (if V sl < V tl then 1 else 0)) (jw_B D vwCl (va_A [(m0, .inr (7, [.int (nI th), .int (nI nk), .ref f1, .ref f2, .ref f3, .int (nI np), .ref g1, .ref g2, .ref g3, .int (nI sA), .int (nI sB), .int (nI ne), .ref h1, .ref h2, .ref h3, .ref w0, .int (nI pa), .ref w1])), (w0, .inl (cs 1, 420, .inr (.inl (fun j => lN (rl_ V j)))))] sz) (fun (u : Unit) => [(m0, .inr (7, [.int (nI th), .int (nI nk), .ref f1, .ref f2, .ref f3, .int (nI np), .ref g1, .ref g2, .ref g3, .int (nI sA), .int (nI sB), .int (nI ne), .ref h1, .ref h2, .ref h3, .ref w0, .int (nI pa), .ref w1])), (w0, .inl (cs 1, 420, .inr (.inl (fun j => lN (rl_ V j)))))])) (va_A [(m0, .inr (7, [.int (nI th), .int (nI nk), .ref f1, .ref f2, .ref f3, .int (nI np), .ref g1, .ref g2, .ref g3, .int (nI sA), .int (nI sB), .int (nI ne), .ref h1, .ref h2, .ref h3, .ref w0, .int (nI pa), .ref w1])), (w0, .inl (cs 1, 420, .inr (.inl (fun j => lN (rl_ V j)))))] sz)) 0 0 (va_A [(m0, .inr (7, [.int (nI th), .int (nI nk), .ref f1, .ref f2, .ref f3, .int (nI np), .ref g1, .ref g2, .ref g3, .int (nI sA), .int (nI sB), .int (nI ne), .ref h1, .ref h2, .ref h3, .ref w0, .int (nI pa), .ref w1])), (w0, .inl (cs 1, 420, .inr (.inl (fun j => lN (rl_ V j)))))] sz) := by
  refine Met.ofW (cc := cd_M_isAbove) (maxL := 4) (ret := (some .boolean)) (by decide) rfl ?_
  intro p e s m args below meth c s₁ BL hml hv
  obtain ⟨rfl, hsz, hP, hD0, hK, hT⟩ := hv
  have hx := BL.exec
  have hb := BL.bytes
  have hr := BL.returns
  have hts : ∀ w ∈ TW, w.before [.ref m0, .int (nI nf), .int (nI nt)].toArray s = true := fun w h => hT.use h _
  have hown : s.vm.findClass "UseOddsModel" = some m.cls := findClass_of_methodNamed BL.named
  have hlocks := BL.notSynchronized
  subst hsz
  have hD := hD0.self (sz := s.heap.size)
  generalize hAe : va_A [(m0, .inr (7, [.int (nI th), .int (nI nk), .ref f1, .ref f2, .ref f3, .int (nI np), .ref g1, .ref g2, .ref g3, .int (nI sA), .int (nI sB), .int (nI ne), .ref h1, .ref h2, .ref h3, .ref w0, .int (nI pa), .ref w1])), (w0, .inl (cs 1, 420, .inr (.inl (fun j => lN (rl_ V j)))))] s.heap.size = A at hD ⊢
  have hA : ∀ q : Nat, s.heap.size ≤ q → A q := fun q h => by rw [← hAe]; exact Or.inr h
  have hS : va_S A s.heap s.heap [] := va_S.rf
  have hl := lv_entry ([.ref m0, .int (nI nf), .int (nI nt)]) (n := 4) (Nat.le_of_ble_eq_true rfl)
  rw [lg_entry_eq]
  generalize (lg_sl ([.ref m0, .int (nI nf), .int (nI nt)]) ++ List.replicate (4 - (lg_sl ([.ref m0, .int (nI nf), .int (nI nt)])).length) Slot.unset).toArray = ls at hl ⊢
  have hl : lv_has ls 4 [(0, .ref m0), (1, .int (nI nf)), (2, .int (nI nt))] := hl
  subst hn1
  subst hn2
  refine lv_bipush (v := nI 59) hx hb dd_M_isAbove_0 (by decide) ?_
  refine jw_cvi (y := nI 60 - 1) (by decide) ?_
  refine lv_istore_n (lv' := [(3, .int (nI 60 - 1)), (0, .ref m0), (1, .int (nI (60 * tl))), (2, .int (nI (60 * sl)))]) hx hb dd_M_isAbove_2 rfl hl (by decide) rfl (fun ls hl => ?_)
  refine lp_M_isAbove (sl := sl) (tl := tl) hx hb hown hts hK hP hD hS hs ht 60 (Nat.le_refl _) (by rw [Nat.div_eq_of_lt hV1, Nat.div_eq_of_lt hV2]) ls (lv_sub hl [1, 2, 3, 0] rfl) (fun ls q => ?_) (fun ls q => ?_) (fun ls q => ?_)
  · exact W.zret (v := (nI 0)) (ty := .boolean) hx hb hr (by decide) (fun t ht hW => ⟨⟨_, (), rfl, by rw [if_neg (by omega)], by rw [ht]; exact hP, hD⟩, hS.F ht⟩) hS.2.2 dd_M_isAbove_60
  · exact W.zret (v := (nI 1)) (ty := .boolean) hx hb hr (by decide) (fun t ht hW => ⟨⟨_, (), rfl, by rw [if_pos q], by rw [ht]; exact hP, hD⟩, hS.F ht⟩) hS.2.2 dd_M_isAbove_52
  · exact W.zret (v := (nI 0)) (ty := .boolean) hx hb hr (by decide) (fun t ht hW => ⟨⟨_, (), rfl, by rw [if_neg q], by rw [ht]; exact hP, hD⟩, hS.F ht⟩) hS.2.2 dd_M_isAbove_52

set_option maxHeartbeats 4000000 in
set_option maxRecDepth 100000 in
theorem lp_M_isNone {p : Program} {l : Launch} {e : Env} {R : Room} {s : State} {m : MethodId} {args : Array Value} {below : List Frame} {meth : Method} {c : Code} {cells slots : Nat} {Q : State → Prop} {A : Nat → Prop} {H0 : Heap} {D : va_G} {cs : Nat → ClassId} {m0 th nk f1 f2 f3 np g1 g2 g3 sA sB ne h1 h2 h3 w0 pa w1 : Nat} {sl : Nat} {V : Nat → Nat} (hx : p.tables.exec = Jvm.exec) (hb : c.code = cd_M_isNone) (hown : s.vm.findClass "UseOddsModel" = some m.cls) (hts : ∀ w ∈ TW, w.before args s = true) (hK : va_K D vwCl (jt cs) s) (hs : sl < 7) :
    ∀ (n9 i : Nat), i ≤ 60 → 60 + 1 ≤ i + n9 → ∀ (H : Heap) (locs : List Loc) (ls : Array Slot), va_P D vwCl [(m0, .inr (7, [.int (nI th), .int (nI nk), .ref f1, .ref f2, .ref f3, .int (nI np), .ref g1, .ref g2, .ref g3, .int (nI sA), .int (nI sB), .int (nI ne), .ref h1, .ref h2, .ref h3, .ref w0, .int (nI pa), .ref w1])), (w0, .inl (cs 1, 420, .inr (.inl (fun j => lN (rl_ V j)))))] H → va_D A [(m0, .inr (7, [.int (nI th), .int (nI nk), .ref f1, .ref f2, .ref f3, .int (nI np), .ref g1, .ref g2, .ref g3, .int (nI sA), .int (nI sB), .int (nI ne), .ref h1, .ref h2, .ref h3, .ref w0, .int (nI pa), .ref w1])), (w0, .inl (cs 1, 420, .inr (.inl (fun j => lN (rl_ V j)))))] → va_S A H0 H locs → lv_has ls 4 [(0, .ref m0), (1, .int (nI (60 * sl))), (2, .int (nI (yz_ (V sl) i))), (3, .int (nI i))] →
    (∀ (H : Heap) (locs : List Loc) (ls : Array Slot), va_P D vwCl [(m0, .inr (7, [.int (nI th), .int (nI nk), .ref f1, .ref f2, .ref f3, .int (nI np), .ref g1, .ref g2, .ref g3, .int (nI sA), .int (nI sB), .int (nI ne), .ref h1, .ref h2, .ref h3, .ref w0, .int (nI pa), .ref w1])), (w0, .inl (cs 1, 420, .inr (.inl (fun j => lN (rl_ V j)))))] H → va_D A [(m0, .inr (7, [.int (nI th), .int (nI nk), .ref f1, .ref f2, .ref f3, .int (nI np), .ref g1, .ref g2, .ref g3, .int (nI sA), .int (nI sB), .int (nI ne), .ref h1, .ref h2, .ref h3, .ref w0, .int (nI pa), .ref w1])), (w0, .inl (cs 1, 420, .inr (.inl (fun j => lN (rl_ V j)))))] → va_S A H0 H locs → lv_has ls 4 [(0, .ref m0), (1, .int (nI (60 * sl))), (2, .int (nI (yz_ (V sl) 60))), (3, .int (nI 60))] → W p l e R s m args below meth c H locs cells slots Q (F0 m 39 ls [])) → W p l e R s m args below meth c H locs cells slots Q (F0 m 4 ls []) := by
  intro n9
  induction n9 with
  | zero => intro i h1 h2; exact absurd h2 (by omega)
  | succ n9 ih =>
    intro i hi hin H locs ls hP hD hS hl kx
    have hz := yz_le (V sl) i
    refine lv_iload_n hx hb dd_M_isNone_4 rfl (lv_at hl 3 rfl) ?_
    refine lv_bipush (v := nI 60) hx hb dd_M_isNone_5 (by decide) ?_
    refine jw_icmp_ge (a := i) (b := 60) (tgt := 39) hx hb dd_M_isNone_7 (by decide) (by omega) (by omega) (fun c1 => ?_) (fun c1 => ?_)
    · have e1 : i = 60 := by omega
      rw [e1] at hl
      exact kx H locs ls hP hD hS (lv_sub hl [0, 1, 2, 3] rfl)
    · refine lv_iload_n hx hb dd_M_isNone_10 rfl (lv_at hl 2 rfl) ?_
      refine jw_if_eq (a := yz_ (V sl) i) (tgt := 31) hx hb dd_M_isNone_11 (by decide) (by omega) (fun c2 => ?_) (fun c2 => ?_)
      · refine lv_iconst (v := nI 0) hx hb dd_M_isNone_31 (by decide) ?_
        refine jw_cvi (y := nI (yz_ (V sl) (i + 1))) (congrArg nI (yz_z c2).symm) ?_
        refine lv_istore_n (lv' := [(2, .int (nI (yz_ (V sl) (i + 1)))), (0, .ref m0), (1, .int (nI (60 * sl))), (3, .int (nI i))]) hx hb dd_M_isNone_32 rfl hl (by decide) rfl (fun ls hl => ?_)
        refine lv_iinc (v := nI (i + 1)) (lv' := [(3, .int (nI (i + 1))), (2, .int (nI (yz_ (V sl) (i + 1)))), (0, .ref m0), (1, .int (nI (60 * sl)))]) hx hb dd_M_isNone_33 hl (k := 3) rfl (nI_1 i) (by decide) rfl (fun ls hl => ?_)
        refine lv_goto (tgt := 4) hx hb dd_M_isNone_36 (by decide) ?_
        exact ih (i + 1) (by omega) (by omega) H locs ls hP hD hS (lv_sub hl [2, 3, 1, 0] rfl) kx
      · refine lv_aload_n hx hb dd_M_isNone_14 rfl (lv_at hl 0 rfl) ?_
        refine va_get (D := D) (ci := 7) (v := .ref w0) (C := "UseOddsModel") (T := TM_) (N := 18) hx hb hts IM_ hown hK hP 0 rfl rfl 15 (by decide) (hts _ tw582) (fun _ h9 => h9) rfl dd_M_isNone_15 ?_
        refine lv_iload_n hx hb dd_M_isNone_18 rfl (lv_at hl 1 rfl) ?_
        refine lv_iload_n hx hb dd_M_isNone_19 rfl (lv_at hl 3 rfl) ?_
        refine jw_iadd hx hb dd_M_isNone_20 ?_
        refine jw_lald hx hb hK hP 1 1 rfl rfl (i := (60 * sl) + i) (by omega) (by decide) dd_M_isNone_21 ?_
        refine jw_cvl (y := lN (zG (V sl) i)) (by rw [rl_at V sl (by omega)]) ?_
        refine lv_lconst (v := lN 0) hx hb dd_M_isNone_22 (by decide) ?_
        refine jw_lcmp_ne (a := zG (V sl) i) (b := 0) (tgt := 31) hx hb dd_M_isNone_23 dd_M_isNone_24 (by decide) (Nat.lt_trans (zG_lt _ _) (by decide)) (by decide) (fun c3 => ?_) (fun c3 => ?_)
        · refine lv_iconst (v := nI 0) hx hb dd_M_isNone_31 (by decide) ?_
          refine jw_cvi (y := nI (yz_ (V sl) (i + 1))) (congrArg nI (yz_n c3).symm) ?_
          refine lv_istore_n (lv' := [(2, .int (nI (yz_ (V sl) (i + 1)))), (0, .ref m0), (1, .int (nI (60 * sl))), (3, .int (nI i))]) hx hb dd_M_isNone_32 rfl hl (by decide) rfl (fun ls hl => ?_)
          refine lv_iinc (v := nI (i + 1)) (lv' := [(3, .int (nI (i + 1))), (2, .int (nI (yz_ (V sl) (i + 1)))), (0, .ref m0), (1, .int (nI (60 * sl)))]) hx hb dd_M_isNone_33 hl (k := 3) rfl (nI_1 i) (by decide) rfl (fun ls hl => ?_)
          refine lv_goto (tgt := 4) hx hb dd_M_isNone_36 (by decide) ?_
          exact ih (i + 1) (by omega) (by omega) H locs ls hP hD hS (lv_sub hl [2, 3, 1, 0] rfl) kx
        · refine lv_iconst (v := nI 1) hx hb dd_M_isNone_27 (by decide) ?_
          refine lv_goto (tgt := 32) hx hb dd_M_isNone_28 (by decide) ?_
          refine jw_cvi (y := nI (yz_ (V sl) (i + 1))) (congrArg nI (yz_y (by omega) (by omega)).symm) ?_
          refine lv_istore_n (lv' := [(2, .int (nI (yz_ (V sl) (i + 1)))), (0, .ref m0), (1, .int (nI (60 * sl))), (3, .int (nI i))]) hx hb dd_M_isNone_32 rfl hl (by decide) rfl (fun ls hl => ?_)
          refine lv_iinc (v := nI (i + 1)) (lv' := [(3, .int (nI (i + 1))), (2, .int (nI (yz_ (V sl) (i + 1)))), (0, .ref m0), (1, .int (nI (60 * sl)))]) hx hb dd_M_isNone_33 hl (k := 3) rfl (nI_1 i) (by decide) rfl (fun ls hl => ?_)
          refine lv_goto (tgt := 4) hx hb dd_M_isNone_36 (by decide) ?_
          exact ih (i + 1) (by omega) (by omega) H locs ls hP hD hS (lv_sub hl [2, 3, 1, 0] rfl) kx

set_option maxHeartbeats 4000000 in
set_option maxRecDepth 100000 in
theorem c_M_isNone (l : Launch) (D : va_G) (cs : Nat → ClassId) (m0 th nk f1 f2 f3 np g1 g2 g3 sA sB ne h1 h2 h3 w0 pa w1 : Nat) (sl nn : Nat) (V : Nat → Nat) (sz : Nat) (hn : nn = 60 * sl) (hs : sl < 7) (hV : V sl < zB ^ 60) : Met l ym_M_isNone [.code ym_M_isNone cd_M_isNone 4 (some .boolean)] ({ frames := 0, cells := 0, slots := 0, locals := 0 } : Room) (jw_Pc D vwCl (jt cs) [(m0, .inr (7, [.int (nI th), .int (nI nk), .ref f1, .ref f2, .ref f3, .int (nI np), .ref g1, .ref g2, .ref g3, .int (nI sA), .int (nI sB), .int (nI ne), .ref h1, .ref h2, .ref h3, .ref w0, .int (nI pa), .ref w1])), (w0, .inl (cs 1, 420, .inr (.inl (fun j => lN (rl_ V j)))))] sz TX [.ref m0, .int (nI nn)]) (va_Qi (fun (r : Int32) (u : Unit) => r = nI (if V sl = 0 then 1 else 0)) (jw_B D vwCl (va_A [(m0, .inr (7, [.int (nI th), .int (nI nk), .ref f1, .ref f2, .ref f3, .int (nI np), .ref g1, .ref g2, .ref g3, .int (nI sA), .int (nI sB), .int (nI ne), .ref h1, .ref h2, .ref h3, .ref w0, .int (nI pa), .ref w1])), (w0, .inl (cs 1, 420, .inr (.inl (fun j => lN (rl_ V j)))))] sz) (fun (u : Unit) => [(m0, .inr (7, [.int (nI th), .int (nI nk), .ref f1, .ref f2, .ref f3, .int (nI np), .ref g1, .ref g2, .ref g3, .int (nI sA), .int (nI sB), .int (nI ne), .ref h1, .ref h2, .ref h3, .ref w0, .int (nI pa), .ref w1])), (w0, .inl (cs 1, 420, .inr (.inl (fun j => lN (rl_ V j)))))])) (va_A [(m0, .inr (7, [.int (nI th), .int (nI nk), .ref f1, .ref f2, .ref f3, .int (nI np), .ref g1, .ref g2, .ref g3, .int (nI sA), .int (nI sB), .int (nI ne), .ref h1, .ref h2, .ref h3, .ref w0, .int (nI pa), .ref w1])), (w0, .inl (cs 1, 420, .inr (.inl (fun j => lN (rl_ V j)))))] sz)) 0 0 (va_A [(m0, .inr (7, [.int (nI th), .int (nI nk), .ref f1, .ref f2, .ref f3, .int (nI np), .ref g1, .ref g2, .ref g3, .int (nI sA), .int (nI sB), .int (nI ne), .ref h1, .ref h2, .ref h3, .ref w0, .int (nI pa), .ref w1])), (w0, .inl (cs 1, 420, .inr (.inl (fun j => lN (rl_ V j)))))] sz) := by
  refine Met.ofW (cc := cd_M_isNone) (maxL := 4) (ret := (some .boolean)) (by decide) rfl ?_
  intro p e s m args below meth c s₁ BL hml hv
  obtain ⟨rfl, hsz, hP, hD0, hK, hT⟩ := hv
  have hx := BL.exec
  have hb := BL.bytes
  have hr := BL.returns
  have hts : ∀ w ∈ TW, w.before [.ref m0, .int (nI nn)].toArray s = true := fun w h => hT.use h _
  have hown : s.vm.findClass "UseOddsModel" = some m.cls := findClass_of_methodNamed BL.named
  have hlocks := BL.notSynchronized
  subst hsz
  have hD := hD0.self (sz := s.heap.size)
  generalize hAe : va_A [(m0, .inr (7, [.int (nI th), .int (nI nk), .ref f1, .ref f2, .ref f3, .int (nI np), .ref g1, .ref g2, .ref g3, .int (nI sA), .int (nI sB), .int (nI ne), .ref h1, .ref h2, .ref h3, .ref w0, .int (nI pa), .ref w1])), (w0, .inl (cs 1, 420, .inr (.inl (fun j => lN (rl_ V j)))))] s.heap.size = A at hD ⊢
  have hA : ∀ q : Nat, s.heap.size ≤ q → A q := fun q h => by rw [← hAe]; exact Or.inr h
  have hS : va_S A s.heap s.heap [] := va_S.rf
  have hl := lv_entry ([.ref m0, .int (nI nn)]) (n := 4) (Nat.le_of_ble_eq_true rfl)
  rw [lg_entry_eq]
  generalize (lg_sl ([.ref m0, .int (nI nn)]) ++ List.replicate (4 - (lg_sl ([.ref m0, .int (nI nn)])).length) Slot.unset).toArray = ls at hl ⊢
  have hl : lv_has ls 4 [(0, .ref m0), (1, .int (nI nn))] := hl
  subst hn
  refine lv_iconst (v := nI 1) hx hb dd_M_isNone_0 (by decide) ?_
  refine jw_cvi (y := nI (yz_ (V sl) 0)) (by rw [yz_0]) ?_
  refine lv_istore_n (lv' := [(2, .int (nI (yz_ (V sl) 0))), (0, .ref m0), (1, .int (nI (60 * sl)))]) hx hb dd_M_isNone_1 rfl hl (by decide) rfl (fun ls hl => ?_)
  refine lv_iconst (v := nI 0) hx hb dd_M_isNone_2 (by decide) ?_
  refine lv_istore_n (lv' := [(3, .int (nI 0)), (2, .int (nI (yz_ (V sl) 0))), (0, .ref m0), (1, .int (nI (60 * sl)))]) hx hb dd_M_isNone_3 rfl hl (by decide) rfl (fun ls hl => ?_)
  refine lp_M_isNone (sl := sl) hx hb hown hts hK hs 61 0 (Nat.zero_le _) (by omega) _ _ ls hP hD hS (lv_sub hl [2, 3, 1, 0] rfl) (fun H locs ls hP hD hS hl => ?_)
  refine lv_iload_n hx hb dd_M_isNone_39 rfl (lv_at hl 2 rfl) ?_
  by_cases q : V sl = 0
  · refine jw_cvi (y := nI 1) (by rw [yz_end hV, if_pos q]) ?_
    exact W.zret (v := (nI 1)) (ty := .boolean) hx hb hr (by decide) (fun t ht hW => ⟨⟨_, (), rfl, by rw [if_pos q], by rw [ht]; exact hP, hD⟩, hS.F ht⟩) hS.2.2 dd_M_isNone_40
  · refine jw_cvi (y := nI 0) (by rw [yz_end hV, if_neg q]) ?_
    exact W.zret (v := (nI 0)) (ty := .boolean) hx hb hr (by decide) (fun t ht hW => ⟨⟨_, (), rfl, by rw [if_neg q], by rw [ht]; exact hP, hD⟩, hS.F ht⟩) hS.2.2 dd_M_isNone_40
