set_option maxHeartbeats 4000000 in
set_option maxRecDepth 100000 in
theorem c_U_require (l : Launch) (hl : l.stackTraces = false) (D : va_G) (cs : Nat → ClassId) (x : Int32) (sz : Nat)  : xm_ l ym_U_require [.code ym_U_require cd_U_require 1 none] ({ frames := 6, cells := 1, slots := 6, locals := 82 } : Room) (jw_Pc D vwCl (jt cs) [] sz (XC (va_A [] sz)) [.int x]) (va_Qv (fun (u : Unit) => ¬ x = 0) (jw_B D vwCl (va_A [] sz) (fun (u : Unit) => [])) (va_A [] sz)) (xm_E D vwCl (va_A [] sz) (fun (E : String) (u : Unit) => E = "java/lang/IllegalArgumentException" ∧ x = 0) (fun (u : Unit) => [])) 1 6 (va_A [] sz) := by
  refine xm_ofW (cc := cd_U_require) (maxL := 1) (ret := none) (by decide) rfl ?_
  intro p e s m args below meth c s₁ BL hml hex hv
  obtain ⟨rfl, hsz, hP, hD0, hK, hX⟩ := hv
  have hT := hX.1
  have hx := BL.exec
  have hb := BL.bytes
  have hr := BL.returns
  have hts : ∀ w ∈ TW, w.before [.int x].toArray s = true := fun w h => hT.use h _
  have hown : s.vm.findClass "UseOdds" = some m.cls := findClass_of_methodNamed BL.named
  have hlocks := BL.notSynchronized
  subst hsz
  have hD := hD0.self (sz := s.heap.size)
  generalize hAe : va_A [] s.heap.size = A at hD hX ⊢
  have hA : ∀ q : Nat, s.heap.size ≤ q → A q := fun q h => by rw [← hAe]; exact Or.inr h
  have hS : va_S A s.heap s.heap [] := va_S.rf
  have hl2 := lv_entry ([.int x]) (n := 1) (Nat.le_of_ble_eq_true rfl)
  rw [lg_entry_eq]
  generalize (lg_sl ([.int x]) ++ List.replicate (1 - (lg_sl ([.int x])).length) Slot.unset).toArray = ls at hl2 ⊢
  have hl9 := hl
  have hl : lv_has ls 1 [(0, .int x)] := hl2
  refine lv_iload_n hx hb dd_U_require_0 rfl (lv_at hl 0 rfl) ?_
  refine lv_if_ne (tgt := 14) hx hb dd_U_require_1 (by decide) (fun c1 => ?_) (fun c1 => ?_)
  · refine W.widen (k := 1) (n := 6) (Nat.le_of_ble_eq_true rfl) (Nat.le_of_ble_eq_true rfl) ?_
    exact xm_ret (W.vret hx hb hr (fun t ht hW => ⟨⟨(), rfl, c1, by rw [ht]; exact hP, hD⟩, hS.F ht⟩) hS.2.2 dd_U_require_14)
  · exact xt_iae (text := "out of bounds, or there is none such") hx hb hl9 hown hX hS (by decide +kernel) (hl.1.trans hml.symm) dd_U_require_4 dd_U_require_7 dd_U_require_8 dd_U_require_10 dd_U_require_13 hex (Nat.le_of_ble_eq_true rfl) (Nat.le_of_ble_eq_true rfl) (Nat.le_of_ble_eq_true rfl) (Nat.le_of_ble_eq_true rfl) hlocks () ⟨rfl, c1⟩ hP hD (Nat.le_of_ble_eq_true rfl) (Nat.le_of_ble_eq_true rfl)

set_option maxHeartbeats 4000000 in
set_option maxRecDepth 100000 in
theorem c_U_requirePipe (l : Launch) (hl : l.stackTraces = false) (D : va_G) (cs : Nat → ClassId) (u0 k0 t0 l0 o0 p0 sA sB c0 d0 : Nat) (np : Nat) (w1 w2 w3 w4 : Value) (x : Int32) (sz : Nat) (hnp : np < 2 ^ 31) : xm_ l ym_U_requirePipe [.code ym_U_requirePipe cd_U_requirePipe 2 none] ({ frames := 7, cells := 1, slots := 6, locals := 102 } : Room) (jw_Pc D vwCl (jt cs) [(u0, .inr (6, [.ref k0, .ref t0, .ref l0, .ref o0, .ref p0, .int (nI sA), .int (nI sB), .ref c0, .ref d0])), (t0, .inr (4, [.int (nI np), w1, w2, w3, w4]))] sz (XC (va_A [(u0, .inr (6, [.ref k0, .ref t0, .ref l0, .ref o0, .ref p0, .int (nI sA), .int (nI sB), .ref c0, .ref d0])), (t0, .inr (4, [.int (nI np), w1, w2, w3, w4]))] sz)) [.ref u0, .int x]) (va_Qv (fun (u : Unit) => hs_ x np) (jw_B D vwCl (va_A [(u0, .inr (6, [.ref k0, .ref t0, .ref l0, .ref o0, .ref p0, .int (nI sA), .int (nI sB), .ref c0, .ref d0])), (t0, .inr (4, [.int (nI np), w1, w2, w3, w4]))] sz) (fun (u : Unit) => [(u0, .inr (6, [.ref k0, .ref t0, .ref l0, .ref o0, .ref p0, .int (nI sA), .int (nI sB), .ref c0, .ref d0])), (t0, .inr (4, [.int (nI np), w1, w2, w3, w4]))])) (va_A [(u0, .inr (6, [.ref k0, .ref t0, .ref l0, .ref o0, .ref p0, .int (nI sA), .int (nI sB), .ref c0, .ref d0])), (t0, .inr (4, [.int (nI np), w1, w2, w3, w4]))] sz)) (xm_E D vwCl (va_A [(u0, .inr (6, [.ref k0, .ref t0, .ref l0, .ref o0, .ref p0, .int (nI sA), .int (nI sB), .ref c0, .ref d0])), (t0, .inr (4, [.int (nI np), w1, w2, w3, w4]))] sz) (fun (E : String) (u : Unit) => E = "java/lang/IllegalArgumentException" ∧ ¬ hs_ x np) (fun (u : Unit) => [(u0, .inr (6, [.ref k0, .ref t0, .ref l0, .ref o0, .ref p0, .int (nI sA), .int (nI sB), .ref c0, .ref d0])), (t0, .inr (4, [.int (nI np), w1, w2, w3, w4]))])) 1 6 (va_A [(u0, .inr (6, [.ref k0, .ref t0, .ref l0, .ref o0, .ref p0, .int (nI sA), .int (nI sB), .ref c0, .ref d0])), (t0, .inr (4, [.int (nI np), w1, w2, w3, w4]))] sz) := by
  refine xm_ofW (cc := cd_U_requirePipe) (maxL := 2) (ret := none) (by decide) rfl ?_
  intro p e s m args below meth c s₁ BL hml hex hv
  obtain ⟨rfl, hsz, hP, hD0, hK, hX⟩ := hv
  have hT := hX.1
  have hx := BL.exec
  have hb := BL.bytes
  have hr := BL.returns
  have hts : ∀ w ∈ TW, w.before [.ref u0, .int x].toArray s = true := fun w h => hT.use h _
  have hown : s.vm.findClass "UseOdds" = some m.cls := findClass_of_methodNamed BL.named
  have hlocks := BL.notSynchronized
  subst hsz
  have hD := hD0.self (sz := s.heap.size)
  generalize hAe : va_A [(u0, .inr (6, [.ref k0, .ref t0, .ref l0, .ref o0, .ref p0, .int (nI sA), .int (nI sB), .ref c0, .ref d0])), (t0, .inr (4, [.int (nI np), w1, w2, w3, w4]))] s.heap.size = A at hD hX ⊢
  have hA : ∀ q : Nat, s.heap.size ≤ q → A q := fun q h => by rw [← hAe]; exact Or.inr h
  have hS : va_S A s.heap s.heap [] := va_S.rf
  have hl2 := lv_entry ([.ref u0, .int x]) (n := 2) (Nat.le_of_ble_eq_true rfl)
  rw [lg_entry_eq]
  generalize (lg_sl ([.ref u0, .int x]) ++ List.replicate (2 - (lg_sl ([.ref u0, .int x])).length) Slot.unset).toArray = ls at hl2 ⊢
  have hl9 := hl
  have hl : lv_has ls 2 [(0, .ref u0), (1, .int x)] := hl2
  refine lv_aload_n hx hb dd_U_requirePipe_0 rfl (lv_at hl 0 rfl) ?_
  refine va_get (D := D) (ci := 6) (v := .ref t0) (C := "UseOdds") (T := TU_) (N := 9) hx hb hts IU_ hown hK hP 0 rfl rfl 1 (by decide) (hts _ tw175) (fun _ h9 => h9) rfl dd_U_requirePipe_1 ?_
  refine lv_iload_n hx hb dd_U_requirePipe_4 rfl (lv_at hl 1 rfl) ?_
  refine jw_calli (wc := [(t0, .inr (4, [.int (nI np), w1, w2, w3, w4]))]) (wr := [(u0, .inr (6, [.ref k0, .ref t0, .ref l0, .ref o0, .ref p0, .int (nI sA), .int (nI sB), .ref c0, .ref d0]))]) hP hD hS hA [1] [0] rfl rfl rfl (by decide) (va_runV (C := "UseOdds$Tree") (As := [.int x]) (rest := []) ⟨hx, hb, hml, hown, hts⟩ (c_T_has l D cs t0 np w1 w2 w3 w4 x _ hnp) ⟨jw_cB 1 hts tw378 rfl rfl tw3 tw375 (by decide +kernel) ⟨Nat.le_of_ble_eq_true rfl, Nat.le_of_ble_eq_true rfl⟩, hts _ tw376, hts _ tw377⟩ ⟨jw_blind jx_TX, va_recv hK hP (ci := 4) (q0 := 1) rfl rfl, jw_pre (hP.sub [1] rfl) (hD.sub [1] (by decide) rfl) hK (fun U _ hW => hT.warm hW)⟩ rfl rfl hl.1 rfl (lv_room (Nat.le_of_ble_eq_true rfl)) dd_U_requirePipe_5 ⟨Nat.le_of_ble_eq_true rfl, Nat.le_of_ble_eq_true rfl⟩) (fun r0 u H locs hw hP hD hS => ?_)
  have hP : va_P D vwCl [(u0, .inr (6, [.ref k0, .ref t0, .ref l0, .ref o0, .ref p0, .int (nI sA), .int (nI sB), .ref c0, .ref d0])), (t0, .inr (4, [.int (nI np), w1, w2, w3, w4]))] H := hP
  have hD : va_D A [(u0, .inr (6, [.ref k0, .ref t0, .ref l0, .ref o0, .ref p0, .int (nI sA), .int (nI sB), .ref c0, .ref d0])), (t0, .inr (4, [.int (nI np), w1, w2, w3, w4]))] := hD
  have hw1 := hw
  refine xm_callv (wc := []) (wr := [(u0, .inr (6, [.ref k0, .ref t0, .ref l0, .ref o0, .ref p0, .int (nI sA), .int (nI sB), .ref c0, .ref d0])), (t0, .inr (4, [.int (nI np), w1, w2, w3, w4]))]) hP hD hS hA [] [0, 1] rfl rfl rfl (by decide) (xm_runS (As := [.int r0]) (rest := []) ⟨hx, hb, hml, hown, hts⟩ (c_U_require l hl9 D cs r0 _) ⟨jw_cB 1 hts tw277 rfl rfl tw1 tw275 (by decide +kernel) ⟨Nat.le_of_ble_eq_true rfl, Nat.le_of_ble_eq_true rfl⟩, hts _ tw276⟩ ⟨jw_blind (jx_XC _), jw_pre (hP.sub [] rfl) (hD.sub [] (by decide) rfl) hK (hX.call hS (va_free (wc := []) hD hS hA [] rfl))⟩ rfl rfl hl.1 rfl (lv_room (Nat.le_of_ble_eq_true rfl)) dd_U_requirePipe_8 ⟨Nat.le_of_ble_eq_true rfl, Nat.le_of_ble_eq_true rfl⟩) (fun E q9 u t H locs hpx hP hD hS ht ho => ?_) (fun u H locs hw hP hD hS => ?_)
  · have hP := hP.sub (ws' := [(u0, .inr (6, [.ref k0, .ref t0, .ref l0, .ref o0, .ref p0, .int (nI sA), .int (nI sB), .ref c0, .ref d0])), (t0, .inr (4, [.int (nI np), w1, w2, w3, w4]))]) [0, 1] rfl
    have hD := hD.sub (ws' := [(u0, .inr (6, [.ref k0, .ref t0, .ref l0, .ref o0, .ref p0, .int (nI sA), .int (nI sB), .ref c0, .ref d0])), (t0, .inr (4, [.int (nI np), w1, w2, w3, w4]))]) [0, 1] (by decide) rfl
    have hno : ¬ hs_ x np := by
      rcases hw1 with ⟨q, _⟩ | ⟨_, q⟩
      · rw [q] at hpx; exact absurd hpx.2 (by decide)
      · exact q
    exact xm_out hex hlocks ht ho (fun t9 h9 => ⟨(), ⟨hpx.1, hno⟩, ⟨by rw [h9]; exact hP, hD⟩, hS.F h9⟩) hS.2.2 (Nat.le_of_ble_eq_true rfl) (Nat.le_of_ble_eq_true rfl)
  · have hP : va_P D vwCl [(u0, .inr (6, [.ref k0, .ref t0, .ref l0, .ref o0, .ref p0, .int (nI sA), .int (nI sB), .ref c0, .ref d0])), (t0, .inr (4, [.int (nI np), w1, w2, w3, w4]))] H := hP
    have hD : va_D A [(u0, .inr (6, [.ref k0, .ref t0, .ref l0, .ref o0, .ref p0, .int (nI sA), .int (nI sB), .ref c0, .ref d0])), (t0, .inr (4, [.int (nI np), w1, w2, w3, w4]))] := hD
    have hyes : hs_ x np := by
      rcases hw1 with ⟨_, q⟩ | ⟨q, _⟩
      · exact q
      · exact absurd (by rw [q]; decide) hw
    have hP := hP.sub (ws' := [(u0, .inr (6, [.ref k0, .ref t0, .ref l0, .ref o0, .ref p0, .int (nI sA), .int (nI sB), .ref c0, .ref d0])), (t0, .inr (4, [.int (nI np), w1, w2, w3, w4]))]) [0, 1] rfl
    have hD := hD.sub (ws' := [(u0, .inr (6, [.ref k0, .ref t0, .ref l0, .ref o0, .ref p0, .int (nI sA), .int (nI sB), .ref c0, .ref d0])), (t0, .inr (4, [.int (nI np), w1, w2, w3, w4]))]) [0, 1] (by decide) rfl
    refine W.widen (k := 1) (n := 6) (Nat.le_of_ble_eq_true rfl) (Nat.le_of_ble_eq_true rfl) ?_
    exact xm_ret (W.vret hx hb hr (fun t ht hW => ⟨⟨(), rfl, hyes, by rw [ht]; exact hP, hD⟩, hS.F ht⟩) hS.2.2 dd_U_requirePipe_11)

set_option maxHeartbeats 4000000 in
set_option maxRecDepth 100000 in
theorem c_U_requirePipeAndKind (l : Launch) (hl : l.stackTraces = false) (D : va_G) (cs : Nat → ClassId) (u0 k0 t0 l0 o0 p0 sA sB c0 d0 : Nat) (np nk : Nat) (w1 w2 w3 w4 z1 z2 z3 : Value) (x y : Int32) (sz : Nat) (hnp : np < 2 ^ 31) (hnk : nk < 2 ^ 31) : xm_ l ym_U_requirePipeAndKind [.code ym_U_requirePipeAndKind cd_U_requirePipeAndKind 3 none] ({ frames := 7, cells := 1, slots := 6, locals := 102 } : Room) (jw_Pc D vwCl (jt cs) [(u0, .inr (6, [.ref k0, .ref t0, .ref l0, .ref o0, .ref p0, .int (nI sA), .int (nI sB), .ref c0, .ref d0])), (t0, .inr (4, [.int (nI np), w1, w2, w3, w4])), (k0, .inr (0, [.int (nI nk), z1, z2, z3]))] sz (XC (va_A [(u0, .inr (6, [.ref k0, .ref t0, .ref l0, .ref o0, .ref p0, .int (nI sA), .int (nI sB), .ref c0, .ref d0])), (t0, .inr (4, [.int (nI np), w1, w2, w3, w4])), (k0, .inr (0, [.int (nI nk), z1, z2, z3]))] sz)) [.ref u0, .int x, .int y]) (va_Qv (fun (u : Unit) => hs_ x np ∧ hs_ y nk) (jw_B D vwCl (va_A [(u0, .inr (6, [.ref k0, .ref t0, .ref l0, .ref o0, .ref p0, .int (nI sA), .int (nI sB), .ref c0, .ref d0])), (t0, .inr (4, [.int (nI np), w1, w2, w3, w4])), (k0, .inr (0, [.int (nI nk), z1, z2, z3]))] sz) (fun (u : Unit) => [(u0, .inr (6, [.ref k0, .ref t0, .ref l0, .ref o0, .ref p0, .int (nI sA), .int (nI sB), .ref c0, .ref d0])), (t0, .inr (4, [.int (nI np), w1, w2, w3, w4])), (k0, .inr (0, [.int (nI nk), z1, z2, z3]))])) (va_A [(u0, .inr (6, [.ref k0, .ref t0, .ref l0, .ref o0, .ref p0, .int (nI sA), .int (nI sB), .ref c0, .ref d0])), (t0, .inr (4, [.int (nI np), w1, w2, w3, w4])), (k0, .inr (0, [.int (nI nk), z1, z2, z3]))] sz)) (xm_E D vwCl (va_A [(u0, .inr (6, [.ref k0, .ref t0, .ref l0, .ref o0, .ref p0, .int (nI sA), .int (nI sB), .ref c0, .ref d0])), (t0, .inr (4, [.int (nI np), w1, w2, w3, w4])), (k0, .inr (0, [.int (nI nk), z1, z2, z3]))] sz) (fun (E : String) (u : Unit) => E = "java/lang/IllegalArgumentException" ∧ ¬ (hs_ x np ∧ hs_ y nk)) (fun (u : Unit) => [(u0, .inr (6, [.ref k0, .ref t0, .ref l0, .ref o0, .ref p0, .int (nI sA), .int (nI sB), .ref c0, .ref d0])), (t0, .inr (4, [.int (nI np), w1, w2, w3, w4])), (k0, .inr (0, [.int (nI nk), z1, z2, z3]))])) 1 6 (va_A [(u0, .inr (6, [.ref k0, .ref t0, .ref l0, .ref o0, .ref p0, .int (nI sA), .int (nI sB), .ref c0, .ref d0])), (t0, .inr (4, [.int (nI np), w1, w2, w3, w4])), (k0, .inr (0, [.int (nI nk), z1, z2, z3]))] sz) := by
  refine xm_ofW (cc := cd_U_requirePipeAndKind) (maxL := 3) (ret := none) (by decide) rfl ?_
  intro p e s m args below meth c s₁ BL hml hex hv
  obtain ⟨rfl, hsz, hP, hD0, hK, hX⟩ := hv
  have hT := hX.1
  have hx := BL.exec
  have hb := BL.bytes
  have hr := BL.returns
  have hts : ∀ w ∈ TW, w.before [.ref u0, .int x, .int y].toArray s = true := fun w h => hT.use h _
  have hown : s.vm.findClass "UseOdds" = some m.cls := findClass_of_methodNamed BL.named
  have hlocks := BL.notSynchronized
  subst hsz
  have hD := hD0.self (sz := s.heap.size)
  generalize hAe : va_A [(u0, .inr (6, [.ref k0, .ref t0, .ref l0, .ref o0, .ref p0, .int (nI sA), .int (nI sB), .ref c0, .ref d0])), (t0, .inr (4, [.int (nI np), w1, w2, w3, w4])), (k0, .inr (0, [.int (nI nk), z1, z2, z3]))] s.heap.size = A at hD hX ⊢
  have hA : ∀ q : Nat, s.heap.size ≤ q → A q := fun q h => by rw [← hAe]; exact Or.inr h
  have hS : va_S A s.heap s.heap [] := va_S.rf
  have hl2 := lv_entry ([.ref u0, .int x, .int y]) (n := 3) (Nat.le_of_ble_eq_true rfl)
  rw [lg_entry_eq]
  generalize (lg_sl ([.ref u0, .int x, .int y]) ++ List.replicate (3 - (lg_sl ([.ref u0, .int x, .int y])).length) Slot.unset).toArray = ls at hl2 ⊢
  have hl9 := hl
  have hl : lv_has ls 3 [(0, .ref u0), (1, .int x), (2, .int y)] := hl2
  refine lv_aload_n hx hb dd_U_requirePipeAndKind_0 rfl (lv_at hl 0 rfl) ?_
  refine va_get (D := D) (ci := 6) (v := .ref t0) (C := "UseOdds") (T := TU_) (N := 9) hx hb hts IU_ hown hK hP 0 rfl rfl 1 (by decide) (hts _ tw175) (fun _ h9 => h9) rfl dd_U_requirePipeAndKind_1 ?_
  refine lv_iload_n hx hb dd_U_requirePipeAndKind_4 rfl (lv_at hl 1 rfl) ?_
  refine jw_calli (wc := [(t0, .inr (4, [.int (nI np), w1, w2, w3, w4]))]) (wr := [(u0, .inr (6, [.ref k0, .ref t0, .ref l0, .ref o0, .ref p0, .int (nI sA), .int (nI sB), .ref c0, .ref d0])), (k0, .inr (0, [.int (nI nk), z1, z2, z3]))]) hP hD hS hA [1] [0, 2] rfl rfl rfl (by decide) (va_runV (C := "UseOdds$Tree") (As := [.int x]) (rest := []) ⟨hx, hb, hml, hown, hts⟩ (c_T_has l D cs t0 np w1 w2 w3 w4 x _ hnp) ⟨jw_cB 1 hts tw378 rfl rfl tw3 tw375 (by decide +kernel) ⟨Nat.le_of_ble_eq_true rfl, Nat.le_of_ble_eq_true rfl⟩, hts _ tw376, hts _ tw377⟩ ⟨jw_blind jx_TX, va_recv hK hP (ci := 4) (q0 := 1) rfl rfl, jw_pre (hP.sub [1] rfl) (hD.sub [1] (by decide) rfl) hK (fun U _ hW => hT.warm hW)⟩ rfl rfl hl.1 rfl (lv_room (Nat.le_of_ble_eq_true rfl)) dd_U_requirePipeAndKind_5 ⟨Nat.le_of_ble_eq_true rfl, Nat.le_of_ble_eq_true rfl⟩) (fun r2 u H locs hw hP hD hS => ?_)
  have hP : va_P D vwCl [(u0, .inr (6, [.ref k0, .ref t0, .ref l0, .ref o0, .ref p0, .int (nI sA), .int (nI sB), .ref c0, .ref d0])), (k0, .inr (0, [.int (nI nk), z1, z2, z3])), (t0, .inr (4, [.int (nI np), w1, w2, w3, w4]))] H := hP
  have hD : va_D A [(u0, .inr (6, [.ref k0, .ref t0, .ref l0, .ref o0, .ref p0, .int (nI sA), .int (nI sB), .ref c0, .ref d0])), (k0, .inr (0, [.int (nI nk), z1, z2, z3])), (t0, .inr (4, [.int (nI np), w1, w2, w3, w4]))] := hD
  have hw1 := hw
  refine lv_if_eq (tgt := 26) hx hb dd_U_requirePipeAndKind_8 (by decide) (fun c1 => ?_) (fun c1 => ?_)
  · refine lv_iconst (v := nI 0) hx hb dd_U_requirePipeAndKind_26 (by decide) ?_
    have n1 : ¬ hs_ x np := by
      rcases hw1 with ⟨q, _⟩ | ⟨_, q⟩
      · rw [q] at c1; exact absurd c1 (by decide)
      · exact q
    refine xm_callv (wc := []) (wr := [(u0, .inr (6, [.ref k0, .ref t0, .ref l0, .ref o0, .ref p0, .int (nI sA), .int (nI sB), .ref c0, .ref d0])), (k0, .inr (0, [.int (nI nk), z1, z2, z3])), (t0, .inr (4, [.int (nI np), w1, w2, w3, w4]))]) hP hD hS hA [] [0, 1, 2] rfl rfl rfl (by decide) (xm_runS (As := [.int (nI 0)]) (rest := []) ⟨hx, hb, hml, hown, hts⟩ (c_U_require l hl9 D cs (nI 0) _) ⟨jw_cB 1 hts tw277 rfl rfl tw1 tw275 (by decide +kernel) ⟨Nat.le_of_ble_eq_true rfl, Nat.le_of_ble_eq_true rfl⟩, hts _ tw276⟩ ⟨jw_blind (jx_XC _), jw_pre (hP.sub [] rfl) (hD.sub [] (by decide) rfl) hK (hX.call hS (va_free (wc := []) hD hS hA [] rfl))⟩ rfl rfl hl.1 rfl (lv_room (Nat.le_of_ble_eq_true rfl)) dd_U_requirePipeAndKind_27 ⟨Nat.le_of_ble_eq_true rfl, Nat.le_of_ble_eq_true rfl⟩) (fun E q9 u t H locs hpx hP hD hS ht ho => ?_) (fun u H locs hw hP hD hS => ?_)
    · have hP := hP.sub (ws' := [(u0, .inr (6, [.ref k0, .ref t0, .ref l0, .ref o0, .ref p0, .int (nI sA), .int (nI sB), .ref c0, .ref d0])), (t0, .inr (4, [.int (nI np), w1, w2, w3, w4])), (k0, .inr (0, [.int (nI nk), z1, z2, z3]))]) [0, 2, 1] rfl
      have hD := hD.sub (ws' := [(u0, .inr (6, [.ref k0, .ref t0, .ref l0, .ref o0, .ref p0, .int (nI sA), .int (nI sB), .ref c0, .ref d0])), (t0, .inr (4, [.int (nI np), w1, w2, w3, w4])), (k0, .inr (0, [.int (nI nk), z1, z2, z3]))]) [0, 2, 1] (by decide) rfl
      have hno : ¬ (hs_ x np ∧ hs_ y nk) := fun q => n1 q.1
      exact xm_out hex hlocks ht ho (fun t9 h9 => ⟨(), ⟨hpx.1, hno⟩, ⟨by rw [h9]; exact hP, hD⟩, hS.F h9⟩) hS.2.2 (Nat.le_of_ble_eq_true rfl) (Nat.le_of_ble_eq_true rfl)
    · have hP : va_P D vwCl [(u0, .inr (6, [.ref k0, .ref t0, .ref l0, .ref o0, .ref p0, .int (nI sA), .int (nI sB), .ref c0, .ref d0])), (k0, .inr (0, [.int (nI nk), z1, z2, z3])), (t0, .inr (4, [.int (nI np), w1, w2, w3, w4]))] H := hP
      have hD : va_D A [(u0, .inr (6, [.ref k0, .ref t0, .ref l0, .ref o0, .ref p0, .int (nI sA), .int (nI sB), .ref c0, .ref d0])), (k0, .inr (0, [.int (nI nk), z1, z2, z3])), (t0, .inr (4, [.int (nI np), w1, w2, w3, w4]))] := hD
      exact absurd rfl hw
  · have n1 : hs_ x np := by
      rcases hw1 with ⟨_, q⟩ | ⟨q, _⟩
      · exact q
      · exact absurd (by rw [q]; decide) c1
    refine lv_aload_n hx hb dd_U_requirePipeAndKind_11 rfl (lv_at hl 0 rfl) ?_
    refine va_get (D := D) (ci := 6) (v := .ref k0) (C := "UseOdds") (T := TU_) (N := 9) hx hb hts IU_ hown hK hP 0 rfl rfl 0 (by decide) (hts _ tw174) (fun _ h9 => h9) rfl dd_U_requirePipeAndKind_12 ?_
    refine lv_iload_n hx hb dd_U_requirePipeAndKind_15 rfl (lv_at hl 2 rfl) ?_
    refine jw_calli (wc := [(k0, .inr (0, [.int (nI nk), z1, z2, z3]))]) (wr := [(u0, .inr (6, [.ref k0, .ref t0, .ref l0, .ref o0, .ref p0, .int (nI sA), .int (nI sB), .ref c0, .ref d0])), (t0, .inr (4, [.int (nI np), w1, w2, w3, w4]))]) hP hD hS hA [1] [0, 2] rfl rfl rfl (by decide) (va_runV (C := "UseOdds$Kinds") (As := [.int y]) (rest := []) ⟨hx, hb, hml, hown, hts⟩ (c_K_has l D cs k0 nk z1 z2 z3 y _ hnk) ⟨jw_cB 1 hts tw398 rfl rfl tw2 tw395 (by decide +kernel) ⟨Nat.le_of_ble_eq_true rfl, Nat.le_of_ble_eq_true rfl⟩, hts _ tw396, hts _ tw397⟩ ⟨jw_blind jx_TX, va_recv hK hP (ci := 0) (q0 := 1) rfl rfl, jw_pre (hP.sub [1] rfl) (hD.sub [1] (by decide) rfl) hK (fun U _ hW => hT.warm hW)⟩ rfl rfl hl.1 rfl (lv_room (Nat.le_of_ble_eq_true rfl)) dd_U_requirePipeAndKind_16 ⟨Nat.le_of_ble_eq_true rfl, Nat.le_of_ble_eq_true rfl⟩) (fun r4 u H locs hw hP hD hS => ?_)
    have hP : va_P D vwCl [(u0, .inr (6, [.ref k0, .ref t0, .ref l0, .ref o0, .ref p0, .int (nI sA), .int (nI sB), .ref c0, .ref d0])), (t0, .inr (4, [.int (nI np), w1, w2, w3, w4])), (k0, .inr (0, [.int (nI nk), z1, z2, z3]))] H := hP
    have hD : va_D A [(u0, .inr (6, [.ref k0, .ref t0, .ref l0, .ref o0, .ref p0, .int (nI sA), .int (nI sB), .ref c0, .ref d0])), (t0, .inr (4, [.int (nI np), w1, w2, w3, w4])), (k0, .inr (0, [.int (nI nk), z1, z2, z3]))] := hD
    have hw2 := hw
    refine lv_if_eq (tgt := 26) hx hb dd_U_requirePipeAndKind_19 (by decide) (fun c2 => ?_) (fun c2 => ?_)
    · refine lv_iconst (v := nI 0) hx hb dd_U_requirePipeAndKind_26 (by decide) ?_
      have n2 : ¬ hs_ y nk := by
        rcases hw2 with ⟨q, _⟩ | ⟨_, q⟩
        · rw [q] at c2; exact absurd c2 (by decide)
        · exact q
      refine xm_callv (wc := []) (wr := [(u0, .inr (6, [.ref k0, .ref t0, .ref l0, .ref o0, .ref p0, .int (nI sA), .int (nI sB), .ref c0, .ref d0])), (t0, .inr (4, [.int (nI np), w1, w2, w3, w4])), (k0, .inr (0, [.int (nI nk), z1, z2, z3]))]) hP hD hS hA [] [0, 1, 2] rfl rfl rfl (by decide) (xm_runS (As := [.int (nI 0)]) (rest := []) ⟨hx, hb, hml, hown, hts⟩ (c_U_require l hl9 D cs (nI 0) _) ⟨jw_cB 1 hts tw277 rfl rfl tw1 tw275 (by decide +kernel) ⟨Nat.le_of_ble_eq_true rfl, Nat.le_of_ble_eq_true rfl⟩, hts _ tw276⟩ ⟨jw_blind (jx_XC _), jw_pre (hP.sub [] rfl) (hD.sub [] (by decide) rfl) hK (hX.call hS (va_free (wc := []) hD hS hA [] rfl))⟩ rfl rfl hl.1 rfl (lv_room (Nat.le_of_ble_eq_true rfl)) dd_U_requirePipeAndKind_27 ⟨Nat.le_of_ble_eq_true rfl, Nat.le_of_ble_eq_true rfl⟩) (fun E q9 u t H locs hpx hP hD hS ht ho => ?_) (fun u H locs hw hP hD hS => ?_)
      · have hP := hP.sub (ws' := [(u0, .inr (6, [.ref k0, .ref t0, .ref l0, .ref o0, .ref p0, .int (nI sA), .int (nI sB), .ref c0, .ref d0])), (t0, .inr (4, [.int (nI np), w1, w2, w3, w4])), (k0, .inr (0, [.int (nI nk), z1, z2, z3]))]) [0, 1, 2] rfl
        have hD := hD.sub (ws' := [(u0, .inr (6, [.ref k0, .ref t0, .ref l0, .ref o0, .ref p0, .int (nI sA), .int (nI sB), .ref c0, .ref d0])), (t0, .inr (4, [.int (nI np), w1, w2, w3, w4])), (k0, .inr (0, [.int (nI nk), z1, z2, z3]))]) [0, 1, 2] (by decide) rfl
        have hno : ¬ (hs_ x np ∧ hs_ y nk) := fun q => n2 q.2
        exact xm_out hex hlocks ht ho (fun t9 h9 => ⟨(), ⟨hpx.1, hno⟩, ⟨by rw [h9]; exact hP, hD⟩, hS.F h9⟩) hS.2.2 (Nat.le_of_ble_eq_true rfl) (Nat.le_of_ble_eq_true rfl)
      · have hP : va_P D vwCl [(u0, .inr (6, [.ref k0, .ref t0, .ref l0, .ref o0, .ref p0, .int (nI sA), .int (nI sB), .ref c0, .ref d0])), (t0, .inr (4, [.int (nI np), w1, w2, w3, w4])), (k0, .inr (0, [.int (nI nk), z1, z2, z3]))] H := hP
        have hD : va_D A [(u0, .inr (6, [.ref k0, .ref t0, .ref l0, .ref o0, .ref p0, .int (nI sA), .int (nI sB), .ref c0, .ref d0])), (t0, .inr (4, [.int (nI np), w1, w2, w3, w4])), (k0, .inr (0, [.int (nI nk), z1, z2, z3]))] := hD
        exact absurd rfl hw
    · have n2 : hs_ y nk := by
        rcases hw2 with ⟨_, q⟩ | ⟨q, _⟩
        · exact q
        · exact absurd (by rw [q]; decide) c2
      refine lv_iconst (v := nI 1) hx hb dd_U_requirePipeAndKind_22 (by decide) ?_
      refine lv_goto (tgt := 27) hx hb dd_U_requirePipeAndKind_23 (by decide) ?_
      refine xm_callv (wc := []) (wr := [(u0, .inr (6, [.ref k0, .ref t0, .ref l0, .ref o0, .ref p0, .int (nI sA), .int (nI sB), .ref c0, .ref d0])), (t0, .inr (4, [.int (nI np), w1, w2, w3, w4])), (k0, .inr (0, [.int (nI nk), z1, z2, z3]))]) hP hD hS hA [] [0, 1, 2] rfl rfl rfl (by decide) (xm_runS (As := [.int (nI 1)]) (rest := []) ⟨hx, hb, hml, hown, hts⟩ (c_U_require l hl9 D cs (nI 1) _) ⟨jw_cB 1 hts tw277 rfl rfl tw1 tw275 (by decide +kernel) ⟨Nat.le_of_ble_eq_true rfl, Nat.le_of_ble_eq_true rfl⟩, hts _ tw276⟩ ⟨jw_blind (jx_XC _), jw_pre (hP.sub [] rfl) (hD.sub [] (by decide) rfl) hK (hX.call hS (va_free (wc := []) hD hS hA [] rfl))⟩ rfl rfl hl.1 rfl (lv_room (Nat.le_of_ble_eq_true rfl)) dd_U_requirePipeAndKind_27 ⟨Nat.le_of_ble_eq_true rfl, Nat.le_of_ble_eq_true rfl⟩) (fun E q9 u t H locs hpx hP hD hS ht ho => ?_) (fun u H locs hw hP hD hS => ?_)
      · have hP := hP.sub (ws' := [(u0, .inr (6, [.ref k0, .ref t0, .ref l0, .ref o0, .ref p0, .int (nI sA), .int (nI sB), .ref c0, .ref d0])), (t0, .inr (4, [.int (nI np), w1, w2, w3, w4])), (k0, .inr (0, [.int (nI nk), z1, z2, z3]))]) [0, 1, 2] rfl
        have hD := hD.sub (ws' := [(u0, .inr (6, [.ref k0, .ref t0, .ref l0, .ref o0, .ref p0, .int (nI sA), .int (nI sB), .ref c0, .ref d0])), (t0, .inr (4, [.int (nI np), w1, w2, w3, w4])), (k0, .inr (0, [.int (nI nk), z1, z2, z3]))]) [0, 1, 2] (by decide) rfl
        exact absurd hpx.2 (by decide)
      · have hP : va_P D vwCl [(u0, .inr (6, [.ref k0, .ref t0, .ref l0, .ref o0, .ref p0, .int (nI sA), .int (nI sB), .ref c0, .ref d0])), (t0, .inr (4, [.int (nI np), w1, w2, w3, w4])), (k0, .inr (0, [.int (nI nk), z1, z2, z3]))] H := hP
        have hD : va_D A [(u0, .inr (6, [.ref k0, .ref t0, .ref l0, .ref o0, .ref p0, .int (nI sA), .int (nI sB), .ref c0, .ref d0])), (t0, .inr (4, [.int (nI np), w1, w2, w3, w4])), (k0, .inr (0, [.int (nI nk), z1, z2, z3]))] := hD
        have hP := hP.sub (ws' := [(u0, .inr (6, [.ref k0, .ref t0, .ref l0, .ref o0, .ref p0, .int (nI sA), .int (nI sB), .ref c0, .ref d0])), (t0, .inr (4, [.int (nI np), w1, w2, w3, w4])), (k0, .inr (0, [.int (nI nk), z1, z2, z3]))]) [0, 1, 2] rfl
        have hD := hD.sub (ws' := [(u0, .inr (6, [.ref k0, .ref t0, .ref l0, .ref o0, .ref p0, .int (nI sA), .int (nI sB), .ref c0, .ref d0])), (t0, .inr (4, [.int (nI np), w1, w2, w3, w4])), (k0, .inr (0, [.int (nI nk), z1, z2, z3]))]) [0, 1, 2] (by decide) rfl
        refine W.widen (k := 1) (n := 6) (Nat.le_of_ble_eq_true rfl) (Nat.le_of_ble_eq_true rfl) ?_
        exact xm_ret (W.vret hx hb hr (fun t ht hW => ⟨⟨(), rfl, ⟨n1, n2⟩, by rw [ht]; exact hP, hD⟩, hS.F ht⟩) hS.2.2 dd_U_requirePipeAndKind_30)
