set_option maxHeartbeats 4000000 in
set_option maxRecDepth 100000 in
theorem c_U_pipe (l : Launch) (hl : l.stackTraces = false) (D : va_G) (cs : Nat → ClassId) (u0 k0 t0 l0 o0 p0 sA sB c0 d0 : Nat) (t1 t2 np : Nat) (par ln : Nat → Nat) (v3 v4 : Value) (x y : Int32) (sz : Nat) (hnp : np ≤ 20) : xm_ l ym_U_pipe [.code ym_U_pipe cd_U_pipe 3 (some .int)] ({ frames := 7, cells := 3, slots := 18, locals := 102 } : Room) (jw_Pc D vwCl (jt cs) [(u0, .inr (6, [.ref k0, .ref t0, .ref l0, .ref o0, .ref p0, .int (nI sA), .int (nI sB), .ref c0, .ref d0])), (t0, .inr (4, [.int (nI np), .ref t1, .ref t2, v3, v4])), (t1, .inl (cs 0, 20, .inl (fun i => nI (par i) - 1))), (t2, .inl (cs 0, 20, .inl (fun i => nI (ln i))))] sz (XC (va_A [(u0, .inr (6, [.ref k0, .ref t0, .ref l0, .ref o0, .ref p0, .int (nI sA), .int (nI sB), .ref c0, .ref d0])), (t0, .inr (4, [.int (nI np), .ref t1, .ref t2, v3, v4])), (t1, .inl (cs 0, 20, .inl (fun i => nI (par i) - 1))), (t2, .inl (cs 0, 20, .inl (fun i => nI (ln i))))] sz)) [.ref u0, .int x, .int y]) (va_Qi (fun (r : Int32) (u : Nat × Nat) => gp_ np x y u ∧ np < 20 ∧ r = nI np) (jw_B D vwCl (va_A [(u0, .inr (6, [.ref k0, .ref t0, .ref l0, .ref o0, .ref p0, .int (nI sA), .int (nI sB), .ref c0, .ref d0])), (t0, .inr (4, [.int (nI np), .ref t1, .ref t2, v3, v4])), (t1, .inl (cs 0, 20, .inl (fun i => nI (par i) - 1))), (t2, .inl (cs 0, 20, .inl (fun i => nI (ln i))))] sz) (fun (u : Nat × Nat) => [(u0, .inr (6, [.ref k0, .ref t0, .ref l0, .ref o0, .ref p0, .int (nI sA), .int (nI sB), .ref c0, .ref d0])), (t0, .inr (4, [.int (nI (np + 1)), .ref t1, .ref t2, v3, v4])), (t1, .inl (cs 0, 20, .inl (fun i => nI (un_ par np u.1 i) - 1))), (t2, .inl (cs 0, 20, .inl (fun i => nI (un_ ln np u.2 i))))])) (va_A [(u0, .inr (6, [.ref k0, .ref t0, .ref l0, .ref o0, .ref p0, .int (nI sA), .int (nI sB), .ref c0, .ref d0])), (t0, .inr (4, [.int (nI np), .ref t1, .ref t2, v3, v4])), (t1, .inl (cs 0, 20, .inl (fun i => nI (par i) - 1))), (t2, .inl (cs 0, 20, .inl (fun i => nI (ln i))))] sz)) (xm_E D vwCl (va_A [(u0, .inr (6, [.ref k0, .ref t0, .ref l0, .ref o0, .ref p0, .int (nI sA), .int (nI sB), .ref c0, .ref d0])), (t0, .inr (4, [.int (nI np), .ref t1, .ref t2, v3, v4])), (t1, .inl (cs 0, 20, .inl (fun i => nI (par i) - 1))), (t2, .inl (cs 0, 20, .inl (fun i => nI (ln i))))] sz) (fun (E : String) (u : Unit) => (E = "java/lang/IllegalArgumentException" ∧ ∀ u, ¬ gp_ np x y u) ∨ (E = "java/lang/IllegalStateException" ∧ (∃ u, gp_ np x y u) ∧ np = 20)) (fun (u : Unit) => [(u0, .inr (6, [.ref k0, .ref t0, .ref l0, .ref o0, .ref p0, .int (nI sA), .int (nI sB), .ref c0, .ref d0])), (t0, .inr (4, [.int (nI np), .ref t1, .ref t2, v3, v4])), (t1, .inl (cs 0, 20, .inl (fun i => nI (par i) - 1))), (t2, .inl (cs 0, 20, .inl (fun i => nI (ln i))))])) 3 18 (va_A [(u0, .inr (6, [.ref k0, .ref t0, .ref l0, .ref o0, .ref p0, .int (nI sA), .int (nI sB), .ref c0, .ref d0])), (t0, .inr (4, [.int (nI np), .ref t1, .ref t2, v3, v4])), (t1, .inl (cs 0, 20, .inl (fun i => nI (par i) - 1))), (t2, .inl (cs 0, 20, .inl (fun i => nI (ln i))))] sz) := by
  refine xm_ofW (cc := cd_U_pipe) (maxL := 3) (ret := (some .int)) (by decide) rfl ?_
  intro p e s m args below meth c s₁ BL hml hex hv
  obtain ⟨rfl, hsz, hP, hD0, hK, hX⟩ := hv
  have hT := hX.1
  have hx := BL.exec
  have hb := BL.bytes
  have hr := BL.returns
  have hts : ∀ w ∈ TW, w.before [.ref u0, .int x, .int y].toArray s = true := fun w h => hT.use h _
  have hown : s.vm.findClass "UseOdds" = some m.cls := findClass_of_methodNamed BL.named
  have hlocks := BL.notSynchronized
  subst hsz
  have hD := hD0.self (sz := s.heap.size)
  generalize hAe : va_A [(u0, .inr (6, [.ref k0, .ref t0, .ref l0, .ref o0, .ref p0, .int (nI sA), .int (nI sB), .ref c0, .ref d0])), (t0, .inr (4, [.int (nI np), .ref t1, .ref t2, v3, v4])), (t1, .inl (cs 0, 20, .inl (fun i => nI (par i) - 1))), (t2, .inl (cs 0, 20, .inl (fun i => nI (ln i))))] s.heap.size = A at hD hX ⊢
  have hA : ∀ q : Nat, s.heap.size ≤ q → A q := fun q h => by rw [← hAe]; exact Or.inr h
  have hS : va_S A s.heap s.heap [] := va_S.rf
  have hl2 := lv_entry ([.ref u0, .int x, .int y]) (n := 3) (Nat.le_of_ble_eq_true rfl)
  rw [lg_entry_eq]
  generalize (lg_sl ([.ref u0, .int x, .int y]) ++ List.replicate (3 - (lg_sl ([.ref u0, .int x, .int y])).length) Slot.unset).toArray = ls at hl2 ⊢
  have hl9 := hl
  have hl : lv_has ls 3 [(0, .ref u0), (1, .int x), (2, .int y)] := hl2
  refine lv_aload_n hx hb dd_U_pipe_0 rfl (lv_at hl 0 rfl) ?_
  refine va_get (D := D) (ci := 6) (v := .ref t0) (C := "UseOdds") (T := TU_) (N := 9) hx hb hts IU_ hown hK hP 0 rfl rfl 1 (by decide) (hts _ tw175) (fun _ h9 => h9) rfl dd_U_pipe_1 ?_
  refine va_getN (D := D) (ci := 4) (v := .int (nI np)) (C := "UseOdds$Tree") (T := TT_) (N := 5) hx hb hts IT_ hown hK hP 1 rfl rfl 0 (by decide) (hts _ tw58) (fun _ h9 => h9) rfl dd_U_pipe_4 ?_
  refine jw_if_ne (a := np) (tgt := 23) hx hb dd_U_pipe_7 (by decide) (by omega) (fun c1 => ?_) (fun c1 => ?_)
  · refine lv_aload_n hx hb dd_U_pipe_23 rfl (lv_at hl 0 rfl) ?_
    refine va_get (D := D) (ci := 6) (v := .ref t0) (C := "UseOdds") (T := TU_) (N := 9) hx hb hts IU_ hown hK hP 0 rfl rfl 1 (by decide) (hts _ tw175) (fun _ h9 => h9) rfl dd_U_pipe_24 ?_
    refine lv_iload_n hx hb dd_U_pipe_27 rfl (lv_at hl 1 rfl) ?_
    refine jw_calli (wc := [(t0, .inr (4, [.int (nI np), .ref t1, .ref t2, v3, v4]))]) (wr := [(u0, .inr (6, [.ref k0, .ref t0, .ref l0, .ref o0, .ref p0, .int (nI sA), .int (nI sB), .ref c0, .ref d0])), (t1, .inl (cs 0, 20, .inl (fun i => nI (par i) - 1))), (t2, .inl (cs 0, 20, .inl (fun i => nI (ln i))))]) hP hD hS hA [1] [0, 2, 3] rfl rfl rfl (by decide) (va_runV (C := "UseOdds$Tree") (As := [.int x]) (rest := []) ⟨hx, hb, hml, hown, hts⟩ (c_T_has l D cs t0 np (.ref t1) (.ref t2) v3 v4 x _ (by omega)) ⟨jw_cB 1 hts tw378 rfl rfl tw3 tw375 (by decide +kernel) ⟨Nat.le_of_ble_eq_true rfl, Nat.le_of_ble_eq_true rfl⟩, hts _ tw376, hts _ tw377⟩ ⟨jw_blind jx_TX, va_recv hK hP (ci := 4) (q0 := 1) rfl rfl, jw_pre (hP.sub [1] rfl) (hD.sub [1] (by decide) rfl) hK (fun U _ hW => hT.warm hW)⟩ rfl rfl hl.1 rfl (lv_room (Nat.le_of_ble_eq_true rfl)) dd_U_pipe_28 ⟨Nat.le_of_ble_eq_true rfl, Nat.le_of_ble_eq_true rfl⟩) (fun r0 u H locs hw hP hD hS => ?_)
    have hP : va_P D vwCl [(u0, .inr (6, [.ref k0, .ref t0, .ref l0, .ref o0, .ref p0, .int (nI sA), .int (nI sB), .ref c0, .ref d0])), (t1, .inl (cs 0, 20, .inl (fun i => nI (par i) - 1))), (t2, .inl (cs 0, 20, .inl (fun i => nI (ln i)))), (t0, .inr (4, [.int (nI np), .ref t1, .ref t2, v3, v4]))] H := hP
    have hD : va_D A [(u0, .inr (6, [.ref k0, .ref t0, .ref l0, .ref o0, .ref p0, .int (nI sA), .int (nI sB), .ref c0, .ref d0])), (t1, .inl (cs 0, 20, .inl (fun i => nI (par i) - 1))), (t2, .inl (cs 0, 20, .inl (fun i => nI (ln i)))), (t0, .inr (4, [.int (nI np), .ref t1, .ref t2, v3, v4]))] := hD
    have hv1 := hw
    refine xm_callv (wc := []) (wr := [(u0, .inr (6, [.ref k0, .ref t0, .ref l0, .ref o0, .ref p0, .int (nI sA), .int (nI sB), .ref c0, .ref d0])), (t1, .inl (cs 0, 20, .inl (fun i => nI (par i) - 1))), (t2, .inl (cs 0, 20, .inl (fun i => nI (ln i)))), (t0, .inr (4, [.int (nI np), .ref t1, .ref t2, v3, v4]))]) hP hD hS hA [] [0, 1, 2, 3] rfl rfl rfl (by decide) (xm_runS (As := [.int r0]) (rest := []) ⟨hx, hb, hml, hown, hts⟩ (c_U_require l hl9 D cs r0 _) ⟨jw_cB 1 hts tw277 rfl rfl tw1 tw275 (by decide +kernel) ⟨Nat.le_of_ble_eq_true rfl, Nat.le_of_ble_eq_true rfl⟩, hts _ tw276⟩ ⟨jw_blind (jx_XC _), jw_pre (hP.sub [] rfl) (hD.sub [] (by decide) rfl) hK (hX.call hS (va_free (wc := []) hD hS hA [] rfl))⟩ rfl rfl hl.1 rfl (lv_room (Nat.le_of_ble_eq_true rfl)) dd_U_pipe_31 ⟨Nat.le_of_ble_eq_true rfl, Nat.le_of_ble_eq_true rfl⟩) (fun E q9 u t H locs hpx hP hD hS ht ho => ?_) (fun u H locs hw hP hD hS => ?_)
    · have hP := hP.sub (ws' := [(u0, .inr (6, [.ref k0, .ref t0, .ref l0, .ref o0, .ref p0, .int (nI sA), .int (nI sB), .ref c0, .ref d0])), (t0, .inr (4, [.int (nI np), .ref t1, .ref t2, v3, v4])), (t1, .inl (cs 0, 20, .inl (fun i => nI (par i) - 1))), (t2, .inl (cs 0, 20, .inl (fun i => nI (ln i))))]) [0, 3, 1, 2] rfl
      have hD := hD.sub (ws' := [(u0, .inr (6, [.ref k0, .ref t0, .ref l0, .ref o0, .ref p0, .int (nI sA), .int (nI sB), .ref c0, .ref d0])), (t0, .inr (4, [.int (nI np), .ref t1, .ref t2, v3, v4])), (t1, .inl (cs 0, 20, .inl (fun i => nI (par i) - 1))), (t2, .inl (cs 0, 20, .inl (fun i => nI (ln i))))]) [0, 3, 1, 2] (by decide) rfl
      have n1 := rq_n hv1 hpx.2
      exact xm_out hex hlocks ht ho (fun t9 h9 => ⟨(), Or.inl ⟨hpx.1, fun u q => gp_n c1 n1 u q⟩, ⟨by rw [h9]; exact hP, hD⟩, hS.F h9⟩) hS.2.2 (Nat.le_of_ble_eq_true rfl) (Nat.le_of_ble_eq_true rfl)
    · have hP : va_P D vwCl [(u0, .inr (6, [.ref k0, .ref t0, .ref l0, .ref o0, .ref p0, .int (nI sA), .int (nI sB), .ref c0, .ref d0])), (t1, .inl (cs 0, 20, .inl (fun i => nI (par i) - 1))), (t2, .inl (cs 0, 20, .inl (fun i => nI (ln i)))), (t0, .inr (4, [.int (nI np), .ref t1, .ref t2, v3, v4]))] H := hP
      have hD : va_D A [(u0, .inr (6, [.ref k0, .ref t0, .ref l0, .ref o0, .ref p0, .int (nI sA), .int (nI sB), .ref c0, .ref d0])), (t1, .inl (cs 0, 20, .inl (fun i => nI (par i) - 1))), (t2, .inl (cs 0, 20, .inl (fun i => nI (ln i)))), (t0, .inr (4, [.int (nI np), .ref t1, .ref t2, v3, v4]))] := hD
      have hP := hP.sub (ws' := [(u0, .inr (6, [.ref k0, .ref t0, .ref l0, .ref o0, .ref p0, .int (nI sA), .int (nI sB), .ref c0, .ref d0])), (t0, .inr (4, [.int (nI np), .ref t1, .ref t2, v3, v4])), (t1, .inl (cs 0, 20, .inl (fun i => nI (par i) - 1))), (t2, .inl (cs 0, 20, .inl (fun i => nI (ln i))))]) [0, 3, 1, 2] rfl
      have hD := hD.sub (ws' := [(u0, .inr (6, [.ref k0, .ref t0, .ref l0, .ref o0, .ref p0, .int (nI sA), .int (nI sB), .ref c0, .ref d0])), (t0, .inr (4, [.int (nI np), .ref t1, .ref t2, v3, v4])), (t1, .inl (cs 0, 20, .inl (fun i => nI (par i) - 1))), (t2, .inl (cs 0, 20, .inl (fun i => nI (ln i))))]) [0, 3, 1, 2] (by decide) rfl
      have y1 := rq_y hv1 hw
      obtain ⟨k, hk, rfl⟩ := y1
      rw [← nI_pred k] at hl
      refine lv_iload_n hx hb dd_U_pipe_34 rfl (lv_at hl 2 rfl) ?_
      refine lv_iconst (v := nI 1) hx hb dd_U_pipe_35 (by decide) ?_
      refine lv_sipush (v := nI 1000) hx hb dd_U_pipe_36 (by decide) ?_
      refine jw_calli (wc := []) (wr := [(u0, .inr (6, [.ref k0, .ref t0, .ref l0, .ref o0, .ref p0, .int (nI sA), .int (nI sB), .ref c0, .ref d0])), (t0, .inr (4, [.int (nI np), .ref t1, .ref t2, v3, v4])), (t1, .inl (cs 0, 20, .inl (fun i => nI (par i) - 1))), (t2, .inl (cs 0, 20, .inl (fun i => nI (ln i))))]) hP hD hS hA [] [0, 1, 2, 3] rfl rfl rfl (by decide) (va_runS (As := [.int y, .int (nI 1), .int (nI 1000)]) (rest := []) ⟨hx, hb, hml, hown, hts⟩ (c_U_isWithin l D cs y (nI 1) (nI 1000) _) ⟨jw_cB 3 hts tw274 rfl rfl tw1 tw272 (by decide +kernel) ⟨Nat.le_of_ble_eq_true rfl, Nat.le_of_ble_eq_true rfl⟩, hts _ tw273⟩ ⟨jw_blind jx_TX, jw_pre (hP.sub [] rfl) (hD.sub [] (by decide) rfl) hK (fun U _ hW => hT.warm hW)⟩ rfl rfl hl.1 rfl (lv_room (Nat.le_of_ble_eq_true rfl)) dd_U_pipe_39 ⟨Nat.le_of_ble_eq_true rfl, Nat.le_of_ble_eq_true rfl⟩) (fun r2 u H locs hw hP hD hS => ?_)
      have hP : va_P D vwCl [(u0, .inr (6, [.ref k0, .ref t0, .ref l0, .ref o0, .ref p0, .int (nI sA), .int (nI sB), .ref c0, .ref d0])), (t0, .inr (4, [.int (nI np), .ref t1, .ref t2, v3, v4])), (t1, .inl (cs 0, 20, .inl (fun i => nI (par i) - 1))), (t2, .inl (cs 0, 20, .inl (fun i => nI (ln i))))] H := hP
      have hD : va_D A [(u0, .inr (6, [.ref k0, .ref t0, .ref l0, .ref o0, .ref p0, .int (nI sA), .int (nI sB), .ref c0, .ref d0])), (t0, .inr (4, [.int (nI np), .ref t1, .ref t2, v3, v4])), (t1, .inl (cs 0, 20, .inl (fun i => nI (par i) - 1))), (t2, .inl (cs 0, 20, .inl (fun i => nI (ln i))))] := hD
      rw [wi_of (by decide) (by decide)] at hw
      have hv2 := hw
      refine xm_callv (wc := []) (wr := [(u0, .inr (6, [.ref k0, .ref t0, .ref l0, .ref o0, .ref p0, .int (nI sA), .int (nI sB), .ref c0, .ref d0])), (t0, .inr (4, [.int (nI np), .ref t1, .ref t2, v3, v4])), (t1, .inl (cs 0, 20, .inl (fun i => nI (par i) - 1))), (t2, .inl (cs 0, 20, .inl (fun i => nI (ln i))))]) hP hD hS hA [] [0, 1, 2, 3] rfl rfl rfl (by decide) (xm_runS (As := [.int r2]) (rest := []) ⟨hx, hb, hml, hown, hts⟩ (c_U_require l hl9 D cs r2 _) ⟨jw_cB 1 hts tw277 rfl rfl tw1 tw275 (by decide +kernel) ⟨Nat.le_of_ble_eq_true rfl, Nat.le_of_ble_eq_true rfl⟩, hts _ tw276⟩ ⟨jw_blind (jx_XC _), jw_pre (hP.sub [] rfl) (hD.sub [] (by decide) rfl) hK (hX.call hS (va_free (wc := []) hD hS hA [] rfl))⟩ rfl rfl hl.1 rfl (lv_room (Nat.le_of_ble_eq_true rfl)) dd_U_pipe_42 ⟨Nat.le_of_ble_eq_true rfl, Nat.le_of_ble_eq_true rfl⟩) (fun E q9 u t H locs hpx hP hD hS ht ho => ?_) (fun u H locs hw hP hD hS => ?_)
      · have n2 := rq_n hv2 hpx.2
        exact xm_out hex hlocks ht ho (fun t9 h9 => ⟨(), Or.inl ⟨hpx.1, fun u q => n2 ⟨u.2, q.2.2.2.2.1, q.2.2.2.2.2, q.2.2.2.1⟩⟩, ⟨by rw [h9]; exact hP, hD⟩, hS.F h9⟩) hS.2.2 (Nat.le_of_ble_eq_true rfl) (Nat.le_of_ble_eq_true rfl)
      · have hP : va_P D vwCl [(u0, .inr (6, [.ref k0, .ref t0, .ref l0, .ref o0, .ref p0, .int (nI sA), .int (nI sB), .ref c0, .ref d0])), (t0, .inr (4, [.int (nI np), .ref t1, .ref t2, v3, v4])), (t1, .inl (cs 0, 20, .inl (fun i => nI (par i) - 1))), (t2, .inl (cs 0, 20, .inl (fun i => nI (ln i))))] H := hP
        have hD : va_D A [(u0, .inr (6, [.ref k0, .ref t0, .ref l0, .ref o0, .ref p0, .int (nI sA), .int (nI sB), .ref c0, .ref d0])), (t0, .inr (4, [.int (nI np), .ref t1, .ref t2, v3, v4])), (t1, .inl (cs 0, 20, .inl (fun i => nI (par i) - 1))), (t2, .inl (cs 0, 20, .inl (fun i => nI (ln i))))] := hD
        have y2 := rq_y hv2 hw
        obtain ⟨g, g1, g2, rfl⟩ := y2
        refine lv_aload_n hx hb dd_U_pipe_45 rfl (lv_at hl 0 rfl) ?_
        refine va_get (D := D) (ci := 6) (v := .ref t0) (C := "UseOdds") (T := TU_) (N := 9) hx hb hts IU_ hown hK hP 0 rfl rfl 1 (by decide) (hts _ tw175) (fun _ h9 => h9) rfl dd_U_pipe_46 ?_
        refine va_getN (D := D) (ci := 4) (v := .int (nI np)) (C := "UseOdds$Tree") (T := TT_) (N := 5) hx hb hts IT_ hown hK hP 1 rfl rfl 0 (by decide) (hts _ tw58) (fun _ h9 => h9) rfl dd_U_pipe_49 ?_
        refine lv_bipush (v := nI 20) hx hb dd_U_pipe_52 (by decide) ?_
        refine jw_icmp_lt (a := np) (b := 20) (tgt := 67) hx hb dd_U_pipe_54 (by decide) (by omega) (by omega) (fun c3 => ?_) (fun c3 => ?_)
        · refine lv_aload_n hx hb dd_U_pipe_67 rfl (lv_at hl 0 rfl) ?_
          refine va_get (D := D) (ci := 6) (v := .ref t0) (C := "UseOdds") (T := TU_) (N := 9) hx hb hts IU_ hown hK hP 0 rfl rfl 1 (by decide) (hts _ tw175) (fun _ h9 => h9) rfl dd_U_pipe_68 ?_
          refine lv_iload_n hx hb dd_U_pipe_71 rfl (lv_at hl 1 rfl) ?_
          refine lv_iload_n hx hb dd_U_pipe_72 rfl (lv_at hl 2 rfl) ?_
          refine jw_calli (wc := [(t0, .inr (4, [.int (nI np), .ref t1, .ref t2, v3, v4])), (t1, .inl (cs 0, 20, .inl (fun i => nI (par i) - 1))), (t2, .inl (cs 0, 20, .inl (fun i => nI (ln i))))]) (wr := [(u0, .inr (6, [.ref k0, .ref t0, .ref l0, .ref o0, .ref p0, .int (nI sA), .int (nI sB), .ref c0, .ref d0]))]) hP hD hS hA [1, 2, 3] [0] rfl rfl rfl (by decide) (va_runV (C := "UseOdds$Tree") (As := [.int (nI (k + 1) - 1), .int (nI g)]) (rest := []) ⟨hx, hb, hml, hown, hts⟩ (c_T_append l D cs t0 t1 t2 np (k + 1) g par ln v3 v4 _ (by omega)) ⟨jw_cB 2 hts tw383 rfl rfl tw3 tw380 (by decide +kernel) ⟨Nat.le_of_ble_eq_true rfl, Nat.le_of_ble_eq_true rfl⟩, hts _ tw381, hts _ tw382⟩ ⟨jw_blind jx_TX, va_recv hK hP (ci := 4) (q0 := 1) rfl rfl, jw_pre (hP.sub [1, 2, 3] rfl) (hD.sub [1, 2, 3] (by decide) rfl) hK (fun U _ hW => hT.warm hW)⟩ rfl rfl hl.1 rfl (lv_room (Nat.le_of_ble_eq_true rfl)) dd_U_pipe_73 ⟨Nat.le_of_ble_eq_true rfl, Nat.le_of_ble_eq_true rfl⟩) (fun r4 u H locs hw hP hD hS => ?_)
          have hP : va_P D vwCl [(u0, .inr (6, [.ref k0, .ref t0, .ref l0, .ref o0, .ref p0, .int (nI sA), .int (nI sB), .ref c0, .ref d0])), (t0, .inr (4, [.int (nI (np + 1)), .ref t1, .ref t2, v3, v4])), (t1, .inl (cs 0, 20, .inl (fun i => nI (un_ par np (k + 1) i) - 1))), (t2, .inl (cs 0, 20, .inl (fun i => nI (un_ ln np g i))))] H := hP
          have hD : va_D A [(u0, .inr (6, [.ref k0, .ref t0, .ref l0, .ref o0, .ref p0, .int (nI sA), .int (nI sB), .ref c0, .ref d0])), (t0, .inr (4, [.int (nI (np + 1)), .ref t1, .ref t2, v3, v4])), (t1, .inl (cs 0, 20, .inl (fun i => nI (un_ par np (k + 1) i) - 1))), (t2, .inl (cs 0, 20, .inl (fun i => nI (un_ ln np g i))))] := hD
          refine W.widen (k := 3) (n := 18) (Nat.le_of_ble_eq_true rfl) (Nat.le_of_ble_eq_true rfl) ?_
          exact xm_ret (W.iret (v := r4) hx hb hr (fun t ht hW => ⟨⟨_, (k + 1, g), rfl, ⟨⟨(nI_pred k).symm, fun q => absurd q c1, fun _ => ⟨by omega, by omega⟩, rfl, g1, g2⟩, by omega, hw⟩, by rw [ht]; exact hP, hD⟩, hS.F ht⟩) hS.2.2 dd_U_pipe_76)
        · exact xt_ise (text := "there are 20 pipes") hx hb hl9 hown hX hS (by decide +kernel) (hl.1.trans hml.symm) dd_U_pipe_57 dd_U_pipe_60 dd_U_pipe_61 dd_U_pipe_63 dd_U_pipe_66 hex (Nat.le_of_ble_eq_true rfl) (Nat.le_of_ble_eq_true rfl) (Nat.le_of_ble_eq_true rfl) (Nat.le_of_ble_eq_true rfl) hlocks () (Or.inr ⟨rfl, ⟨(k + 1, g), (nI_pred k).symm, fun q => absurd q c1, fun _ => ⟨by omega, by omega⟩, rfl, g1, g2⟩, by omega⟩) hP hD (Nat.le_of_ble_eq_true rfl) (Nat.le_of_ble_eq_true rfl)
  · refine lv_iload_n hx hb dd_U_pipe_10 rfl (lv_at hl 1 rfl) ?_
    refine lv_iconst (v := -1) hx hb dd_U_pipe_11 (by decide) ?_
    refine lv_icmp_ne (tgt := 19) hx hb dd_U_pipe_12 (by decide) (fun c2 => ?_) (fun c2 => ?_)
    · refine lv_iconst (v := nI 0) hx hb dd_U_pipe_19 (by decide) ?_
      refine lv_goto (tgt := 31) hx hb dd_U_pipe_20 (by decide) ?_
      refine xm_callv (wc := []) (wr := [(u0, .inr (6, [.ref k0, .ref t0, .ref l0, .ref o0, .ref p0, .int (nI sA), .int (nI sB), .ref c0, .ref d0])), (t0, .inr (4, [.int (nI np), .ref t1, .ref t2, v3, v4])), (t1, .inl (cs 0, 20, .inl (fun i => nI (par i) - 1))), (t2, .inl (cs 0, 20, .inl (fun i => nI (ln i))))]) hP hD hS hA [] [0, 1, 2, 3] rfl rfl rfl (by decide) (xm_runS (As := [.int (nI 0)]) (rest := []) ⟨hx, hb, hml, hown, hts⟩ (c_U_require l hl9 D cs (nI 0) _) ⟨jw_cB 1 hts tw277 rfl rfl tw1 tw275 (by decide +kernel) ⟨Nat.le_of_ble_eq_true rfl, Nat.le_of_ble_eq_true rfl⟩, hts _ tw276⟩ ⟨jw_blind (jx_XC _), jw_pre (hP.sub [] rfl) (hD.sub [] (by decide) rfl) hK (hX.call hS (va_free (wc := []) hD hS hA [] rfl))⟩ rfl rfl hl.1 rfl (lv_room (Nat.le_of_ble_eq_true rfl)) dd_U_pipe_31 ⟨Nat.le_of_ble_eq_true rfl, Nat.le_of_ble_eq_true rfl⟩) (fun E q9 u t H locs hpx hP hD hS ht ho => ?_) (fun u H locs hw hP hD hS => ?_)
      · exact xm_out hex hlocks ht ho (fun t9 h9 => ⟨(), Or.inl ⟨hpx.1, fun u q => by
              obtain ⟨q1, q2, -⟩ := q
              rw [q2 c1] at q1
              exact c2 (q1.trans (by decide))⟩, ⟨by rw [h9]; exact hP, hD⟩, hS.F h9⟩) hS.2.2 (Nat.le_of_ble_eq_true rfl) (Nat.le_of_ble_eq_true rfl)
      · have hP : va_P D vwCl [(u0, .inr (6, [.ref k0, .ref t0, .ref l0, .ref o0, .ref p0, .int (nI sA), .int (nI sB), .ref c0, .ref d0])), (t0, .inr (4, [.int (nI np), .ref t1, .ref t2, v3, v4])), (t1, .inl (cs 0, 20, .inl (fun i => nI (par i) - 1))), (t2, .inl (cs 0, 20, .inl (fun i => nI (ln i))))] H := hP
        have hD : va_D A [(u0, .inr (6, [.ref k0, .ref t0, .ref l0, .ref o0, .ref p0, .int (nI sA), .int (nI sB), .ref c0, .ref d0])), (t0, .inr (4, [.int (nI np), .ref t1, .ref t2, v3, v4])), (t1, .inl (cs 0, 20, .inl (fun i => nI (par i) - 1))), (t2, .inl (cs 0, 20, .inl (fun i => nI (ln i))))] := hD
        exact absurd rfl hw
    · refine lv_iconst (v := nI 1) hx hb dd_U_pipe_15 (by decide) ?_
      refine lv_goto (tgt := 31) hx hb dd_U_pipe_16 (by decide) ?_
      refine xm_callv (wc := []) (wr := [(u0, .inr (6, [.ref k0, .ref t0, .ref l0, .ref o0, .ref p0, .int (nI sA), .int (nI sB), .ref c0, .ref d0])), (t0, .inr (4, [.int (nI np), .ref t1, .ref t2, v3, v4])), (t1, .inl (cs 0, 20, .inl (fun i => nI (par i) - 1))), (t2, .inl (cs 0, 20, .inl (fun i => nI (ln i))))]) hP hD hS hA [] [0, 1, 2, 3] rfl rfl rfl (by decide) (xm_runS (As := [.int (nI 1)]) (rest := []) ⟨hx, hb, hml, hown, hts⟩ (c_U_require l hl9 D cs (nI 1) _) ⟨jw_cB 1 hts tw277 rfl rfl tw1 tw275 (by decide +kernel) ⟨Nat.le_of_ble_eq_true rfl, Nat.le_of_ble_eq_true rfl⟩, hts _ tw276⟩ ⟨jw_blind (jx_XC _), jw_pre (hP.sub [] rfl) (hD.sub [] (by decide) rfl) hK (hX.call hS (va_free (wc := []) hD hS hA [] rfl))⟩ rfl rfl hl.1 rfl (lv_room (Nat.le_of_ble_eq_true rfl)) dd_U_pipe_31 ⟨Nat.le_of_ble_eq_true rfl, Nat.le_of_ble_eq_true rfl⟩) (fun E q9 u t H locs hpx hP hD hS ht ho => ?_) (fun u H locs hw hP hD hS => ?_)
      · exact absurd hpx.2 (by decide)
      · have hP : va_P D vwCl [(u0, .inr (6, [.ref k0, .ref t0, .ref l0, .ref o0, .ref p0, .int (nI sA), .int (nI sB), .ref c0, .ref d0])), (t0, .inr (4, [.int (nI np), .ref t1, .ref t2, v3, v4])), (t1, .inl (cs 0, 20, .inl (fun i => nI (par i) - 1))), (t2, .inl (cs 0, 20, .inl (fun i => nI (ln i))))] H := hP
        have hD : va_D A [(u0, .inr (6, [.ref k0, .ref t0, .ref l0, .ref o0, .ref p0, .int (nI sA), .int (nI sB), .ref c0, .ref d0])), (t0, .inr (4, [.int (nI np), .ref t1, .ref t2, v3, v4])), (t1, .inl (cs 0, 20, .inl (fun i => nI (par i) - 1))), (t2, .inl (cs 0, 20, .inl (fun i => nI (ln i))))] := hD
        have e1 : x = nI 0 - 1 := c2.trans (by decide)
        subst e1
        refine lv_iload_n hx hb dd_U_pipe_34 rfl (lv_at hl 2 rfl) ?_
        refine lv_iconst (v := nI 1) hx hb dd_U_pipe_35 (by decide) ?_
        refine lv_sipush (v := nI 1000) hx hb dd_U_pipe_36 (by decide) ?_
        refine jw_calli (wc := []) (wr := [(u0, .inr (6, [.ref k0, .ref t0, .ref l0, .ref o0, .ref p0, .int (nI sA), .int (nI sB), .ref c0, .ref d0])), (t0, .inr (4, [.int (nI np), .ref t1, .ref t2, v3, v4])), (t1, .inl (cs 0, 20, .inl (fun i => nI (par i) - 1))), (t2, .inl (cs 0, 20, .inl (fun i => nI (ln i))))]) hP hD hS hA [] [0, 1, 2, 3] rfl rfl rfl (by decide) (va_runS (As := [.int y, .int (nI 1), .int (nI 1000)]) (rest := []) ⟨hx, hb, hml, hown, hts⟩ (c_U_isWithin l D cs y (nI 1) (nI 1000) _) ⟨jw_cB 3 hts tw274 rfl rfl tw1 tw272 (by decide +kernel) ⟨Nat.le_of_ble_eq_true rfl, Nat.le_of_ble_eq_true rfl⟩, hts _ tw273⟩ ⟨jw_blind jx_TX, jw_pre (hP.sub [] rfl) (hD.sub [] (by decide) rfl) hK (fun U _ hW => hT.warm hW)⟩ rfl rfl hl.1 rfl (lv_room (Nat.le_of_ble_eq_true rfl)) dd_U_pipe_39 ⟨Nat.le_of_ble_eq_true rfl, Nat.le_of_ble_eq_true rfl⟩) (fun r7 u H locs hw hP hD hS => ?_)
        have hP : va_P D vwCl [(u0, .inr (6, [.ref k0, .ref t0, .ref l0, .ref o0, .ref p0, .int (nI sA), .int (nI sB), .ref c0, .ref d0])), (t0, .inr (4, [.int (nI np), .ref t1, .ref t2, v3, v4])), (t1, .inl (cs 0, 20, .inl (fun i => nI (par i) - 1))), (t2, .inl (cs 0, 20, .inl (fun i => nI (ln i))))] H := hP
        have hD : va_D A [(u0, .inr (6, [.ref k0, .ref t0, .ref l0, .ref o0, .ref p0, .int (nI sA), .int (nI sB), .ref c0, .ref d0])), (t0, .inr (4, [.int (nI np), .ref t1, .ref t2, v3, v4])), (t1, .inl (cs 0, 20, .inl (fun i => nI (par i) - 1))), (t2, .inl (cs 0, 20, .inl (fun i => nI (ln i))))] := hD
        rw [wi_of (by decide) (by decide)] at hw
        have hv2 := hw
        refine xm_callv (wc := []) (wr := [(u0, .inr (6, [.ref k0, .ref t0, .ref l0, .ref o0, .ref p0, .int (nI sA), .int (nI sB), .ref c0, .ref d0])), (t0, .inr (4, [.int (nI np), .ref t1, .ref t2, v3, v4])), (t1, .inl (cs 0, 20, .inl (fun i => nI (par i) - 1))), (t2, .inl (cs 0, 20, .inl (fun i => nI (ln i))))]) hP hD hS hA [] [0, 1, 2, 3] rfl rfl rfl (by decide) (xm_runS (As := [.int r7]) (rest := []) ⟨hx, hb, hml, hown, hts⟩ (c_U_require l hl9 D cs r7 _) ⟨jw_cB 1 hts tw277 rfl rfl tw1 tw275 (by decide +kernel) ⟨Nat.le_of_ble_eq_true rfl, Nat.le_of_ble_eq_true rfl⟩, hts _ tw276⟩ ⟨jw_blind (jx_XC _), jw_pre (hP.sub [] rfl) (hD.sub [] (by decide) rfl) hK (hX.call hS (va_free (wc := []) hD hS hA [] rfl))⟩ rfl rfl hl.1 rfl (lv_room (Nat.le_of_ble_eq_true rfl)) dd_U_pipe_42 ⟨Nat.le_of_ble_eq_true rfl, Nat.le_of_ble_eq_true rfl⟩) (fun E q9 u t H locs hpx hP hD hS ht ho => ?_) (fun u H locs hw hP hD hS => ?_)
        · have n2 := rq_n hv2 hpx.2
          exact xm_out hex hlocks ht ho (fun t9 h9 => ⟨(), Or.inl ⟨hpx.1, fun u q => n2 ⟨u.2, q.2.2.2.2.1, q.2.2.2.2.2, q.2.2.2.1⟩⟩, ⟨by rw [h9]; exact hP, hD⟩, hS.F h9⟩) hS.2.2 (Nat.le_of_ble_eq_true rfl) (Nat.le_of_ble_eq_true rfl)
        · have hP : va_P D vwCl [(u0, .inr (6, [.ref k0, .ref t0, .ref l0, .ref o0, .ref p0, .int (nI sA), .int (nI sB), .ref c0, .ref d0])), (t0, .inr (4, [.int (nI np), .ref t1, .ref t2, v3, v4])), (t1, .inl (cs 0, 20, .inl (fun i => nI (par i) - 1))), (t2, .inl (cs 0, 20, .inl (fun i => nI (ln i))))] H := hP
          have hD : va_D A [(u0, .inr (6, [.ref k0, .ref t0, .ref l0, .ref o0, .ref p0, .int (nI sA), .int (nI sB), .ref c0, .ref d0])), (t0, .inr (4, [.int (nI np), .ref t1, .ref t2, v3, v4])), (t1, .inl (cs 0, 20, .inl (fun i => nI (par i) - 1))), (t2, .inl (cs 0, 20, .inl (fun i => nI (ln i))))] := hD
          have y2 := rq_y hv2 hw
          obtain ⟨g, g1, g2, rfl⟩ := y2
          refine lv_aload_n hx hb dd_U_pipe_45 rfl (lv_at hl 0 rfl) ?_
          refine va_get (D := D) (ci := 6) (v := .ref t0) (C := "UseOdds") (T := TU_) (N := 9) hx hb hts IU_ hown hK hP 0 rfl rfl 1 (by decide) (hts _ tw175) (fun _ h9 => h9) rfl dd_U_pipe_46 ?_
          refine va_getN (D := D) (ci := 4) (v := .int (nI np)) (C := "UseOdds$Tree") (T := TT_) (N := 5) hx hb hts IT_ hown hK hP 1 rfl rfl 0 (by decide) (hts _ tw58) (fun _ h9 => h9) rfl dd_U_pipe_49 ?_
          refine lv_bipush (v := nI 20) hx hb dd_U_pipe_52 (by decide) ?_
          refine jw_icmp_lt (a := np) (b := 20) (tgt := 67) hx hb dd_U_pipe_54 (by decide) (by omega) (by omega) (fun c3 => ?_) (fun c3 => ?_)
          · refine lv_aload_n hx hb dd_U_pipe_67 rfl (lv_at hl 0 rfl) ?_
            refine va_get (D := D) (ci := 6) (v := .ref t0) (C := "UseOdds") (T := TU_) (N := 9) hx hb hts IU_ hown hK hP 0 rfl rfl 1 (by decide) (hts _ tw175) (fun _ h9 => h9) rfl dd_U_pipe_68 ?_
            refine lv_iload_n hx hb dd_U_pipe_71 rfl (lv_at hl 1 rfl) ?_
            refine lv_iload_n hx hb dd_U_pipe_72 rfl (lv_at hl 2 rfl) ?_
            refine jw_calli (wc := [(t0, .inr (4, [.int (nI np), .ref t1, .ref t2, v3, v4])), (t1, .inl (cs 0, 20, .inl (fun i => nI (par i) - 1))), (t2, .inl (cs 0, 20, .inl (fun i => nI (ln i))))]) (wr := [(u0, .inr (6, [.ref k0, .ref t0, .ref l0, .ref o0, .ref p0, .int (nI sA), .int (nI sB), .ref c0, .ref d0]))]) hP hD hS hA [1, 2, 3] [0] rfl rfl rfl (by decide) (va_runV (C := "UseOdds$Tree") (As := [.int (nI 0 - 1), .int (nI g)]) (rest := []) ⟨hx, hb, hml, hown, hts⟩ (c_T_append l D cs t0 t1 t2 np (0) g par ln v3 v4 _ (by omega)) ⟨jw_cB 2 hts tw383 rfl rfl tw3 tw380 (by decide +kernel) ⟨Nat.le_of_ble_eq_true rfl, Nat.le_of_ble_eq_true rfl⟩, hts _ tw381, hts _ tw382⟩ ⟨jw_blind jx_TX, va_recv hK hP (ci := 4) (q0 := 1) rfl rfl, jw_pre (hP.sub [1, 2, 3] rfl) (hD.sub [1, 2, 3] (by decide) rfl) hK (fun U _ hW => hT.warm hW)⟩ rfl rfl hl.1 rfl (lv_room (Nat.le_of_ble_eq_true rfl)) dd_U_pipe_73 ⟨Nat.le_of_ble_eq_true rfl, Nat.le_of_ble_eq_true rfl⟩) (fun r9 u H locs hw hP hD hS => ?_)
            have hP : va_P D vwCl [(u0, .inr (6, [.ref k0, .ref t0, .ref l0, .ref o0, .ref p0, .int (nI sA), .int (nI sB), .ref c0, .ref d0])), (t0, .inr (4, [.int (nI (np + 1)), .ref t1, .ref t2, v3, v4])), (t1, .inl (cs 0, 20, .inl (fun i => nI (un_ par np (0) i) - 1))), (t2, .inl (cs 0, 20, .inl (fun i => nI (un_ ln np g i))))] H := hP
            have hD : va_D A [(u0, .inr (6, [.ref k0, .ref t0, .ref l0, .ref o0, .ref p0, .int (nI sA), .int (nI sB), .ref c0, .ref d0])), (t0, .inr (4, [.int (nI (np + 1)), .ref t1, .ref t2, v3, v4])), (t1, .inl (cs 0, 20, .inl (fun i => nI (un_ par np (0) i) - 1))), (t2, .inl (cs 0, 20, .inl (fun i => nI (un_ ln np g i))))] := hD
            refine W.widen (k := 3) (n := 18) (Nat.le_of_ble_eq_true rfl) (Nat.le_of_ble_eq_true rfl) ?_
            exact xm_ret (W.iret (v := r9) hx hb hr (fun t ht hW => ⟨⟨_, (0, g), rfl, ⟨⟨rfl, fun _ => rfl, fun q => absurd c1 q, rfl, g1, g2⟩, by omega, hw⟩, by rw [ht]; exact hP, hD⟩, hS.F ht⟩) hS.2.2 dd_U_pipe_76)
          · exact xt_ise (text := "there are 20 pipes") hx hb hl9 hown hX hS (by decide +kernel) (hl.1.trans hml.symm) dd_U_pipe_57 dd_U_pipe_60 dd_U_pipe_61 dd_U_pipe_63 dd_U_pipe_66 hex (Nat.le_of_ble_eq_true rfl) (Nat.le_of_ble_eq_true rfl) (Nat.le_of_ble_eq_true rfl) (Nat.le_of_ble_eq_true rfl) hlocks () (Or.inr ⟨rfl, ⟨(0, g), rfl, fun _ => rfl, fun q => absurd c1 q, rfl, g1, g2⟩, by omega⟩) hP hD (Nat.le_of_ble_eq_true rfl) (Nat.le_of_ble_eq_true rfl)

set_option maxHeartbeats 4000000 in
set_option maxRecDepth 100000 in
theorem lp_A_fillI {p : Program} {l : Launch} {e : Env} {R : Room} {s : State} {m : MethodId} {args : Array Value} {below : List Frame} {meth : Method} {c : Code} {cells slots : Nat} {Q : State → Prop} {A : Nat → Prop} {H0 : Heap} {D : va_G} {cs : Nat → ClassId} {a n : Nat} {g : Nat → Int32} {x : Int32} (hx : p.tables.exec = Jvm.exec) (hb : c.code = cd_A_fillI) (hown : s.vm.findClass "java/util/Arrays" = some m.cls) (hts : ∀ w ∈ TW, w.before args s = true) (hK : va_K D vwCl (jt cs) s) (hn : n < 2 ^ 31) :
    ∀ (n9 i : Nat), i ≤ n → n + 1 ≤ i + n9 → ∀ (H : Heap) (locs : List Loc) (ls : Array Slot), va_P D vwCl [(a, .inl (cs 0, n, .inl (fi_ g x i)))] H → va_D A [(a, .inl (cs 0, n, .inl (fi_ g x i)))] → va_S A H0 H locs → lv_has ls 4 [(0, .ref a), (1, .int x), (2, .int (nI i)), (3, .int (nI n))] →
    (∀ (H : Heap) (locs : List Loc) (ls : Array Slot), va_P D vwCl [(a, .inl (cs 0, n, .inl (fi_ g x n)))] H → va_D A [(a, .inl (cs 0, n, .inl (fi_ g x n)))] → va_S A H0 H locs → lv_has ls 4 [(0, .ref a), (1, .int x), (2, .int (nI n)), (3, .int (nI n))] → W p l e R s m args below meth c H locs cells slots Q (F0 m 20 ls [])) → W p l e R s m args below meth c H locs cells slots Q (F0 m 5 ls []) := by
  intro n9
  induction n9 with
  | zero => intro i h1 h2; exact absurd h2 (by omega)
  | succ n9 ih =>
    intro i hi hin H locs ls hP hD hS hl kx
    refine lv_iload_n hx hb dd_A_fillI_5 rfl (lv_at hl 2 rfl) ?_
    refine lv_iload_n hx hb dd_A_fillI_6 rfl (lv_at hl 3 rfl) ?_
    refine jw_icmp_ge (a := i) (b := n) (tgt := 20) hx hb dd_A_fillI_7 (by decide) (by omega) (by omega) (fun c1 => ?_) (fun c1 => ?_)
    · have e1 : i = n := by omega
      rw [e1] at hP hD hl
      exact kx H locs ls hP hD hS (lv_sub hl [0, 1, 2, 3] rfl)
    · refine lv_aload_n hx hb dd_A_fillI_10 rfl (lv_at hl 0 rfl) ?_
      refine lv_iload_n hx hb dd_A_fillI_11 rfl (lv_at hl 2 rfl) ?_
      refine lv_iload_n hx hb dd_A_fillI_12 rfl (lv_at hl 1 rfl) ?_
      refine jw_iast hx hb hK hP hD hS 0 0 rfl rfl (i := i) (by omega) hn dd_A_fillI_13 (fun H locs hP hD hS => ?_)
      have hP : va_P D vwCl [(a, .inl (cs 0, n, .inl (upd (fi_ g x i) i x)))] H := hP
      have hD : va_D A [(a, .inl (cs 0, n, .inl (upd (fi_ g x i) i x)))] := hD
      have eF : (upd (fi_ g x i) i x) = (fi_ g x (i + 1)) := (fi_up g x i)
      rw [eF] at hP hD
      refine lv_iinc (v := nI (i + 1)) (lv' := [(2, .int (nI (i + 1))), (0, .ref a), (1, .int x), (3, .int (nI n))]) hx hb dd_A_fillI_14 hl (k := 2) rfl (nI_1 i) (by decide) rfl (fun ls hl => ?_)
      refine lv_goto (tgt := 5) hx hb dd_A_fillI_17 (by decide) ?_
      exact ih (i + 1) (by omega) (by omega) H locs ls hP hD hS (lv_sub hl [1, 2, 0, 3] rfl) kx

set_option maxHeartbeats 4000000 in
set_option maxRecDepth 100000 in
theorem c_A_fillI (l : Launch) (D : va_G) (cs : Nat → ClassId) (a n : Nat) (g : Nat → Int32) (x : Int32) (sz : Nat) (hn : n < 2 ^ 31) : Met l ym_A_fillI [.code ym_A_fillI cd_A_fillI 4 none] ({ frames := 0, cells := 0, slots := 0, locals := 0 } : Room) (jw_Pc D vwCl (jt cs) [(a, .inl (cs 0, n, .inl g))] sz TX [.ref a, .int x]) (va_Qv (fun (u : Unit) => True) (jw_B D vwCl (va_A [(a, .inl (cs 0, n, .inl g))] sz) (fun (u : Unit) => [(a, .inl (cs 0, n, .inl (fun _ => x)))])) (va_A [(a, .inl (cs 0, n, .inl g))] sz)) 0 0 (va_A [(a, .inl (cs 0, n, .inl g))] sz) := by
  refine Met.ofW (cc := cd_A_fillI) (maxL := 4) (ret := none) (by decide) rfl ?_
  intro p e s m args below meth c s₁ BL hml hv
  obtain ⟨rfl, hsz, hP, hD0, hK, hT⟩ := hv
  have hx := BL.exec
  have hb := BL.bytes
  have hr := BL.returns
  have hts : ∀ w ∈ TW, w.before [.ref a, .int x].toArray s = true := fun w h => hT.use h _
  have hown : s.vm.findClass "java/util/Arrays" = some m.cls := findClass_of_methodNamed BL.named
  have hlocks := BL.notSynchronized
  subst hsz
  have hD := hD0.self (sz := s.heap.size)
  generalize hAe : va_A [(a, .inl (cs 0, n, .inl g))] s.heap.size = A at hD ⊢
  have hA : ∀ q : Nat, s.heap.size ≤ q → A q := fun q h => by rw [← hAe]; exact Or.inr h
  have hS : va_S A s.heap s.heap [] := va_S.rf
  have hl := lv_entry ([.ref a, .int x]) (n := 4) (Nat.le_of_ble_eq_true rfl)
  rw [lg_entry_eq]
  generalize (lg_sl ([.ref a, .int x]) ++ List.replicate (4 - (lg_sl ([.ref a, .int x])).length) Slot.unset).toArray = ls at hl ⊢
  have hl : lv_has ls 4 [(0, .ref a), (1, .int x)] := hl
  have eF : g = (fi_ g x 0) := (fi_0 g x)
  rw [eF] at hP hD
  refine lv_iconst (v := nI 0) hx hb dd_A_fillI_0 (by decide) ?_
  refine lv_istore_n (lv' := [(2, .int (nI 0)), (0, .ref a), (1, .int x)]) hx hb dd_A_fillI_1 rfl hl (by decide) rfl (fun ls hl => ?_)
  refine lv_aload_n hx hb dd_A_fillI_2 rfl (lv_at hl 1 rfl) ?_
  refine va_alen hx hb hK hP 0 0 rfl rfl (v := nI n) rfl dd_A_fillI_3 ?_
  refine lv_istore_n (lv' := [(3, .int (nI n)), (2, .int (nI 0)), (0, .ref a), (1, .int x)]) hx hb dd_A_fillI_4 rfl hl (by decide) rfl (fun ls hl => ?_)
  refine lp_A_fillI hx hb hown hts hK hn (n + 1) 0 (Nat.zero_le _) (by omega) _ _ ls hP hD hS (lv_sub hl [2, 3, 1, 0] rfl) (fun H locs ls hP hD hS hl => ?_)
  have hD := hD.set (p := 0) (e := .inl (cs 0, n, .inl (fun _ => x))) rfl
  have hP := jw_reP (q := 0) (y := (cs 0, n, .inl (fun _ => x))) hP rfl (jw_cellI (fun j hj => by simp [fi_, hj]))
  have hP : va_P D vwCl [(a, .inl (cs 0, n, .inl (fun _ => x)))] H := hP
  have hD : va_D A [(a, .inl (cs 0, n, .inl (fun _ => x)))] := hD
  exact W.vret hx hb hr (fun t ht hW => ⟨⟨(), rfl, trivial, by rw [ht]; exact hP, hD⟩, hS.F ht⟩) hS.2.2 dd_A_fillI_20
