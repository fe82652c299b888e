set_option maxHeartbeats 4000000 in
set_option maxRecDepth 100000 in
theorem c_T_append (l : Launch) (D : va_G) (cs : Nat → ClassId) (t0 t1 t2 np q g : Nat) (par ln : Nat → Nat) (v3 v4 : Value) (sz : Nat) (hnp : np < 20) : Met l ym_T_append [.code ym_T_append cd_T_append 3 (some .int)] ({ frames := 0, cells := 0, slots := 0, locals := 0 } : Room) (jw_Pc D vwCl (jt cs) [(t0, .inr (4, [.int (nI np), .ref t1, .ref t2, v3, v4])), (t1, .inl (cs 0, 20, .inl (fun i => nI (par i) - 1))), (t2, .inl (cs 0, 20, .inl (fun i => nI (ln i))))] sz TX [.ref t0, .int (nI q - 1), .int (nI g)]) (va_Qi (fun (r : Int32) (u : Unit) => r = nI np) (jw_B D vwCl (va_A [(t0, .inr (4, [.int (nI np), .ref t1, .ref t2, v3, v4])), (t1, .inl (cs 0, 20, .inl (fun i => nI (par i) - 1))), (t2, .inl (cs 0, 20, .inl (fun i => nI (ln i))))] sz) (fun (u : Unit) => [(t0, .inr (4, [.int (nI (np + 1)), .ref t1, .ref t2, v3, v4])), (t1, .inl (cs 0, 20, .inl (fun i => nI (un_ par np q i) - 1))), (t2, .inl (cs 0, 20, .inl (fun i => nI (un_ ln np g i))))])) (va_A [(t0, .inr (4, [.int (nI np), .ref t1, .ref t2, v3, v4])), (t1, .inl (cs 0, 20, .inl (fun i => nI (par i) - 1))), (t2, .inl (cs 0, 20, .inl (fun i => nI (ln i))))] sz)) 0 0 (va_A [(t0, .inr (4, [.int (nI np), .ref t1, .ref t2, v3, v4])), (t1, .inl (cs 0, 20, .inl (fun i => nI (par i) - 1))), (t2, .inl (cs 0, 20, .inl (fun i => nI (ln i))))] sz) := by
  refine Met.ofW (cc := cd_T_append) (maxL := 3) (ret := (some .int)) (by decide) rfl ?_
  intro p e s m args below meth c s₁ BL hml hv
  obtain ⟨rfl, hsz, hP, hD0, hK, hT⟩ := hv
  have hx := BL.exec
  have hb := BL.bytes
  have hr := BL.returns
  have hts : ∀ w ∈ TW, w.before [.ref t0, .int (nI q - 1), .int (nI g)].toArray s = true := fun w h => hT.use h _
  have hown : s.vm.findClass "UseOdds$Tree" = some m.cls := findClass_of_methodNamed BL.named
  have hlocks := BL.notSynchronized
  subst hsz
  have hD := hD0.self (sz := s.heap.size)
  generalize hAe : va_A [(t0, .inr (4, [.int (nI np), .ref t1, .ref t2, v3, v4])), (t1, .inl (cs 0, 20, .inl (fun i => nI (par i) - 1))), (t2, .inl (cs 0, 20, .inl (fun i => nI (ln i))))] s.heap.size = A at hD ⊢
  have hA : ∀ q : Nat, s.heap.size ≤ q → A q := fun q h => by rw [← hAe]; exact Or.inr h
  have hS : va_S A s.heap s.heap [] := va_S.rf
  have hl := lv_entry ([.ref t0, .int (nI q - 1), .int (nI g)]) (n := 3) (Nat.le_of_ble_eq_true rfl)
  rw [lg_entry_eq]
  generalize (lg_sl ([.ref t0, .int (nI q - 1), .int (nI g)]) ++ List.replicate (3 - (lg_sl ([.ref t0, .int (nI q - 1), .int (nI g)])).length) Slot.unset).toArray = ls at hl ⊢
  have hl : lv_has ls 3 [(0, .ref t0), (1, .int (nI q - 1)), (2, .int (nI g))] := hl
  refine lv_aload_n hx hb dd_T_append_0 rfl (lv_at hl 0 rfl) ?_
  refine va_get (D := D) (ci := 4) (v := .int (nI np)) (C := "UseOdds$Tree") (T := TT_) (N := 5) hx hb hts IT_ hown hK hP 0 rfl rfl 0 (by decide) (hts _ tw57) (fun _ h9 => h9) rfl dd_T_append_1 ?_
  refine lv_bipush (v := nI 20) hx hb dd_T_append_4 (by decide) ?_
  refine jw_icmp_lt (a := np) (b := 20) (tgt := 11) hx hb dd_T_append_6 (by decide) (by omega) (by omega) (fun c1 => ?_) (fun c1 => ?_)
  · refine lv_aload_n hx hb dd_T_append_11 rfl (lv_at hl 0 rfl) ?_
    refine va_get (D := D) (ci := 4) (v := .ref t1) (C := "UseOdds$Tree") (T := TT_) (N := 5) hx hb hts IT_ hown hK hP 0 rfl rfl 1 (by decide) (hts _ tw59) (fun _ h9 => h9) rfl dd_T_append_12 ?_
    refine lv_aload_n hx hb dd_T_append_15 rfl (lv_at hl 0 rfl) ?_
    refine va_get (D := D) (ci := 4) (v := .int (nI np)) (C := "UseOdds$Tree") (T := TT_) (N := 5) hx hb hts IT_ hown hK hP 0 rfl rfl 0 (by decide) (hts _ tw57) (fun _ h9 => h9) rfl dd_T_append_16 ?_
    refine lv_iload_n hx hb dd_T_append_19 rfl (lv_at hl 1 rfl) ?_
    refine jw_iast hx hb hK hP hD hS 1 0 rfl rfl (i := np) (by omega) (by decide) dd_T_append_20 (fun H locs hP hD hS => ?_)
    have hP : va_P D vwCl [(t0, .inr (4, [.int (nI np), .ref t1, .ref t2, v3, v4])), (t1, .inl (cs 0, 20, .inl (upd (fun i => nI (par i) - 1) np (nI q - 1)))), (t2, .inl (cs 0, 20, .inl (fun i => nI (ln i))))] H := hP
    have hD : va_D A [(t0, .inr (4, [.int (nI np), .ref t1, .ref t2, v3, v4])), (t1, .inl (cs 0, 20, .inl (upd (fun i => nI (par i) - 1) np (nI q - 1)))), (t2, .inl (cs 0, 20, .inl (fun i => nI (ln i))))] := hD
    have eF : (upd (fun i => nI (par i) - 1) np (nI q - 1)) = (fun i => nI (un_ par np q i) - 1) := (un_P par np q)
    rw [eF] at hP hD
    refine lv_aload_n hx hb dd_T_append_21 rfl (lv_at hl 0 rfl) ?_
    refine va_get (D := D) (ci := 4) (v := .ref t2) (C := "UseOdds$Tree") (T := TT_) (N := 5) hx hb hts IT_ hown hK hP 0 rfl rfl 2 (by decide) (hts _ tw61) (fun _ h9 => h9) rfl dd_T_append_22 ?_
    refine lv_aload_n hx hb dd_T_append_25 rfl (lv_at hl 0 rfl) ?_
    refine va_get (D := D) (ci := 4) (v := .int (nI np)) (C := "UseOdds$Tree") (T := TT_) (N := 5) hx hb hts IT_ hown hK hP 0 rfl rfl 0 (by decide) (hts _ tw57) (fun _ h9 => h9) rfl dd_T_append_26 ?_
    refine lv_iload_n hx hb dd_T_append_29 rfl (lv_at hl 2 rfl) ?_
    refine jw_iast hx hb hK hP hD hS 2 0 rfl rfl (i := np) (by omega) (by decide) dd_T_append_30 (fun H locs hP hD hS => ?_)
    have hP : va_P D vwCl [(t0, .inr (4, [.int (nI np), .ref t1, .ref t2, v3, v4])), (t1, .inl (cs 0, 20, .inl (fun i => nI (un_ par np q i) - 1))), (t2, .inl (cs 0, 20, .inl (upd (fun i => nI (ln i)) np (nI g))))] H := hP
    have hD : va_D A [(t0, .inr (4, [.int (nI np), .ref t1, .ref t2, v3, v4])), (t1, .inl (cs 0, 20, .inl (fun i => nI (un_ par np q i) - 1))), (t2, .inl (cs 0, 20, .inl (upd (fun i => nI (ln i)) np (nI g))))] := hD
    have eF : (upd (fun i => nI (ln i)) np (nI g)) = (fun i => nI (un_ ln np g i)) := (un_I ln np g)
    rw [eF] at hP hD
    refine lv_aload_n hx hb dd_T_append_31 rfl (lv_at hl 0 rfl) ?_
    refine lv_dup hx hb dd_T_append_32 rfl ?_
    refine va_get (D := D) (ci := 4) (v := .int (nI np)) (C := "UseOdds$Tree") (T := TT_) (N := 5) hx hb hts IT_ hown hK hP 0 rfl rfl 0 (by decide) (hts _ tw57) (fun _ h9 => h9) rfl dd_T_append_33 ?_
    refine lv_iconst (v := nI 1) hx hb dd_T_append_36 (by decide) ?_
    refine jw_iadd hx hb dd_T_append_37 ?_
    refine va_put (D := D) (ci := 4) (v := .int (nI (np + 1))) (ty := .int) (C := "UseOdds$Tree") (T := TT_) (N := 5) hx hb hts IT_ YT_ QT_ NT_ hown hK hP hD hS 0 rfl rfl 0 (by decide) (hts _ tw57) (fun _ h9 => h9) rfl (by decide +kernel) rfl rfl (Nat.le_of_ble_eq_true rfl) dd_T_append_38 (fun H locs hP hD hS => ?_)
    have hP : va_P D vwCl [(t0, .inr (4, [.int (nI (np + 1)), .ref t1, .ref t2, v3, v4])), (t1, .inl (cs 0, 20, .inl (fun i => nI (un_ par np q i) - 1))), (t2, .inl (cs 0, 20, .inl (fun i => nI (un_ ln np g i))))] H := hP
    have hD : va_D A [(t0, .inr (4, [.int (nI (np + 1)), .ref t1, .ref t2, v3, v4])), (t1, .inl (cs 0, 20, .inl (fun i => nI (un_ par np q i) - 1))), (t2, .inl (cs 0, 20, .inl (fun i => nI (un_ ln np g i))))] := hD
    refine lv_aload_n hx hb dd_T_append_41 rfl (lv_at hl 0 rfl) ?_
    refine va_get (D := D) (ci := 4) (v := .int (nI (np + 1))) (C := "UseOdds$Tree") (T := TT_) (N := 5) hx hb hts IT_ hown hK hP 0 rfl rfl 0 (by decide) (hts _ tw57) (fun _ h9 => h9) rfl dd_T_append_42 ?_
    refine lv_iconst (v := nI 1) hx hb dd_T_append_45 (by decide) ?_
    refine jw_isub hx hb dd_T_append_46 (by omega) ?_
    refine jw_cvi (y := nI np) (by rw [Nat.add_sub_cancel]) ?_
    exact W.iret (v := (nI np)) hx hb hr (fun t ht hW => ⟨⟨_, (), rfl, rfl, by rw [ht]; exact hP, hD⟩, hS.F ht⟩) hS.2.2 dd_T_append_47
  · exact absurd hnp (by omega)

set_option maxHeartbeats 4000000 in
set_option maxRecDepth 100000 in
theorem lp_T_change {p : Program} {l : Launch} {e : Env} {R : Room} {s : State} {m : MethodId} {args : Array Value} {below : List Frame} {meth : Method} {c : Code} {cells slots : Nat} {Q : State → Prop} {A : Nat → Prop} {H0 : Heap} {D : va_G} {cs : Nat → ClassId} {t0 t1 t3 t4 np k pi : Nat} {x : Int32} {par : Nat → Nat} {v2 : Value} {ro rc : Nat → Nat} {Y : va_W} {Mo : Nat → Nat → Int32} (hx : p.tables.exec = Jvm.exec) (hb : c.code = cd_T_change) (hown : s.vm.findClass "UseOdds$Tree" = some m.cls) (hts : ∀ w ∈ TW, w.before args s = true) (hK : va_K D vwCl (jt cs) s) (hT : TX s) (hml : c.maxLocals = 6) (hA : ∀ q, H0.size ≤ q → A q) (hRf : 1 ≤ R.frames) (hRl : 21 ≤ R.locals) (hRc : cells ≤ R.cells) (hRs : slots ≤ R.slots) (hnp : np ≤ 20) (hk : k < 8) (hpar : ∀ i, i < np → par i ≤ i) :
    ∀ (f v : Nat) (Mc : Nat → Nat → Int32), f ≤ 20 → v ≤ np → ∀ (H : Heap) (locs : List Loc) (ls : Array Slot), va_P D vwCl (([(t0, .inr (4, [.int (nI np), .ref t1, v2, .ref t3, .ref t4])), (t1, .inl (cs 0, 20, .inl (fun i => nI (par i) - 1))), (t3, .inl (cs 2, 20, .inr (.inr (.inr (.inr (fun i => if i < 20 then some (ro i) else none)))))), (t4, .inl (cs 2, 20, .inr (.inr (.inr (.inr (fun i => if i < 20 then some (rc i) else none))))))] : va_W) ++ (gs_ (cs 0) 20 8 ro Mo ++ (gs_ (cs 0) 20 8 rc Mc ++ Y))) H → va_D A (([(t0, .inr (4, [.int (nI np), .ref t1, v2, .ref t3, .ref t4])), (t1, .inl (cs 0, 20, .inl (fun i => nI (par i) - 1))), (t3, .inl (cs 2, 20, .inr (.inr (.inr (.inr (fun i => if i < 20 then some (ro i) else none)))))), (t4, .inl (cs 2, 20, .inr (.inr (.inr (.inr (fun i => if i < 20 then some (rc i) else none))))))] : va_W) ++ (gs_ (cs 0) 20 8 ro Mo ++ (gs_ (cs 0) 20 8 rc Mc ++ Y))) → va_S A H0 H locs → lv_has ls 6 [(0, .ref t0), (1, .int (nI pi)), (2, .int (nI k)), (3, .int x), (4, .int (nI v - 1)), (5, .int (nI (20 - f)))] →
    (∀ (H : Heap) (locs : List Loc) (ls : Array Slot), va_P D vwCl (([(t0, .inr (4, [.int (nI np), .ref t1, v2, .ref t3, .ref t4])), (t1, .inl (cs 0, 20, .inl (fun i => nI (par i) - 1))), (t3, .inl (cs 2, 20, .inr (.inr (.inr (.inr (fun i => if i < 20 then some (ro i) else none)))))), (t4, .inl (cs 2, 20, .inr (.inr (.inr (.inr (fun i => if i < 20 then some (rc i) else none))))))] : va_W) ++ (gs_ (cs 0) 20 8 ro Mo ++ (gs_ (cs 0) 20 8 rc (cg_ par k x f v Mc) ++ Y))) H → va_D A (([(t0, .inr (4, [.int (nI np), .ref t1, v2, .ref t3, .ref t4])), (t1, .inl (cs 0, 20, .inl (fun i => nI (par i) - 1))), (t3, .inl (cs 2, 20, .inr (.inr (.inr (.inr (fun i => if i < 20 then some (ro i) else none)))))), (t4, .inl (cs 2, 20, .inr (.inr (.inr (.inr (fun i => if i < 20 then some (rc i) else none))))))] : va_W) ++ (gs_ (cs 0) 20 8 ro Mo ++ (gs_ (cs 0) 20 8 rc (cg_ par k x f v Mc) ++ Y))) → va_S A H0 H locs → W p l e R s m args below meth c H locs cells slots Q (F0 m 62 ls [])) → W p l e R s m args below meth c H locs cells slots Q (F0 m 18 ls []) := by
  intro f
  induction f with
  | zero =>
    intro v Mc hf hv H locs ls hP hD hS hl kx
    refine lv_iload hx hb dd_T_change_18 (lv_at hl 5 rfl) ?_
    refine lv_bipush (v := nI 20) hx hb dd_T_change_20 (by decide) ?_
    refine jw_icmp_ge (a := 20 - 0) (b := 20) (tgt := 62) hx hb dd_T_change_22 (by decide) (by omega) (by omega) (fun c1 => ?_) (fun c1 => ?_)
    · exact kx H locs ls hP hD hS
    · exact absurd (by omega) c1
  | succ f ih =>
    intro v Mc hf hv H locs ls hP hD hS hl kx
    refine lv_iload hx hb dd_T_change_18 (lv_at hl 5 rfl) ?_
    refine lv_bipush (v := nI 20) hx hb dd_T_change_20 (by decide) ?_
    refine jw_icmp_ge (a := 20 - (f + 1)) (b := 20) (tgt := 62) hx hb dd_T_change_22 (by decide) (by omega) (by omega) (fun c1 => ?_) (fun c1 => ?_)
    · exact absurd c1 (by omega)
    · refine lv_aload_n hx hb dd_T_change_25 rfl (lv_at hl 0 rfl) ?_
      refine lv_iload hx hb dd_T_change_26 (lv_at hl 4 rfl) ?_
      refine jw_callQi (cx := [(t0, .inr (4, [.int (nI np), .ref t1, v2, .ref t3, .ref t4]))]) (wr := [(t1, .inl (cs 0, 20, .inl (fun i => nI (par i) - 1))), (t3, .inl (cs 2, 20, .inr (.inr (.inr (.inr (fun i => if i < 20 then some (ro i) else none)))))), (t4, .inl (cs 2, 20, .inr (.inr (.inr (.inr (fun i => if i < 20 then some (rc i) else none))))))]) (pl := (gs_ (cs 0) 20 8 ro Mo ++ (gs_ (cs 0) 20 8 rc Mc ++ Y))) hP hD hS hA [0] [1, 2, 3] rfl rfl rfl (by decide) (va_runV (C := "UseOdds$Tree") (As := [.int (nI v - 1)]) (rest := []) ⟨hx, hb, hml, hown, hts⟩ (c_T_has l D cs t0 np (.ref t1) v2 (.ref t3) (.ref t4) (nI v - 1) _ (by omega)) ⟨jw_cB 1 hts tw378 rfl rfl tw3 tw404 (by decide +kernel) ⟨Nat.le_trans (Nat.le_of_ble_eq_true rfl) hRf, Nat.le_trans (Nat.le_of_ble_eq_true rfl) hRl⟩, hts _ tw376, hts _ tw377⟩ ⟨jw_blind jx_TX, va_recv hK hP (ci := 4) (q0 := 0) rfl rfl, jw_pre (hP.sub (ws' := [(t0, .inr (4, [.int (nI np), .ref t1, v2, .ref t3, .ref t4]))]) [0] rfl) (hD.sub (ws' := [(t0, .inr (4, [.int (nI np), .ref t1, v2, .ref t3, .ref t4]))]) [0] (by decide) rfl) hK (fun U _ hW => hT.warm hW)⟩ rfl rfl hl.1 rfl (lv_room (Nat.le_of_ble_eq_true rfl)) dd_T_change_28 ⟨hRc, hRs⟩) (fun r0 u H locs hw hP hD hS => ?_)
      have hP : va_P D vwCl (([(t1, .inl (cs 0, 20, .inl (fun i => nI (par i) - 1))), (t3, .inl (cs 2, 20, .inr (.inr (.inr (.inr (fun i => if i < 20 then some (ro i) else none)))))), (t4, .inl (cs 2, 20, .inr (.inr (.inr (.inr (fun i => if i < 20 then some (rc i) else none)))))), (t0, .inr (4, [.int (nI np), .ref t1, v2, .ref t3, .ref t4]))] : va_W) ++ (gs_ (cs 0) 20 8 ro Mo ++ (gs_ (cs 0) 20 8 rc Mc ++ Y))) H := hP
      have hD : va_D A (([(t1, .inl (cs 0, 20, .inl (fun i => nI (par i) - 1))), (t3, .inl (cs 2, 20, .inr (.inr (.inr (.inr (fun i => if i < 20 then some (ro i) else none)))))), (t4, .inl (cs 2, 20, .inr (.inr (.inr (.inr (fun i => if i < 20 then some (rc i) else none)))))), (t0, .inr (4, [.int (nI np), .ref t1, v2, .ref t3, .ref t4]))] : va_W) ++ (gs_ (cs 0) 20 8 ro Mo ++ (gs_ (cs 0) 20 8 rc Mc ++ Y))) := hD
      have hP := hP.part (cx := [(t0, .inr (4, [.int (nI np), .ref t1, v2, .ref t3, .ref t4])), (t1, .inl (cs 0, 20, .inl (fun i => nI (par i) - 1))), (t3, .inl (cs 2, 20, .inr (.inr (.inr (.inr (fun i => if i < 20 then some (ro i) else none)))))), (t4, .inl (cs 2, 20, .inr (.inr (.inr (.inr (fun i => if i < 20 then some (rc i) else none))))))]) [3, 0, 1, 2] rfl
      have hD := hD.part (cx := [(t0, .inr (4, [.int (nI np), .ref t1, v2, .ref t3, .ref t4])), (t1, .inl (cs 0, 20, .inl (fun i => nI (par i) - 1))), (t3, .inl (cs 2, 20, .inr (.inr (.inr (.inr (fun i => if i < 20 then some (ro i) else none)))))), (t4, .inl (cs 2, 20, .inr (.inr (.inr (.inr (fun i => if i < 20 then some (rc i) else none))))))]) [3, 0, 1, 2] (by decide) rfl
      rcases hw with ⟨hw, hh⟩ | ⟨hw, hh⟩
      · obtain ⟨j, hj, ej⟩ := hh
        obtain ⟨z, hz⟩ : ∃ z, v = z + 1 := by
          cases v with
          | zero => exact absurd (show nI j < 0 by rw [← ej]; decide) (nI_pos (by omega))
          | succ z => exact ⟨z, rfl⟩
        subst hz
        rw [nI_pred] at hl ej
        have hjz : z = j := (nI_eq (by omega) (by omega)).mp ej
        subst hjz
        rw [hw]
        refine jw_if_eq (a := 1) (tgt := 62) hx hb dd_T_change_31 (by decide) (by omega) (fun c2 => ?_) (fun c2 => ?_)
        · exact absurd c2 (by decide)
        · refine lv_aload_n hx hb dd_T_change_34 rfl (lv_at hl 0 rfl) ?_
          refine va_get (D := D) (ci := 4) (v := .ref t4) (C := "UseOdds$Tree") (T := TT_) (N := 5) hx hb hts IT_ hown hK hP 0 rfl rfl 4 (by decide) (hts _ tw65) (fun _ h9 => h9) rfl dd_T_change_35 ?_
          refine lv_iload hx hb dd_T_change_38 (lv_at hl 4 rfl) ?_
          refine jw_aald hx hb hK hP 3 2 rfl rfl (i := z) (by omega) (by decide) dd_T_change_40 ?_
          refine lv_iload_n hx hb dd_T_change_41 rfl (lv_at hl 2 rfl) ?_
          refine lv_dup2_11 hx hb dd_T_change_42 rfl rfl ?_
          refine jw_iald hx hb hK hP (24 + z) 0 (gs_get2 rfl (by omega)) rfl (i := k) (by omega) (by decide) dd_T_change_43 ?_
          refine lv_iload_n hx hb dd_T_change_44 rfl (lv_at hl 3 rfl) ?_
          refine lv_iadd hx hb dd_T_change_45 ?_
          refine jw_iast hx hb hK hP hD hS (24 + z) 0 (gs_get2 rfl (by omega)) rfl (i := k) (by omega) (by decide) dd_T_change_46 (fun H locs hP hD hS => ?_)
          rw [gs_set2 (x := 24) rfl (by omega)] at hP hD
          have hP : va_P D vwCl (([(t0, .inr (4, [.int (nI np), .ref t1, v2, .ref t3, .ref t4])), (t1, .inl (cs 0, 20, .inl (fun i => nI (par i) - 1))), (t3, .inl (cs 2, 20, .inr (.inr (.inr (.inr (fun i => if i < 20 then some (ro i) else none)))))), (t4, .inl (cs 2, 20, .inr (.inr (.inr (.inr (fun i => if i < 20 then some (rc i) else none))))))] : va_W) ++ (gs_ (cs 0) 20 8 ro Mo ++ (gs_ (cs 0) 20 8 rc (gs_up Mc z k ((Mc z k) + x)) ++ Y))) H := hP
          have hD : va_D A (([(t0, .inr (4, [.int (nI np), .ref t1, v2, .ref t3, .ref t4])), (t1, .inl (cs 0, 20, .inl (fun i => nI (par i) - 1))), (t3, .inl (cs 2, 20, .inr (.inr (.inr (.inr (fun i => if i < 20 then some (ro i) else none)))))), (t4, .inl (cs 2, 20, .inr (.inr (.inr (.inr (fun i => if i < 20 then some (rc i) else none))))))] : va_W) ++ (gs_ (cs 0) 20 8 ro Mo ++ (gs_ (cs 0) 20 8 rc (gs_up Mc z k ((Mc z k) + x)) ++ Y))) := hD
          refine lv_aload_n hx hb dd_T_change_47 rfl (lv_at hl 0 rfl) ?_
          refine va_get (D := D) (ci := 4) (v := .ref t1) (C := "UseOdds$Tree") (T := TT_) (N := 5) hx hb hts IT_ hown hK hP 0 rfl rfl 1 (by decide) (hts _ tw59) (fun _ h9 => h9) rfl dd_T_change_48 ?_
          refine lv_iload hx hb dd_T_change_51 (lv_at hl 4 rfl) ?_
          refine jw_iald hx hb hK hP 1 0 rfl rfl (i := z) (by omega) (by decide) dd_T_change_53 ?_
          refine lv_istore (lv' := [(4, .int ((fun i => nI (par i) - 1) z)), (0, .ref t0), (1, .int (nI pi)), (2, .int (nI k)), (3, .int x), (5, .int (nI (20 - (f + 1))))]) hx hb dd_T_change_54 hl (by decide) rfl (fun ls hl => ?_)
          refine lv_iinc (v := nI (20 - (f + 1) + 1)) (lv' := [(5, .int (nI (20 - (f + 1) + 1))), (4, .int ((fun i => nI (par i) - 1) z)), (0, .ref t0), (1, .int (nI pi)), (2, .int (nI k)), (3, .int x)]) hx hb dd_T_change_56 hl (k := 5) rfl (nI_1 (20 - (f + 1))) (by decide) rfl (fun ls hl => ?_)
          refine lv_goto (tgt := 18) hx hb dd_T_change_59 (by decide) ?_
          rw [show 20 - (f + 1) + 1 = 20 - f from by omega] at hl
          have hpz := hpar z (by omega)
          exact ih (par z) _ (by omega) (by omega) H locs ls hP hD hS (lv_sub hl [2, 3, 4, 5, 1, 0] rfl) kx
      · have hv0 : v = 0 := by
          cases v with
          | zero => rfl
          | succ z => exact absurd ⟨z, by omega, nI_pred z⟩ hh
        subst hv0
        rw [hw]
        refine jw_if_eq (a := 0) (tgt := 62) hx hb dd_T_change_31 (by decide) (by omega) (fun c2 => ?_) (fun c2 => ?_)
        · exact kx H locs ls hP hD hS
        · exact absurd rfl c2

set_option maxHeartbeats 4000000 in
set_option maxRecDepth 100000 in
theorem c_T_change (l : Launch) (D : va_G) (cs : Nat → ClassId) (t0 t1 t3 t4 np pi k : Nat) (x : Int32) (par : Nat → Nat) (v2 : Value) (ro rc : Nat → Nat) (Y : va_W) (Mo Mc : Nat → Nat → Int32) (sz : Nat) (hnp : np ≤ 20) (hpi : pi < np) (hk : k < 8) (hpar : ∀ i, i < np → par i ≤ i) : Met l ym_T_change [.code ym_T_change cd_T_change 6 none] ({ frames := 1, cells := 0, slots := 0, locals := 21 } : Room) (jw_Pc D vwCl (jt cs) (([(t0, .inr (4, [.int (nI np), .ref t1, v2, .ref t3, .ref t4])), (t1, .inl (cs 0, 20, .inl (fun i => nI (par i) - 1))), (t3, .inl (cs 2, 20, .inr (.inr (.inr (.inr (fun i => if i < 20 then some (ro i) else none)))))), (t4, .inl (cs 2, 20, .inr (.inr (.inr (.inr (fun i => if i < 20 then some (rc i) else none))))))] : va_W) ++ (gs_ (cs 0) 20 8 ro Mo ++ (gs_ (cs 0) 20 8 rc Mc ++ Y))) sz TX [.ref t0, .int (nI pi), .int (nI k), .int x]) (va_Qv (fun (u : Unit) => True) (jw_B D vwCl (va_A (([(t0, .inr (4, [.int (nI np), .ref t1, v2, .ref t3, .ref t4])), (t1, .inl (cs 0, 20, .inl (fun i => nI (par i) - 1))), (t3, .inl (cs 2, 20, .inr (.inr (.inr (.inr (fun i => if i < 20 then some (ro i) else none)))))), (t4, .inl (cs 2, 20, .inr (.inr (.inr (.inr (fun i => if i < 20 then some (rc i) else none))))))] : va_W) ++ (gs_ (cs 0) 20 8 ro Mo ++ (gs_ (cs 0) 20 8 rc Mc ++ Y))) sz) (fun (u : Unit) => (([(t0, .inr (4, [.int (nI np), .ref t1, v2, .ref t3, .ref t4])), (t1, .inl (cs 0, 20, .inl (fun i => nI (par i) - 1))), (t3, .inl (cs 2, 20, .inr (.inr (.inr (.inr (fun i => if i < 20 then some (ro i) else none)))))), (t4, .inl (cs 2, 20, .inr (.inr (.inr (.inr (fun i => if i < 20 then some (rc i) else none))))))] : va_W) ++ (gs_ (cs 0) 20 8 ro (gs_up Mo pi k (Mo pi k + x)) ++ (gs_ (cs 0) 20 8 rc (cg_ par k x 20 (pi + 1) Mc) ++ Y))))) (va_A (([(t0, .inr (4, [.int (nI np), .ref t1, v2, .ref t3, .ref t4])), (t1, .inl (cs 0, 20, .inl (fun i => nI (par i) - 1))), (t3, .inl (cs 2, 20, .inr (.inr (.inr (.inr (fun i => if i < 20 then some (ro i) else none)))))), (t4, .inl (cs 2, 20, .inr (.inr (.inr (.inr (fun i => if i < 20 then some (rc i) else none))))))] : va_W) ++ (gs_ (cs 0) 20 8 ro Mo ++ (gs_ (cs 0) 20 8 rc Mc ++ Y))) sz)) 0 0 (va_A (([(t0, .inr (4, [.int (nI np), .ref t1, v2, .ref t3, .ref t4])), (t1, .inl (cs 0, 20, .inl (fun i => nI (par i) - 1))), (t3, .inl (cs 2, 20, .inr (.inr (.inr (.inr (fun i => if i < 20 then some (ro i) else none)))))), (t4, .inl (cs 2, 20, .inr (.inr (.inr (.inr (fun i => if i < 20 then some (rc i) else none))))))] : va_W) ++ (gs_ (cs 0) 20 8 ro Mo ++ (gs_ (cs 0) 20 8 rc Mc ++ Y))) sz) := by
  refine Met.ofW (cc := cd_T_change) (maxL := 6) (ret := none) (by decide) rfl ?_
  intro p e s m args below meth c s₁ BL hml hv
  obtain ⟨rfl, hsz, hP, hD0, hK, hT⟩ := hv
  have hx := BL.exec
  have hb := BL.bytes
  have hr := BL.returns
  have hts : ∀ w ∈ TW, w.before [.ref t0, .int (nI pi), .int (nI k), .int x].toArray s = true := fun w h => hT.use h _
  have hown : s.vm.findClass "UseOdds$Tree" = some m.cls := findClass_of_methodNamed BL.named
  have hlocks := BL.notSynchronized
  subst hsz
  have hD := hD0.self (sz := s.heap.size)
  generalize hAe : va_A (([(t0, .inr (4, [.int (nI np), .ref t1, v2, .ref t3, .ref t4])), (t1, .inl (cs 0, 20, .inl (fun i => nI (par i) - 1))), (t3, .inl (cs 2, 20, .inr (.inr (.inr (.inr (fun i => if i < 20 then some (ro i) else none)))))), (t4, .inl (cs 2, 20, .inr (.inr (.inr (.inr (fun i => if i < 20 then some (rc i) else none))))))] : va_W) ++ (gs_ (cs 0) 20 8 ro Mo ++ (gs_ (cs 0) 20 8 rc Mc ++ Y))) s.heap.size = A at hD ⊢
  have hA : ∀ q : Nat, s.heap.size ≤ q → A q := fun q h => by rw [← hAe]; exact Or.inr h
  have hS : va_S A s.heap s.heap [] := va_S.rf
  have hl := lv_entry ([.ref t0, .int (nI pi), .int (nI k), .int x]) (n := 6) (Nat.le_of_ble_eq_true rfl)
  rw [lg_entry_eq]
  generalize (lg_sl ([.ref t0, .int (nI pi), .int (nI k), .int x]) ++ List.replicate (6 - (lg_sl ([.ref t0, .int (nI pi), .int (nI k), .int x])).length) Slot.unset).toArray = ls at hl ⊢
  have hl : lv_has ls 6 [(0, .ref t0), (1, .int (nI pi)), (2, .int (nI k)), (3, .int x)] := hl
  refine lv_aload_n hx hb dd_T_change_0 rfl (lv_at hl 0 rfl) ?_
  refine va_get (D := D) (ci := 4) (v := .ref t3) (C := "UseOdds$Tree") (T := TT_) (N := 5) hx hb hts IT_ hown hK hP 0 rfl rfl 3 (by decide) (hts _ tw63) (fun _ h9 => h9) rfl dd_T_change_1 ?_
  refine lv_iload_n hx hb dd_T_change_4 rfl (lv_at hl 1 rfl) ?_
  refine jw_aald hx hb hK hP 2 2 rfl rfl (i := pi) (by omega) (by decide) dd_T_change_5 ?_
  refine lv_iload_n hx hb dd_T_change_6 rfl (lv_at hl 2 rfl) ?_
  refine lv_dup2_11 hx hb dd_T_change_7 rfl rfl ?_
  refine jw_iald hx hb hK hP (4 + pi) 0 (gs_get rfl (by omega)) rfl (i := k) (by omega) (by decide) dd_T_change_8 ?_
  refine lv_iload_n hx hb dd_T_change_9 rfl (lv_at hl 3 rfl) ?_
  refine lv_iadd hx hb dd_T_change_10 ?_
  refine jw_iast hx hb hK hP hD hS (4 + pi) 0 (gs_get rfl (by omega)) rfl (i := k) (by omega) (by decide) dd_T_change_11 (fun H locs hP hD hS => ?_)
  rw [gs_set (x := 4) rfl (by omega)] at hP hD
  have hP : va_P D vwCl (([(t0, .inr (4, [.int (nI np), .ref t1, v2, .ref t3, .ref t4])), (t1, .inl (cs 0, 20, .inl (fun i => nI (par i) - 1))), (t3, .inl (cs 2, 20, .inr (.inr (.inr (.inr (fun i => if i < 20 then some (ro i) else none)))))), (t4, .inl (cs 2, 20, .inr (.inr (.inr (.inr (fun i => if i < 20 then some (rc i) else none))))))] : va_W) ++ (gs_ (cs 0) 20 8 ro (gs_up Mo pi k ((Mo pi k) + x)) ++ (gs_ (cs 0) 20 8 rc Mc ++ Y))) H := hP
  have hD : va_D A (([(t0, .inr (4, [.int (nI np), .ref t1, v2, .ref t3, .ref t4])), (t1, .inl (cs 0, 20, .inl (fun i => nI (par i) - 1))), (t3, .inl (cs 2, 20, .inr (.inr (.inr (.inr (fun i => if i < 20 then some (ro i) else none)))))), (t4, .inl (cs 2, 20, .inr (.inr (.inr (.inr (fun i => if i < 20 then some (rc i) else none))))))] : va_W) ++ (gs_ (cs 0) 20 8 ro (gs_up Mo pi k ((Mo pi k) + x)) ++ (gs_ (cs 0) 20 8 rc Mc ++ Y))) := hD
  refine lv_iload_n hx hb dd_T_change_12 rfl (lv_at hl 1 rfl) ?_
  refine jw_cvi (y := nI (pi + 1) - 1) (nI_pred pi).symm ?_
  refine lv_istore (lv' := [(4, .int (nI (pi + 1) - 1)), (0, .ref t0), (1, .int (nI pi)), (2, .int (nI k)), (3, .int x)]) hx hb dd_T_change_13 hl (by decide) rfl (fun ls hl => ?_)
  refine lv_iconst (v := nI 0) hx hb dd_T_change_15 (by decide) ?_
  refine lv_istore (lv' := [(5, .int (nI 0)), (4, .int (nI (pi + 1) - 1)), (0, .ref t0), (1, .int (nI pi)), (2, .int (nI k)), (3, .int x)]) hx hb dd_T_change_16 hl (by decide) rfl (fun ls hl => ?_)
  refine lp_T_change hx hb hown hts hK hT hml hA (Nat.le_refl _) (Nat.le_refl _) (Nat.zero_le _) (Nat.zero_le _) hnp hk hpar 20 (pi + 1) Mc (by omega) (by omega) H locs ls hP hD hS (lv_sub hl [2, 3, 4, 5, 1, 0] rfl) (fun H locs ls hP hD hS => ?_)
  exact W.vret hx hb hr (fun t ht hW => ⟨⟨(), rfl, trivial, by rw [ht]; exact hP, hD⟩, hS.F ht⟩) hS.2.2 dd_T_change_62
