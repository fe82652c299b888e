set_option maxHeartbeats 4000000 in
set_option maxRecDepth 100000 in
theorem lp_H_multiply {p : Program} {l : Launch} {e : Env} {R : Room} {s : State} {m : MethodId} {args : Array Value} {below : List Frame} {meth : Method} {c : Code} {cells slots : Nat} {Q : State → Prop} {A : Nat → Prop} {H0 : Heap} {D : va_G} {cs : Nat → ClassId} {h0 h1 N f u : Nat} (hx : p.tables.exec = Jvm.exec) (hb : c.code = cd_H_multiply) (hown : s.vm.findClass "UseOdds$Whole" = some m.cls) (hts : ∀ w ∈ TW, w.before args s = true) (hK : va_K D vwCl (jt cs) s) (hf : f ≤ 1000000) (hu : u ≤ 16) :
    ∀ (n i : Nat), i ≤ u → u + 1 ≤ i + n → ∀ (H : Heap) (locs : List Loc) (ls : Array Slot), va_P D vwCl [(h0, .inr (5, [.ref h1, .int (nI u)])), (h1, .inl (cs 1, 16, .inr (.inl (fun j => lN (mg_ N f i j)))))] H → va_D A [(h0, .inr (5, [.ref h1, .int (nI u)])), (h1, .inl (cs 1, 16, .inr (.inl (fun j => lN (mg_ N f i j)))))] → va_S A H0 H locs → lv_has ls 7 [(0, .ref h0), (1, .int (nI f)), (2, .long (lN (mc_ N f i))), (4, .int (nI i))] →
    (∀ (H : Heap) (locs : List Loc) (ls : Array Slot), va_P D vwCl [(h0, .inr (5, [.ref h1, .int (nI u)])), (h1, .inl (cs 1, 16, .inr (.inl (fun j => lN (mg_ N f u j)))))] H → va_D A [(h0, .inr (5, [.ref h1, .int (nI u)])), (h1, .inl (cs 1, 16, .inr (.inl (fun j => lN (mg_ N f u j)))))] → va_S A H0 H locs → lv_has ls 7 [(0, .ref h0), (1, .int (nI f)), (2, .long (lN (mc_ N f u))), (4, .int (nI u))] → W p l e R s m args below meth c H locs cells slots Q (F0 m 56 ls [])) → W p l e R s m args below meth c H locs cells slots Q (F0 m 5 ls []) := by
  intro n
  induction n with
  | zero => intro i h1 h2; exact absurd h2 (by omega)
  | succ n ih =>
    intro i hi hin H locs ls hP hD hS hl kx
    refine lv_iload hx hb dd_H_multiply_5 (lv_at hl 3 rfl) ?_
    refine lv_aload_n hx hb dd_H_multiply_7 rfl (lv_at hl 0 rfl) ?_
    refine va_get (D := D) (ci := 5) (v := .int (nI u)) (C := "UseOdds$Whole") (T := TH_) (N := 2) hx hb hts IH_ hown hK hP 0 rfl rfl 1 (by decide) (hts _ tw113) (fun _ h9 => h9) rfl dd_H_multiply_8 ?_
    refine jw_icmp_ge (a := i) (b := u) (tgt := 56) hx hb dd_H_multiply_11 (by decide) (by omega) (by omega) (fun c1 => ?_) (fun c1 => ?_)
    · have e1 : i = u := by omega
      rw [e1] at hP hD hl
      exact kx H locs ls hP hD hS (lv_sub hl [0, 1, 2, 3] rfl)
    · refine lv_aload_n hx hb dd_H_multiply_14 rfl (lv_at hl 0 rfl) ?_
      refine va_get (D := D) (ci := 5) (v := .ref h1) (C := "UseOdds$Whole") (T := TH_) (N := 2) hx hb hts IH_ hown hK hP 0 rfl rfl 0 (by decide) (hts _ tw112) (fun _ h9 => h9) rfl dd_H_multiply_15 ?_
      refine lv_iload hx hb dd_H_multiply_18 (lv_at hl 3 rfl) ?_
      refine jw_lald hx hb hK hP 1 1 rfl rfl (i := i) (by omega) (by decide) dd_H_multiply_20 ?_
      refine jw_cvl (y := lN (wG N i)) (by rw [mg_i]) ?_
      refine lv_iload_n hx hb dd_H_multiply_21 rfl (lv_at hl 1 rfl) ?_
      refine jw_i2l hx hb dd_H_multiply_22 (by omega) ?_
      refine jw_lmul hx hb dd_H_multiply_23 ?_
      refine lv_lload_n hx hb dd_H_multiply_24 rfl (lv_at hl 2 rfl) ?_
      refine jw_ladd hx hb dd_H_multiply_25 ?_
      refine lv_lstore (lv' := [(5, .long (lN (((wG N i) * f) + (mc_ N f i)))), (0, .ref h0), (1, .int (nI f)), (2, .long (lN (mc_ N f i))), (4, .int (nI i))]) hx hb dd_H_multiply_26 hl (by decide) rfl (fun ls hl => ?_)
      refine lv_lload hx hb dd_H_multiply_28 (lv_at hl 0 rfl) ?_
      refine lv_ldc2 (v := 1000000000000) hx hb hown (hts _ tw233) dd_H_multiply_30 ?_
      refine jw_cvl (y := lN 1000000000000) (by decide) ?_
      refine jw_ldiv hx hb dd_H_multiply_33 (mp_lt hf) (by decide) (by decide) ?_
      refine jw_cvl (y := lN (mc_ N f (i + 1))) (by rw [mc_s]; rfl) ?_
      refine lv_lstore_n (lv' := [(2, .long (lN (mc_ N f (i + 1)))), (5, .long (lN (((wG N i) * f) + (mc_ N f i)))), (0, .ref h0), (1, .int (nI f)), (4, .int (nI i))]) hx hb dd_H_multiply_34 rfl hl (by decide) rfl (fun ls hl => ?_)
      refine lv_aload_n hx hb dd_H_multiply_35 rfl (lv_at hl 2 rfl) ?_
      refine va_get (D := D) (ci := 5) (v := .ref h1) (C := "UseOdds$Whole") (T := TH_) (N := 2) hx hb hts IH_ hown hK hP 0 rfl rfl 0 (by decide) (hts _ tw112) (fun _ h9 => h9) rfl dd_H_multiply_36 ?_
      refine lv_iload hx hb dd_H_multiply_39 (lv_at hl 4 rfl) ?_
      refine lv_lload hx hb dd_H_multiply_41 (lv_at hl 1 rfl) ?_
      refine lv_lload_n hx hb dd_H_multiply_43 rfl (lv_at hl 0 rfl) ?_
      refine lv_ldc2 (v := 1000000000000) hx hb hown (hts _ tw233) dd_H_multiply_44 ?_
      refine jw_cvl (y := lN 1000000000000) (by decide) ?_
      refine jw_lmul hx hb dd_H_multiply_47 ?_
      refine jw_lsubR hx hb dd_H_multiply_48 (by rw [mc_s]; exact Nat.div_mul_le_self _ _) ?_
      refine jw_last hx hb hK hP hD hS 1 1 rfl rfl (i := i) (by omega) (by decide) dd_H_multiply_49 (fun H locs hP hD hS => ?_)
      have hP : va_P D vwCl [(h0, .inr (5, [.ref h1, .int (nI u)])), (h1, .inl (cs 1, 16, .inr (.inl (vp_updL (fun j => lN (mg_ N f i j)) i (lN ((((wG N i) * f) + (mc_ N f i)) - ((mc_ N f (i + 1)) * 1000000000000)))))))] H := hP
      have hD : va_D A [(h0, .inr (5, [.ref h1, .int (nI u)])), (h1, .inl (cs 1, 16, .inr (.inl (vp_updL (fun j => lN (mg_ N f i j)) i (lN ((((wG N i) * f) + (mc_ N f i)) - ((mc_ N f (i + 1)) * 1000000000000)))))))] := hD
      have eF : (vp_updL (fun j => lN (mg_ N f i j)) i (lN ((((wG N i) * f) + (mc_ N f i)) - ((mc_ N f (i + 1)) * 1000000000000)))) = (fun j => lN (mg_ N f (i + 1) j)) := (by rw [mc_s]; exact mg_up N f i)
      rw [eF] at hP hD
      refine lv_iinc (v := nI (i + 1)) (lv' := [(4, .int (nI (i + 1))), (2, .long (lN (mc_ N f (i + 1)))), (5, .long (lN (((wG N i) * f) + (mc_ N f i)))), (0, .ref h0), (1, .int (nI f))]) hx hb dd_H_multiply_50 hl (k := 4) rfl (nI_1 i) (by decide) rfl (fun ls hl => ?_)
      refine lv_goto (tgt := 5) hx hb dd_H_multiply_53 (by decide) ?_
      exact ih (i + 1) (by omega) (by omega) H locs ls hP hD hS (lv_sub hl [3, 4, 1, 0] rfl) kx

set_option maxHeartbeats 4000000 in
set_option maxRecDepth 100000 in
theorem c_H_multiply (l : Launch) (D : va_G) (cs : Nat → ClassId) (h0 h1 N f : Nat) (sz : Nat) (hN : N < bB ^ 16) (hf : f ≤ 1000000) (hM : N * f < bB ^ 16) : Met l ym_H_multiply [.code ym_H_multiply cd_H_multiply 7 none] ({ frames := 0, cells := 0, slots := 0, locals := 0 } : Room) (jw_Pc D vwCl (jt cs) [(h0, .inr (5, [.ref h1, .int (nI (wU N))])), (h1, .inl (cs 1, 16, .inr (.inl (fun j => lN (wG N j)))))] sz TX [.ref h0, .int (nI f)]) (va_Qv (fun (u : Unit) => True) (jw_B D vwCl (va_A [(h0, .inr (5, [.ref h1, .int (nI (wU N))])), (h1, .inl (cs 1, 16, .inr (.inl (fun j => lN (wG N j)))))] sz) (fun (u : Unit) => [(h0, .inr (5, [.ref h1, .int (nI (wU (N * f)))])), (h1, .inl (cs 1, 16, .inr (.inl (fun j => lN (wG (N * f) j)))))])) (va_A [(h0, .inr (5, [.ref h1, .int (nI (wU N))])), (h1, .inl (cs 1, 16, .inr (.inl (fun j => lN (wG N j)))))] sz)) 0 0 (va_A [(h0, .inr (5, [.ref h1, .int (nI (wU N))])), (h1, .inl (cs 1, 16, .inr (.inl (fun j => lN (wG N j)))))] sz) := by
  refine Met.ofW (cc := cd_H_multiply) (maxL := 7) (ret := none) (by decide) rfl ?_
  intro p e s m args below meth c s₁ B hml hv
  obtain ⟨rfl, hsz, hP, hD0, hK, hT⟩ := hv
  have hx := B.exec
  have hb := B.bytes
  have hr := B.returns
  have hts : ∀ w ∈ TW, w.before [.ref h0, .int (nI f)].toArray s = true := fun w h => hT.use h _
  have hown : s.vm.findClass "UseOdds$Whole" = some m.cls := findClass_of_methodNamed B.named
  have hlocks := B.notSynchronized
  subst hsz
  have hD := hD0.self (sz := s.heap.size)
  generalize hAe : va_A [(h0, .inr (5, [.ref h1, .int (nI (wU N))])), (h1, .inl (cs 1, 16, .inr (.inl (fun j => lN (wG N j)))))] s.heap.size = A at hD ⊢
  have hA : ∀ q : Nat, s.heap.size ≤ q → A q := fun q h => by rw [← hAe]; exact Or.inr h
  have hS : va_S A s.heap s.heap [] := va_S.rf
  have hl := lv_entry ([.ref h0, .int (nI f)]) (n := 7) (Nat.le_of_ble_eq_true rfl)
  rw [lg_entry_eq]
  generalize (lg_sl ([.ref h0, .int (nI f)]) ++ List.replicate (7 - (lg_sl ([.ref h0, .int (nI f)])).length) Slot.unset).toArray = ls at hl ⊢
  have hl : lv_has ls 7 [(0, .ref h0), (1, .int (nI f))] := hl
  obtain ⟨a1, a2, a3⟩ := wU_is hN
  have hu := wU_le hN
  refine lv_lconst (v := lN 0) hx hb dd_H_multiply_0 (by decide) ?_
  refine jw_cvl (y := lN (mc_ N f 0)) (by rw [mc_0]) ?_
  have eF : (fun j => lN (wG N j)) = (fun j => lN (mg_ N f 0 j)) := (mg_0 N f).symm
  rw [eF] at hP hD
  refine lv_lstore_n (lv' := [(2, .long (lN (mc_ N f 0))), (0, .ref h0), (1, .int (nI f))]) hx hb dd_H_multiply_1 rfl hl (by decide) rfl (fun ls hl => ?_)
  refine lv_iconst (v := nI 0) hx hb dd_H_multiply_2 (by decide) ?_
  refine lv_istore (lv' := [(4, .int (nI 0)), (2, .long (lN (mc_ N f 0))), (0, .ref h0), (1, .int (nI f))]) hx hb dd_H_multiply_3 hl (by decide) rfl (fun ls hl => ?_)
  refine lp_H_multiply hx hb hown hts hK hf hu (wU N + 1) 0 (Nat.zero_le _) (by omega) _ _ ls hP hD hS (lv_sub hl [2, 3, 1, 0] rfl) (fun H locs ls hP hD hS hl => ?_)
  have hml := mc_le (N := N) (i := wU N) hf
  refine lv_lload_n hx hb dd_H_multiply_56 rfl (lv_at hl 2 rfl) ?_
  refine lv_lconst (v := lN 0) hx hb dd_H_multiply_57 (by decide) ?_
  refine jw_lcmp_le (a := mc_ N f (wU N)) (b := 0) (tgt := 91) hx hb dd_H_multiply_58 dd_H_multiply_59 (by decide) (by omega) (by decide) (fun c1 => ?_) (fun c1 => ?_)
  · have eF : (fun j => lN (mg_ N f (wU N) j)) = (fun j => lN (wG (N * f) j)) := (mg_end0 a2 (by omega))
    rw [eF] at hP hD
    refine lv_iload_n hx hb dd_H_multiply_91 rfl (lv_at hl 1 rfl) ?_
    refine jw_if_ne (a := f) (tgt := 100) hx hb dd_H_multiply_92 (by decide) (by omega) (fun c3 => ?_) (fun c3 => ?_)
    · have eV : (nI (wU N)) = (nI (wU (N * f))) := (by rw [mu_end0 hN (by omega) (by omega)])
      rw [eV] at hP hD
      exact W.vret hx hb hr (fun t ht hW => ⟨⟨(), rfl, trivial, by rw [ht]; exact hP, hD⟩, hS.F ht⟩) hS.2.2 dd_H_multiply_100
    · have hf0 : f = 0 := by omega
      refine lv_aload_n hx hb dd_H_multiply_95 rfl (lv_at hl 0 rfl) ?_
      refine lv_iconst (v := nI 1) hx hb dd_H_multiply_96 (by decide) ?_
      refine va_put (D := D) (ci := 5) (v := .int (nI 1)) (ty := .int) (C := "UseOdds$Whole") (T := TH_) (N := 2) hx hb hts IH_ YH_ QH_ NH_ hown hK hP hD hS 0 rfl rfl 1 (by decide) (hts _ tw113) (fun _ h9 => h9) rfl (by decide +kernel) rfl rfl (Nat.le_of_ble_eq_true rfl) dd_H_multiply_97 (fun H locs hP hD hS => ?_)
      have hP : va_P D vwCl [(h0, .inr (5, [.ref h1, .int (nI 1)])), (h1, .inl (cs 1, 16, .inr (.inl (fun j => lN (wG (N * f) j)))))] H := hP
      have hD : va_D A [(h0, .inr (5, [.ref h1, .int (nI 1)])), (h1, .inl (cs 1, 16, .inr (.inl (fun j => lN (wG (N * f) j)))))] := hD
      have eV : (nI 1) = (nI (wU (N * f))) := (by rw [hf0, Nat.mul_zero, wU_0])
      rw [eV] at hP hD
      exact W.vret hx hb hr (fun t ht hW => ⟨⟨(), rfl, trivial, by rw [ht]; exact hP, hD⟩, hS.F ht⟩) hS.2.2 dd_H_multiply_100
  · refine lv_aload_n hx hb dd_H_multiply_62 rfl (lv_at hl 0 rfl) ?_
    refine va_get (D := D) (ci := 5) (v := .int (nI (wU N))) (C := "UseOdds$Whole") (T := TH_) (N := 2) hx hb hts IH_ hown hK hP 0 rfl rfl 1 (by decide) (hts _ tw113) (fun _ h9 => h9) rfl dd_H_multiply_63 ?_
    refine lv_bipush (v := nI 16) hx hb dd_H_multiply_66 (by decide) ?_
    refine jw_icmp_ge (a := wU N) (b := 16) (tgt := 91) hx hb dd_H_multiply_68 (by decide) (by omega) (by omega) (fun c2 => ?_) (fun c2 => ?_)
    · have hu1 := (mu_end1 hN hM hf (by omega)).2
      exact absurd c2 (by omega)
    · refine lv_aload_n hx hb dd_H_multiply_71 rfl (lv_at hl 0 rfl) ?_
      refine va_get (D := D) (ci := 5) (v := .ref h1) (C := "UseOdds$Whole") (T := TH_) (N := 2) hx hb hts IH_ hown hK hP 0 rfl rfl 0 (by decide) (hts _ tw112) (fun _ h9 => h9) rfl dd_H_multiply_72 ?_
      refine lv_aload_n hx hb dd_H_multiply_75 rfl (lv_at hl 0 rfl) ?_
      refine va_get (D := D) (ci := 5) (v := .int (nI (wU N))) (C := "UseOdds$Whole") (T := TH_) (N := 2) hx hb hts IH_ hown hK hP 0 rfl rfl 1 (by decide) (hts _ tw113) (fun _ h9 => h9) rfl dd_H_multiply_76 ?_
      refine lv_lload_n hx hb dd_H_multiply_79 rfl (lv_at hl 2 rfl) ?_
      refine jw_last hx hb hK hP hD hS 1 1 rfl rfl (i := wU N) (by omega) (by decide) dd_H_multiply_80 (fun H locs hP hD hS => ?_)
      have hP : va_P D vwCl [(h0, .inr (5, [.ref h1, .int (nI (wU N))])), (h1, .inl (cs 1, 16, .inr (.inl (vp_updL (fun j => lN (mg_ N f (wU N) j)) (wU N) (lN (mc_ N f (wU N)))))))] H := hP
      have hD : va_D A [(h0, .inr (5, [.ref h1, .int (nI (wU N))])), (h1, .inl (cs 1, 16, .inr (.inl (vp_updL (fun j => lN (mg_ N f (wU N) j)) (wU N) (lN (mc_ N f (wU N)))))))] := hD
      refine lv_aload_n hx hb dd_H_multiply_81 rfl (lv_at hl 0 rfl) ?_
      refine lv_dup hx hb dd_H_multiply_82 rfl ?_
      refine va_get (D := D) (ci := 5) (v := .int (nI (wU N))) (C := "UseOdds$Whole") (T := TH_) (N := 2) hx hb hts IH_ hown hK hP 0 rfl rfl 1 (by decide) (hts _ tw113) (fun _ h9 => h9) rfl dd_H_multiply_83 ?_
      refine lv_iconst (v := nI 1) hx hb dd_H_multiply_86 (by decide) ?_
      refine jw_iadd hx hb dd_H_multiply_87 ?_
      refine va_put (D := D) (ci := 5) (v := .int (nI ((wU N) + 1))) (ty := .int) (C := "UseOdds$Whole") (T := TH_) (N := 2) hx hb hts IH_ YH_ QH_ NH_ hown hK hP hD hS 0 rfl rfl 1 (by decide) (hts _ tw113) (fun _ h9 => h9) rfl (by decide +kernel) rfl rfl (Nat.le_of_ble_eq_true rfl) dd_H_multiply_88 (fun H locs hP hD hS => ?_)
      have hP : va_P D vwCl [(h0, .inr (5, [.ref h1, .int (nI ((wU N) + 1))])), (h1, .inl (cs 1, 16, .inr (.inl (vp_updL (fun j => lN (mg_ N f (wU N) j)) (wU N) (lN (mc_ N f (wU N)))))))] H := hP
      have hD : va_D A [(h0, .inr (5, [.ref h1, .int (nI ((wU N) + 1))])), (h1, .inl (cs 1, 16, .inr (.inl (vp_updL (fun j => lN (mg_ N f (wU N) j)) (wU N) (lN (mc_ N f (wU N)))))))] := hD
      have eF : (vp_updL (fun j => lN (mg_ N f (wU N) j)) (wU N) (lN (mc_ N f (wU N)))) = (fun j => lN (wG (N * f) j)) := (mg_end1 a2 hf)
      rw [eF] at hP hD
      have eV : (nI ((wU N) + 1)) = (nI (wU (N * f))) := (by rw [(mu_end1 hN hM hf (by omega)).1])
      rw [eV] at hP hD
      refine lv_iload_n hx hb dd_H_multiply_91 rfl (lv_at hl 1 rfl) ?_
      refine jw_if_ne (a := f) (tgt := 100) hx hb dd_H_multiply_92 (by decide) (by omega) (fun c3 => ?_) (fun c3 => ?_)
      · exact W.vret hx hb hr (fun t ht hW => ⟨⟨(), rfl, trivial, by rw [ht]; exact hP, hD⟩, hS.F ht⟩) hS.2.2 dd_H_multiply_100
      · exact absurd c1 (by rw [show f = 0 from c3]; simp [mc_])
