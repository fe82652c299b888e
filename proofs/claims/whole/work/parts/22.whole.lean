set_option maxHeartbeats 4000000 in
set_option maxRecDepth 100000 in
theorem lp_H_exceeds {p : Program} {l : Launch} {e : Env} {R : Room} {s : State} {m : MethodId} {args : Array Value} {below : List Frame} {meth : Method} {c : Code} {cells slots : Nat} {Q : State → Prop} {H : Heap} {locs : List Loc} {A : Nat → Prop} {H0 : Heap} {D : va_G} {cs : Nat → ClassId} {h0 h1 g0 g1 N M top : Nat} (hx : p.tables.exec = Jvm.exec) (hb : c.code = cd_H_exceeds) (hown : s.vm.findClass "UseOdds$Whole" = some m.cls) (hts : ∀ w ∈ TW, w.before args s = true) (hK : va_K D vwCl (jt cs) s) (hP : va_P D vwCl [(h0, .inr (5, [.ref h1, .int (nI (wU N))])), (h1, .inl (cs 1, 16, .inr (.inl (fun j => lN (wG N j))))), (g0, .inr (5, [.ref g1, .int (nI (wU M))])), (g1, .inl (cs 1, 16, .inr (.inl (fun j => lN (wG M j)))))] H) (hD : va_D A [(h0, .inr (5, [.ref h1, .int (nI (wU N))])), (h1, .inl (cs 1, 16, .inr (.inl (fun j => lN (wG N j))))), (g0, .inr (5, [.ref g1, .int (nI (wU M))])), (g1, .inl (cs 1, 16, .inr (.inl (fun j => lN (wG M j)))))]) (hS : va_S A H0 H locs) (htop : top ≤ 16) :
    ∀ (k : Nat), k ≤ top → N / bB ^ k = M / bB ^ k → ∀ (ls : Array Slot), lv_has ls 3 [(0, .ref h0), (1, .ref g0), (2, .int (nI k - 1))] →
    (∀ ls : Array Slot, N = M → W p l e R s m args below meth c H locs cells slots Q (F0 m 84 ls [.int (nI 0)])) → (∀ ls : Array Slot, M < N → W p l e R s m args below meth c H locs cells slots Q (F0 m 76 ls [.int (nI 1)])) → (∀ ls : Array Slot, ¬ M < N → W p l e R s m args below meth c H locs cells slots Q (F0 m 76 ls [.int (nI 0)])) → W p l e R s m args below meth c H locs cells slots Q (F0 m 35 ls []) := by
  intro k
  induction k with
  | zero =>
    intro hk he ls hl kx kt kf
    refine lv_iload_n hx hb dd_H_exceeds_35 rfl (lv_at hl 2 rfl) ?_
    refine lv_if_lt (tgt := 83) hx hb dd_H_exceeds_36 (by decide) (fun c1 => ?_) (fun c1 => ?_)
    · refine lv_iconst (v := nI 0) hx hb dd_H_exceeds_83 (by decide) ?_
      exact kx ls (by simpa using he)
    · exact absurd (show nI 0 - 1 < 0 by decide) c1
  | succ k ih =>
    intro hk he ls hl kx kt kf
    rw [nI_pred] at hl
    refine lv_iload_n hx hb dd_H_exceeds_35 rfl (lv_at hl 2 rfl) ?_
    refine jw_if_lt (a := k) (tgt := 83) hx hb dd_H_exceeds_36 (by decide) (by omega) ?_
    refine lv_aload_n hx hb dd_H_exceeds_39 rfl (lv_at hl 0 rfl) ?_
    refine va_get (D := D) (ci := 5) (v := .ref h1) (C := "UseOdds$Whole") (T := TH_) (N := 2) hx hb hts IH_ hown hK hP 0 rfl rfl 0 (by decide) (hts _ tw112) (fun _ h9 => h9) rfl dd_H_exceeds_40 ?_
    refine lv_iload_n hx hb dd_H_exceeds_43 rfl (lv_at hl 2 rfl) ?_
    refine jw_lald hx hb hK hP 1 1 rfl rfl (i := k) (by omega) (by decide) dd_H_exceeds_44 ?_
    refine lv_aload_n hx hb dd_H_exceeds_45 rfl (lv_at hl 1 rfl) ?_
    refine va_get (D := D) (ci := 5) (v := .ref g1) (C := "UseOdds$Whole") (T := TH_) (N := 2) hx hb hts IH_ hown hK hP 2 rfl rfl 0 (by decide) (hts _ tw112) (fun _ h9 => h9) rfl dd_H_exceeds_46 ?_
    refine lv_iload_n hx hb dd_H_exceeds_49 rfl (lv_at hl 2 rfl) ?_
    refine jw_lald hx hb hK hP 3 1 rfl rfl (i := k) (by omega) (by decide) dd_H_exceeds_50 ?_
    refine jw_lcmp_eq (a := wG N k) (b := wG M k) (tgt := 77) hx hb dd_H_exceeds_51 dd_H_exceeds_52 (by decide) (Nat.lt_trans (wG_lt _ _) (by decide)) (Nat.lt_trans (wG_lt _ _) (by decide)) (fun c1 => ?_) (fun c1 => ?_)
    · refine lv_iinc (v := nI k - 1) (lv' := [(2, .int (nI k - 1)), (0, .ref h0), (1, .ref g0)]) hx hb dd_H_exceeds_77 hl (k := 2) rfl (nI_dec k) (by decide) rfl (fun ls hl => ?_)
      refine lv_goto (tgt := 35) hx hb dd_H_exceeds_80 (by decide) ?_
      exact ih (by omega) (wx_eq he c1) ls (lv_sub hl [1, 2, 0] rfl) kx kt kf
    · refine lv_aload_n hx hb dd_H_exceeds_55 rfl (lv_at hl 0 rfl) ?_
      refine va_get (D := D) (ci := 5) (v := .ref h1) (C := "UseOdds$Whole") (T := TH_) (N := 2) hx hb hts IH_ hown hK hP 0 rfl rfl 0 (by decide) (hts _ tw112) (fun _ h9 => h9) rfl dd_H_exceeds_56 ?_
      refine lv_iload_n hx hb dd_H_exceeds_59 rfl (lv_at hl 2 rfl) ?_
      refine jw_lald hx hb hK hP 1 1 rfl rfl (i := k) (by omega) (by decide) dd_H_exceeds_60 ?_
      refine lv_aload_n hx hb dd_H_exceeds_61 rfl (lv_at hl 1 rfl) ?_
      refine va_get (D := D) (ci := 5) (v := .ref g1) (C := "UseOdds$Whole") (T := TH_) (N := 2) hx hb hts IH_ hown hK hP 2 rfl rfl 0 (by decide) (hts _ tw112) (fun _ h9 => h9) rfl dd_H_exceeds_62 ?_
      refine lv_iload_n hx hb dd_H_exceeds_65 rfl (lv_at hl 2 rfl) ?_
      refine jw_lald hx hb hK hP 3 1 rfl rfl (i := k) (by omega) (by decide) dd_H_exceeds_66 ?_
      refine jw_lcmp_le (a := wG N k) (b := wG M k) (tgt := 75) hx hb dd_H_exceeds_67 dd_H_exceeds_68 (by decide) (Nat.lt_trans (wG_lt _ _) (by decide)) (Nat.lt_trans (wG_lt _ _) (by decide)) (fun c2 => ?_) (fun c2 => ?_)
      · refine lv_iconst (v := nI 0) hx hb dd_H_exceeds_75 (by decide) ?_
        exact kf ls (fun q => by have := wx_gt he.symm (show wG N k < wG M k by omega); omega)
      · refine lv_iconst (v := nI 1) hx hb dd_H_exceeds_71 (by decide) ?_
        refine lv_goto (tgt := 76) hx hb dd_H_exceeds_72 (by decide) ?_
        exact kt ls (wx_gt he (by omega))

set_option maxHeartbeats 4000000 in
set_option maxRecDepth 100000 in
theorem c_H_exceeds (l : Launch) (D : va_G) (cs : Nat → ClassId) (h0 h1 g0 g1 N M : Nat) (sz : Nat) (hN : N < bB ^ 16) (hM : M < bB ^ 16) : Met l ym_H_exceeds [.code ym_H_exceeds cd_H_exceeds 3 (some .boolean)] ({ frames := 0, cells := 0, slots := 0, locals := 0 } : Room) (jw_Pc D vwCl (jt cs) [(h0, .inr (5, [.ref h1, .int (nI (wU N))])), (h1, .inl (cs 1, 16, .inr (.inl (fun j => lN (wG N j))))), (g0, .inr (5, [.ref g1, .int (nI (wU M))])), (g1, .inl (cs 1, 16, .inr (.inl (fun j => lN (wG M j)))))] sz TX [.ref h0, .ref g0]) (va_Qi (fun (r : Int32) (u : Unit) => r = nI (if M < N then 1 else 0)) (jw_B D vwCl (va_A [(h0, .inr (5, [.ref h1, .int (nI (wU N))])), (h1, .inl (cs 1, 16, .inr (.inl (fun j => lN (wG N j))))), (g0, .inr (5, [.ref g1, .int (nI (wU M))])), (g1, .inl (cs 1, 16, .inr (.inl (fun j => lN (wG M j)))))] sz) (fun (u : Unit) => [(h0, .inr (5, [.ref h1, .int (nI (wU N))])), (h1, .inl (cs 1, 16, .inr (.inl (fun j => lN (wG N j))))), (g0, .inr (5, [.ref g1, .int (nI (wU M))])), (g1, .inl (cs 1, 16, .inr (.inl (fun j => lN (wG M j)))))])) (va_A [(h0, .inr (5, [.ref h1, .int (nI (wU N))])), (h1, .inl (cs 1, 16, .inr (.inl (fun j => lN (wG N j))))), (g0, .inr (5, [.ref g1, .int (nI (wU M))])), (g1, .inl (cs 1, 16, .inr (.inl (fun j => lN (wG M j)))))] sz)) 0 0 (va_A [(h0, .inr (5, [.ref h1, .int (nI (wU N))])), (h1, .inl (cs 1, 16, .inr (.inl (fun j => lN (wG N j))))), (g0, .inr (5, [.ref g1, .int (nI (wU M))])), (g1, .inl (cs 1, 16, .inr (.inl (fun j => lN (wG M j)))))] sz) := by
  refine Met.ofW (cc := cd_H_exceeds) (maxL := 3) (ret := (some .boolean)) (by decide) rfl ?_
  intro p e s m args below meth c s₁ B hml hv
  obtain ⟨rfl, hsz, hP, hD0, hK, hT⟩ := hv
  have hx := B.exec
  have hb := B.bytes
  have hr := B.returns
  have hts : ∀ w ∈ TW, w.before [.ref h0, .ref g0].toArray s = true := fun w h => hT.use h _
  have hown : s.vm.findClass "UseOdds$Whole" = some m.cls := findClass_of_methodNamed B.named
  have hlocks := B.notSynchronized
  subst hsz
  have hD := hD0.self (sz := s.heap.size)
  generalize hAe : va_A [(h0, .inr (5, [.ref h1, .int (nI (wU N))])), (h1, .inl (cs 1, 16, .inr (.inl (fun j => lN (wG N j))))), (g0, .inr (5, [.ref g1, .int (nI (wU M))])), (g1, .inl (cs 1, 16, .inr (.inl (fun j => lN (wG M j)))))] s.heap.size = A at hD ⊢
  have hA : ∀ q : Nat, s.heap.size ≤ q → A q := fun q h => by rw [← hAe]; exact Or.inr h
  have hS : va_S A s.heap s.heap [] := va_S.rf
  have hl := lv_entry ([.ref h0, .ref g0]) (n := 3) (Nat.le_of_ble_eq_true rfl)
  rw [lg_entry_eq]
  generalize (lg_sl ([.ref h0, .ref g0]) ++ List.replicate (3 - (lg_sl ([.ref h0, .ref g0])).length) Slot.unset).toArray = ls at hl ⊢
  have hl : lv_has ls 3 [(0, .ref h0), (1, .ref g0)] := hl
  have a1 := (wU_is hN).1
  have a2 := (wU_is hN).2.1
  have b2 := (wU_is hM).2.1
  have hu := wU_le hN
  have hv := wU_le hM
  refine lv_aload_n hx hb dd_H_exceeds_0 rfl (lv_at hl 0 rfl) ?_
  refine va_get (D := D) (ci := 5) (v := .int (nI (wU N))) (C := "UseOdds$Whole") (T := TH_) (N := 2) hx hb hts IH_ hown hK hP 0 rfl rfl 1 (by decide) (hts _ tw113) (fun _ h9 => h9) rfl dd_H_exceeds_1 ?_
  refine lv_aload_n hx hb dd_H_exceeds_4 rfl (lv_at hl 1 rfl) ?_
  refine va_get (D := D) (ci := 5) (v := .int (nI (wU M))) (C := "UseOdds$Whole") (T := TH_) (N := 2) hx hb hts IH_ hown hK hP 2 rfl rfl 1 (by decide) (hts _ tw113) (fun _ h9 => h9) rfl dd_H_exceeds_5 ?_
  refine jw_icmp_eq (a := wU N) (b := wU M) (tgt := 28) hx hb dd_H_exceeds_8 (by decide) (by omega) (by omega) (fun c1 => ?_) (fun c1 => ?_)
  · refine lv_aload_n hx hb dd_H_exceeds_28 rfl (lv_at hl 0 rfl) ?_
    refine va_get (D := D) (ci := 5) (v := .int (nI (wU N))) (C := "UseOdds$Whole") (T := TH_) (N := 2) hx hb hts IH_ hown hK hP 0 rfl rfl 1 (by decide) (hts _ tw113) (fun _ h9 => h9) rfl dd_H_exceeds_29 ?_
    refine lv_iconst (v := nI 1) hx hb dd_H_exceeds_32 (by decide) ?_
    refine jw_isub hx hb dd_H_exceeds_33 (by omega) ?_
    refine jw_cvi (y := nI (wU N) - 1) (nI_p1 a1) ?_
    refine lv_istore_n (lv' := [(2, .int (nI (wU N) - 1)), (0, .ref h0), (1, .ref g0)]) hx hb dd_H_exceeds_34 rfl hl (by decide) rfl (fun ls hl => ?_)
    refine lp_H_exceeds hx hb hown hts hK hP hD hS hu (wU N) (Nat.le_refl _) (by rw [Nat.div_eq_of_lt a2, Nat.div_eq_of_lt (by rw [c1]; exact b2)]) ls (lv_sub hl [1, 2, 0] rfl) (fun ls q => ?_) (fun ls q => ?_) (fun ls q => ?_)
    · exact W.zret (v := (nI 0)) (ty := .boolean) hx hb hr (by decide) (fun t ht hW => ⟨⟨_, (), rfl, by rw [if_neg (by omega)], by rw [ht]; exact hP, hD⟩, hS.F ht⟩) hS.2.2 dd_H_exceeds_84
    · exact W.zret (v := (nI 1)) (ty := .boolean) hx hb hr (by decide) (fun t ht hW => ⟨⟨_, (), rfl, by rw [if_pos q], by rw [ht]; exact hP, hD⟩, hS.F ht⟩) hS.2.2 dd_H_exceeds_76
    · exact W.zret (v := (nI 0)) (ty := .boolean) hx hb hr (by decide) (fun t ht hW => ⟨⟨_, (), rfl, by rw [if_neg q], by rw [ht]; exact hP, hD⟩, hS.F ht⟩) hS.2.2 dd_H_exceeds_76
  · refine lv_aload_n hx hb dd_H_exceeds_11 rfl (lv_at hl 0 rfl) ?_
    refine va_get (D := D) (ci := 5) (v := .int (nI (wU N))) (C := "UseOdds$Whole") (T := TH_) (N := 2) hx hb hts IH_ hown hK hP 0 rfl rfl 1 (by decide) (hts _ tw113) (fun _ h9 => h9) rfl dd_H_exceeds_12 ?_
    refine lv_aload_n hx hb dd_H_exceeds_15 rfl (lv_at hl 1 rfl) ?_
    refine va_get (D := D) (ci := 5) (v := .int (nI (wU M))) (C := "UseOdds$Whole") (T := TH_) (N := 2) hx hb hts IH_ hown hK hP 2 rfl rfl 1 (by decide) (hts _ tw113) (fun _ h9 => h9) rfl dd_H_exceeds_16 ?_
    refine jw_icmp_le (a := wU N) (b := wU M) (tgt := 26) hx hb dd_H_exceeds_19 (by decide) (by omega) (by omega) (fun c2 => ?_) (fun c2 => ?_)
    · refine lv_iconst (v := nI 0) hx hb dd_H_exceeds_26 (by decide) ?_
      exact W.zret (v := (nI 0)) (ty := .boolean) hx hb hr (by decide) (fun t ht hW => ⟨⟨_, (), rfl, by rw [if_neg (fun q => by have := wx_u hM hN (show wU N < wU M by omega); omega)], by rw [ht]; exact hP, hD⟩, hS.F ht⟩) hS.2.2 dd_H_exceeds_27
    · refine lv_iconst (v := nI 1) hx hb dd_H_exceeds_22 (by decide) ?_
      refine lv_goto (tgt := 27) hx hb dd_H_exceeds_23 (by decide) ?_
      exact W.zret (v := (nI 1)) (ty := .boolean) hx hb hr (by decide) (fun t ht hW => ⟨⟨_, (), rfl, by rw [if_pos (wx_u hN hM (by omega))], by rw [ht]; exact hP, hD⟩, hS.F ht⟩) hS.2.2 dd_H_exceeds_27

set_option maxHeartbeats 4000000 in
set_option maxRecDepth 100000 in
theorem lp_H_length {p : Program} {l : Launch} {e : Env} {R : Room} {s : State} {m : MethodId} {args : Array Value} {below : List Frame} {meth : Method} {c : Code} {cells slots : Nat} {Q : State → Prop} {H : Heap} {locs : List Loc} {A : Nat → Prop} {H0 : Heap} {D : va_G} {cs : Nat → ClassId} {h0 h1 N T u : Nat} (hx : p.tables.exec = Jvm.exec) (hb : c.code = cd_H_length) (hown : s.vm.findClass "UseOdds$Whole" = some m.cls) (hts : ∀ w ∈ TW, w.before args s = true) (hK : va_K D vwCl (jt cs) s) (hP : va_P D vwCl [(h0, .inr (5, [.ref h1, .int (nI (wU N))])), (h1, .inl (cs 1, 16, .inr (.inl (fun j => lN (wG N j)))))] H) (hD : va_D A [(h0, .inr (5, [.ref h1, .int (nI (wU N))])), (h1, .inl (cs 1, 16, .inr (.inl (fun j => lN (wG N j)))))]) (hS : va_S A H0 H locs) (hT1 : T < 10 ^ 12) (hu : u ≤ 16) :
    ∀ (n j : Nat), j ≤ 11 → 12 ≤ j + n → (j = 0 ∨ 10 ^ j ≤ T) → ∀ (ls : Array Slot), lv_has ls 5 [(0, .ref h0), (1, .int (nI ((u - 1) * 12 + (j + 1)))), (2, .long (lN (T / 10 ^ j))), (4, .int (nI (j + 1)))] →
    (∀ (j : Nat) (ls : Array Slot), (j = 0 ∨ 10 ^ j ≤ T) → T < 10 ^ (j + 1) → lv_has ls 5 [(0, .ref h0), (1, .int (nI ((u - 1) * 12 + (j + 1)))), (2, .long (lN (T / 10 ^ j))), (4, .int (nI (j + 1)))] → W p l e R s m args below meth c H locs cells slots Q (F0 m 57 ls [])) → W p l e R s m args below meth c H locs cells slots Q (F0 m 27 ls []) := by
  intro n
  induction n with
  | zero =>
    intro j hj0 hn hj ls hl kx
    exact absurd hn (by omega)
  | succ n ih =>
    intro j hj0 hn hj ls hl kx
    have hq : T / 10 ^ j < 2 ^ 63 := Nat.lt_of_le_of_lt (Nat.div_le_self _ _) (Nat.lt_trans hT1 (by decide))
    have hp : 0 < 10 ^ j := Nat.pow_pos (by decide)
    refine lv_iload hx hb dd_H_length_27 (lv_at hl 3 rfl) ?_
    refine lv_bipush (v := nI 12) hx hb dd_H_length_29 (by decide) ?_
    refine jw_icmp_ge (a := j + 1) (b := 12) (tgt := 57) hx hb dd_H_length_31 (by decide) (by omega) (by omega) (fun c1 => ?_) (fun c1 => ?_)
    · have e1 : j = 11 := by omega
      subst e1
      exact kx 11 ls hj hT1 (lv_sub hl [0, 1, 2, 3] rfl)
    · refine lv_lload_n hx hb dd_H_length_34 rfl (lv_at hl 2 rfl) ?_
      refine lv_ldc2 (v := 10) hx hb hown (hts _ tw475) dd_H_length_35 ?_
      refine jw_cvl (y := lN 10) (by decide) ?_
      refine jw_lcmp_lt (a := T / 10 ^ j) (b := 10) (tgt := 57) hx hb dd_H_length_38 dd_H_length_39 (by decide) hq (by decide) (fun c2 => ?_) (fun c2 => ?_)
      · exact kx j ls hj (by rw [Nat.pow_succ, Nat.mul_comm]; exact (Nat.div_lt_iff_lt_mul hp).mp c2) (lv_sub hl [0, 1, 2, 3] rfl)
      · refine lv_lload_n hx hb dd_H_length_42 rfl (lv_at hl 2 rfl) ?_
        refine lv_ldc2 (v := 10) hx hb hown (hts _ tw475) dd_H_length_43 ?_
        refine jw_cvl (y := lN 10) (by decide) ?_
        refine jw_ldiv hx hb dd_H_length_46 hq (by decide) (by decide) ?_
        refine jw_cvl (y := lN (T / 10 ^ (j + 1))) (by rw [Nat.div_div_eq_div_mul, ← Nat.pow_succ]) ?_
        refine lv_lstore_n (lv' := [(2, .long (lN (T / 10 ^ (j + 1)))), (0, .ref h0), (1, .int (nI ((u - 1) * 12 + (j + 1)))), (4, .int (nI (j + 1)))]) hx hb dd_H_length_47 rfl hl (by decide) rfl (fun ls hl => ?_)
        refine lv_iinc (v := nI ((u - 1) * 12 + (j + 1) + 1)) (lv' := [(1, .int (nI ((u - 1) * 12 + (j + 1) + 1))), (2, .long (lN (T / 10 ^ (j + 1)))), (0, .ref h0), (4, .int (nI (j + 1)))]) hx hb dd_H_length_48 hl (k := 2) rfl (nI_1 ((u - 1) * 12 + (j + 1))) (by decide) rfl (fun ls hl => ?_)
        refine lv_iinc (v := nI (j + 1 + 1)) (lv' := [(4, .int (nI (j + 1 + 1))), (1, .int (nI ((u - 1) * 12 + (j + 1) + 1))), (2, .long (lN (T / 10 ^ (j + 1)))), (0, .ref h0)]) hx hb dd_H_length_51 hl (k := 3) rfl (nI_1 (j + 1)) (by decide) rfl (fun ls hl => ?_)
        refine lv_goto (tgt := 27) hx hb dd_H_length_54 (by decide) ?_
        exact ih (j + 1) (by omega) (by omega) (Or.inr (by rw [Nat.pow_succ, Nat.mul_comm]; exact (Nat.le_div_iff_mul_le hp).mp (by omega))) ls (lv_sub hl [3, 1, 2, 0] rfl) kx

set_option maxHeartbeats 4000000 in
set_option maxRecDepth 100000 in
theorem c_H_length (l : Launch) (D : va_G) (cs : Nat → ClassId) (h0 h1 N : Nat) (sz : Nat) (hN : N < bB ^ 16) : Met l ym_H_length [.code ym_H_length cd_H_length 5 (some .int)] ({ frames := 0, cells := 0, slots := 0, locals := 0 } : Room) (jw_Pc D vwCl (jt cs) [(h0, .inr (5, [.ref h1, .int (nI (wU N))])), (h1, .inl (cs 1, 16, .inr (.inl (fun j => lN (wG N j)))))] sz TX [.ref h0]) (va_Qi (fun (r : Int32) (u : Unit) => r = nI (dL N)) (jw_B D vwCl (va_A [(h0, .inr (5, [.ref h1, .int (nI (wU N))])), (h1, .inl (cs 1, 16, .inr (.inl (fun j => lN (wG N j)))))] sz) (fun (u : Unit) => [(h0, .inr (5, [.ref h1, .int (nI (wU N))])), (h1, .inl (cs 1, 16, .inr (.inl (fun j => lN (wG N j)))))])) (va_A [(h0, .inr (5, [.ref h1, .int (nI (wU N))])), (h1, .inl (cs 1, 16, .inr (.inl (fun j => lN (wG N j)))))] sz)) 0 0 (va_A [(h0, .inr (5, [.ref h1, .int (nI (wU N))])), (h1, .inl (cs 1, 16, .inr (.inl (fun j => lN (wG N j)))))] sz) := by
  refine Met.ofW (cc := cd_H_length) (maxL := 5) (ret := (some .int)) (by decide) rfl ?_
  intro p e s m args below meth c s₁ B hml hv
  obtain ⟨rfl, hsz, hP, hD0, hK, hT⟩ := hv
  have hx := B.exec
  have hb := B.bytes
  have hr := B.returns
  have hts : ∀ w ∈ TW, w.before [.ref h0].toArray s = true := fun w h => hT.use h _
  have hown : s.vm.findClass "UseOdds$Whole" = some m.cls := findClass_of_methodNamed B.named
  have hlocks := B.notSynchronized
  subst hsz
  have hD := hD0.self (sz := s.heap.size)
  generalize hAe : va_A [(h0, .inr (5, [.ref h1, .int (nI (wU N))])), (h1, .inl (cs 1, 16, .inr (.inl (fun j => lN (wG N j)))))] s.heap.size = A at hD ⊢
  have hA : ∀ q : Nat, s.heap.size ≤ q → A q := fun q h => by rw [← hAe]; exact Or.inr h
  have hS : va_S A s.heap s.heap [] := va_S.rf
  have hl := lv_entry ([.ref h0]) (n := 5) (Nat.le_of_ble_eq_true rfl)
  rw [lg_entry_eq]
  generalize (lg_sl ([.ref h0]) ++ List.replicate (5 - (lg_sl ([.ref h0])).length) Slot.unset).toArray = ls at hl ⊢
  have hl : lv_has ls 5 [(0, .ref h0)] := hl
  have a0 := wU_is hN
  have a1 := a0.1
  have hu := wU_le hN
  refine lv_aload_n hx hb dd_H_length_0 rfl (lv_at hl 0 rfl) ?_
  refine va_get (D := D) (ci := 5) (v := .int (nI (wU N))) (C := "UseOdds$Whole") (T := TH_) (N := 2) hx hb hts IH_ hown hK hP 0 rfl rfl 1 (by decide) (hts _ tw113) (fun _ h9 => h9) rfl dd_H_length_1 ?_
  refine lv_iconst (v := nI 1) hx hb dd_H_length_4 (by decide) ?_
  refine jw_isub hx hb dd_H_length_5 (by omega) ?_
  refine lv_bipush (v := nI 12) hx hb dd_H_length_6 (by decide) ?_
  refine jw_imul hx hb dd_H_length_8 ?_
  refine lv_iconst (v := nI 1) hx hb dd_H_length_9 (by decide) ?_
  refine jw_iadd hx hb dd_H_length_10 ?_
  refine lv_istore_n (lv' := [(1, .int (nI ((((wU N) - 1) * 12) + 1))), (0, .ref h0)]) hx hb dd_H_length_11 rfl hl (by decide) rfl (fun ls hl => ?_)
  refine lv_aload_n hx hb dd_H_length_12 rfl (lv_at hl 1 rfl) ?_
  refine va_get (D := D) (ci := 5) (v := .ref h1) (C := "UseOdds$Whole") (T := TH_) (N := 2) hx hb hts IH_ hown hK hP 0 rfl rfl 0 (by decide) (hts _ tw112) (fun _ h9 => h9) rfl dd_H_length_13 ?_
  refine lv_aload_n hx hb dd_H_length_16 rfl (lv_at hl 1 rfl) ?_
  refine va_get (D := D) (ci := 5) (v := .int (nI (wU N))) (C := "UseOdds$Whole") (T := TH_) (N := 2) hx hb hts IH_ hown hK hP 0 rfl rfl 1 (by decide) (hts _ tw113) (fun _ h9 => h9) rfl dd_H_length_17 ?_
  refine lv_iconst (v := nI 1) hx hb dd_H_length_20 (by decide) ?_
  refine jw_isub hx hb dd_H_length_21 (by omega) ?_
  refine jw_lald hx hb hK hP 1 1 rfl rfl (i := (wU N) - 1) (by omega) (by decide) dd_H_length_22 ?_
  refine lv_lstore_n (lv' := [(2, .long (lN (wG N ((wU N) - 1)))), (1, .int (nI ((((wU N) - 1) * 12) + 1))), (0, .ref h0)]) hx hb dd_H_length_23 rfl hl (by decide) rfl (fun ls hl => ?_)
  refine lv_iconst (v := nI 1) hx hb dd_H_length_24 (by decide) ?_
  refine lv_istore (lv' := [(4, .int (nI 1)), (2, .long (lN (wG N ((wU N) - 1)))), (1, .int (nI ((((wU N) - 1) * 12) + 1))), (0, .ref h0)]) hx hb dd_H_length_25 hl (by decide) rfl (fun ls hl => ?_)
  have hT1 : wG N (wU N - 1) < 10 ^ 12 := wG_lt _ _
  refine lp_H_length (N := N) (T := wG N (wU N - 1)) (u := wU N) hx hb hown hts hK hP hD hS hT1 hu 12 0 (by omega) (by omega) (Or.inl rfl) ls ?_ (fun j ls q1 q2 hl => ?_)
  · rw [Nat.pow_zero, Nat.div_one]
    exact (lv_sub hl [3, 2, 1, 0] rfl)
  · refine lv_iload_n hx hb dd_H_length_57 rfl (lv_at hl 1 rfl) ?_
    exact W.iret (v := (nI ((wU N - 1) * 12 + (j + 1)))) hx hb hr (fun t ht hW => ⟨⟨_, (), rfl, by rw [dL_top a0 hN (show 1 ≤ j + 1 by omega) q2 (by rw [Nat.add_sub_cancel]; omega)], by rw [ht]; exact hP, hD⟩, hS.F ht⟩) hS.2.2 dd_H_length_58

set_option maxHeartbeats 4000000 in
set_option maxRecDepth 100000 in
theorem lp_H_digitAt {p : Program} {l : Launch} {e : Env} {R : Room} {s : State} {m : MethodId} {args : Array Value} {below : List Frame} {meth : Method} {c : Code} {cells slots : Nat} {Q : State → Prop} {H : Heap} {locs : List Loc} {A : Nat → Prop} {H0 : Heap} {D : va_G} {cs : Nat → ClassId} {h0 h1 N G q r : Nat} (hx : p.tables.exec = Jvm.exec) (hb : c.code = cd_H_digitAt) (hown : s.vm.findClass "UseOdds$Whole" = some m.cls) (hts : ∀ w ∈ TW, w.before args s = true) (hK : va_K D vwCl (jt cs) s) (hP : va_P D vwCl [(h0, .inr (5, [.ref h1, .int (nI (wU N))])), (h1, .inl (cs 1, 16, .inr (.inl (fun j => lN (wG N j)))))] H) (hD : va_D A [(h0, .inr (5, [.ref h1, .int (nI (wU N))])), (h1, .inl (cs 1, 16, .inr (.inl (fun j => lN (wG N j)))))]) (hS : va_S A H0 H locs) (hG : G < bB) (hr9 : r ≤ 12) :
    ∀ (k : Nat), k ≤ r → ∀ (ls : Array Slot), lv_has ls 5 [(0, .ref h0), (1, .int (nI q)), (2, .long (lN (G / 10 ^ (r - k)))), (4, .int (nI k))] →
    (∀ (ls : Array Slot), lv_has ls 5 [(0, .ref h0), (1, .int (nI q)), (2, .long (lN (G / 10 ^ (r - 0)))), (4, .int (nI 0))] → W p l e R s m args below meth c H locs cells slots Q (F0 m 46 ls [])) → W p l e R s m args below meth c H locs cells slots Q (F0 m 29 ls []) := by
  intro k
  induction k with
  | zero =>
    intro hk ls hl kx
    refine lv_iload hx hb dd_H_digitAt_29 (lv_at hl 3 rfl) ?_
    refine jw_if_le (a := 0) (tgt := 46) hx hb dd_H_digitAt_31 (by decide) (by omega) (fun c1 => ?_) (fun c1 => ?_)
    · exact kx ls (lv_sub hl [0, 1, 2, 3] rfl)
    · exact absurd rfl c1
  | succ k ih =>
    intro hk ls hl kx
    have hq : G / 10 ^ (r - (k + 1)) < 2 ^ 63 := Nat.lt_of_le_of_lt (Nat.div_le_self _ _) (Nat.lt_trans hG (by decide))
    refine lv_iload hx hb dd_H_digitAt_29 (lv_at hl 3 rfl) ?_
    refine jw_if_le (a := k + 1) (tgt := 46) hx hb dd_H_digitAt_31 (by decide) (by omega) (fun c1 => ?_) (fun c1 => ?_)
    · exact absurd c1 (by omega)
    · refine lv_lload_n hx hb dd_H_digitAt_34 rfl (lv_at hl 2 rfl) ?_
      refine lv_ldc2 (v := 10) hx hb hown (hts _ tw475) dd_H_digitAt_35 ?_
      refine jw_cvl (y := lN 10) (by decide) ?_
      refine jw_ldiv hx hb dd_H_digitAt_38 hq (by decide) (by decide) ?_
      refine jw_cvl (y := lN (G / 10 ^ (r - k))) (by rw [Nat.div_div_eq_div_mul, ← Nat.pow_succ, Nat.succ_eq_add_one, show r - (k + 1) + 1 = r - k from by omega]) ?_
      refine lv_lstore_n (lv' := [(2, .long (lN (G / 10 ^ (r - k)))), (0, .ref h0), (1, .int (nI q)), (4, .int (nI (k + 1)))]) hx hb dd_H_digitAt_39 rfl hl (by decide) rfl (fun ls hl => ?_)
      refine lv_iinc (v := nI k) (lv' := [(4, .int (nI k)), (2, .long (lN (G / 10 ^ (r - k)))), (0, .ref h0), (1, .int (nI q))]) hx hb dd_H_digitAt_40 hl (k := 3) rfl (pk_m1 k) (by decide) rfl (fun ls hl => ?_)
      refine lv_goto (tgt := 29) hx hb dd_H_digitAt_43 (by decide) ?_
      exact ih (by omega) ls (lv_sub hl [2, 3, 1, 0] rfl) kx

set_option maxHeartbeats 4000000 in
set_option maxRecDepth 100000 in
theorem c_H_digitAt (l : Launch) (D : va_G) (cs : Nat → ClassId) (h0 h1 N q : Nat) (sz : Nat) (hq1 : q < 192) : Met l ym_H_digitAt [.code ym_H_digitAt cd_H_digitAt 5 (some .int)] ({ frames := 0, cells := 0, slots := 0, locals := 0 } : Room) (jw_Pc D vwCl (jt cs) [(h0, .inr (5, [.ref h1, .int (nI (wU N))])), (h1, .inl (cs 1, 16, .inr (.inl (fun j => lN (wG N j)))))] sz TX [.ref h0, .int (nI q)]) (va_Qi (fun (r : Int32) (u : Unit) => r = nI (N / 10 ^ q % 10)) (jw_B D vwCl (va_A [(h0, .inr (5, [.ref h1, .int (nI (wU N))])), (h1, .inl (cs 1, 16, .inr (.inl (fun j => lN (wG N j)))))] sz) (fun (u : Unit) => [(h0, .inr (5, [.ref h1, .int (nI (wU N))])), (h1, .inl (cs 1, 16, .inr (.inl (fun j => lN (wG N j)))))])) (va_A [(h0, .inr (5, [.ref h1, .int (nI (wU N))])), (h1, .inl (cs 1, 16, .inr (.inl (fun j => lN (wG N j)))))] sz)) 0 0 (va_A [(h0, .inr (5, [.ref h1, .int (nI (wU N))])), (h1, .inl (cs 1, 16, .inr (.inl (fun j => lN (wG N j)))))] sz) := by
  refine Met.ofW (cc := cd_H_digitAt) (maxL := 5) (ret := (some .int)) (by decide) rfl ?_
  intro p e s m args below meth c s₁ B hml hv
  obtain ⟨rfl, hsz, hP, hD0, hK, hT⟩ := hv
  have hx := B.exec
  have hb := B.bytes
  have hr := B.returns
  have hts : ∀ w ∈ TW, w.before [.ref h0, .int (nI q)].toArray s = true := fun w h => hT.use h _
  have hown : s.vm.findClass "UseOdds$Whole" = some m.cls := findClass_of_methodNamed B.named
  have hlocks := B.notSynchronized
  subst hsz
  have hD := hD0.self (sz := s.heap.size)
  generalize hAe : va_A [(h0, .inr (5, [.ref h1, .int (nI (wU N))])), (h1, .inl (cs 1, 16, .inr (.inl (fun j => lN (wG N j)))))] s.heap.size = A at hD ⊢
  have hA : ∀ q : Nat, s.heap.size ≤ q → A q := fun q h => by rw [← hAe]; exact Or.inr h
  have hS : va_S A s.heap s.heap [] := va_S.rf
  have hl := lv_entry ([.ref h0, .int (nI q)]) (n := 5) (Nat.le_of_ble_eq_true rfl)
  rw [lg_entry_eq]
  generalize (lg_sl ([.ref h0, .int (nI q)]) ++ List.replicate (5 - (lg_sl ([.ref h0, .int (nI q)])).length) Slot.unset).toArray = ls at hl ⊢
  have hl : lv_has ls 5 [(0, .ref h0), (1, .int (nI q))] := hl
  refine lv_iload_n hx hb dd_H_digitAt_0 rfl (lv_at hl 1 rfl) ?_
  refine jw_if_lt (a := q) (tgt := 11) hx hb dd_H_digitAt_1 (by decide) (by omega) ?_
  refine lv_iload_n hx hb dd_H_digitAt_4 rfl (lv_at hl 1 rfl) ?_
  refine lv_sipush (v := nI 192) hx hb dd_H_digitAt_5 (by decide) ?_
  refine jw_icmp_lt (a := q) (b := 192) (tgt := 13) hx hb dd_H_digitAt_8 (by decide) (by omega) (by omega) (fun c1 => ?_) (fun c1 => ?_)
  · refine lv_aload_n hx hb dd_H_digitAt_13 rfl (lv_at hl 0 rfl) ?_
    refine va_get (D := D) (ci := 5) (v := .ref h1) (C := "UseOdds$Whole") (T := TH_) (N := 2) hx hb hts IH_ hown hK hP 0 rfl rfl 0 (by decide) (hts _ tw112) (fun _ h9 => h9) rfl dd_H_digitAt_14 ?_
    refine lv_iload_n hx hb dd_H_digitAt_17 rfl (lv_at hl 1 rfl) ?_
    refine lv_bipush (v := nI 12) hx hb dd_H_digitAt_18 (by decide) ?_
    refine jw_idiv hx hb dd_H_digitAt_20 (by omega) (by omega) (by omega) ?_
    refine jw_lald hx hb hK hP 1 1 rfl rfl (i := q / 12) (by omega) (by decide) dd_H_digitAt_21 ?_
    refine lv_lstore_n (lv' := [(2, .long (lN (wG N (q / 12)))), (0, .ref h0), (1, .int (nI q))]) hx hb dd_H_digitAt_22 rfl hl (by decide) rfl (fun ls hl => ?_)
    refine lv_iload_n hx hb dd_H_digitAt_23 rfl (lv_at hl 2 rfl) ?_
    refine lv_bipush (v := nI 12) hx hb dd_H_digitAt_24 (by decide) ?_
    refine jw_irem hx hb dd_H_digitAt_26 (by omega) (by omega) (by omega) ?_
    refine lv_istore (lv' := [(4, .int (nI (q % 12))), (2, .long (lN (wG N (q / 12)))), (0, .ref h0), (1, .int (nI q))]) hx hb dd_H_digitAt_27 hl (by decide) rfl (fun ls hl => ?_)
    have hm : q % 12 < 12 := Nat.mod_lt _ (by decide)
    refine lp_H_digitAt (N := N) (G := wG N (q / 12)) (q := q) (r := q % 12) hx hb hown hts hK hP hD hS (wG_lt _ _) (by omega) (q % 12) (Nat.le_refl _) ls ?_ (fun ls hl => ?_)
    · rw [Nat.sub_self, Nat.pow_zero, Nat.div_one]
      exact (lv_sub hl [2, 3, 1, 0] rfl)
    · have hg : wG N (q / 12) / 10 ^ (q % 12 - 0) < 2 ^ 63 := Nat.lt_of_le_of_lt (Nat.div_le_self _ _) (Nat.lt_trans (wG_lt _ _) (by decide))
      refine lv_lload_n hx hb dd_H_digitAt_46 rfl (lv_at hl 2 rfl) ?_
      refine lv_ldc2 (v := 10) hx hb hown (hts _ tw475) dd_H_digitAt_47 ?_
      refine jw_cvl (y := lN 10) (by decide) ?_
      refine jw_lrem hx hb dd_H_digitAt_50 hg (by decide) (by decide) ?_
      refine jw_l2i hx hb dd_H_digitAt_51 ?_
      exact W.iret (v := (nI ((wG N (q / 12) / 10 ^ (q % 12 - 0)) % 10))) hx hb hr (fun t ht hW => ⟨⟨_, (), rfl, by rw [Nat.sub_zero, dg_10 N (q / 12) (q % 12) hm, Nat.div_add_mod], by rw [ht]; exact hP, hD⟩, hS.F ht⟩) hS.2.2 dd_H_digitAt_52
  · exact absurd hq1 (by omega)

set_option maxHeartbeats 4000000 in
set_option maxRecDepth 100000 in
theorem c_H_becomeW (l : Launch) (D : va_G) (cs : Nat → ClassId) (h0 h1 g0 g1 N M : Nat) (sz : Nat)  : Met l ym_H_becomeW [.code ym_H_becomeW cd_H_becomeW 2 none] ({ frames := 1, cells := 0, slots := 0, locals := 40 } : Room) (jw_Pc D vwCl (jt cs) [(h0, .inr (5, [.ref h1, .int (nI (wU N))])), (h1, .inl (cs 1, 16, .inr (.inl (fun j => lN (wG N j))))), (g0, .inr (5, [.ref g1, .int (nI (wU M))])), (g1, .inl (cs 1, 16, .inr (.inl (fun j => lN (wG M j)))))] sz TX [.ref h0, .ref g0]) (va_Qv (fun (u : Unit) => True) (jw_B D vwCl (va_A [(h0, .inr (5, [.ref h1, .int (nI (wU N))])), (h1, .inl (cs 1, 16, .inr (.inl (fun j => lN (wG N j))))), (g0, .inr (5, [.ref g1, .int (nI (wU M))])), (g1, .inl (cs 1, 16, .inr (.inl (fun j => lN (wG M j)))))] sz) (fun (u : Unit) => [(h0, .inr (5, [.ref h1, .int (nI (wU M))])), (h1, .inl (cs 1, 16, .inr (.inl (fun j => lN (wG M j))))), (g0, .inr (5, [.ref g1, .int (nI (wU M))])), (g1, .inl (cs 1, 16, .inr (.inl (fun j => lN (wG M j)))))])) (va_A [(h0, .inr (5, [.ref h1, .int (nI (wU N))])), (h1, .inl (cs 1, 16, .inr (.inl (fun j => lN (wG N j))))), (g0, .inr (5, [.ref g1, .int (nI (wU M))])), (g1, .inl (cs 1, 16, .inr (.inl (fun j => lN (wG M j)))))] sz)) 0 0 (va_A [(h0, .inr (5, [.ref h1, .int (nI (wU N))])), (h1, .inl (cs 1, 16, .inr (.inl (fun j => lN (wG N j))))), (g0, .inr (5, [.ref g1, .int (nI (wU M))])), (g1, .inl (cs 1, 16, .inr (.inl (fun j => lN (wG M j)))))] sz) := by
  refine Met.ofW (cc := cd_H_becomeW) (maxL := 2) (ret := none) (by decide) rfl ?_
  intro p e s m args below meth c s₁ B hml hv
  obtain ⟨rfl, hsz, hP, hD0, hK, hT⟩ := hv
  have hx := B.exec
  have hb := B.bytes
  have hr := B.returns
  have hts : ∀ w ∈ TW, w.before [.ref h0, .ref g0].toArray s = true := fun w h => hT.use h _
  have hown : s.vm.findClass "UseOdds$Whole" = some m.cls := findClass_of_methodNamed B.named
  have hlocks := B.notSynchronized
  subst hsz
  have hD := hD0.self (sz := s.heap.size)
  generalize hAe : va_A [(h0, .inr (5, [.ref h1, .int (nI (wU N))])), (h1, .inl (cs 1, 16, .inr (.inl (fun j => lN (wG N j))))), (g0, .inr (5, [.ref g1, .int (nI (wU M))])), (g1, .inl (cs 1, 16, .inr (.inl (fun j => lN (wG M j)))))] s.heap.size = A at hD ⊢
  have hA : ∀ q : Nat, s.heap.size ≤ q → A q := fun q h => by rw [← hAe]; exact Or.inr h
  have hS : va_S A s.heap s.heap [] := va_S.rf
  have hl := lv_entry ([.ref h0, .ref g0]) (n := 2) (Nat.le_of_ble_eq_true rfl)
  rw [lg_entry_eq]
  generalize (lg_sl ([.ref h0, .ref g0]) ++ List.replicate (2 - (lg_sl ([.ref h0, .ref g0])).length) Slot.unset).toArray = ls at hl ⊢
  have hl : lv_has ls 2 [(0, .ref h0), (1, .ref g0)] := hl
  refine lv_aload_n hx hb dd_H_becomeW_0 rfl (lv_at hl 1 rfl) ?_
  refine va_get (D := D) (ci := 5) (v := .ref g1) (C := "UseOdds$Whole") (T := TH_) (N := 2) hx hb hts IH_ hown hK hP 2 rfl rfl 0 (by decide) (hts _ tw112) (fun _ h9 => h9) rfl dd_H_becomeW_1 ?_
  refine lv_iconst (v := nI 0) hx hb dd_H_becomeW_4 (by decide) ?_
  refine lv_aload_n hx hb dd_H_becomeW_5 rfl (lv_at hl 0 rfl) ?_
  refine va_get (D := D) (ci := 5) (v := .ref h1) (C := "UseOdds$Whole") (T := TH_) (N := 2) hx hb hts IH_ hown hK hP 0 rfl rfl 0 (by decide) (hts _ tw112) (fun _ h9 => h9) rfl dd_H_becomeW_6 ?_
  refine lv_iconst (v := nI 0) hx hb dd_H_becomeW_9 (by decide) ?_
  refine lv_bipush (v := nI 16) hx hb dd_H_becomeW_10 (by decide) ?_
  refine va_copyl hx hb (hml.trans hl.1.symm) hown (hts _ tw462) (hts _ tw464) (hts _ tw463) (hts _ tw16) hK hP hD hS 3 1 1 1 rfl rfl rfl rfl rfl (sp := nI 0) (dp := nI 0) (n := nI 16) (by decide) (by decide) (by decide) (by decide) (by decide) (fun i hi => rfl) (Nat.le_of_ble_eq_true rfl) (Nat.le_of_ble_eq_true rfl) dd_H_becomeW_12 (fun H locs hP hD hS => ?_)
  rw [show (nI 0).toNatClampNeg = 0 from by decide, show (nI 16).toNatClampNeg = 16 from by decide] at hP hD
  have hP : va_P D vwCl [(h0, .inr (5, [.ref h1, .int (nI (wU N))])), (h1, .inl (cs 1, 16, .inr (.inl (va_cpy (fun j => lN (wG M j)) (fun j => lN (wG N j)) 0 0 16)))), (g0, .inr (5, [.ref g1, .int (nI (wU M))])), (g1, .inl (cs 1, 16, .inr (.inl (fun j => lN (wG M j)))))] H := hP
  have hD : va_D A [(h0, .inr (5, [.ref h1, .int (nI (wU N))])), (h1, .inl (cs 1, 16, .inr (.inl (va_cpy (fun j => lN (wG M j)) (fun j => lN (wG N j)) 0 0 16)))), (g0, .inr (5, [.ref g1, .int (nI (wU M))])), (g1, .inl (cs 1, 16, .inr (.inl (fun j => lN (wG M j)))))] := hD
  have hD := hD.set (p := 1) (e := .inl (cs 1, 16, .inr (.inl (fun j => lN (wG M j))))) rfl
  have hP := jw_reP (q := 1) (y := (cs 1, 16, .inr (.inl (fun j => lN (wG M j))))) hP rfl (jw_cellJ (fun j hj => by simp [va_cpy, hj]))
  have hP : va_P D vwCl [(h0, .inr (5, [.ref h1, .int (nI (wU N))])), (h1, .inl (cs 1, 16, .inr (.inl (fun j => lN (wG M j))))), (g0, .inr (5, [.ref g1, .int (nI (wU M))])), (g1, .inl (cs 1, 16, .inr (.inl (fun j => lN (wG M j)))))] H := hP
  have hD : va_D A [(h0, .inr (5, [.ref h1, .int (nI (wU N))])), (h1, .inl (cs 1, 16, .inr (.inl (fun j => lN (wG M j))))), (g0, .inr (5, [.ref g1, .int (nI (wU M))])), (g1, .inl (cs 1, 16, .inr (.inl (fun j => lN (wG M j)))))] := hD
  refine lv_aload_n hx hb dd_H_becomeW_15 rfl (lv_at hl 0 rfl) ?_
  refine lv_aload_n hx hb dd_H_becomeW_16 rfl (lv_at hl 1 rfl) ?_
  refine va_get (D := D) (ci := 5) (v := .int (nI (wU M))) (C := "UseOdds$Whole") (T := TH_) (N := 2) hx hb hts IH_ hown hK hP 2 rfl rfl 1 (by decide) (hts _ tw113) (fun _ h9 => h9) rfl dd_H_becomeW_17 ?_
  refine va_put (D := D) (ci := 5) (v := .int (nI (wU M))) (ty := .int) (C := "UseOdds$Whole") (T := TH_) (N := 2) hx hb hts IH_ YH_ QH_ NH_ hown hK hP hD hS 0 rfl rfl 1 (by decide) (hts _ tw113) (fun _ h9 => h9) rfl (by decide +kernel) rfl rfl (Nat.le_of_ble_eq_true rfl) dd_H_becomeW_20 (fun H locs hP hD hS => ?_)
  have hP : va_P D vwCl [(h0, .inr (5, [.ref h1, .int (nI (wU M))])), (h1, .inl (cs 1, 16, .inr (.inl (fun j => lN (wG M j))))), (g0, .inr (5, [.ref g1, .int (nI (wU M))])), (g1, .inl (cs 1, 16, .inr (.inl (fun j => lN (wG M j)))))] H := hP
  have hD : va_D A [(h0, .inr (5, [.ref h1, .int (nI (wU M))])), (h1, .inl (cs 1, 16, .inr (.inl (fun j => lN (wG M j))))), (g0, .inr (5, [.ref g1, .int (nI (wU M))])), (g1, .inl (cs 1, 16, .inr (.inl (fun j => lN (wG M j)))))] := hD
  exact W.vret hx hb hr (fun t ht hW => ⟨⟨(), rfl, trivial, by rw [ht]; exact hP, hD⟩, hS.F ht⟩) hS.2.2 dd_H_becomeW_23
