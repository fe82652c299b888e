set_option maxHeartbeats 4000000 in
set_option maxRecDepth 100000 in
theorem c_U_isWithin (l : Launch) (D : va_G) (cs : Nat → ClassId) (x lo hi : Int32) (sz : Nat)  : Met l ym_U_isWithin [.code ym_U_isWithin cd_U_isWithin 3 (some .boolean)] ({ frames := 0, cells := 0, slots := 0, locals := 0 } : Room) (jw_Pc D vwCl (jt cs) [] sz TX [.int x, .int lo, .int hi]) (va_Qi (fun (r : Int32) (u : Unit) => (r = nI 1 ∧ (lo ≤ x ∧ x ≤ hi)) ∨ (r = nI 0 ∧ ¬ (lo ≤ x ∧ x ≤ hi))) (jw_B D vwCl (va_A [] sz) (fun (u : Unit) => [])) (va_A [] sz)) 0 0 (va_A [] sz) := by
  refine Met.ofW (cc := cd_U_isWithin) (maxL := 3) (ret := (some .boolean)) (by decide) rfl ?_
  intro p e s m args below meth c s₁ BL hml hv
  obtain ⟨rfl, hsz, hP, hD0, hK, hT⟩ := hv
  have hx := BL.exec
  have hb := BL.bytes
  have hr := BL.returns
  have hts : ∀ w ∈ TW, w.before [.int x, .int lo, .int hi].toArray s = true := fun w h => hT.use h _
  have hown : s.vm.findClass "UseOdds" = some m.cls := findClass_of_methodNamed BL.named
  have hlocks := BL.notSynchronized
  subst hsz
  have hD := hD0.self (sz := s.heap.size)
  generalize hAe : va_A [] s.heap.size = A at hD ⊢
  have hA : ∀ q : Nat, s.heap.size ≤ q → A q := fun q h => by rw [← hAe]; exact Or.inr h
  have hS : va_S A s.heap s.heap [] := va_S.rf
  have hl := lv_entry ([.int x, .int lo, .int hi]) (n := 3) (Nat.le_of_ble_eq_true rfl)
  rw [lg_entry_eq]
  generalize (lg_sl ([.int x, .int lo, .int hi]) ++ List.replicate (3 - (lg_sl ([.int x, .int lo, .int hi])).length) Slot.unset).toArray = ls at hl ⊢
  have hl : lv_has ls 3 [(0, .int x), (1, .int lo), (2, .int hi)] := hl
  refine lv_iload_n hx hb dd_U_isWithin_0 rfl (lv_at hl 0 rfl) ?_
  refine lv_iload_n hx hb dd_U_isWithin_1 rfl (lv_at hl 1 rfl) ?_
  refine lv_icmp_lt (tgt := 14) hx hb dd_U_isWithin_2 (by decide) (fun c1 => ?_) (fun c1 => ?_)
  · refine lv_iconst (v := nI 0) hx hb dd_U_isWithin_14 (by decide) ?_
    exact W.zret (v := (nI 0)) (ty := .boolean) hx hb hr (by decide) (fun t ht hW => ⟨⟨_, (), rfl, Or.inr ⟨rfl, fun q => absurd c1 (Int32.not_lt.mpr q.1)⟩, by rw [ht]; exact hP, hD⟩, hS.F ht⟩) hS.2.2 dd_U_isWithin_15
  · refine lv_iload_n hx hb dd_U_isWithin_5 rfl (lv_at hl 0 rfl) ?_
    refine lv_iload_n hx hb dd_U_isWithin_6 rfl (lv_at hl 2 rfl) ?_
    refine lv_icmp_gt (tgt := 14) hx hb dd_U_isWithin_7 (by decide) (fun c2 => ?_) (fun c2 => ?_)
    · refine lv_iconst (v := nI 0) hx hb dd_U_isWithin_14 (by decide) ?_
      exact W.zret (v := (nI 0)) (ty := .boolean) hx hb hr (by decide) (fun t ht hW => ⟨⟨_, (), rfl, Or.inr ⟨rfl, fun q => absurd c2 (Int32.not_lt.mpr q.2)⟩, by rw [ht]; exact hP, hD⟩, hS.F ht⟩) hS.2.2 dd_U_isWithin_15
    · refine lv_iconst (v := nI 1) hx hb dd_U_isWithin_10 (by decide) ?_
      refine lv_goto (tgt := 15) hx hb dd_U_isWithin_11 (by decide) ?_
      exact W.zret (v := (nI 1)) (ty := .boolean) hx hb hr (by decide) (fun t ht hW => ⟨⟨_, (), rfl, Or.inl ⟨rfl, Int32.not_lt.mp c1, Int32.not_lt.mp c2⟩, by rw [ht]; exact hP, hD⟩, hS.F ht⟩) hS.2.2 dd_U_isWithin_15

set_option maxHeartbeats 4000000 in
set_option maxRecDepth 100000 in
theorem c_K_has (l : Launch) (D : va_G) (cs : Nat → ClassId) (h0 n : Nat) (v1 v2 v3 : Value) (x : Int32) (sz : Nat) (hn : n < 2 ^ 31) : Met l ym_K_has [.code ym_K_has cd_K_has 2 (some .boolean)] ({ frames := 0, cells := 0, slots := 0, locals := 0 } : Room) (jw_Pc D vwCl (jt cs) [(h0, .inr (0, [.int (nI n), v1, v2, v3]))] sz TX [.ref h0, .int x]) (va_Qi (fun (r : Int32) (u : Unit) => (r = nI 1 ∧ hs_ x n) ∨ (r = nI 0 ∧ ¬ hs_ x n)) (jw_B D vwCl (va_A [(h0, .inr (0, [.int (nI n), v1, v2, v3]))] sz) (fun (u : Unit) => [(h0, .inr (0, [.int (nI n), v1, v2, v3]))])) (va_A [(h0, .inr (0, [.int (nI n), v1, v2, v3]))] sz)) 0 0 (va_A [(h0, .inr (0, [.int (nI n), v1, v2, v3]))] sz) := by
  refine Met.ofW (cc := cd_K_has) (maxL := 2) (ret := (some .boolean)) (by decide) rfl ?_
  intro p e s m args below meth c s₁ BL hml hv
  obtain ⟨rfl, hsz, hP, hD0, hK, hT⟩ := hv
  have hx := BL.exec
  have hb := BL.bytes
  have hr := BL.returns
  have hts : ∀ w ∈ TW, w.before [.ref h0, .int x].toArray s = true := fun w h => hT.use h _
  have hown : s.vm.findClass "UseOdds$Kinds" = some m.cls := findClass_of_methodNamed BL.named
  have hlocks := BL.notSynchronized
  subst hsz
  have hD := hD0.self (sz := s.heap.size)
  generalize hAe : va_A [(h0, .inr (0, [.int (nI n), v1, v2, v3]))] s.heap.size = A at hD ⊢
  have hA : ∀ q : Nat, s.heap.size ≤ q → A q := fun q h => by rw [← hAe]; exact Or.inr h
  have hS : va_S A s.heap s.heap [] := va_S.rf
  have hl := lv_entry ([.ref h0, .int x]) (n := 2) (Nat.le_of_ble_eq_true rfl)
  rw [lg_entry_eq]
  generalize (lg_sl ([.ref h0, .int x]) ++ List.replicate (2 - (lg_sl ([.ref h0, .int x])).length) Slot.unset).toArray = ls at hl ⊢
  have hl : lv_has ls 2 [(0, .ref h0), (1, .int x)] := hl
  refine lv_iload_n hx hb dd_K_has_0 rfl (lv_at hl 1 rfl) ?_
  refine lv_if_lt (tgt := 16) hx hb dd_K_has_1 (by decide) (fun c1 => ?_) (fun c1 => ?_)
  · refine lv_iconst (v := nI 0) hx hb dd_K_has_16 (by decide) ?_
    exact W.zret (v := (nI 0)) (ty := .boolean) hx hb hr (by decide) (fun t ht hW => ⟨⟨_, (), rfl, Or.inr ⟨rfl, fun q => ((hs_of hn).mpr q).1 c1⟩, by rw [ht]; exact hP, hD⟩, hS.F ht⟩) hS.2.2 dd_K_has_17
  · refine lv_iload_n hx hb dd_K_has_4 rfl (lv_at hl 1 rfl) ?_
    refine lv_aload_n hx hb dd_K_has_5 rfl (lv_at hl 0 rfl) ?_
    refine va_get (D := D) (ci := 0) (v := .int (nI n)) (C := "UseOdds$Kinds") (T := TK_) (N := 4) hx hb hts IK_ hown hK hP 0 rfl rfl 0 (by decide) (hts _ tw31) (fun _ h9 => h9) rfl dd_K_has_6 ?_
    refine lv_icmp_ge (tgt := 16) hx hb dd_K_has_9 (by decide) (fun c2 => ?_) (fun c2 => ?_)
    · refine lv_iconst (v := nI 0) hx hb dd_K_has_16 (by decide) ?_
      exact W.zret (v := (nI 0)) (ty := .boolean) hx hb hr (by decide) (fun t ht hW => ⟨⟨_, (), rfl, Or.inr ⟨rfl, fun q => ((hs_of hn).mpr q).2 c2⟩, by rw [ht]; exact hP, hD⟩, hS.F ht⟩) hS.2.2 dd_K_has_17
    · refine lv_iconst (v := nI 1) hx hb dd_K_has_12 (by decide) ?_
      refine lv_goto (tgt := 17) hx hb dd_K_has_13 (by decide) ?_
      exact W.zret (v := (nI 1)) (ty := .boolean) hx hb hr (by decide) (fun t ht hW => ⟨⟨_, (), rfl, Or.inl ⟨rfl, (hs_of hn).mp ⟨c1, c2⟩⟩, by rw [ht]; exact hP, hD⟩, hS.F ht⟩) hS.2.2 dd_K_has_17

set_option maxHeartbeats 4000000 in
set_option maxRecDepth 100000 in
theorem c_T_has (l : Launch) (D : va_G) (cs : Nat → ClassId) (h0 n : Nat) (v1 v2 v3 v4 : Value) (x : Int32) (sz : Nat) (hn : n < 2 ^ 31) : Met l ym_T_has [.code ym_T_has cd_T_has 2 (some .boolean)] ({ frames := 0, cells := 0, slots := 0, locals := 0 } : Room) (jw_Pc D vwCl (jt cs) [(h0, .inr (4, [.int (nI n), v1, v2, v3, v4]))] sz TX [.ref h0, .int x]) (va_Qi (fun (r : Int32) (u : Unit) => (r = nI 1 ∧ hs_ x n) ∨ (r = nI 0 ∧ ¬ hs_ x n)) (jw_B D vwCl (va_A [(h0, .inr (4, [.int (nI n), v1, v2, v3, v4]))] sz) (fun (u : Unit) => [(h0, .inr (4, [.int (nI n), v1, v2, v3, v4]))])) (va_A [(h0, .inr (4, [.int (nI n), v1, v2, v3, v4]))] sz)) 0 0 (va_A [(h0, .inr (4, [.int (nI n), v1, v2, v3, v4]))] sz) := by
  refine Met.ofW (cc := cd_T_has) (maxL := 2) (ret := (some .boolean)) (by decide) rfl ?_
  intro p e s m args below meth c s₁ BL hml hv
  obtain ⟨rfl, hsz, hP, hD0, hK, hT⟩ := hv
  have hx := BL.exec
  have hb := BL.bytes
  have hr := BL.returns
  have hts : ∀ w ∈ TW, w.before [.ref h0, .int x].toArray s = true := fun w h => hT.use h _
  have hown : s.vm.findClass "UseOdds$Tree" = some m.cls := findClass_of_methodNamed BL.named
  have hlocks := BL.notSynchronized
  subst hsz
  have hD := hD0.self (sz := s.heap.size)
  generalize hAe : va_A [(h0, .inr (4, [.int (nI n), v1, v2, v3, v4]))] s.heap.size = A at hD ⊢
  have hA : ∀ q : Nat, s.heap.size ≤ q → A q := fun q h => by rw [← hAe]; exact Or.inr h
  have hS : va_S A s.heap s.heap [] := va_S.rf
  have hl := lv_entry ([.ref h0, .int x]) (n := 2) (Nat.le_of_ble_eq_true rfl)
  rw [lg_entry_eq]
  generalize (lg_sl ([.ref h0, .int x]) ++ List.replicate (2 - (lg_sl ([.ref h0, .int x])).length) Slot.unset).toArray = ls at hl ⊢
  have hl : lv_has ls 2 [(0, .ref h0), (1, .int x)] := hl
  refine lv_iload_n hx hb dd_T_has_0 rfl (lv_at hl 1 rfl) ?_
  refine lv_if_lt (tgt := 16) hx hb dd_T_has_1 (by decide) (fun c1 => ?_) (fun c1 => ?_)
  · refine lv_iconst (v := nI 0) hx hb dd_T_has_16 (by decide) ?_
    exact W.zret (v := (nI 0)) (ty := .boolean) hx hb hr (by decide) (fun t ht hW => ⟨⟨_, (), rfl, Or.inr ⟨rfl, fun q => ((hs_of hn).mpr q).1 c1⟩, by rw [ht]; exact hP, hD⟩, hS.F ht⟩) hS.2.2 dd_T_has_17
  · refine lv_iload_n hx hb dd_T_has_4 rfl (lv_at hl 1 rfl) ?_
    refine lv_aload_n hx hb dd_T_has_5 rfl (lv_at hl 0 rfl) ?_
    refine va_get (D := D) (ci := 4) (v := .int (nI n)) (C := "UseOdds$Tree") (T := TT_) (N := 5) hx hb hts IT_ hown hK hP 0 rfl rfl 0 (by decide) (hts _ tw57) (fun _ h9 => h9) rfl dd_T_has_6 ?_
    refine lv_icmp_ge (tgt := 16) hx hb dd_T_has_9 (by decide) (fun c2 => ?_) (fun c2 => ?_)
    · refine lv_iconst (v := nI 0) hx hb dd_T_has_16 (by decide) ?_
      exact W.zret (v := (nI 0)) (ty := .boolean) hx hb hr (by decide) (fun t ht hW => ⟨⟨_, (), rfl, Or.inr ⟨rfl, fun q => ((hs_of hn).mpr q).2 c2⟩, by rw [ht]; exact hP, hD⟩, hS.F ht⟩) hS.2.2 dd_T_has_17
    · refine lv_iconst (v := nI 1) hx hb dd_T_has_12 (by decide) ?_
      refine lv_goto (tgt := 17) hx hb dd_T_has_13 (by decide) ?_
      exact W.zret (v := (nI 1)) (ty := .boolean) hx hb hr (by decide) (fun t ht hW => ⟨⟨_, (), rfl, Or.inl ⟨rfl, (hs_of hn).mp ⟨c1, c2⟩⟩, by rw [ht]; exact hP, hD⟩, hS.F ht⟩) hS.2.2 dd_T_has_17

set_option maxHeartbeats 4000000 in
set_option maxRecDepth 100000 in
theorem c_K_append (l : Launch) (D : va_G) (cs : Nat → ClassId) (k0 k1 k2 k3 nk f a b : Nat) (kf ka kb : Nat → Nat) (sz : Nat) (hnk : nk < 8) (hf : f ≤ 10000) (ha : 0 < a) (hab : a < b) (hb1 : b ≤ 1000) : Met l ym_K_append [.code ym_K_append cd_K_append 5 (some .int)] ({ frames := 1, cells := 0, slots := 0, locals := 25 } : Room) (jw_Pc D vwCl (jt cs) [(k0, .inr (0, [.int (nI nk), .ref k1, .ref k2, .ref k3])), (k1, .inl (cs 0, 8, .inl (fun i => nI (kf i)))), (k2, .inl (cs 0, 8, .inl (fun i => nI (ka i)))), (k3, .inl (cs 0, 8, .inl (fun i => nI (kb i))))] sz TX [.ref k0, .int (nI f), .int (nI a), .int (nI b)]) (va_Qi (fun (r : Int32) (u : Unit) => r = nI nk) (jw_B D vwCl (va_A [(k0, .inr (0, [.int (nI nk), .ref k1, .ref k2, .ref k3])), (k1, .inl (cs 0, 8, .inl (fun i => nI (kf i)))), (k2, .inl (cs 0, 8, .inl (fun i => nI (ka i)))), (k3, .inl (cs 0, 8, .inl (fun i => nI (kb i))))] sz) (fun (u : Unit) => [(k0, .inr (0, [.int (nI (nk + 1)), .ref k1, .ref k2, .ref k3])), (k1, .inl (cs 0, 8, .inl (fun i => nI (un_ kf nk f i)))), (k2, .inl (cs 0, 8, .inl (fun i => nI (un_ ka nk (a / Nat.gcd a b) i)))), (k3, .inl (cs 0, 8, .inl (fun i => nI (un_ kb nk (b / Nat.gcd a b) i))))])) (va_A [(k0, .inr (0, [.int (nI nk), .ref k1, .ref k2, .ref k3])), (k1, .inl (cs 0, 8, .inl (fun i => nI (kf i)))), (k2, .inl (cs 0, 8, .inl (fun i => nI (ka i)))), (k3, .inl (cs 0, 8, .inl (fun i => nI (kb i))))] sz)) 0 0 (va_A [(k0, .inr (0, [.int (nI nk), .ref k1, .ref k2, .ref k3])), (k1, .inl (cs 0, 8, .inl (fun i => nI (kf i)))), (k2, .inl (cs 0, 8, .inl (fun i => nI (ka i)))), (k3, .inl (cs 0, 8, .inl (fun i => nI (kb i))))] sz) := by
  refine Met.ofW (cc := cd_K_append) (maxL := 5) (ret := (some .int)) (by decide) rfl ?_
  intro p e s m args below meth c s₁ BL hml hv
  obtain ⟨rfl, hsz, hP, hD0, hK, hT⟩ := hv
  have hx := BL.exec
  have hb := BL.bytes
  have hr := BL.returns
  have hts : ∀ w ∈ TW, w.before [.ref k0, .int (nI f), .int (nI a), .int (nI b)].toArray s = true := fun w h => hT.use h _
  have hown : s.vm.findClass "UseOdds$Kinds" = some m.cls := findClass_of_methodNamed BL.named
  have hlocks := BL.notSynchronized
  subst hsz
  have hD := hD0.self (sz := s.heap.size)
  generalize hAe : va_A [(k0, .inr (0, [.int (nI nk), .ref k1, .ref k2, .ref k3])), (k1, .inl (cs 0, 8, .inl (fun i => nI (kf i)))), (k2, .inl (cs 0, 8, .inl (fun i => nI (ka i)))), (k3, .inl (cs 0, 8, .inl (fun i => nI (kb i))))] s.heap.size = A at hD ⊢
  have hA : ∀ q : Nat, s.heap.size ≤ q → A q := fun q h => by rw [← hAe]; exact Or.inr h
  have hS : va_S A s.heap s.heap [] := va_S.rf
  have hl := lv_entry ([.ref k0, .int (nI f), .int (nI a), .int (nI b)]) (n := 5) (Nat.le_of_ble_eq_true rfl)
  rw [lg_entry_eq]
  generalize (lg_sl ([.ref k0, .int (nI f), .int (nI a), .int (nI b)]) ++ List.replicate (5 - (lg_sl ([.ref k0, .int (nI f), .int (nI a), .int (nI b)])).length) Slot.unset).toArray = ls at hl ⊢
  have hl : lv_has ls 5 [(0, .ref k0), (1, .int (nI f)), (2, .int (nI a)), (3, .int (nI b))] := hl
  refine lv_iload_n hx hb dd_K_append_0 rfl (lv_at hl 2 rfl) ?_
  refine lv_iload_n hx hb dd_K_append_1 rfl (lv_at hl 3 rfl) ?_
  refine jw_calli (wc := []) (wr := [(k0, .inr (0, [.int (nI nk), .ref k1, .ref k2, .ref k3])), (k1, .inl (cs 0, 8, .inl (fun i => nI (kf i)))), (k2, .inl (cs 0, 8, .inl (fun i => nI (ka i)))), (k3, .inl (cs 0, 8, .inl (fun i => nI (kb i))))]) hP hD hS hA [] [0, 1, 2, 3] rfl rfl rfl (by decide) (va_runSN (As := [.int (nI a), .int (nI b)]) (rest := []) ⟨hx, hb, hml, hown, hts⟩ (c_U_commonDivisor l D cs a b _ (by omega) (by omega)) ⟨jw_cN 2 hT tw367 rfl rfl tw1 tw365 (by decide +kernel) ⟨Nat.le_of_ble_eq_true rfl, Nat.le_of_ble_eq_true rfl⟩, hts _ tw366, trivial⟩ ⟨jw_blind jx_TX, jw_pre (hP.sub [] rfl) (hD.sub [] (by decide) rfl) hK (fun U _ hW => hT.warm hW)⟩ rfl rfl hl.1 rfl (lv_room (Nat.le_of_ble_eq_true rfl)) dd_K_append_2 ⟨Nat.le_of_ble_eq_true rfl, Nat.le_of_ble_eq_true rfl⟩) (fun r0 u H locs hw hP hD hS => ?_)
  have hP : va_P D vwCl [(k0, .inr (0, [.int (nI nk), .ref k1, .ref k2, .ref k3])), (k1, .inl (cs 0, 8, .inl (fun i => nI (kf i)))), (k2, .inl (cs 0, 8, .inl (fun i => nI (ka i)))), (k3, .inl (cs 0, 8, .inl (fun i => nI (kb i))))] H := hP
  have hD : va_D A [(k0, .inr (0, [.int (nI nk), .ref k1, .ref k2, .ref k3])), (k1, .inl (cs 0, 8, .inl (fun i => nI (kf i)))), (k2, .inl (cs 0, 8, .inl (fun i => nI (ka i)))), (k3, .inl (cs 0, 8, .inl (fun i => nI (kb i))))] := hD
  rw [hw]
  have g0 : 0 < Nat.gcd a b := Nat.gcd_pos_of_pos_left _ ha
  have g1 : Nat.gcd a b ≤ a := Nat.le_of_dvd ha (Nat.gcd_dvd_left _ _)
  refine lv_istore (lv' := [(4, .int (nI (Nat.gcd a b))), (0, .ref k0), (1, .int (nI f)), (2, .int (nI a)), (3, .int (nI b))]) hx hb dd_K_append_5 hl (by decide) rfl (fun ls hl => ?_)
  refine lv_aload_n hx hb dd_K_append_7 rfl (lv_at hl 1 rfl) ?_
  refine va_get (D := D) (ci := 0) (v := .int (nI nk)) (C := "UseOdds$Kinds") (T := TK_) (N := 4) hx hb hts IK_ hown hK hP 0 rfl rfl 0 (by decide) (hts _ tw31) (fun _ h9 => h9) rfl dd_K_append_8 ?_
  refine lv_bipush (v := nI 8) hx hb dd_K_append_11 (by decide) ?_
  refine jw_icmp_ge (a := nk) (b := 8) (tgt := 22) hx hb dd_K_append_13 (by decide) (by omega) (by omega) (fun c1 => ?_) (fun c1 => ?_)
  · exact absurd c1 (by omega)
  · refine lv_iload hx hb dd_K_append_16 (lv_at hl 0 rfl) ?_
    refine lv_iconst (v := nI 1) hx hb dd_K_append_18 (by decide) ?_
    refine jw_icmp_ge (a := Nat.gcd a b) (b := 1) (tgt := 24) hx hb dd_K_append_19 (by decide) (by omega) (by omega) (fun c2 => ?_) (fun c2 => ?_)
    · refine lv_aload_n hx hb dd_K_append_24 rfl (lv_at hl 1 rfl) ?_
      refine va_get (D := D) (ci := 0) (v := .ref k1) (C := "UseOdds$Kinds") (T := TK_) (N := 4) hx hb hts IK_ hown hK hP 0 rfl rfl 1 (by decide) (hts _ tw33) (fun _ h9 => h9) rfl dd_K_append_25 ?_
      refine lv_aload_n hx hb dd_K_append_28 rfl (lv_at hl 1 rfl) ?_
      refine va_get (D := D) (ci := 0) (v := .int (nI nk)) (C := "UseOdds$Kinds") (T := TK_) (N := 4) hx hb hts IK_ hown hK hP 0 rfl rfl 0 (by decide) (hts _ tw31) (fun _ h9 => h9) rfl dd_K_append_29 ?_
      refine lv_iload_n hx hb dd_K_append_32 rfl (lv_at hl 2 rfl) ?_
      refine jw_iast hx hb hK hP hD hS 1 0 rfl rfl (i := nk) (by omega) (by decide) dd_K_append_33 (fun H locs hP hD hS => ?_)
      have hP : va_P D vwCl [(k0, .inr (0, [.int (nI nk), .ref k1, .ref k2, .ref k3])), (k1, .inl (cs 0, 8, .inl (upd (fun i => nI (kf i)) nk (nI f)))), (k2, .inl (cs 0, 8, .inl (fun i => nI (ka i)))), (k3, .inl (cs 0, 8, .inl (fun i => nI (kb i))))] H := hP
      have hD : va_D A [(k0, .inr (0, [.int (nI nk), .ref k1, .ref k2, .ref k3])), (k1, .inl (cs 0, 8, .inl (upd (fun i => nI (kf i)) nk (nI f)))), (k2, .inl (cs 0, 8, .inl (fun i => nI (ka i)))), (k3, .inl (cs 0, 8, .inl (fun i => nI (kb i))))] := hD
      have eF : (upd (fun i => nI (kf i)) nk (nI f)) = (fun i => nI (un_ kf nk f i)) := (un_I kf nk f)
      rw [eF] at hP hD
      refine lv_aload_n hx hb dd_K_append_34 rfl (lv_at hl 1 rfl) ?_
      refine va_get (D := D) (ci := 0) (v := .ref k2) (C := "UseOdds$Kinds") (T := TK_) (N := 4) hx hb hts IK_ hown hK hP 0 rfl rfl 2 (by decide) (hts _ tw35) (fun _ h9 => h9) rfl dd_K_append_35 ?_
      refine lv_aload_n hx hb dd_K_append_38 rfl (lv_at hl 1 rfl) ?_
      refine va_get (D := D) (ci := 0) (v := .int (nI nk)) (C := "UseOdds$Kinds") (T := TK_) (N := 4) hx hb hts IK_ hown hK hP 0 rfl rfl 0 (by decide) (hts _ tw31) (fun _ h9 => h9) rfl dd_K_append_39 ?_
      refine lv_iload_n hx hb dd_K_append_42 rfl (lv_at hl 3 rfl) ?_
      refine lv_iload hx hb dd_K_append_43 (lv_at hl 0 rfl) ?_
      refine jw_idiv hx hb dd_K_append_45 (by omega) (by omega) (by omega) ?_
      refine jw_iast hx hb hK hP hD hS 2 0 rfl rfl (i := nk) (by omega) (by decide) dd_K_append_46 (fun H locs hP hD hS => ?_)
      have hP : va_P D vwCl [(k0, .inr (0, [.int (nI nk), .ref k1, .ref k2, .ref k3])), (k1, .inl (cs 0, 8, .inl (fun i => nI (un_ kf nk f i)))), (k2, .inl (cs 0, 8, .inl (upd (fun i => nI (ka i)) nk (nI (a / (Nat.gcd a b)))))), (k3, .inl (cs 0, 8, .inl (fun i => nI (kb i))))] H := hP
      have hD : va_D A [(k0, .inr (0, [.int (nI nk), .ref k1, .ref k2, .ref k3])), (k1, .inl (cs 0, 8, .inl (fun i => nI (un_ kf nk f i)))), (k2, .inl (cs 0, 8, .inl (upd (fun i => nI (ka i)) nk (nI (a / (Nat.gcd a b)))))), (k3, .inl (cs 0, 8, .inl (fun i => nI (kb i))))] := hD
      have eF : (upd (fun i => nI (ka i)) nk (nI (a / (Nat.gcd a b)))) = (fun i => nI (un_ ka nk (a / Nat.gcd a b) i)) := (un_I ka nk (a / Nat.gcd a b))
      rw [eF] at hP hD
      refine lv_aload_n hx hb dd_K_append_47 rfl (lv_at hl 1 rfl) ?_
      refine va_get (D := D) (ci := 0) (v := .ref k3) (C := "UseOdds$Kinds") (T := TK_) (N := 4) hx hb hts IK_ hown hK hP 0 rfl rfl 3 (by decide) (hts _ tw37) (fun _ h9 => h9) rfl dd_K_append_48 ?_
      refine lv_aload_n hx hb dd_K_append_51 rfl (lv_at hl 1 rfl) ?_
      refine va_get (D := D) (ci := 0) (v := .int (nI nk)) (C := "UseOdds$Kinds") (T := TK_) (N := 4) hx hb hts IK_ hown hK hP 0 rfl rfl 0 (by decide) (hts _ tw31) (fun _ h9 => h9) rfl dd_K_append_52 ?_
      refine lv_iload_n hx hb dd_K_append_55 rfl (lv_at hl 4 rfl) ?_
      refine lv_iload hx hb dd_K_append_56 (lv_at hl 0 rfl) ?_
      refine jw_idiv hx hb dd_K_append_58 (by omega) (by omega) (by omega) ?_
      refine jw_iast hx hb hK hP hD hS 3 0 rfl rfl (i := nk) (by omega) (by decide) dd_K_append_59 (fun H locs hP hD hS => ?_)
      have hP : va_P D vwCl [(k0, .inr (0, [.int (nI nk), .ref k1, .ref k2, .ref k3])), (k1, .inl (cs 0, 8, .inl (fun i => nI (un_ kf nk f i)))), (k2, .inl (cs 0, 8, .inl (fun i => nI (un_ ka nk (a / Nat.gcd a b) i)))), (k3, .inl (cs 0, 8, .inl (upd (fun i => nI (kb i)) nk (nI (b / (Nat.gcd a b))))))] H := hP
      have hD : va_D A [(k0, .inr (0, [.int (nI nk), .ref k1, .ref k2, .ref k3])), (k1, .inl (cs 0, 8, .inl (fun i => nI (un_ kf nk f i)))), (k2, .inl (cs 0, 8, .inl (fun i => nI (un_ ka nk (a / Nat.gcd a b) i)))), (k3, .inl (cs 0, 8, .inl (upd (fun i => nI (kb i)) nk (nI (b / (Nat.gcd a b))))))] := hD
      have eF : (upd (fun i => nI (kb i)) nk (nI (b / (Nat.gcd a b)))) = (fun i => nI (un_ kb nk (b / Nat.gcd a b) i)) := (un_I kb nk (b / Nat.gcd a b))
      rw [eF] at hP hD
      refine lv_aload_n hx hb dd_K_append_60 rfl (lv_at hl 1 rfl) ?_
      refine lv_dup hx hb dd_K_append_61 rfl ?_
      refine va_get (D := D) (ci := 0) (v := .int (nI nk)) (C := "UseOdds$Kinds") (T := TK_) (N := 4) hx hb hts IK_ hown hK hP 0 rfl rfl 0 (by decide) (hts _ tw31) (fun _ h9 => h9) rfl dd_K_append_62 ?_
      refine lv_iconst (v := nI 1) hx hb dd_K_append_65 (by decide) ?_
      refine jw_iadd hx hb dd_K_append_66 ?_
      refine va_put (D := D) (ci := 0) (v := .int (nI (nk + 1))) (ty := .int) (C := "UseOdds$Kinds") (T := TK_) (N := 4) hx hb hts IK_ YK_ QK_ NK_ hown hK hP hD hS 0 rfl rfl 0 (by decide) (hts _ tw31) (fun _ h9 => h9) rfl (by decide +kernel) rfl rfl (Nat.le_of_ble_eq_true rfl) dd_K_append_67 (fun H locs hP hD hS => ?_)
      have hP : va_P D vwCl [(k0, .inr (0, [.int (nI (nk + 1)), .ref k1, .ref k2, .ref k3])), (k1, .inl (cs 0, 8, .inl (fun i => nI (un_ kf nk f i)))), (k2, .inl (cs 0, 8, .inl (fun i => nI (un_ ka nk (a / Nat.gcd a b) i)))), (k3, .inl (cs 0, 8, .inl (fun i => nI (un_ kb nk (b / Nat.gcd a b) i))))] H := hP
      have hD : va_D A [(k0, .inr (0, [.int (nI (nk + 1)), .ref k1, .ref k2, .ref k3])), (k1, .inl (cs 0, 8, .inl (fun i => nI (un_ kf nk f i)))), (k2, .inl (cs 0, 8, .inl (fun i => nI (un_ ka nk (a / Nat.gcd a b) i)))), (k3, .inl (cs 0, 8, .inl (fun i => nI (un_ kb nk (b / Nat.gcd a b) i))))] := hD
      refine lv_aload_n hx hb dd_K_append_70 rfl (lv_at hl 1 rfl) ?_
      refine va_get (D := D) (ci := 0) (v := .int (nI (nk + 1))) (C := "UseOdds$Kinds") (T := TK_) (N := 4) hx hb hts IK_ hown hK hP 0 rfl rfl 0 (by decide) (hts _ tw31) (fun _ h9 => h9) rfl dd_K_append_71 ?_
      refine lv_iconst (v := nI 1) hx hb dd_K_append_74 (by decide) ?_
      refine jw_isub hx hb dd_K_append_75 (by omega) ?_
      refine jw_cvi (y := nI nk) (by rw [Nat.add_sub_cancel]) ?_
      exact W.iret (v := (nI nk)) hx hb hr (fun t ht hW => ⟨⟨_, (), rfl, rfl, by rw [ht]; exact hP, hD⟩, hS.F ht⟩) hS.2.2 dd_K_append_76
    · exact absurd c2 (by omega)

set_option maxHeartbeats 4000000 in
set_option maxRecDepth 100000 in
theorem c_L_append (l : Launch) (D : va_G) (cs : Nat → ClassId) (l0 l1 l2 l3 ne a b d : Nat) (cp wd pr : Nat → Nat) (sz : Nat) (hne : ne < 20) : Met l ym_L_append [.code ym_L_append cd_L_append 4 (some .int)] ({ frames := 0, cells := 0, slots := 0, locals := 0 } : Room) (jw_Pc D vwCl (jt cs) [(l0, .inr (3, [.int (nI ne), .ref l1, .ref l2, .ref l3])), (l1, .inl (cs 0, 20, .inl (fun i => nI (cp i)))), (l2, .inl (cs 0, 20, .inl (fun i => nI (wd i)))), (l3, .inl (cs 0, 20, .inl (fun i => nI (pr i))))] sz TX [.ref l0, .int (nI a), .int (nI b), .int (nI d)]) (va_Qi (fun (r : Int32) (u : Unit) => r = nI ne) (jw_B D vwCl (va_A [(l0, .inr (3, [.int (nI ne), .ref l1, .ref l2, .ref l3])), (l1, .inl (cs 0, 20, .inl (fun i => nI (cp i)))), (l2, .inl (cs 0, 20, .inl (fun i => nI (wd i)))), (l3, .inl (cs 0, 20, .inl (fun i => nI (pr i))))] sz) (fun (u : Unit) => [(l0, .inr (3, [.int (nI (ne + 1)), .ref l1, .ref l2, .ref l3])), (l1, .inl (cs 0, 20, .inl (fun i => nI (un_ cp ne a i)))), (l2, .inl (cs 0, 20, .inl (fun i => nI (un_ wd ne b i)))), (l3, .inl (cs 0, 20, .inl (fun i => nI (un_ pr ne d i))))])) (va_A [(l0, .inr (3, [.int (nI ne), .ref l1, .ref l2, .ref l3])), (l1, .inl (cs 0, 20, .inl (fun i => nI (cp i)))), (l2, .inl (cs 0, 20, .inl (fun i => nI (wd i)))), (l3, .inl (cs 0, 20, .inl (fun i => nI (pr i))))] sz)) 0 0 (va_A [(l0, .inr (3, [.int (nI ne), .ref l1, .ref l2, .ref l3])), (l1, .inl (cs 0, 20, .inl (fun i => nI (cp i)))), (l2, .inl (cs 0, 20, .inl (fun i => nI (wd i)))), (l3, .inl (cs 0, 20, .inl (fun i => nI (pr i))))] sz) := by
  refine Met.ofW (cc := cd_L_append) (maxL := 4) (ret := (some .int)) (by decide) rfl ?_
  intro p e s m args below meth c s₁ BL hml hv
  obtain ⟨rfl, hsz, hP, hD0, hK, hT⟩ := hv
  have hx := BL.exec
  have hb := BL.bytes
  have hr := BL.returns
  have hts : ∀ w ∈ TW, w.before [.ref l0, .int (nI a), .int (nI b), .int (nI d)].toArray s = true := fun w h => hT.use h _
  have hown : s.vm.findClass "UseOdds$PriceList" = some m.cls := findClass_of_methodNamed BL.named
  have hlocks := BL.notSynchronized
  subst hsz
  have hD := hD0.self (sz := s.heap.size)
  generalize hAe : va_A [(l0, .inr (3, [.int (nI ne), .ref l1, .ref l2, .ref l3])), (l1, .inl (cs 0, 20, .inl (fun i => nI (cp i)))), (l2, .inl (cs 0, 20, .inl (fun i => nI (wd i)))), (l3, .inl (cs 0, 20, .inl (fun i => nI (pr i))))] s.heap.size = A at hD ⊢
  have hA : ∀ q : Nat, s.heap.size ≤ q → A q := fun q h => by rw [← hAe]; exact Or.inr h
  have hS : va_S A s.heap s.heap [] := va_S.rf
  have hl := lv_entry ([.ref l0, .int (nI a), .int (nI b), .int (nI d)]) (n := 4) (Nat.le_of_ble_eq_true rfl)
  rw [lg_entry_eq]
  generalize (lg_sl ([.ref l0, .int (nI a), .int (nI b), .int (nI d)]) ++ List.replicate (4 - (lg_sl ([.ref l0, .int (nI a), .int (nI b), .int (nI d)])).length) Slot.unset).toArray = ls at hl ⊢
  have hl : lv_has ls 4 [(0, .ref l0), (1, .int (nI a)), (2, .int (nI b)), (3, .int (nI d))] := hl
  refine lv_aload_n hx hb dd_L_append_0 rfl (lv_at hl 0 rfl) ?_
  refine va_get (D := D) (ci := 3) (v := .int (nI ne)) (C := "UseOdds$PriceList") (T := TL_) (N := 4) hx hb hts IL_ hown hK hP 0 rfl rfl 0 (by decide) (hts _ tw84) (fun _ h9 => h9) rfl dd_L_append_1 ?_
  refine lv_bipush (v := nI 20) hx hb dd_L_append_4 (by decide) ?_
  refine jw_icmp_lt (a := ne) (b := 20) (tgt := 11) hx hb dd_L_append_6 (by decide) (by omega) (by omega) (fun c1 => ?_) (fun c1 => ?_)
  · refine lv_aload_n hx hb dd_L_append_11 rfl (lv_at hl 0 rfl) ?_
    refine va_get (D := D) (ci := 3) (v := .ref l1) (C := "UseOdds$PriceList") (T := TL_) (N := 4) hx hb hts IL_ hown hK hP 0 rfl rfl 1 (by decide) (hts _ tw86) (fun _ h9 => h9) rfl dd_L_append_12 ?_
    refine lv_aload_n hx hb dd_L_append_15 rfl (lv_at hl 0 rfl) ?_
    refine va_get (D := D) (ci := 3) (v := .int (nI ne)) (C := "UseOdds$PriceList") (T := TL_) (N := 4) hx hb hts IL_ hown hK hP 0 rfl rfl 0 (by decide) (hts _ tw84) (fun _ h9 => h9) rfl dd_L_append_16 ?_
    refine lv_iload_n hx hb dd_L_append_19 rfl (lv_at hl 1 rfl) ?_
    refine jw_iast hx hb hK hP hD hS 1 0 rfl rfl (i := ne) (by omega) (by decide) dd_L_append_20 (fun H locs hP hD hS => ?_)
    have hP : va_P D vwCl [(l0, .inr (3, [.int (nI ne), .ref l1, .ref l2, .ref l3])), (l1, .inl (cs 0, 20, .inl (upd (fun i => nI (cp i)) ne (nI a)))), (l2, .inl (cs 0, 20, .inl (fun i => nI (wd i)))), (l3, .inl (cs 0, 20, .inl (fun i => nI (pr i))))] H := hP
    have hD : va_D A [(l0, .inr (3, [.int (nI ne), .ref l1, .ref l2, .ref l3])), (l1, .inl (cs 0, 20, .inl (upd (fun i => nI (cp i)) ne (nI a)))), (l2, .inl (cs 0, 20, .inl (fun i => nI (wd i)))), (l3, .inl (cs 0, 20, .inl (fun i => nI (pr i))))] := hD
    have eF : (upd (fun i => nI (cp i)) ne (nI a)) = (fun i => nI (un_ cp ne a i)) := (un_I cp ne a)
    rw [eF] at hP hD
    refine lv_aload_n hx hb dd_L_append_21 rfl (lv_at hl 0 rfl) ?_
    refine va_get (D := D) (ci := 3) (v := .ref l2) (C := "UseOdds$PriceList") (T := TL_) (N := 4) hx hb hts IL_ hown hK hP 0 rfl rfl 2 (by decide) (hts _ tw87) (fun _ h9 => h9) rfl dd_L_append_22 ?_
    refine lv_aload_n hx hb dd_L_append_25 rfl (lv_at hl 0 rfl) ?_
    refine va_get (D := D) (ci := 3) (v := .int (nI ne)) (C := "UseOdds$PriceList") (T := TL_) (N := 4) hx hb hts IL_ hown hK hP 0 rfl rfl 0 (by decide) (hts _ tw84) (fun _ h9 => h9) rfl dd_L_append_26 ?_
    refine lv_iload_n hx hb dd_L_append_29 rfl (lv_at hl 2 rfl) ?_
    refine jw_iast hx hb hK hP hD hS 2 0 rfl rfl (i := ne) (by omega) (by decide) dd_L_append_30 (fun H locs hP hD hS => ?_)
    have hP : va_P D vwCl [(l0, .inr (3, [.int (nI ne), .ref l1, .ref l2, .ref l3])), (l1, .inl (cs 0, 20, .inl (fun i => nI (un_ cp ne a i)))), (l2, .inl (cs 0, 20, .inl (upd (fun i => nI (wd i)) ne (nI b)))), (l3, .inl (cs 0, 20, .inl (fun i => nI (pr i))))] H := hP
    have hD : va_D A [(l0, .inr (3, [.int (nI ne), .ref l1, .ref l2, .ref l3])), (l1, .inl (cs 0, 20, .inl (fun i => nI (un_ cp ne a i)))), (l2, .inl (cs 0, 20, .inl (upd (fun i => nI (wd i)) ne (nI b)))), (l3, .inl (cs 0, 20, .inl (fun i => nI (pr i))))] := hD
    have eF : (upd (fun i => nI (wd i)) ne (nI b)) = (fun i => nI (un_ wd ne b i)) := (un_I wd ne b)
    rw [eF] at hP hD
    refine lv_aload_n hx hb dd_L_append_31 rfl (lv_at hl 0 rfl) ?_
    refine va_get (D := D) (ci := 3) (v := .ref l3) (C := "UseOdds$PriceList") (T := TL_) (N := 4) hx hb hts IL_ hown hK hP 0 rfl rfl 3 (by decide) (hts _ tw89) (fun _ h9 => h9) rfl dd_L_append_32 ?_
    refine lv_aload_n hx hb dd_L_append_35 rfl (lv_at hl 0 rfl) ?_
    refine va_get (D := D) (ci := 3) (v := .int (nI ne)) (C := "UseOdds$PriceList") (T := TL_) (N := 4) hx hb hts IL_ hown hK hP 0 rfl rfl 0 (by decide) (hts _ tw84) (fun _ h9 => h9) rfl dd_L_append_36 ?_
    refine lv_iload_n hx hb dd_L_append_39 rfl (lv_at hl 3 rfl) ?_
    refine jw_iast hx hb hK hP hD hS 3 0 rfl rfl (i := ne) (by omega) (by decide) dd_L_append_40 (fun H locs hP hD hS => ?_)
    have hP : va_P D vwCl [(l0, .inr (3, [.int (nI ne), .ref l1, .ref l2, .ref l3])), (l1, .inl (cs 0, 20, .inl (fun i => nI (un_ cp ne a i)))), (l2, .inl (cs 0, 20, .inl (fun i => nI (un_ wd ne b i)))), (l3, .inl (cs 0, 20, .inl (upd (fun i => nI (pr i)) ne (nI d))))] H := hP
    have hD : va_D A [(l0, .inr (3, [.int (nI ne), .ref l1, .ref l2, .ref l3])), (l1, .inl (cs 0, 20, .inl (fun i => nI (un_ cp ne a i)))), (l2, .inl (cs 0, 20, .inl (fun i => nI (un_ wd ne b i)))), (l3, .inl (cs 0, 20, .inl (upd (fun i => nI (pr i)) ne (nI d))))] := hD
    have eF : (upd (fun i => nI (pr i)) ne (nI d)) = (fun i => nI (un_ pr ne d i)) := (un_I pr ne d)
    rw [eF] at hP hD
    refine lv_aload_n hx hb dd_L_append_41 rfl (lv_at hl 0 rfl) ?_
    refine lv_dup hx hb dd_L_append_42 rfl ?_
    refine va_get (D := D) (ci := 3) (v := .int (nI ne)) (C := "UseOdds$PriceList") (T := TL_) (N := 4) hx hb hts IL_ hown hK hP 0 rfl rfl 0 (by decide) (hts _ tw84) (fun _ h9 => h9) rfl dd_L_append_43 ?_
    refine lv_iconst (v := nI 1) hx hb dd_L_append_46 (by decide) ?_
    refine jw_iadd hx hb dd_L_append_47 ?_
    refine va_put (D := D) (ci := 3) (v := .int (nI (ne + 1))) (ty := .int) (C := "UseOdds$PriceList") (T := TL_) (N := 4) hx hb hts IL_ YL_ QL_ NL_ hown hK hP hD hS 0 rfl rfl 0 (by decide) (hts _ tw84) (fun _ h9 => h9) rfl (by decide +kernel) rfl rfl (Nat.le_of_ble_eq_true rfl) dd_L_append_48 (fun H locs hP hD hS => ?_)
    have hP : va_P D vwCl [(l0, .inr (3, [.int (nI (ne + 1)), .ref l1, .ref l2, .ref l3])), (l1, .inl (cs 0, 20, .inl (fun i => nI (un_ cp ne a i)))), (l2, .inl (cs 0, 20, .inl (fun i => nI (un_ wd ne b i)))), (l3, .inl (cs 0, 20, .inl (fun i => nI (un_ pr ne d i))))] H := hP
    have hD : va_D A [(l0, .inr (3, [.int (nI (ne + 1)), .ref l1, .ref l2, .ref l3])), (l1, .inl (cs 0, 20, .inl (fun i => nI (un_ cp ne a i)))), (l2, .inl (cs 0, 20, .inl (fun i => nI (un_ wd ne b i)))), (l3, .inl (cs 0, 20, .inl (fun i => nI (un_ pr ne d i))))] := hD
    refine lv_aload_n hx hb dd_L_append_51 rfl (lv_at hl 0 rfl) ?_
    refine va_get (D := D) (ci := 3) (v := .int (nI (ne + 1))) (C := "UseOdds$PriceList") (T := TL_) (N := 4) hx hb hts IL_ hown hK hP 0 rfl rfl 0 (by decide) (hts _ tw84) (fun _ h9 => h9) rfl dd_L_append_52 ?_
    refine lv_iconst (v := nI 1) hx hb dd_L_append_55 (by decide) ?_
    refine jw_isub hx hb dd_L_append_56 (by omega) ?_
    refine jw_cvi (y := nI ne) (by rw [Nat.add_sub_cancel]) ?_
    exact W.iret (v := (nI ne)) hx hb hr (fun t ht hW => ⟨⟨_, (), rfl, rfl, by rw [ht]; exact hP, hD⟩, hS.F ht⟩) hS.2.2 dd_L_append_57
  · exact absurd hne (by omega)

set_option maxHeartbeats 4000000 in
set_option maxRecDepth 100000 in
theorem lp_L_cheapestFor {p : Program} {l : Launch} {e : Env} {R : Room} {s : State} {m : MethodId} {args : Array Value} {below : List Frame} {meth : Method} {c : Code} {cells slots : Nat} {Q : State → Prop} {H : Heap} {locs : List Loc} {A : Nat → Prop} {H0 : Heap} {D : va_G} {cs : Nat → ClassId} {l0 l1 l2 l3 ne f : Nat} {cp wd pr : Nat → Nat} (hx : p.tables.exec = Jvm.exec) (hb : c.code = cd_L_cheapestFor) (hown : s.vm.findClass "UseOdds$PriceList" = some m.cls) (hts : ∀ w ∈ TW, w.before args s = true) (hK : va_K D vwCl (jt cs) s) (hP : va_P D vwCl [(l0, .inr (3, [.int (nI ne), .ref l1, .ref l2, .ref l3])), (l1, .inl (cs 0, 20, .inl (fun i => nI (cp i)))), (l2, .inl (cs 0, 20, .inl (fun i => nI (wd i)))), (l3, .inl (cs 0, 20, .inl (fun i => nI (pr i))))] H) (hD : va_D A [(l0, .inr (3, [.int (nI ne), .ref l1, .ref l2, .ref l3])), (l1, .inl (cs 0, 20, .inl (fun i => nI (cp i)))), (l2, .inl (cs 0, 20, .inl (fun i => nI (wd i)))), (l3, .inl (cs 0, 20, .inl (fun i => nI (pr i))))]) (hS : va_S A H0 H locs) (hne : ne ≤ 20) (hf : f < 2 ^ 31) (hcp : ∀ i, cp i < 2 ^ 31) (hpr : ∀ i, pr i < 2 ^ 31) :
    ∀ (n i : Nat), i ≤ ne → ne + 1 ≤ i + n → ∀ (ls : Array Slot), lv_has ls 4 [(0, .ref l0), (1, .int (nI f)), (2, .int (nI (bs_ cp pr f i) - 1)), (3, .int (nI i))] →
    (∀ (ls : Array Slot), lv_has ls 4 [(0, .ref l0), (1, .int (nI f)), (2, .int (nI (bs_ cp pr f ne) - 1)), (3, .int (nI ne))] → W p l e R s m args below meth c H locs cells slots Q (F0 m 50 ls [])) → W p l e R s m args below meth c H locs cells slots Q (F0 m 4 ls []) := by
  intro n
  induction n with
  | zero =>
    intro i hi hn ls hl kx
    exact absurd hn (by omega)
  | succ n ih =>
    intro i hi hn ls hl kx
    have hbl := bs_le cp pr f i
    have hci := hcp i
    have hpi := hpr i
    have hpj := hpr (bs_ cp pr f i - 1)
    refine lv_iload_n hx hb dd_L_cheapestFor_4 rfl (lv_at hl 3 rfl) ?_
    refine lv_aload_n hx hb dd_L_cheapestFor_5 rfl (lv_at hl 0 rfl) ?_
    refine va_get (D := D) (ci := 3) (v := .int (nI ne)) (C := "UseOdds$PriceList") (T := TL_) (N := 4) hx hb hts IL_ hown hK hP 0 rfl rfl 0 (by decide) (hts _ tw84) (fun _ h9 => h9) rfl dd_L_cheapestFor_6 ?_
    refine jw_icmp_ge (a := i) (b := ne) (tgt := 50) hx hb dd_L_cheapestFor_9 (by decide) (by omega) (by omega) (fun c1 => ?_) (fun c1 => ?_)
    · have e1 : i = ne := by omega
      rw [e1] at hl
      exact kx ls (lv_sub hl [0, 1, 2, 3] rfl)
    · refine lv_aload_n hx hb dd_L_cheapestFor_12 rfl (lv_at hl 0 rfl) ?_
      refine va_get (D := D) (ci := 3) (v := .ref l1) (C := "UseOdds$PriceList") (T := TL_) (N := 4) hx hb hts IL_ hown hK hP 0 rfl rfl 1 (by decide) (hts _ tw86) (fun _ h9 => h9) rfl dd_L_cheapestFor_13 ?_
      refine lv_iload_n hx hb dd_L_cheapestFor_16 rfl (lv_at hl 3 rfl) ?_
      refine jw_iald hx hb hK hP 1 0 rfl rfl (i := i) (by omega) (by decide) dd_L_cheapestFor_17 ?_
      refine lv_iload_n hx hb dd_L_cheapestFor_18 rfl (lv_at hl 1 rfl) ?_
      refine jw_icmp_lt (a := cp i) (b := f) (tgt := 44) hx hb dd_L_cheapestFor_19 (by decide) (by omega) (by omega) (fun c2 => ?_) (fun c2 => ?_)
      · have e2 : bs_ cp pr f (i + 1) = bs_ cp pr f i := by show (if _ then _ else _) = _; rw [if_neg (by omega)]
        refine lv_iinc (v := nI (i + 1)) (lv' := [(3, .int (nI (i + 1))), (0, .ref l0), (1, .int (nI f)), (2, .int (nI (bs_ cp pr f i) - 1))]) hx hb dd_L_cheapestFor_44 hl (k := 3) rfl (nI_1 i) (by decide) rfl (fun ls hl => ?_)
        refine lv_goto (tgt := 4) hx hb dd_L_cheapestFor_47 (by decide) ?_
        rw [← e2] at hl
        exact ih (i + 1) (by omega) (by omega) ls (lv_sub hl [1, 2, 3, 0] rfl) kx
      · refine lv_iload_n hx hb dd_L_cheapestFor_22 rfl (lv_at hl 2 rfl) ?_
        refine lv_iconst (v := -1) hx hb dd_L_cheapestFor_23 (by decide) ?_
        refine lv_icmp_eq (tgt := 42) hx hb dd_L_cheapestFor_24 (by decide) (fun c3 => ?_) (fun c3 => ?_)
        · have c4 := (nI_m1 (show bs_ cp pr f i < 2 ^ 31 by omega)).mp c3
          refine lv_iload_n hx hb dd_L_cheapestFor_42 rfl (lv_at hl 3 rfl) ?_
          have e2 : bs_ cp pr f (i + 1) = i + 1 := by show (if _ then _ else _) = _; rw [if_pos ⟨by omega, Or.inl c4⟩]
          refine jw_cvi (y := nI (bs_ cp pr f (i + 1)) - 1) (by rw [e2, nI_pred]) ?_
          refine lv_istore_n (lv' := [(2, .int (nI (bs_ cp pr f (i + 1)) - 1)), (0, .ref l0), (1, .int (nI f)), (3, .int (nI i))]) hx hb dd_L_cheapestFor_43 rfl hl (by decide) rfl (fun ls hl => ?_)
          refine lv_iinc (v := nI (i + 1)) (lv' := [(3, .int (nI (i + 1))), (2, .int (nI (bs_ cp pr f (i + 1)) - 1)), (0, .ref l0), (1, .int (nI f))]) hx hb dd_L_cheapestFor_44 hl (k := 3) rfl (nI_1 i) (by decide) rfl (fun ls hl => ?_)
          refine lv_goto (tgt := 4) hx hb dd_L_cheapestFor_47 (by decide) ?_
          exact ih (i + 1) (by omega) (by omega) ls (lv_sub hl [2, 3, 1, 0] rfl) kx
        · have c4 : ¬ bs_ cp pr f i = 0 := fun q => c3 ((nI_m1 (by omega)).mpr q)
          refine lv_aload_n hx hb dd_L_cheapestFor_27 rfl (lv_at hl 0 rfl) ?_
          refine va_get (D := D) (ci := 3) (v := .ref l3) (C := "UseOdds$PriceList") (T := TL_) (N := 4) hx hb hts IL_ hown hK hP 0 rfl rfl 3 (by decide) (hts _ tw89) (fun _ h9 => h9) rfl dd_L_cheapestFor_28 ?_
          refine lv_iload_n hx hb dd_L_cheapestFor_31 rfl (lv_at hl 3 rfl) ?_
          refine jw_iald hx hb hK hP 3 0 rfl rfl (i := i) (by omega) (by decide) dd_L_cheapestFor_32 ?_
          refine lv_aload_n hx hb dd_L_cheapestFor_33 rfl (lv_at hl 0 rfl) ?_
          refine va_get (D := D) (ci := 3) (v := .ref l3) (C := "UseOdds$PriceList") (T := TL_) (N := 4) hx hb hts IL_ hown hK hP 0 rfl rfl 3 (by decide) (hts _ tw89) (fun _ h9 => h9) rfl dd_L_cheapestFor_34 ?_
          refine lv_iload_n hx hb dd_L_cheapestFor_37 rfl (lv_at hl 2 rfl) ?_
          refine jw_cvi (y := nI (bs_ cp pr f i - 1)) (nI_p1 (by omega)).symm ?_
          refine jw_iald hx hb hK hP 3 0 rfl rfl (i := bs_ cp pr f i - 1) (by omega) (by decide) dd_L_cheapestFor_38 ?_
          refine jw_icmp_ge (a := pr i) (b := pr (bs_ cp pr f i - 1)) (tgt := 44) hx hb dd_L_cheapestFor_39 (by decide) (by omega) (by omega) (fun c5 => ?_) (fun c5 => ?_)
          · have e2 : bs_ cp pr f (i + 1) = bs_ cp pr f i := by show (if _ then _ else _) = _; rw [if_neg (by omega)]
            refine lv_iinc (v := nI (i + 1)) (lv' := [(3, .int (nI (i + 1))), (0, .ref l0), (1, .int (nI f)), (2, .int (nI (bs_ cp pr f i) - 1))]) hx hb dd_L_cheapestFor_44 hl (k := 3) rfl (nI_1 i) (by decide) rfl (fun ls hl => ?_)
            refine lv_goto (tgt := 4) hx hb dd_L_cheapestFor_47 (by decide) ?_
            rw [← e2] at hl
            exact ih (i + 1) (by omega) (by omega) ls (lv_sub hl [1, 2, 3, 0] rfl) kx
          · refine lv_iload_n hx hb dd_L_cheapestFor_42 rfl (lv_at hl 3 rfl) ?_
            have e2 : bs_ cp pr f (i + 1) = i + 1 := by show (if _ then _ else _) = _; rw [if_pos ⟨by omega, Or.inr (by omega)⟩]
            refine jw_cvi (y := nI (bs_ cp pr f (i + 1)) - 1) (by rw [e2, nI_pred]) ?_
            refine lv_istore_n (lv' := [(2, .int (nI (bs_ cp pr f (i + 1)) - 1)), (0, .ref l0), (1, .int (nI f)), (3, .int (nI i))]) hx hb dd_L_cheapestFor_43 rfl hl (by decide) rfl (fun ls hl => ?_)
            refine lv_iinc (v := nI (i + 1)) (lv' := [(3, .int (nI (i + 1))), (2, .int (nI (bs_ cp pr f (i + 1)) - 1)), (0, .ref l0), (1, .int (nI f))]) hx hb dd_L_cheapestFor_44 hl (k := 3) rfl (nI_1 i) (by decide) rfl (fun ls hl => ?_)
            refine lv_goto (tgt := 4) hx hb dd_L_cheapestFor_47 (by decide) ?_
            exact ih (i + 1) (by omega) (by omega) ls (lv_sub hl [2, 3, 1, 0] rfl) kx

set_option maxHeartbeats 4000000 in
set_option maxRecDepth 100000 in
theorem c_L_cheapestFor (l : Launch) (D : va_G) (cs : Nat → ClassId) (l0 l1 l2 l3 ne f : Nat) (cp wd pr : Nat → Nat) (sz : Nat) (hne : ne ≤ 20) (hf : f < 2 ^ 31) (hcp : ∀ i, cp i < 2 ^ 31) (hpr : ∀ i, pr i < 2 ^ 31) : Met l ym_L_cheapestFor [.code ym_L_cheapestFor cd_L_cheapestFor 4 (some .int)] ({ frames := 0, cells := 0, slots := 0, locals := 0 } : Room) (jw_Pc D vwCl (jt cs) [(l0, .inr (3, [.int (nI ne), .ref l1, .ref l2, .ref l3])), (l1, .inl (cs 0, 20, .inl (fun i => nI (cp i)))), (l2, .inl (cs 0, 20, .inl (fun i => nI (wd i)))), (l3, .inl (cs 0, 20, .inl (fun i => nI (pr i))))] sz TX [.ref l0, .int (nI f)]) (va_Qi (fun (r : Int32) (u : Unit) => r = nI (bs_ cp pr f ne) - 1) (jw_B D vwCl (va_A [(l0, .inr (3, [.int (nI ne), .ref l1, .ref l2, .ref l3])), (l1, .inl (cs 0, 20, .inl (fun i => nI (cp i)))), (l2, .inl (cs 0, 20, .inl (fun i => nI (wd i)))), (l3, .inl (cs 0, 20, .inl (fun i => nI (pr i))))] sz) (fun (u : Unit) => [(l0, .inr (3, [.int (nI ne), .ref l1, .ref l2, .ref l3])), (l1, .inl (cs 0, 20, .inl (fun i => nI (cp i)))), (l2, .inl (cs 0, 20, .inl (fun i => nI (wd i)))), (l3, .inl (cs 0, 20, .inl (fun i => nI (pr i))))])) (va_A [(l0, .inr (3, [.int (nI ne), .ref l1, .ref l2, .ref l3])), (l1, .inl (cs 0, 20, .inl (fun i => nI (cp i)))), (l2, .inl (cs 0, 20, .inl (fun i => nI (wd i)))), (l3, .inl (cs 0, 20, .inl (fun i => nI (pr i))))] sz)) 0 0 (va_A [(l0, .inr (3, [.int (nI ne), .ref l1, .ref l2, .ref l3])), (l1, .inl (cs 0, 20, .inl (fun i => nI (cp i)))), (l2, .inl (cs 0, 20, .inl (fun i => nI (wd i)))), (l3, .inl (cs 0, 20, .inl (fun i => nI (pr i))))] sz) := by
  refine Met.ofW (cc := cd_L_cheapestFor) (maxL := 4) (ret := (some .int)) (by decide) rfl ?_
  intro p e s m args below meth c s₁ BL hml hv
  obtain ⟨rfl, hsz, hP, hD0, hK, hT⟩ := hv
  have hx := BL.exec
  have hb := BL.bytes
  have hr := BL.returns
  have hts : ∀ w ∈ TW, w.before [.ref l0, .int (nI f)].toArray s = true := fun w h => hT.use h _
  have hown : s.vm.findClass "UseOdds$PriceList" = some m.cls := findClass_of_methodNamed BL.named
  have hlocks := BL.notSynchronized
  subst hsz
  have hD := hD0.self (sz := s.heap.size)
  generalize hAe : va_A [(l0, .inr (3, [.int (nI ne), .ref l1, .ref l2, .ref l3])), (l1, .inl (cs 0, 20, .inl (fun i => nI (cp i)))), (l2, .inl (cs 0, 20, .inl (fun i => nI (wd i)))), (l3, .inl (cs 0, 20, .inl (fun i => nI (pr i))))] s.heap.size = A at hD ⊢
  have hA : ∀ q : Nat, s.heap.size ≤ q → A q := fun q h => by rw [← hAe]; exact Or.inr h
  have hS : va_S A s.heap s.heap [] := va_S.rf
  have hl := lv_entry ([.ref l0, .int (nI f)]) (n := 4) (Nat.le_of_ble_eq_true rfl)
  rw [lg_entry_eq]
  generalize (lg_sl ([.ref l0, .int (nI f)]) ++ List.replicate (4 - (lg_sl ([.ref l0, .int (nI f)])).length) Slot.unset).toArray = ls at hl ⊢
  have hl : lv_has ls 4 [(0, .ref l0), (1, .int (nI f))] := hl
  refine lv_iconst (v := -1) hx hb dd_L_cheapestFor_0 (by decide) ?_
  refine jw_cvi (y := nI (bs_ cp pr f 0) - 1) (show (-1 : Int32) = nI 0 - 1 by decide) ?_
  refine lv_istore_n (lv' := [(2, .int (nI (bs_ cp pr f 0) - 1)), (0, .ref l0), (1, .int (nI f))]) hx hb dd_L_cheapestFor_1 rfl hl (by decide) rfl (fun ls hl => ?_)
  refine lv_iconst (v := nI 0) hx hb dd_L_cheapestFor_2 (by decide) ?_
  refine lv_istore_n (lv' := [(3, .int (nI 0)), (2, .int (nI (bs_ cp pr f 0) - 1)), (0, .ref l0), (1, .int (nI f))]) hx hb dd_L_cheapestFor_3 rfl hl (by decide) rfl (fun ls hl => ?_)
  refine lp_L_cheapestFor hx hb hown hts hK hP hD hS hne hf hcp hpr (ne + 1) 0 (Nat.zero_le _) (by omega) ls (lv_sub hl [2, 3, 1, 0] rfl) (fun ls hl => ?_)
  refine lv_iload_n hx hb dd_L_cheapestFor_50 rfl (lv_at hl 2 rfl) ?_
  exact W.iret (v := (nI (bs_ cp pr f ne) - 1)) hx hb hr (fun t ht hW => ⟨⟨_, (), rfl, rfl, by rw [ht]; exact hP, hD⟩, hS.F ht⟩) hS.2.2 dd_L_cheapestFor_51
