set_option maxHeartbeats 4000000 in
set_option maxRecDepth 100000 in
theorem lp_U_commonDivisor {p : Program} {l : Launch} {e : Env} {R : Room} {s : State} {m : MethodId} {args : Array Value} {below : List Frame} {meth : Method} {c : Code} {cells slots : Nat} {Q : State → Prop} {H : Heap} {locs : List Loc} {A : Nat → Prop} {H0 : Heap} {D : va_G} {cs : Nat → ClassId} {x0 b0 g : Nat} (hx : p.tables.exec = Jvm.exec) (hb : c.code = cd_U_commonDivisor) (hown : s.vm.findClass "UseOdds" = some m.cls) (hts : ∀ w ∈ TW, w.before args s = true) (hK : va_K D vwCl (jt cs) s) (hP : va_P D vwCl [] H) (hD : va_D A []) (hS : va_S A H0 H locs)  :
    ∀ (n t x b : Nat), t ≤ 64 → 64 < t + n → Nat.gcd x b = g → x ≤ 1000000 → b ≤ 1000000 → (t = 0 ∨ (x < b ∧ x * b * 2 ^ (t - 1) ≤ 1000000000000)) → ∀ (ls : Array Slot), lv_has ls 6 [(0, .int (nI x0)), (1, .int (nI b0)), (2, .int (nI x)), (3, .int (nI b)), (4, .int (nI t))] →
    (∀ (t : Nat) (ls : Array Slot), lv_has ls 6 [(0, .int (nI x0)), (1, .int (nI b0)), (2, .int (nI 0)), (3, .int (nI g)), (4, .int (nI t))] → W p l e R s m args below meth c H locs cells slots Q (F0 m 34 ls [])) → W p l e R s m args below meth c H locs cells slots Q (F0 m 7 ls []) := by
  intro n
  induction n with
  | zero =>
    intro t x b ht hn hg hx1 hb1 hi ls hl kx
    exact absurd hn (by omega)
  | succ n ih =>
    intro t x b ht hn hg hx1 hb1 hi ls hl kx
    refine lv_iload hx hb dd_U_commonDivisor_7 (lv_at hl 4 rfl) ?_
    refine lv_bipush (v := nI 64) hx hb dd_U_commonDivisor_9 (by decide) ?_
    refine jw_icmp_ge (a := t) (b := 64) (tgt := 34) hx hb dd_U_commonDivisor_11 (by decide) (by omega) (by omega) (fun c1 => ?_) (fun c1 => ?_)
    · have e1 : t = 64 := by omega
      subst e1
      have hx0 : x = 0 := by
        rcases hi with h | ⟨h1, h2⟩
        · omega
        · rcases Nat.eq_zero_or_pos (x * b) with q | q
          · rcases Nat.mul_eq_zero.mp q with q | q <;> omega
          · have q2 : 1 * 2 ^ (64 - 1) ≤ x * b * 2 ^ (64 - 1) := Nat.mul_le_mul_right _ q
            have q3 : (1 : Nat) * 2 ^ (64 - 1) = 9223372036854775808 := by decide
            omega
      subst hx0
      rw [Nat.gcd_zero_left] at hg
      subst hg
      exact kx 64 ls (lv_sub hl [0, 1, 2, 3, 4] rfl)
    · refine lv_iload_n hx hb dd_U_commonDivisor_14 rfl (lv_at hl 2 rfl) ?_
      refine jw_if_le (a := x) (tgt := 34) hx hb dd_U_commonDivisor_15 (by decide) (by omega) (fun c2 => ?_) (fun c2 => ?_)
      · subst c2
        rw [Nat.gcd_zero_left] at hg
        subst hg
        exact kx t ls (lv_sub hl [0, 1, 2, 3, 4] rfl)
      · have hm : b % x < x := Nat.mod_lt _ (by omega)
        refine lv_iload_n hx hb dd_U_commonDivisor_18 rfl (lv_at hl 3 rfl) ?_
        refine lv_iload_n hx hb dd_U_commonDivisor_19 rfl (lv_at hl 2 rfl) ?_
        refine jw_irem hx hb dd_U_commonDivisor_20 (by omega) (by omega) (by omega) ?_
        refine lv_istore (lv' := [(5, .int (nI (b % x))), (0, .int (nI x0)), (1, .int (nI b0)), (2, .int (nI x)), (3, .int (nI b)), (4, .int (nI t))]) hx hb dd_U_commonDivisor_21 hl (by decide) rfl (fun ls hl => ?_)
        refine lv_iload_n hx hb dd_U_commonDivisor_23 rfl (lv_at hl 3 rfl) ?_
        refine lv_istore_n (lv' := [(3, .int (nI x)), (5, .int (nI (b % x))), (0, .int (nI x0)), (1, .int (nI b0)), (2, .int (nI x)), (4, .int (nI t))]) hx hb dd_U_commonDivisor_24 rfl hl (by decide) rfl (fun ls hl => ?_)
        refine lv_iload hx hb dd_U_commonDivisor_25 (lv_at hl 1 rfl) ?_
        refine lv_istore_n (lv' := [(2, .int (nI (b % x))), (3, .int (nI x)), (5, .int (nI (b % x))), (0, .int (nI x0)), (1, .int (nI b0)), (4, .int (nI t))]) hx hb dd_U_commonDivisor_27 rfl hl (by decide) rfl (fun ls hl => ?_)
        refine lv_iinc (v := nI (t + 1)) (lv' := [(4, .int (nI (t + 1))), (2, .int (nI (b % x))), (3, .int (nI x)), (5, .int (nI (b % x))), (0, .int (nI x0)), (1, .int (nI b0))]) hx hb dd_U_commonDivisor_28 hl (k := 5) rfl (nI_1 t) (by decide) rfl (fun ls hl => ?_)
        refine lv_goto (tgt := 7) hx hb dd_U_commonDivisor_31 (by decide) ?_
        refine ih (t + 1) (b % x) x (by omega) (by omega) (by rw [eu_gcd]; exact hg) (by omega) hx1 (Or.inr ⟨hm, ?_⟩) ls (lv_sub hl [4, 5, 1, 2, 0] rfl) kx
        · rw [Nat.add_sub_cancel]
          rcases hi with h | ⟨h1, h2⟩
          · subst h
            have q : b % x * x ≤ 1000000 * 1000000 := Nat.mul_le_mul (by omega) hx1
            rw [Nat.pow_zero, Nat.mul_one]; omega
          · rcases Nat.eq_zero_or_pos t with h0 | h0
            · subst h0
              have q : b % x * x ≤ 1000000 * 1000000 := Nat.mul_le_mul (by omega) hx1
              rw [Nat.pow_zero, Nat.mul_one]; omega
            · have q := eu_prod (show 0 < x by omega) (Nat.le_of_lt h1) h2
              rw [Nat.sub_add_cancel h0] at q
              exact q

set_option maxHeartbeats 4000000 in
set_option maxRecDepth 100000 in
theorem c_U_commonDivisor (l : Launch) (D : va_G) (cs : Nat → ClassId) (x b : Nat) (sz : Nat) (hx1 : x ≤ 1000000) (hb1 : b ≤ 1000000) : Met l ym_U_commonDivisor [.code ym_U_commonDivisor cd_U_commonDivisor 6 (some .int)] ({ frames := 0, cells := 0, slots := 0, locals := 0 } : Room) (jw_Pc D vwCl (jt cs) [] sz TX [.int (nI x), .int (nI b)]) (va_Qi (fun (r : Int32) (u : Unit) => r = nI (Nat.gcd x b)) (jw_B D vwCl (va_A [] sz) (fun (u : Unit) => [])) (va_A [] sz)) 0 0 (va_A [] sz) := by
  refine Met.ofW (cc := cd_U_commonDivisor) (maxL := 6) (ret := (some .int)) (by decide) rfl ?_
  intro p e s m args below meth c s₁ B hml hv
  obtain ⟨rfl, hsz, hP, hD0, hK, hT⟩ := hv
  have hx := B.exec
  have hb := B.bytes
  have hr := B.returns
  have hts : ∀ w ∈ TW, w.before [.int (nI x), .int (nI b)].toArray s = true := fun w h => hT.use h _
  have hown : s.vm.findClass "UseOdds" = some m.cls := findClass_of_methodNamed B.named
  have hlocks := B.notSynchronized
  subst hsz
  have hD := hD0.self (sz := s.heap.size)
  generalize hAe : va_A [] s.heap.size = A at hD ⊢
  have hA : ∀ q : Nat, s.heap.size ≤ q → A q := fun q h => by rw [← hAe]; exact Or.inr h
  have hS : va_S A s.heap s.heap [] := va_S.rf
  have hl := lv_entry ([.int (nI x), .int (nI b)]) (n := 6) (Nat.le_of_ble_eq_true rfl)
  rw [lg_entry_eq]
  generalize (lg_sl ([.int (nI x), .int (nI b)]) ++ List.replicate (6 - (lg_sl ([.int (nI x), .int (nI b)])).length) Slot.unset).toArray = ls at hl ⊢
  have hl : lv_has ls 6 [(0, .int (nI x)), (1, .int (nI b))] := hl
  refine lv_iload_n hx hb dd_U_commonDivisor_0 rfl (lv_at hl 0 rfl) ?_
  refine lv_istore_n (lv' := [(2, .int (nI x)), (0, .int (nI x)), (1, .int (nI b))]) hx hb dd_U_commonDivisor_1 rfl hl (by decide) rfl (fun ls hl => ?_)
  refine lv_iload_n hx hb dd_U_commonDivisor_2 rfl (lv_at hl 2 rfl) ?_
  refine lv_istore_n (lv' := [(3, .int (nI b)), (2, .int (nI x)), (0, .int (nI x)), (1, .int (nI b))]) hx hb dd_U_commonDivisor_3 rfl hl (by decide) rfl (fun ls hl => ?_)
  refine lv_iconst (v := nI 0) hx hb dd_U_commonDivisor_4 (by decide) ?_
  refine lv_istore (lv' := [(4, .int (nI 0)), (3, .int (nI b)), (2, .int (nI x)), (0, .int (nI x)), (1, .int (nI b))]) hx hb dd_U_commonDivisor_5 hl (by decide) rfl (fun ls hl => ?_)
  refine lp_U_commonDivisor (g := Nat.gcd x b) hx hb hown hts hK hP hD hS 65 0 x b (by omega) (by omega) rfl hx1 hb1 (Or.inl rfl) ls (lv_sub hl [3, 4, 2, 1, 0] rfl) (fun t ls hl => ?_)
  refine lv_iload_n hx hb dd_U_commonDivisor_34 rfl (lv_at hl 3 rfl) ?_
  exact W.iret (v := (nI (Nat.gcd x b))) hx hb hr (fun t ht hW => ⟨⟨_, (), rfl, rfl, by rw [ht]; exact hP, hD⟩, hS.F ht⟩) hS.2.2 dd_U_commonDivisor_35

set_option maxHeartbeats 4000000 in
set_option maxRecDepth 100000 in
theorem c_O_begin (l : Launch) (D : va_G) (cs : Nat → ClassId) (o0 a0 a1 j0 j1 m0 m1 : Nat) (NA NJ NM a b n : Nat) (x3 x4 x5 x6 : Int32) (sz : Nat) (ha : 0 < a) (hab : a < b) (hb1 : b ≤ 1000) (hn : n ≤ 60) : Met l ym_O_begin [.code ym_O_begin cd_O_begin 4 none] ({ frames := 3, cells := 0, slots := 0, locals := 68 } : Room) (jw_Pc D vwCl (jt cs) [(o0, .inr (1, [.ref a0, .ref j0, .ref m0, .int x3, .int x4, .int x5, .int x6])), (a0, .inr (5, [.ref a1, .int (nI (wU NA))])), (a1, .inl (cs 1, 16, .inr (.inl (fun j => lN (wG NA j))))), (j0, .inr (5, [.ref j1, .int (nI (wU NJ))])), (j1, .inl (cs 1, 16, .inr (.inl (fun j => lN (wG NJ j))))), (m0, .inr (5, [.ref m1, .int (nI (wU NM))])), (m1, .inl (cs 1, 16, .inr (.inl (fun j => lN (wG NM j)))))] sz TX [.ref o0, .int (nI a), .int (nI b), .int (nI n)]) (va_Qv (fun (u : Unit) => True) (jw_B D vwCl (va_A [(o0, .inr (1, [.ref a0, .ref j0, .ref m0, .int x3, .int x4, .int x5, .int x6])), (a0, .inr (5, [.ref a1, .int (nI (wU NA))])), (a1, .inl (cs 1, 16, .inr (.inl (fun j => lN (wG NA j))))), (j0, .inr (5, [.ref j1, .int (nI (wU NJ))])), (j1, .inl (cs 1, 16, .inr (.inl (fun j => lN (wG NJ j))))), (m0, .inr (5, [.ref m1, .int (nI (wU NM))])), (m1, .inl (cs 1, 16, .inr (.inl (fun j => lN (wG NM j)))))] sz) (fun (u : Unit) => [(o0, .inr (1, [.ref a0, .ref j0, .ref m0, .int (nI a), .int (nI (b - a)), .int (nI n), .int (nI n)])), (a0, .inr (5, [.ref a1, .int (nI (wU (b ^ n)))])), (a1, .inl (cs 1, 16, .inr (.inl (fun j => lN (wG (b ^ n) j))))), (j0, .inr (5, [.ref j1, .int (nI (wU (a ^ n)))])), (j1, .inl (cs 1, 16, .inr (.inl (fun j => lN (wG (a ^ n) j))))), (m0, .inr (5, [.ref m1, .int (nI (wU 0))])), (m1, .inl (cs 1, 16, .inr (.inl (fun j => lN (wG 0 j)))))])) (va_A [(o0, .inr (1, [.ref a0, .ref j0, .ref m0, .int x3, .int x4, .int x5, .int x6])), (a0, .inr (5, [.ref a1, .int (nI (wU NA))])), (a1, .inl (cs 1, 16, .inr (.inl (fun j => lN (wG NA j))))), (j0, .inr (5, [.ref j1, .int (nI (wU NJ))])), (j1, .inl (cs 1, 16, .inr (.inl (fun j => lN (wG NJ j))))), (m0, .inr (5, [.ref m1, .int (nI (wU NM))])), (m1, .inl (cs 1, 16, .inr (.inl (fun j => lN (wG NM j)))))] sz)) 0 0 (va_A [(o0, .inr (1, [.ref a0, .ref j0, .ref m0, .int x3, .int x4, .int x5, .int x6])), (a0, .inr (5, [.ref a1, .int (nI (wU NA))])), (a1, .inl (cs 1, 16, .inr (.inl (fun j => lN (wG NA j))))), (j0, .inr (5, [.ref j1, .int (nI (wU NJ))])), (j1, .inl (cs 1, 16, .inr (.inl (fun j => lN (wG NJ j))))), (m0, .inr (5, [.ref m1, .int (nI (wU NM))])), (m1, .inl (cs 1, 16, .inr (.inl (fun j => lN (wG NM j)))))] sz) := by
  refine Met.ofW (cc := cd_O_begin) (maxL := 4) (ret := none) (by decide) rfl ?_
  intro p e s m args below meth c s₁ B hml hv
  obtain ⟨rfl, hsz, hP, hD0, hK, hT⟩ := hv
  have hx := B.exec
  have hb := B.bytes
  have hr := B.returns
  have hts : ∀ w ∈ TW, w.before [.ref o0, .int (nI a), .int (nI b), .int (nI n)].toArray s = true := fun w h => hT.use h _
  have hown : s.vm.findClass "UseOdds$Odds" = some m.cls := findClass_of_methodNamed B.named
  have hlocks := B.notSynchronized
  subst hsz
  have hD := hD0.self (sz := s.heap.size)
  generalize hAe : va_A [(o0, .inr (1, [.ref a0, .ref j0, .ref m0, .int x3, .int x4, .int x5, .int x6])), (a0, .inr (5, [.ref a1, .int (nI (wU NA))])), (a1, .inl (cs 1, 16, .inr (.inl (fun j => lN (wG NA j))))), (j0, .inr (5, [.ref j1, .int (nI (wU NJ))])), (j1, .inl (cs 1, 16, .inr (.inl (fun j => lN (wG NJ j))))), (m0, .inr (5, [.ref m1, .int (nI (wU NM))])), (m1, .inl (cs 1, 16, .inr (.inl (fun j => lN (wG NM j)))))] s.heap.size = A at hD ⊢
  have hA : ∀ q : Nat, s.heap.size ≤ q → A q := fun q h => by rw [← hAe]; exact Or.inr h
  have hS : va_S A s.heap s.heap [] := va_S.rf
  have hl := lv_entry ([.ref o0, .int (nI a), .int (nI b), .int (nI n)]) (n := 4) (Nat.le_of_ble_eq_true rfl)
  rw [lg_entry_eq]
  generalize (lg_sl ([.ref o0, .int (nI a), .int (nI b), .int (nI n)]) ++ List.replicate (4 - (lg_sl ([.ref o0, .int (nI a), .int (nI b), .int (nI n)])).length) Slot.unset).toArray = ls at hl ⊢
  have hl : lv_has ls 4 [(0, .ref o0), (1, .int (nI a)), (2, .int (nI b)), (3, .int (nI n))] := hl
  have p1 := pw_B hb1 hn
  have p2 := pw_B (show a ≤ 1000 by omega) hn
  refine lv_aload_n hx hb dd_O_begin_0 rfl (lv_at hl 0 rfl) ?_
  refine lv_iload_n hx hb dd_O_begin_1 rfl (lv_at hl 1 rfl) ?_
  refine va_put (D := D) (ci := 1) (v := .int (nI a)) (ty := .int) (C := "UseOdds$Odds") (T := TO_) (N := 7) hx hb hts IO_ YO_ QO_ NO_ hown hK hP hD hS 0 rfl rfl 3 (by decide) (hts _ tw126) (fun _ h9 => h9) rfl (by decide +kernel) rfl rfl (Nat.le_of_ble_eq_true rfl) dd_O_begin_2 (fun H locs hP hD hS => ?_)
  have hP : va_P D vwCl [(o0, .inr (1, [.ref a0, .ref j0, .ref m0, .int (nI a), .int x4, .int x5, .int x6])), (a0, .inr (5, [.ref a1, .int (nI (wU NA))])), (a1, .inl (cs 1, 16, .inr (.inl (fun j => lN (wG NA j))))), (j0, .inr (5, [.ref j1, .int (nI (wU NJ))])), (j1, .inl (cs 1, 16, .inr (.inl (fun j => lN (wG NJ j))))), (m0, .inr (5, [.ref m1, .int (nI (wU NM))])), (m1, .inl (cs 1, 16, .inr (.inl (fun j => lN (wG NM j)))))] H := hP
  have hD : va_D A [(o0, .inr (1, [.ref a0, .ref j0, .ref m0, .int (nI a), .int x4, .int x5, .int x6])), (a0, .inr (5, [.ref a1, .int (nI (wU NA))])), (a1, .inl (cs 1, 16, .inr (.inl (fun j => lN (wG NA j))))), (j0, .inr (5, [.ref j1, .int (nI (wU NJ))])), (j1, .inl (cs 1, 16, .inr (.inl (fun j => lN (wG NJ j))))), (m0, .inr (5, [.ref m1, .int (nI (wU NM))])), (m1, .inl (cs 1, 16, .inr (.inl (fun j => lN (wG NM j)))))] := hD
  refine lv_aload_n hx hb dd_O_begin_5 rfl (lv_at hl 0 rfl) ?_
  refine lv_iload_n hx hb dd_O_begin_6 rfl (lv_at hl 2 rfl) ?_
  refine lv_iload_n hx hb dd_O_begin_7 rfl (lv_at hl 1 rfl) ?_
  refine jw_isub hx hb dd_O_begin_8 (by omega) ?_
  refine va_put (D := D) (ci := 1) (v := .int (nI (b - a))) (ty := .int) (C := "UseOdds$Odds") (T := TO_) (N := 7) hx hb hts IO_ YO_ QO_ NO_ hown hK hP hD hS 0 rfl rfl 4 (by decide) (hts _ tw127) (fun _ h9 => h9) rfl (by decide +kernel) rfl rfl (Nat.le_of_ble_eq_true rfl) dd_O_begin_9 (fun H locs hP hD hS => ?_)
  have hP : va_P D vwCl [(o0, .inr (1, [.ref a0, .ref j0, .ref m0, .int (nI a), .int (nI (b - a)), .int x5, .int x6])), (a0, .inr (5, [.ref a1, .int (nI (wU NA))])), (a1, .inl (cs 1, 16, .inr (.inl (fun j => lN (wG NA j))))), (j0, .inr (5, [.ref j1, .int (nI (wU NJ))])), (j1, .inl (cs 1, 16, .inr (.inl (fun j => lN (wG NJ j))))), (m0, .inr (5, [.ref m1, .int (nI (wU NM))])), (m1, .inl (cs 1, 16, .inr (.inl (fun j => lN (wG NM j)))))] H := hP
  have hD : va_D A [(o0, .inr (1, [.ref a0, .ref j0, .ref m0, .int (nI a), .int (nI (b - a)), .int x5, .int x6])), (a0, .inr (5, [.ref a1, .int (nI (wU NA))])), (a1, .inl (cs 1, 16, .inr (.inl (fun j => lN (wG NA j))))), (j0, .inr (5, [.ref j1, .int (nI (wU NJ))])), (j1, .inl (cs 1, 16, .inr (.inl (fun j => lN (wG NJ j))))), (m0, .inr (5, [.ref m1, .int (nI (wU NM))])), (m1, .inl (cs 1, 16, .inr (.inl (fun j => lN (wG NM j)))))] := hD
  refine lv_aload_n hx hb dd_O_begin_12 rfl (lv_at hl 0 rfl) ?_
  refine lv_iload_n hx hb dd_O_begin_13 rfl (lv_at hl 3 rfl) ?_
  refine va_put (D := D) (ci := 1) (v := .int (nI n)) (ty := .int) (C := "UseOdds$Odds") (T := TO_) (N := 7) hx hb hts IO_ YO_ QO_ NO_ hown hK hP hD hS 0 rfl rfl 5 (by decide) (hts _ tw128) (fun _ h9 => h9) rfl (by decide +kernel) rfl rfl (Nat.le_of_ble_eq_true rfl) dd_O_begin_14 (fun H locs hP hD hS => ?_)
  have hP : va_P D vwCl [(o0, .inr (1, [.ref a0, .ref j0, .ref m0, .int (nI a), .int (nI (b - a)), .int (nI n), .int x6])), (a0, .inr (5, [.ref a1, .int (nI (wU NA))])), (a1, .inl (cs 1, 16, .inr (.inl (fun j => lN (wG NA j))))), (j0, .inr (5, [.ref j1, .int (nI (wU NJ))])), (j1, .inl (cs 1, 16, .inr (.inl (fun j => lN (wG NJ j))))), (m0, .inr (5, [.ref m1, .int (nI (wU NM))])), (m1, .inl (cs 1, 16, .inr (.inl (fun j => lN (wG NM j)))))] H := hP
  have hD : va_D A [(o0, .inr (1, [.ref a0, .ref j0, .ref m0, .int (nI a), .int (nI (b - a)), .int (nI n), .int x6])), (a0, .inr (5, [.ref a1, .int (nI (wU NA))])), (a1, .inl (cs 1, 16, .inr (.inl (fun j => lN (wG NA j))))), (j0, .inr (5, [.ref j1, .int (nI (wU NJ))])), (j1, .inl (cs 1, 16, .inr (.inl (fun j => lN (wG NJ j))))), (m0, .inr (5, [.ref m1, .int (nI (wU NM))])), (m1, .inl (cs 1, 16, .inr (.inl (fun j => lN (wG NM j)))))] := hD
  refine lv_aload_n hx hb dd_O_begin_17 rfl (lv_at hl 0 rfl) ?_
  refine lv_iload_n hx hb dd_O_begin_18 rfl (lv_at hl 3 rfl) ?_
  refine va_put (D := D) (ci := 1) (v := .int (nI n)) (ty := .int) (C := "UseOdds$Odds") (T := TO_) (N := 7) hx hb hts IO_ YO_ QO_ NO_ hown hK hP hD hS 0 rfl rfl 6 (by decide) (hts _ tw129) (fun _ h9 => h9) rfl (by decide +kernel) rfl rfl (Nat.le_of_ble_eq_true rfl) dd_O_begin_19 (fun H locs hP hD hS => ?_)
  have hP : va_P D vwCl [(o0, .inr (1, [.ref a0, .ref j0, .ref m0, .int (nI a), .int (nI (b - a)), .int (nI n), .int (nI n)])), (a0, .inr (5, [.ref a1, .int (nI (wU NA))])), (a1, .inl (cs 1, 16, .inr (.inl (fun j => lN (wG NA j))))), (j0, .inr (5, [.ref j1, .int (nI (wU NJ))])), (j1, .inl (cs 1, 16, .inr (.inl (fun j => lN (wG NJ j))))), (m0, .inr (5, [.ref m1, .int (nI (wU NM))])), (m1, .inl (cs 1, 16, .inr (.inl (fun j => lN (wG NM j)))))] H := hP
  have hD : va_D A [(o0, .inr (1, [.ref a0, .ref j0, .ref m0, .int (nI a), .int (nI (b - a)), .int (nI n), .int (nI n)])), (a0, .inr (5, [.ref a1, .int (nI (wU NA))])), (a1, .inl (cs 1, 16, .inr (.inl (fun j => lN (wG NA j))))), (j0, .inr (5, [.ref j1, .int (nI (wU NJ))])), (j1, .inl (cs 1, 16, .inr (.inl (fun j => lN (wG NJ j))))), (m0, .inr (5, [.ref m1, .int (nI (wU NM))])), (m1, .inl (cs 1, 16, .inr (.inl (fun j => lN (wG NM j)))))] := hD
  refine lv_aload_n hx hb dd_O_begin_22 rfl (lv_at hl 0 rfl) ?_
  refine va_get (D := D) (ci := 1) (v := .ref a0) (C := "UseOdds$Odds") (T := TO_) (N := 7) hx hb hts IO_ hown hK hP 0 rfl rfl 0 (by decide) (hts _ tw120) (fun _ h9 => h9) rfl dd_O_begin_23 ?_
  refine lv_iload_n hx hb dd_O_begin_26 rfl (lv_at hl 2 rfl) ?_
  refine lv_iload_n hx hb dd_O_begin_27 rfl (lv_at hl 3 rfl) ?_
  refine jw_callv (wc := [(a0, .inr (5, [.ref a1, .int (nI (wU NA))])), (a1, .inl (cs 1, 16, .inr (.inl (fun j => lN (wG NA j)))))]) (wr := [(o0, .inr (1, [.ref a0, .ref j0, .ref m0, .int (nI a), .int (nI (b - a)), .int (nI n), .int (nI n)])), (j0, .inr (5, [.ref j1, .int (nI (wU NJ))])), (j1, .inl (cs 1, 16, .inr (.inl (fun j => lN (wG NJ j))))), (m0, .inr (5, [.ref m1, .int (nI (wU NM))])), (m1, .inl (cs 1, 16, .inr (.inl (fun j => lN (wG NM j)))))]) hP hD hS hA [1, 2] [0, 3, 4, 5, 6] rfl rfl rfl (by decide) (va_runV (C := "UseOdds$Whole") (As := [.int (nI b), .int (nI n)]) (rest := []) ⟨hx, hb, hml, hown, hts⟩ (c_H_becomePower l D cs a0 a1 NA b n _ (by omega) (by omega) (by omega) p1) ⟨jw_cB 2 hts tw221 rfl rfl tw6 tw218 (by decide +kernel) ⟨Nat.le_of_ble_eq_true rfl, Nat.le_of_ble_eq_true rfl⟩, hts _ tw219, hts _ tw220⟩ ⟨jw_blind jx_TX, va_recv hK hP (ci := 5) (q0 := 1) rfl rfl, jw_pre (hP.sub [1, 2] rfl) (hD.sub [1, 2] (by decide) rfl) hK (fun U _ hW => hT.warm hW)⟩ rfl rfl hl.1 rfl (lv_room (Nat.le_of_ble_eq_true rfl)) dd_O_begin_28 ⟨Nat.le_of_ble_eq_true rfl, Nat.le_of_ble_eq_true rfl⟩) (fun u H locs hw hP hD hS => ?_)
  have hP : va_P D vwCl [(o0, .inr (1, [.ref a0, .ref j0, .ref m0, .int (nI a), .int (nI (b - a)), .int (nI n), .int (nI n)])), (j0, .inr (5, [.ref j1, .int (nI (wU NJ))])), (j1, .inl (cs 1, 16, .inr (.inl (fun j => lN (wG NJ j))))), (m0, .inr (5, [.ref m1, .int (nI (wU NM))])), (m1, .inl (cs 1, 16, .inr (.inl (fun j => lN (wG NM j))))), (a0, .inr (5, [.ref a1, .int (nI (wU (b ^ n)))])), (a1, .inl (cs 1, 16, .inr (.inl (fun j => lN (wG (b ^ n) j)))))] H := hP
  have hD : va_D A [(o0, .inr (1, [.ref a0, .ref j0, .ref m0, .int (nI a), .int (nI (b - a)), .int (nI n), .int (nI n)])), (j0, .inr (5, [.ref j1, .int (nI (wU NJ))])), (j1, .inl (cs 1, 16, .inr (.inl (fun j => lN (wG NJ j))))), (m0, .inr (5, [.ref m1, .int (nI (wU NM))])), (m1, .inl (cs 1, 16, .inr (.inl (fun j => lN (wG NM j))))), (a0, .inr (5, [.ref a1, .int (nI (wU (b ^ n)))])), (a1, .inl (cs 1, 16, .inr (.inl (fun j => lN (wG (b ^ n) j)))))] := hD
  refine lv_aload_n hx hb dd_O_begin_31 rfl (lv_at hl 0 rfl) ?_
  refine va_get (D := D) (ci := 1) (v := .ref j0) (C := "UseOdds$Odds") (T := TO_) (N := 7) hx hb hts IO_ hown hK hP 0 rfl rfl 1 (by decide) (hts _ tw122) (fun _ h9 => h9) rfl dd_O_begin_32 ?_
  refine lv_iload_n hx hb dd_O_begin_35 rfl (lv_at hl 1 rfl) ?_
  refine lv_iload_n hx hb dd_O_begin_36 rfl (lv_at hl 3 rfl) ?_
  refine jw_callv (wc := [(j0, .inr (5, [.ref j1, .int (nI (wU NJ))])), (j1, .inl (cs 1, 16, .inr (.inl (fun j => lN (wG NJ j)))))]) (wr := [(o0, .inr (1, [.ref a0, .ref j0, .ref m0, .int (nI a), .int (nI (b - a)), .int (nI n), .int (nI n)])), (m0, .inr (5, [.ref m1, .int (nI (wU NM))])), (m1, .inl (cs 1, 16, .inr (.inl (fun j => lN (wG NM j))))), (a0, .inr (5, [.ref a1, .int (nI (wU (b ^ n)))])), (a1, .inl (cs 1, 16, .inr (.inl (fun j => lN (wG (b ^ n) j)))))]) hP hD hS hA [1, 2] [0, 3, 4, 5, 6] rfl rfl rfl (by decide) (va_runV (C := "UseOdds$Whole") (As := [.int (nI a), .int (nI n)]) (rest := []) ⟨hx, hb, hml, hown, hts⟩ (c_H_becomePower l D cs j0 j1 NJ a n _ (by omega) (by omega) (by omega) p2) ⟨jw_cB 2 hts tw221 rfl rfl tw6 tw218 (by decide +kernel) ⟨Nat.le_of_ble_eq_true rfl, Nat.le_of_ble_eq_true rfl⟩, hts _ tw219, hts _ tw220⟩ ⟨jw_blind jx_TX, va_recv hK hP (ci := 5) (q0 := 1) rfl rfl, jw_pre (hP.sub [1, 2] rfl) (hD.sub [1, 2] (by decide) rfl) hK (fun U _ hW => hT.warm hW)⟩ rfl rfl hl.1 rfl (lv_room (Nat.le_of_ble_eq_true rfl)) dd_O_begin_37 ⟨Nat.le_of_ble_eq_true rfl, Nat.le_of_ble_eq_true rfl⟩) (fun u H locs hw hP hD hS => ?_)
  have hP : va_P D vwCl [(o0, .inr (1, [.ref a0, .ref j0, .ref m0, .int (nI a), .int (nI (b - a)), .int (nI n), .int (nI n)])), (m0, .inr (5, [.ref m1, .int (nI (wU NM))])), (m1, .inl (cs 1, 16, .inr (.inl (fun j => lN (wG NM j))))), (a0, .inr (5, [.ref a1, .int (nI (wU (b ^ n)))])), (a1, .inl (cs 1, 16, .inr (.inl (fun j => lN (wG (b ^ n) j))))), (j0, .inr (5, [.ref j1, .int (nI (wU (a ^ n)))])), (j1, .inl (cs 1, 16, .inr (.inl (fun j => lN (wG (a ^ n) j)))))] H := hP
  have hD : va_D A [(o0, .inr (1, [.ref a0, .ref j0, .ref m0, .int (nI a), .int (nI (b - a)), .int (nI n), .int (nI n)])), (m0, .inr (5, [.ref m1, .int (nI (wU NM))])), (m1, .inl (cs 1, 16, .inr (.inl (fun j => lN (wG NM j))))), (a0, .inr (5, [.ref a1, .int (nI (wU (b ^ n)))])), (a1, .inl (cs 1, 16, .inr (.inl (fun j => lN (wG (b ^ n) j))))), (j0, .inr (5, [.ref j1, .int (nI (wU (a ^ n)))])), (j1, .inl (cs 1, 16, .inr (.inl (fun j => lN (wG (a ^ n) j)))))] := hD
  refine lv_aload_n hx hb dd_O_begin_40 rfl (lv_at hl 0 rfl) ?_
  refine va_get (D := D) (ci := 1) (v := .ref m0) (C := "UseOdds$Odds") (T := TO_) (N := 7) hx hb hts IO_ hown hK hP 0 rfl rfl 2 (by decide) (hts _ tw124) (fun _ h9 => h9) rfl dd_O_begin_41 ?_
  refine lv_iconst (v := nI 0) hx hb dd_O_begin_44 (by decide) ?_
  refine jw_callv (wc := [(m0, .inr (5, [.ref m1, .int (nI (wU NM))])), (m1, .inl (cs 1, 16, .inr (.inl (fun j => lN (wG NM j)))))]) (wr := [(o0, .inr (1, [.ref a0, .ref j0, .ref m0, .int (nI a), .int (nI (b - a)), .int (nI n), .int (nI n)])), (a0, .inr (5, [.ref a1, .int (nI (wU (b ^ n)))])), (a1, .inl (cs 1, 16, .inr (.inl (fun j => lN (wG (b ^ n) j))))), (j0, .inr (5, [.ref j1, .int (nI (wU (a ^ n)))])), (j1, .inl (cs 1, 16, .inr (.inl (fun j => lN (wG (a ^ n) j)))))]) hP hD hS hA [1, 2] [0, 3, 4, 5, 6] rfl rfl rfl (by decide) (va_runV (C := "UseOdds$Whole") (As := [.int (nI 0)]) (rest := []) ⟨hx, hb, hml, hown, hts⟩ (c_H_become l D cs m0 m1 NM 0 _ (by decide)) ⟨jw_cB 1 hts tw225 rfl rfl tw6 tw234 (by decide +kernel) ⟨Nat.le_of_ble_eq_true rfl, Nat.le_of_ble_eq_true rfl⟩, hts _ tw223, hts _ tw224⟩ ⟨jw_blind jx_TX, va_recv hK hP (ci := 5) (q0 := 1) rfl rfl, jw_pre (hP.sub [1, 2] rfl) (hD.sub [1, 2] (by decide) rfl) hK (fun U _ hW => hT.warm hW)⟩ rfl rfl hl.1 rfl (lv_room (Nat.le_of_ble_eq_true rfl)) dd_O_begin_45 ⟨Nat.le_of_ble_eq_true rfl, Nat.le_of_ble_eq_true rfl⟩) (fun u H locs hw hP hD hS => ?_)
  have hP : va_P D vwCl [(o0, .inr (1, [.ref a0, .ref j0, .ref m0, .int (nI a), .int (nI (b - a)), .int (nI n), .int (nI n)])), (a0, .inr (5, [.ref a1, .int (nI (wU (b ^ n)))])), (a1, .inl (cs 1, 16, .inr (.inl (fun j => lN (wG (b ^ n) j))))), (j0, .inr (5, [.ref j1, .int (nI (wU (a ^ n)))])), (j1, .inl (cs 1, 16, .inr (.inl (fun j => lN (wG (a ^ n) j))))), (m0, .inr (5, [.ref m1, .int (nI (wU 0))])), (m1, .inl (cs 1, 16, .inr (.inl (fun j => lN (wG 0 j)))))] H := hP
  have hD : va_D A [(o0, .inr (1, [.ref a0, .ref j0, .ref m0, .int (nI a), .int (nI (b - a)), .int (nI n), .int (nI n)])), (a0, .inr (5, [.ref a1, .int (nI (wU (b ^ n)))])), (a1, .inl (cs 1, 16, .inr (.inl (fun j => lN (wG (b ^ n) j))))), (j0, .inr (5, [.ref j1, .int (nI (wU (a ^ n)))])), (j1, .inl (cs 1, 16, .inr (.inl (fun j => lN (wG (a ^ n) j))))), (m0, .inr (5, [.ref m1, .int (nI (wU 0))])), (m1, .inl (cs 1, 16, .inr (.inl (fun j => lN (wG 0 j)))))] := hD
  exact W.vret hx hb hr (fun t ht hW => ⟨⟨(), rfl, trivial, by rw [ht]; exact hP, hD⟩, hS.F ht⟩) hS.2.2 dd_O_begin_48

set_option maxHeartbeats 4000000 in
set_option maxRecDepth 100000 in
theorem c_O_oneFewer (l : Launch) (D : va_G) (cs : Nat → ClassId) (o0 a0 a1 j0 j1 m0 m1 : Nat) (NA x y n k : Nat) (sz : Nat) (hx0 : 0 < x) (hb1 : x + y ≤ 1000) (hn : n ≤ 60) (hk : k + 1 ≤ n) : Met l ym_O_oneFewer [.code ym_O_oneFewer cd_O_oneFewer 1 none] ({ frames := 2, cells := 0, slots := 0, locals := 41 } : Room) (jw_Pc D vwCl (jt cs) [(o0, .inr (1, [.ref a0, .ref j0, .ref m0, .int (nI x), .int (nI y), .int (nI n), .int (nI (k + 1))])), (a0, .inr (5, [.ref a1, .int (nI (wU NA))])), (a1, .inl (cs 1, 16, .inr (.inl (fun j => lN (wG NA j))))), (j0, .inr (5, [.ref j1, .int (nI (wU (oJ x y n (k + 1))))])), (j1, .inl (cs 1, 16, .inr (.inl (fun j => lN (wG (oJ x y n (k + 1)) j))))), (m0, .inr (5, [.ref m1, .int (nI (wU (oS x y n (k + 1 + 1))))])), (m1, .inl (cs 1, 16, .inr (.inl (fun j => lN (wG (oS x y n (k + 1 + 1)) j)))))] sz TX [.ref o0]) (va_Qv (fun (u : Unit) => True) (jw_B D vwCl (va_A [(o0, .inr (1, [.ref a0, .ref j0, .ref m0, .int (nI x), .int (nI y), .int (nI n), .int (nI (k + 1))])), (a0, .inr (5, [.ref a1, .int (nI (wU NA))])), (a1, .inl (cs 1, 16, .inr (.inl (fun j => lN (wG NA j))))), (j0, .inr (5, [.ref j1, .int (nI (wU (oJ x y n (k + 1))))])), (j1, .inl (cs 1, 16, .inr (.inl (fun j => lN (wG (oJ x y n (k + 1)) j))))), (m0, .inr (5, [.ref m1, .int (nI (wU (oS x y n (k + 1 + 1))))])), (m1, .inl (cs 1, 16, .inr (.inl (fun j => lN (wG (oS x y n (k + 1 + 1)) j)))))] sz) (fun (u : Unit) => [(o0, .inr (1, [.ref a0, .ref j0, .ref m0, .int (nI x), .int (nI y), .int (nI n), .int (nI k)])), (a0, .inr (5, [.ref a1, .int (nI (wU NA))])), (a1, .inl (cs 1, 16, .inr (.inl (fun j => lN (wG NA j))))), (j0, .inr (5, [.ref j1, .int (nI (wU (oJ x y n k)))])), (j1, .inl (cs 1, 16, .inr (.inl (fun j => lN (wG (oJ x y n k) j))))), (m0, .inr (5, [.ref m1, .int (nI (wU (oS x y n (k + 1))))])), (m1, .inl (cs 1, 16, .inr (.inl (fun j => lN (wG (oS x y n (k + 1)) j)))))])) (va_A [(o0, .inr (1, [.ref a0, .ref j0, .ref m0, .int (nI x), .int (nI y), .int (nI n), .int (nI (k + 1))])), (a0, .inr (5, [.ref a1, .int (nI (wU NA))])), (a1, .inl (cs 1, 16, .inr (.inl (fun j => lN (wG NA j))))), (j0, .inr (5, [.ref j1, .int (nI (wU (oJ x y n (k + 1))))])), (j1, .inl (cs 1, 16, .inr (.inl (fun j => lN (wG (oJ x y n (k + 1)) j))))), (m0, .inr (5, [.ref m1, .int (nI (wU (oS x y n (k + 1 + 1))))])), (m1, .inl (cs 1, 16, .inr (.inl (fun j => lN (wG (oS x y n (k + 1 + 1)) j)))))] sz)) 0 0 (va_A [(o0, .inr (1, [.ref a0, .ref j0, .ref m0, .int (nI x), .int (nI y), .int (nI n), .int (nI (k + 1))])), (a0, .inr (5, [.ref a1, .int (nI (wU NA))])), (a1, .inl (cs 1, 16, .inr (.inl (fun j => lN (wG NA j))))), (j0, .inr (5, [.ref j1, .int (nI (wU (oJ x y n (k + 1))))])), (j1, .inl (cs 1, 16, .inr (.inl (fun j => lN (wG (oJ x y n (k + 1)) j))))), (m0, .inr (5, [.ref m1, .int (nI (wU (oS x y n (k + 1 + 1))))])), (m1, .inl (cs 1, 16, .inr (.inl (fun j => lN (wG (oS x y n (k + 1 + 1)) j)))))] sz) := by
  refine Met.ofW (cc := cd_O_oneFewer) (maxL := 1) (ret := none) (by decide) rfl ?_
  intro p e s m args below meth c s₁ B hml hv
  obtain ⟨rfl, hsz, hP, hD0, hK, hT⟩ := hv
  have hx := B.exec
  have hb := B.bytes
  have hr := B.returns
  have hts : ∀ w ∈ TW, w.before [.ref o0].toArray s = true := fun w h => hT.use h _
  have hown : s.vm.findClass "UseOdds$Odds" = some m.cls := findClass_of_methodNamed B.named
  have hlocks := B.notSynchronized
  subst hsz
  have hD := hD0.self (sz := s.heap.size)
  generalize hAe : va_A [(o0, .inr (1, [.ref a0, .ref j0, .ref m0, .int (nI x), .int (nI y), .int (nI n), .int (nI (k + 1))])), (a0, .inr (5, [.ref a1, .int (nI (wU NA))])), (a1, .inl (cs 1, 16, .inr (.inl (fun j => lN (wG NA j))))), (j0, .inr (5, [.ref j1, .int (nI (wU (oJ x y n (k + 1))))])), (j1, .inl (cs 1, 16, .inr (.inl (fun j => lN (wG (oJ x y n (k + 1)) j))))), (m0, .inr (5, [.ref m1, .int (nI (wU (oS x y n (k + 1 + 1))))])), (m1, .inl (cs 1, 16, .inr (.inl (fun j => lN (wG (oS x y n (k + 1 + 1)) j)))))] s.heap.size = A at hD ⊢
  have hA : ∀ q : Nat, s.heap.size ≤ q → A q := fun q h => by rw [← hAe]; exact Or.inr h
  have hS : va_S A s.heap s.heap [] := va_S.rf
  have hl := lv_entry ([.ref o0]) (n := 1) (Nat.le_of_ble_eq_true rfl)
  rw [lg_entry_eq]
  generalize (lg_sl ([.ref o0]) ++ List.replicate (1 - (lg_sl ([.ref o0])).length) Slot.unset).toArray = ls at hl ⊢
  have hl : lv_has ls 1 [(0, .ref o0)] := hl
  have p1 := pw_B hb1 hn
  have q1 := oJ_le x y n (k + 1) hk
  have q2 := oS_le x y n (k + 1)
  have q3 := oS_le x y n (k + 1 + 1)
  have q4 := oS_J x y n (k + 1) hk
  have q5 := oJ_le x y n k (by omega)
  have q6 : (k + 1) * y ≤ 60 * 1000 := Nat.mul_le_mul (by omega) (by omega)
  have q7 : (n - k) * x ≤ 60 * 1000 := Nat.mul_le_mul (by omega) (by omega)
  have q8 : oJ x y n (k + 1) * ((k + 1) * y) < bB ^ 16 := mu_B q1 hb1 hn (by omega)
  have q9 : 0 < (n - k) * x := Nat.mul_pos (by omega) hx0
  refine lv_aload_n hx hb dd_O_oneFewer_0 rfl (lv_at hl 0 rfl) ?_
  refine va_get (D := D) (ci := 1) (v := .int (nI (k + 1))) (C := "UseOdds$Odds") (T := TO_) (N := 7) hx hb hts IO_ hown hK hP 0 rfl rfl 6 (by decide) (hts _ tw129) (fun _ h9 => h9) rfl dd_O_oneFewer_1 ?_
  refine lv_iconst (v := nI 1) hx hb dd_O_oneFewer_4 (by decide) ?_
  refine jw_icmp_ge (a := k + 1) (b := 1) (tgt := 9) hx hb dd_O_oneFewer_5 (by decide) (by omega) (by omega) (fun c1 => ?_) (fun c1 => ?_)
  · refine lv_aload_n hx hb dd_O_oneFewer_9 rfl (lv_at hl 0 rfl) ?_
    refine va_get (D := D) (ci := 1) (v := .ref m0) (C := "UseOdds$Odds") (T := TO_) (N := 7) hx hb hts IO_ hown hK hP 0 rfl rfl 2 (by decide) (hts _ tw124) (fun _ h9 => h9) rfl dd_O_oneFewer_10 ?_
    refine lv_aload_n hx hb dd_O_oneFewer_13 rfl (lv_at hl 0 rfl) ?_
    refine va_get (D := D) (ci := 1) (v := .ref j0) (C := "UseOdds$Odds") (T := TO_) (N := 7) hx hb hts IO_ hown hK hP 0 rfl rfl 1 (by decide) (hts _ tw122) (fun _ h9 => h9) rfl dd_O_oneFewer_14 ?_
    refine jw_callv (wc := [(m0, .inr (5, [.ref m1, .int (nI (wU (oS x y n (k + 1 + 1))))])), (m1, .inl (cs 1, 16, .inr (.inl (fun j => lN (wG (oS x y n (k + 1 + 1)) j))))), (j0, .inr (5, [.ref j1, .int (nI (wU (oJ x y n (k + 1))))])), (j1, .inl (cs 1, 16, .inr (.inl (fun j => lN (wG (oJ x y n (k + 1)) j)))))]) (wr := [(o0, .inr (1, [.ref a0, .ref j0, .ref m0, .int (nI x), .int (nI y), .int (nI n), .int (nI (k + 1))])), (a0, .inr (5, [.ref a1, .int (nI (wU NA))])), (a1, .inl (cs 1, 16, .inr (.inl (fun j => lN (wG NA j)))))]) hP hD hS hA [5, 6, 3, 4] [0, 1, 2] rfl rfl rfl (by decide) (va_runV (C := "UseOdds$Whole") (As := [.ref j0]) (rest := []) ⟨hx, hb, hml, hown, hts⟩ (c_H_add l D cs m0 m1 j0 j1 (oS x y n (k + 1 + 1)) (oJ x y n (k + 1)) _ (by omega) (by omega) (by omega)) ⟨jw_cB 1 hts tw251 rfl rfl tw6 tw248 (by decide +kernel) ⟨Nat.le_of_ble_eq_true rfl, Nat.le_of_ble_eq_true rfl⟩, hts _ tw249, hts _ tw250⟩ ⟨jw_blind jx_TX, va_recv hK hP (ci := 5) (q0 := 5) rfl rfl, jw_pre (hP.sub [5, 6, 3, 4] rfl) (hD.sub [5, 6, 3, 4] (by decide) rfl) hK (fun U _ hW => hT.warm hW)⟩ rfl rfl hl.1 rfl (lv_room (Nat.le_of_ble_eq_true rfl)) dd_O_oneFewer_17 ⟨Nat.le_of_ble_eq_true rfl, Nat.le_of_ble_eq_true rfl⟩) (fun u H locs hw hP hD hS => ?_)
    have hP : va_P D vwCl [(o0, .inr (1, [.ref a0, .ref j0, .ref m0, .int (nI x), .int (nI y), .int (nI n), .int (nI (k + 1))])), (a0, .inr (5, [.ref a1, .int (nI (wU NA))])), (a1, .inl (cs 1, 16, .inr (.inl (fun j => lN (wG NA j))))), (m0, .inr (5, [.ref m1, .int (nI (wU (oS x y n (k + 1 + 1) + oJ x y n (k + 1))))])), (m1, .inl (cs 1, 16, .inr (.inl (fun j => lN (wG (oS x y n (k + 1 + 1) + oJ x y n (k + 1)) j))))), (j0, .inr (5, [.ref j1, .int (nI (wU (oJ x y n (k + 1))))])), (j1, .inl (cs 1, 16, .inr (.inl (fun j => lN (wG (oJ x y n (k + 1)) j)))))] H := hP
    have hD : va_D A [(o0, .inr (1, [.ref a0, .ref j0, .ref m0, .int (nI x), .int (nI y), .int (nI n), .int (nI (k + 1))])), (a0, .inr (5, [.ref a1, .int (nI (wU NA))])), (a1, .inl (cs 1, 16, .inr (.inl (fun j => lN (wG NA j))))), (m0, .inr (5, [.ref m1, .int (nI (wU (oS x y n (k + 1 + 1) + oJ x y n (k + 1))))])), (m1, .inl (cs 1, 16, .inr (.inl (fun j => lN (wG (oS x y n (k + 1 + 1) + oJ x y n (k + 1)) j))))), (j0, .inr (5, [.ref j1, .int (nI (wU (oJ x y n (k + 1))))])), (j1, .inl (cs 1, 16, .inr (.inl (fun j => lN (wG (oJ x y n (k + 1)) j)))))] := hD
    rw [← q4] at hP hD
    refine lv_aload_n hx hb dd_O_oneFewer_20 rfl (lv_at hl 0 rfl) ?_
    refine va_get (D := D) (ci := 1) (v := .ref j0) (C := "UseOdds$Odds") (T := TO_) (N := 7) hx hb hts IO_ hown hK hP 0 rfl rfl 1 (by decide) (hts _ tw122) (fun _ h9 => h9) rfl dd_O_oneFewer_21 ?_
    refine lv_aload_n hx hb dd_O_oneFewer_24 rfl (lv_at hl 0 rfl) ?_
    refine va_get (D := D) (ci := 1) (v := .int (nI (k + 1))) (C := "UseOdds$Odds") (T := TO_) (N := 7) hx hb hts IO_ hown hK hP 0 rfl rfl 6 (by decide) (hts _ tw129) (fun _ h9 => h9) rfl dd_O_oneFewer_25 ?_
    refine lv_aload_n hx hb dd_O_oneFewer_28 rfl (lv_at hl 0 rfl) ?_
    refine va_get (D := D) (ci := 1) (v := .int (nI y)) (C := "UseOdds$Odds") (T := TO_) (N := 7) hx hb hts IO_ hown hK hP 0 rfl rfl 4 (by decide) (hts _ tw127) (fun _ h9 => h9) rfl dd_O_oneFewer_29 ?_
    refine jw_imul hx hb dd_O_oneFewer_32 ?_
    refine jw_callv (wc := [(j0, .inr (5, [.ref j1, .int (nI (wU (oJ x y n (k + 1))))])), (j1, .inl (cs 1, 16, .inr (.inl (fun j => lN (wG (oJ x y n (k + 1)) j)))))]) (wr := [(o0, .inr (1, [.ref a0, .ref j0, .ref m0, .int (nI x), .int (nI y), .int (nI n), .int (nI (k + 1))])), (a0, .inr (5, [.ref a1, .int (nI (wU NA))])), (a1, .inl (cs 1, 16, .inr (.inl (fun j => lN (wG NA j))))), (m0, .inr (5, [.ref m1, .int (nI (wU (oS x y n (k + 1))))])), (m1, .inl (cs 1, 16, .inr (.inl (fun j => lN (wG (oS x y n (k + 1)) j)))))]) hP hD hS hA [5, 6] [0, 1, 2, 3, 4] rfl rfl rfl (by decide) (va_runV (C := "UseOdds$Whole") (As := [.int (nI ((k + 1) * y))]) (rest := []) ⟨hx, hb, hml, hown, hts⟩ (c_H_multiply l D cs j0 j1 (oJ x y n (k + 1)) ((k + 1) * y) _ (by omega) (by omega) q8) ⟨jw_cB 1 hts tw232 rfl rfl tw6 tw239 (by decide +kernel) ⟨Nat.le_of_ble_eq_true rfl, Nat.le_of_ble_eq_true rfl⟩, hts _ tw230, hts _ tw231⟩ ⟨jw_blind jx_TX, va_recv hK hP (ci := 5) (q0 := 5) rfl rfl, jw_pre (hP.sub [5, 6] rfl) (hD.sub [5, 6] (by decide) rfl) hK (fun U _ hW => hT.warm hW)⟩ rfl rfl hl.1 rfl (lv_room (Nat.le_of_ble_eq_true rfl)) dd_O_oneFewer_33 ⟨Nat.le_of_ble_eq_true rfl, Nat.le_of_ble_eq_true rfl⟩) (fun u H locs hw hP hD hS => ?_)
    have hP : va_P D vwCl [(o0, .inr (1, [.ref a0, .ref j0, .ref m0, .int (nI x), .int (nI y), .int (nI n), .int (nI (k + 1))])), (a0, .inr (5, [.ref a1, .int (nI (wU NA))])), (a1, .inl (cs 1, 16, .inr (.inl (fun j => lN (wG NA j))))), (m0, .inr (5, [.ref m1, .int (nI (wU (oS x y n (k + 1))))])), (m1, .inl (cs 1, 16, .inr (.inl (fun j => lN (wG (oS x y n (k + 1)) j))))), (j0, .inr (5, [.ref j1, .int (nI (wU (oJ x y n (k + 1) * ((k + 1) * y))))])), (j1, .inl (cs 1, 16, .inr (.inl (fun j => lN (wG (oJ x y n (k + 1) * ((k + 1) * y)) j)))))] H := hP
    have hD : va_D A [(o0, .inr (1, [.ref a0, .ref j0, .ref m0, .int (nI x), .int (nI y), .int (nI n), .int (nI (k + 1))])), (a0, .inr (5, [.ref a1, .int (nI (wU NA))])), (a1, .inl (cs 1, 16, .inr (.inl (fun j => lN (wG NA j))))), (m0, .inr (5, [.ref m1, .int (nI (wU (oS x y n (k + 1))))])), (m1, .inl (cs 1, 16, .inr (.inl (fun j => lN (wG (oS x y n (k + 1)) j))))), (j0, .inr (5, [.ref j1, .int (nI (wU (oJ x y n (k + 1) * ((k + 1) * y))))])), (j1, .inl (cs 1, 16, .inr (.inl (fun j => lN (wG (oJ x y n (k + 1) * ((k + 1) * y)) j)))))] := hD
    rw [oJ_down hk] at hP hD
    refine lv_aload_n hx hb dd_O_oneFewer_36 rfl (lv_at hl 0 rfl) ?_
    refine va_get (D := D) (ci := 1) (v := .ref j0) (C := "UseOdds$Odds") (T := TO_) (N := 7) hx hb hts IO_ hown hK hP 0 rfl rfl 1 (by decide) (hts _ tw122) (fun _ h9 => h9) rfl dd_O_oneFewer_37 ?_
    refine lv_aload_n hx hb dd_O_oneFewer_40 rfl (lv_at hl 0 rfl) ?_
    refine va_get (D := D) (ci := 1) (v := .int (nI n)) (C := "UseOdds$Odds") (T := TO_) (N := 7) hx hb hts IO_ hown hK hP 0 rfl rfl 5 (by decide) (hts _ tw128) (fun _ h9 => h9) rfl dd_O_oneFewer_41 ?_
    refine lv_aload_n hx hb dd_O_oneFewer_44 rfl (lv_at hl 0 rfl) ?_
    refine va_get (D := D) (ci := 1) (v := .int (nI (k + 1))) (C := "UseOdds$Odds") (T := TO_) (N := 7) hx hb hts IO_ hown hK hP 0 rfl rfl 6 (by decide) (hts _ tw129) (fun _ h9 => h9) rfl dd_O_oneFewer_45 ?_
    refine jw_isub hx hb dd_O_oneFewer_48 (by omega) ?_
    refine lv_iconst (v := nI 1) hx hb dd_O_oneFewer_49 (by decide) ?_
    refine jw_iadd hx hb dd_O_oneFewer_50 ?_
    refine lv_aload_n hx hb dd_O_oneFewer_51 rfl (lv_at hl 0 rfl) ?_
    refine va_get (D := D) (ci := 1) (v := .int (nI x)) (C := "UseOdds$Odds") (T := TO_) (N := 7) hx hb hts IO_ hown hK hP 0 rfl rfl 3 (by decide) (hts _ tw126) (fun _ h9 => h9) rfl dd_O_oneFewer_52 ?_
    refine jw_imul hx hb dd_O_oneFewer_55 ?_
    refine jw_cvi (y := nI ((n - k) * x)) (by rw [show n - (k + 1) + 1 = n - k from by omega]) ?_
    rw [oJ_down hk] at q8
    refine jw_callv (wc := [(j0, .inr (5, [.ref j1, .int (nI (wU (oJ x y n k * ((n - k) * x))))])), (j1, .inl (cs 1, 16, .inr (.inl (fun j => lN (wG (oJ x y n k * ((n - k) * x)) j)))))]) (wr := [(o0, .inr (1, [.ref a0, .ref j0, .ref m0, .int (nI x), .int (nI y), .int (nI n), .int (nI (k + 1))])), (a0, .inr (5, [.ref a1, .int (nI (wU NA))])), (a1, .inl (cs 1, 16, .inr (.inl (fun j => lN (wG NA j))))), (m0, .inr (5, [.ref m1, .int (nI (wU (oS x y n (k + 1))))])), (m1, .inl (cs 1, 16, .inr (.inl (fun j => lN (wG (oS x y n (k + 1)) j)))))]) hP hD hS hA [5, 6] [0, 1, 2, 3, 4] rfl rfl rfl (by decide) (va_runV (C := "UseOdds$Whole") (As := [.int (nI ((n - k) * x))]) (rest := []) ⟨hx, hb, hml, hown, hts⟩ (c_H_divide l D cs j0 j1 (oJ x y n k * ((n - k) * x)) ((n - k) * x) _ q8 q9 (by omega)) ⟨jw_cB 1 hts tw243 rfl rfl tw6 tw240 (by decide +kernel) ⟨Nat.le_of_ble_eq_true rfl, Nat.le_of_ble_eq_true rfl⟩, hts _ tw241, hts _ tw242⟩ ⟨jw_blind jx_TX, va_recv hK hP (ci := 5) (q0 := 5) rfl rfl, jw_pre (hP.sub [5, 6] rfl) (hD.sub [5, 6] (by decide) rfl) hK (fun U _ hW => hT.warm hW)⟩ rfl rfl hl.1 rfl (lv_room (Nat.le_of_ble_eq_true rfl)) dd_O_oneFewer_56 ⟨Nat.le_of_ble_eq_true rfl, Nat.le_of_ble_eq_true rfl⟩) (fun u H locs hw hP hD hS => ?_)
    have hP : va_P D vwCl [(o0, .inr (1, [.ref a0, .ref j0, .ref m0, .int (nI x), .int (nI y), .int (nI n), .int (nI (k + 1))])), (a0, .inr (5, [.ref a1, .int (nI (wU NA))])), (a1, .inl (cs 1, 16, .inr (.inl (fun j => lN (wG NA j))))), (m0, .inr (5, [.ref m1, .int (nI (wU (oS x y n (k + 1))))])), (m1, .inl (cs 1, 16, .inr (.inl (fun j => lN (wG (oS x y n (k + 1)) j))))), (j0, .inr (5, [.ref j1, .int (nI (wU (oJ x y n k * ((n - k) * x) / ((n - k) * x))))])), (j1, .inl (cs 1, 16, .inr (.inl (fun j => lN (wG (oJ x y n k * ((n - k) * x) / ((n - k) * x)) j)))))] H := hP
    have hD : va_D A [(o0, .inr (1, [.ref a0, .ref j0, .ref m0, .int (nI x), .int (nI y), .int (nI n), .int (nI (k + 1))])), (a0, .inr (5, [.ref a1, .int (nI (wU NA))])), (a1, .inl (cs 1, 16, .inr (.inl (fun j => lN (wG NA j))))), (m0, .inr (5, [.ref m1, .int (nI (wU (oS x y n (k + 1))))])), (m1, .inl (cs 1, 16, .inr (.inl (fun j => lN (wG (oS x y n (k + 1)) j))))), (j0, .inr (5, [.ref j1, .int (nI (wU (oJ x y n k * ((n - k) * x) / ((n - k) * x))))])), (j1, .inl (cs 1, 16, .inr (.inl (fun j => lN (wG (oJ x y n k * ((n - k) * x) / ((n - k) * x)) j)))))] := hD
    rw [Nat.mul_div_cancel _ q9] at hP hD
    refine lv_aload_n hx hb dd_O_oneFewer_59 rfl (lv_at hl 0 rfl) ?_
    refine lv_dup hx hb dd_O_oneFewer_60 rfl ?_
    refine va_get (D := D) (ci := 1) (v := .int (nI (k + 1))) (C := "UseOdds$Odds") (T := TO_) (N := 7) hx hb hts IO_ hown hK hP 0 rfl rfl 6 (by decide) (hts _ tw129) (fun _ h9 => h9) rfl dd_O_oneFewer_61 ?_
    refine lv_iconst (v := nI 1) hx hb dd_O_oneFewer_64 (by decide) ?_
    refine jw_isub hx hb dd_O_oneFewer_65 (by omega) ?_
    refine jw_cvi (y := nI k) (by rw [Nat.add_sub_cancel]) ?_
    refine va_put (D := D) (ci := 1) (v := .int (nI k)) (ty := .int) (C := "UseOdds$Odds") (T := TO_) (N := 7) hx hb hts IO_ YO_ QO_ NO_ hown hK hP hD hS 0 rfl rfl 6 (by decide) (hts _ tw129) (fun _ h9 => h9) rfl (by decide +kernel) rfl rfl (Nat.le_of_ble_eq_true rfl) dd_O_oneFewer_66 (fun H locs hP hD hS => ?_)
    have hP : va_P D vwCl [(o0, .inr (1, [.ref a0, .ref j0, .ref m0, .int (nI x), .int (nI y), .int (nI n), .int (nI k)])), (a0, .inr (5, [.ref a1, .int (nI (wU NA))])), (a1, .inl (cs 1, 16, .inr (.inl (fun j => lN (wG NA j))))), (m0, .inr (5, [.ref m1, .int (nI (wU (oS x y n (k + 1))))])), (m1, .inl (cs 1, 16, .inr (.inl (fun j => lN (wG (oS x y n (k + 1)) j))))), (j0, .inr (5, [.ref j1, .int (nI (wU (oJ x y n k)))])), (j1, .inl (cs 1, 16, .inr (.inl (fun j => lN (wG (oJ x y n k) j)))))] H := hP
    have hD : va_D A [(o0, .inr (1, [.ref a0, .ref j0, .ref m0, .int (nI x), .int (nI y), .int (nI n), .int (nI k)])), (a0, .inr (5, [.ref a1, .int (nI (wU NA))])), (a1, .inl (cs 1, 16, .inr (.inl (fun j => lN (wG NA j))))), (m0, .inr (5, [.ref m1, .int (nI (wU (oS x y n (k + 1))))])), (m1, .inl (cs 1, 16, .inr (.inl (fun j => lN (wG (oS x y n (k + 1)) j))))), (j0, .inr (5, [.ref j1, .int (nI (wU (oJ x y n k)))])), (j1, .inl (cs 1, 16, .inr (.inl (fun j => lN (wG (oJ x y n k) j)))))] := hD
    have hP := hP.sub (ws' := [(o0, .inr (1, [.ref a0, .ref j0, .ref m0, .int (nI x), .int (nI y), .int (nI n), .int (nI k)])), (a0, .inr (5, [.ref a1, .int (nI (wU NA))])), (a1, .inl (cs 1, 16, .inr (.inl (fun j => lN (wG NA j))))), (j0, .inr (5, [.ref j1, .int (nI (wU (oJ x y n k)))])), (j1, .inl (cs 1, 16, .inr (.inl (fun j => lN (wG (oJ x y n k) j))))), (m0, .inr (5, [.ref m1, .int (nI (wU (oS x y n (k + 1))))])), (m1, .inl (cs 1, 16, .inr (.inl (fun j => lN (wG (oS x y n (k + 1)) j)))))]) [0, 1, 2, 5, 6, 3, 4] rfl
    have hD := hD.sub (ws' := [(o0, .inr (1, [.ref a0, .ref j0, .ref m0, .int (nI x), .int (nI y), .int (nI n), .int (nI k)])), (a0, .inr (5, [.ref a1, .int (nI (wU NA))])), (a1, .inl (cs 1, 16, .inr (.inl (fun j => lN (wG NA j))))), (j0, .inr (5, [.ref j1, .int (nI (wU (oJ x y n k)))])), (j1, .inl (cs 1, 16, .inr (.inl (fun j => lN (wG (oJ x y n k) j))))), (m0, .inr (5, [.ref m1, .int (nI (wU (oS x y n (k + 1))))])), (m1, .inl (cs 1, 16, .inr (.inl (fun j => lN (wG (oS x y n (k + 1)) j)))))]) [0, 1, 2, 5, 6, 3, 4] (by decide) rfl
    exact W.vret hx hb hr (fun t ht hW => ⟨⟨(), rfl, trivial, by rw [ht]; exact hP, hD⟩, hS.F ht⟩) hS.2.2 dd_O_oneFewer_69
  · exact absurd c1 (by omega)
