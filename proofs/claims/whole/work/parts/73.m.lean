set_option maxHeartbeats 4000000 in
set_option maxRecDepth 100000 in
theorem c_M_isIn (l : Launch) (D : va_G) (cs : Nat → ClassId) (x lo hi : Int64) (sz : Nat)  : Met l ym_M_isIn [.code ym_M_isIn cd_M_isIn 6 (some .boolean)] ({ frames := 0, cells := 0, slots := 0, locals := 0 } : Room) (jw_Pc D vwCl (jt cs) [] sz TX [.long x, .long lo, .long hi]) (va_Qi (fun (r : Int32) (u : Unit) => (r = nI 1 ∧ (lo ≤ x ∧ x ≤ hi)) ∨ (r = nI 0 ∧ ¬ (lo ≤ x ∧ x ≤ hi))) (jw_B D vwCl (va_A [] sz) (fun (u : Unit) => [])) (va_A [] sz)) 0 0 (va_A [] sz) := by
  refine Met.ofW (cc := cd_M_isIn) (maxL := 6) (ret := (some .boolean)) (by decide) rfl ?_
  intro p e s m args below meth c s₁ BL hml hv
  obtain ⟨rfl, hsz, hP, hD0, hK, hT⟩ := hv
  have hx := BL.exec
  have hb := BL.bytes
  have hr := BL.returns
  have hts : ∀ w ∈ TW, w.before [.long x, .long lo, .long hi].toArray s = true := fun w h => hT.use h _
  have hown : s.vm.findClass "UseOddsModel" = some m.cls := findClass_of_methodNamed BL.named
  have hlocks := BL.notSynchronized
  subst hsz
  have hD := hD0.self (sz := s.heap.size)
  generalize hAe : va_A [] s.heap.size = A at hD ⊢
  have hA : ∀ q : Nat, s.heap.size ≤ q → A q := fun q h => by rw [← hAe]; exact Or.inr h
  have hS : va_S A s.heap s.heap [] := va_S.rf
  have hl := lv_entry ([.long x, .long lo, .long hi]) (n := 6) (Nat.le_of_ble_eq_true rfl)
  rw [lg_entry_eq]
  generalize (lg_sl ([.long x, .long lo, .long hi]) ++ List.replicate (6 - (lg_sl ([.long x, .long lo, .long hi])).length) Slot.unset).toArray = ls at hl ⊢
  have hl : lv_has ls 6 [(0, .long x), (2, .long lo), (4, .long hi)] := hl
  refine lv_lload_n hx hb dd_M_isIn_0 rfl (lv_at hl 0 rfl) ?_
  refine lv_lload_n hx hb dd_M_isIn_1 rfl (lv_at hl 1 rfl) ?_
  refine jr_lcmp_lt (x := x) (y := lo) (tgt := 17) hx hb dd_M_isIn_2 dd_M_isIn_3 (by decide) (fun c1 => ?_) (fun c1 => ?_)
  · refine lv_iconst (v := nI 0) hx hb dd_M_isIn_17 (by decide) ?_
    exact W.zret (v := (nI 0)) (ty := .boolean) hx hb hr (by decide) (fun t ht hW => ⟨⟨_, (), rfl, Or.inr ⟨rfl, fun q => absurd c1 (Int64.not_lt.mpr q.1)⟩, by rw [ht]; exact hP, hD⟩, hS.F ht⟩) hS.2.2 dd_M_isIn_18
  · refine lv_lload_n hx hb dd_M_isIn_6 rfl (lv_at hl 0 rfl) ?_
    refine lv_lload hx hb dd_M_isIn_7 (lv_at hl 2 rfl) ?_
    refine jr_lcmp_gt (x := x) (y := hi) (tgt := 17) hx hb dd_M_isIn_9 dd_M_isIn_10 (by decide) (fun c2 => ?_) (fun c2 => ?_)
    · refine lv_iconst (v := nI 0) hx hb dd_M_isIn_17 (by decide) ?_
      exact W.zret (v := (nI 0)) (ty := .boolean) hx hb hr (by decide) (fun t ht hW => ⟨⟨_, (), rfl, Or.inr ⟨rfl, fun q => absurd c2 (Int64.not_lt.mpr q.2)⟩, by rw [ht]; exact hP, hD⟩, hS.F ht⟩) hS.2.2 dd_M_isIn_18
    · refine lv_iconst (v := nI 1) hx hb dd_M_isIn_13 (by decide) ?_
      refine lv_goto (tgt := 18) hx hb dd_M_isIn_14 (by decide) ?_
      exact W.zret (v := (nI 1)) (ty := .boolean) hx hb hr (by decide) (fun t ht hW => ⟨⟨_, (), rfl, Or.inl ⟨rfl, Int64.not_lt.mp c1, Int64.not_lt.mp c2⟩, by rw [ht]; exact hP, hD⟩, hS.F ht⟩) hS.2.2 dd_M_isIn_18

set_option maxHeartbeats 4000000 in
set_option maxRecDepth 100000 in
theorem c_M_thrown (l : Launch) (D : va_G) (cs : Nat → ClassId) (m0 th nk f1 f2 f3 np g1 g2 g3 sA sB ne h1 h2 h3 w0 pa w1 : Nat) (sz : Nat)  : Met l ym_M_thrown [.code ym_M_thrown cd_M_thrown 1 (some .int)] ({ frames := 0, cells := 0, slots := 0, locals := 0 } : Room) (jw_Pc D vwCl (jt cs) [(m0, .inr (7, [.int (nI th), .int (nI nk), .ref f1, .ref f2, .ref f3, .int (nI np), .ref g1, .ref g2, .ref g3, .int (nI sA), .int (nI sB), .int (nI ne), .ref h1, .ref h2, .ref h3, .ref w0, .int (nI pa), .ref w1]))] sz TX [.ref m0]) (va_Qi (fun (r : Int32) (u : Unit) => r = nI th) (jw_B D vwCl (va_A [(m0, .inr (7, [.int (nI th), .int (nI nk), .ref f1, .ref f2, .ref f3, .int (nI np), .ref g1, .ref g2, .ref g3, .int (nI sA), .int (nI sB), .int (nI ne), .ref h1, .ref h2, .ref h3, .ref w0, .int (nI pa), .ref w1]))] sz) (fun (u : Unit) => [(m0, .inr (7, [.int (nI th), .int (nI nk), .ref f1, .ref f2, .ref f3, .int (nI np), .ref g1, .ref g2, .ref g3, .int (nI sA), .int (nI sB), .int (nI ne), .ref h1, .ref h2, .ref h3, .ref w0, .int (nI pa), .ref w1]))])) (va_A [(m0, .inr (7, [.int (nI th), .int (nI nk), .ref f1, .ref f2, .ref f3, .int (nI np), .ref g1, .ref g2, .ref g3, .int (nI sA), .int (nI sB), .int (nI ne), .ref h1, .ref h2, .ref h3, .ref w0, .int (nI pa), .ref w1]))] sz)) 0 0 (va_A [(m0, .inr (7, [.int (nI th), .int (nI nk), .ref f1, .ref f2, .ref f3, .int (nI np), .ref g1, .ref g2, .ref g3, .int (nI sA), .int (nI sB), .int (nI ne), .ref h1, .ref h2, .ref h3, .ref w0, .int (nI pa), .ref w1]))] sz) := by
  refine Met.ofW (cc := cd_M_thrown) (maxL := 1) (ret := (some .int)) (by decide) rfl ?_
  intro p e s m args below meth c s₁ BL hml hv
  obtain ⟨rfl, hsz, hP, hD0, hK, hT⟩ := hv
  have hx := BL.exec
  have hb := BL.bytes
  have hr := BL.returns
  have hts : ∀ w ∈ TW, w.before [.ref m0].toArray s = true := fun w h => hT.use h _
  have hown : s.vm.findClass "UseOddsModel" = some m.cls := findClass_of_methodNamed BL.named
  have hlocks := BL.notSynchronized
  subst hsz
  have hD := hD0.self (sz := s.heap.size)
  generalize hAe : va_A [(m0, .inr (7, [.int (nI th), .int (nI nk), .ref f1, .ref f2, .ref f3, .int (nI np), .ref g1, .ref g2, .ref g3, .int (nI sA), .int (nI sB), .int (nI ne), .ref h1, .ref h2, .ref h3, .ref w0, .int (nI pa), .ref w1]))] s.heap.size = A at hD ⊢
  have hA : ∀ q : Nat, s.heap.size ≤ q → A q := fun q h => by rw [← hAe]; exact Or.inr h
  have hS : va_S A s.heap s.heap [] := va_S.rf
  have hl := lv_entry ([.ref m0]) (n := 1) (Nat.le_of_ble_eq_true rfl)
  rw [lg_entry_eq]
  generalize (lg_sl ([.ref m0]) ++ List.replicate (1 - (lg_sl ([.ref m0])).length) Slot.unset).toArray = ls at hl ⊢
  have hl : lv_has ls 1 [(0, .ref m0)] := hl
  refine lv_aload_n hx hb dd_M_thrown_0 rfl (lv_at hl 0 rfl) ?_
  refine va_get (D := D) (ci := 7) (v := .int (nI th)) (C := "UseOddsModel") (T := TM_) (N := 18) hx hb hts IM_ hown hK hP 0 rfl rfl 0 (by decide) (hts _ tw567) (fun _ h9 => h9) rfl dd_M_thrown_1 ?_
  exact W.iret (v := (nI th)) hx hb hr (fun t ht hW => ⟨⟨_, (), rfl, rfl, by rw [ht]; exact hP, hD⟩, hS.F ht⟩) hS.2.2 dd_M_thrown_4

set_option maxHeartbeats 4000000 in
set_option maxRecDepth 100000 in
theorem lp_M_power {p : Program} {l : Launch} {e : Env} {R : Room} {s : State} {m : MethodId} {args : Array Value} {below : List Frame} {meth : Method} {c : Code} {cells slots : Nat} {Q : State → Prop} {A : Nat → Prop} {H0 : Heap} {D : va_G} {cs : Nat → ClassId} {m0 th nk f1 f2 f3 np g1 g2 g3 sA sB ne h1 h2 h3 w0 pa w1 : Nat} {sl b n : Nat} {V : Nat → Nat} (hx : p.tables.exec = Jvm.exec) (hb : c.code = cd_M_power) (hown : s.vm.findClass "UseOddsModel" = some m.cls) (hts : ∀ w ∈ TW, w.before args s = true) (hK : va_K D vwCl (jt cs) s) (hT : TX s) (hml : c.maxLocals = 6) (hA : ∀ q, H0.size ≤ q → A q) (hRf : 1 ≤ R.frames) (hRl : 28 ≤ R.locals) (hRc : cells ≤ R.cells) (hRs : slots ≤ R.slots) (hs : sl < 7) (hb2 : b ≤ 1000) (hn2 : n ≤ 60) :
    ∀ (n9 i : Nat), i ≤ n → n + 1 ≤ i + n9 → ∀ (H : Heap) (locs : List Loc) (ls : Array Slot), va_P D vwCl [(m0, .inr (7, [.int (nI th), .int (nI nk), .ref f1, .ref f2, .ref f3, .int (nI np), .ref g1, .ref g2, .ref g3, .int (nI sA), .int (nI sB), .int (nI ne), .ref h1, .ref h2, .ref h3, .ref w0, .int (nI pa), .ref w1])), (w0, .inl (cs 1, 420, .inr (.inl (fun j => lN (rl_ (un_ V sl (b ^ i)) j)))))] H → va_D A [(m0, .inr (7, [.int (nI th), .int (nI nk), .ref f1, .ref f2, .ref f3, .int (nI np), .ref g1, .ref g2, .ref g3, .int (nI sA), .int (nI sB), .int (nI ne), .ref h1, .ref h2, .ref h3, .ref w0, .int (nI pa), .ref w1])), (w0, .inl (cs 1, 420, .inr (.inl (fun j => lN (rl_ (un_ V sl (b ^ i)) j)))))] → va_S A H0 H locs → lv_has ls 6 [(0, .ref m0), (1, .int (nI (60 * sl))), (2, .long (lN b)), (4, .int (nI n)), (5, .int (nI i))] →
    (∀ (H : Heap) (locs : List Loc) (ls : Array Slot), va_P D vwCl [(m0, .inr (7, [.int (nI th), .int (nI nk), .ref f1, .ref f2, .ref f3, .int (nI np), .ref g1, .ref g2, .ref g3, .int (nI sA), .int (nI sB), .int (nI ne), .ref h1, .ref h2, .ref h3, .ref w0, .int (nI pa), .ref w1])), (w0, .inl (cs 1, 420, .inr (.inl (fun j => lN (rl_ (un_ V sl (b ^ n)) j)))))] H → va_D A [(m0, .inr (7, [.int (nI th), .int (nI nk), .ref f1, .ref f2, .ref f3, .int (nI np), .ref g1, .ref g2, .ref g3, .int (nI sA), .int (nI sB), .int (nI ne), .ref h1, .ref h2, .ref h3, .ref w0, .int (nI pa), .ref w1])), (w0, .inl (cs 1, 420, .inr (.inl (fun j => lN (rl_ (un_ V sl (b ^ n)) j)))))] → va_S A H0 H locs → lv_has ls 6 [(0, .ref m0), (1, .int (nI (60 * sl))), (2, .long (lN b)), (4, .int (nI n)), (5, .int (nI n))] → W p l e R s m args below meth c H locs cells slots Q (F0 m 28 ls [])) → W p l e R s m args below meth c H locs cells slots Q (F0 m 9 ls []) := by
  intro n9
  induction n9 with
  | zero => intro i h1 h2; exact absurd h2 (by omega)
  | succ n9 ih =>
    intro i hi hin H locs ls hP hD hS hl kx
    refine lv_iload hx hb dd_M_power_9 (lv_at hl 4 rfl) ?_
    refine lv_iload hx hb dd_M_power_11 (lv_at hl 3 rfl) ?_
    refine jw_icmp_ge (a := i) (b := n) (tgt := 28) hx hb dd_M_power_13 (by decide) (by omega) (by omega) (fun c1 => ?_) (fun c1 => ?_)
    · have e1 : i = n := by omega
      rw [e1] at hP hD hl
      exact kx H locs ls hP hD hS (lv_sub hl [0, 1, 2, 3, 4] rfl)
    · refine lv_aload_n hx hb dd_M_power_16 rfl (lv_at hl 0 rfl) ?_
      refine lv_iload_n hx hb dd_M_power_17 rfl (lv_at hl 1 rfl) ?_
      refine lv_lload_n hx hb dd_M_power_18 rfl (lv_at hl 2 rfl) ?_
      refine jw_callv (wc := [(m0, .inr (7, [.int (nI th), .int (nI nk), .ref f1, .ref f2, .ref f3, .int (nI np), .ref g1, .ref g2, .ref g3, .int (nI sA), .int (nI sB), .int (nI ne), .ref h1, .ref h2, .ref h3, .ref w0, .int (nI pa), .ref w1])), (w0, .inl (cs 1, 420, .inr (.inl (fun j => lN (rl_ (un_ V sl (b ^ i)) j)))))]) (wr := []) hP hD hS hA [0, 1] [] rfl rfl rfl (by decide) (va_runV (C := "UseOddsModel") (As := [.int (nI (60 * sl)), .long (lN b)]) (rest := []) ⟨hx, hb, hml, hown, hts⟩ (c_M_times l D cs m0 th nk f1 f2 f3 np g1 g2 g3 sA sB ne h1 h2 h3 w0 pa w1 sl (60 * sl) b (un_ V sl (b ^ i)) _ rfl hs (by omega)) ⟨jw_cB 2 hts tw692 rfl rfl tw9 tw689 (by decide +kernel) ⟨Nat.le_trans (Nat.le_of_ble_eq_true rfl) hRf, Nat.le_trans (Nat.le_of_ble_eq_true rfl) hRl⟩, hts _ tw691, hts _ tws13⟩ ⟨jw_blind jx_TX, va_recv hK hP (ci := 7) (q0 := 0) rfl rfl, jw_pre (hP.sub [0, 1] rfl) (hD.sub [0, 1] (by decide) rfl) hK (fun U _ hW => hT.warm hW)⟩ rfl rfl hl.1 rfl (lv_room (Nat.le_of_ble_eq_true rfl)) dd_M_power_19 ⟨hRc, hRs⟩) (fun u H locs hw hP hD hS => ?_)
      have hP : va_P D vwCl [(m0, .inr (7, [.int (nI th), .int (nI nk), .ref f1, .ref f2, .ref f3, .int (nI np), .ref g1, .ref g2, .ref g3, .int (nI sA), .int (nI sB), .int (nI ne), .ref h1, .ref h2, .ref h3, .ref w0, .int (nI pa), .ref w1])), (w0, .inl (cs 1, 420, .inr (.inl (fun j => lN (rl_ (un_ (un_ V sl (b ^ i)) sl (un_ V sl (b ^ i) sl * b)) j)))))] H := hP
      have hD : va_D A [(m0, .inr (7, [.int (nI th), .int (nI nk), .ref f1, .ref f2, .ref f3, .int (nI np), .ref g1, .ref g2, .ref g3, .int (nI sA), .int (nI sB), .int (nI ne), .ref h1, .ref h2, .ref h3, .ref w0, .int (nI pa), .ref w1])), (w0, .inl (cs 1, 420, .inr (.inl (fun j => lN (rl_ (un_ (un_ V sl (b ^ i)) sl (un_ V sl (b ^ i) sl * b)) j)))))] := hD
      have eF : (fun j => lN (rl_ (un_ (un_ V sl (b ^ i)) sl (un_ V sl (b ^ i) sl * b)) j)) = (fun j => lN (rl_ (un_ V sl (b ^ (i + 1))) j)) := (by rw [un_un, un_s, ← Nat.pow_succ])
      rw [eF] at hP hD
      refine lv_iinc (v := nI (i + 1)) (lv' := [(5, .int (nI (i + 1))), (0, .ref m0), (1, .int (nI (60 * sl))), (2, .long (lN b)), (4, .int (nI n))]) hx hb dd_M_power_22 hl (k := 4) rfl (nI_1 i) (by decide) rfl (fun ls hl => ?_)
      refine lv_goto (tgt := 9) hx hb dd_M_power_25 (by decide) ?_
      exact ih (i + 1) (by omega) (by omega) H locs ls hP hD hS (lv_sub hl [1, 2, 3, 4, 0] rfl) kx

set_option maxHeartbeats 4000000 in
set_option maxRecDepth 100000 in
theorem c_M_power (l : Launch) (D : va_G) (cs : Nat → ClassId) (m0 th nk f1 f2 f3 np g1 g2 g3 sA sB ne h1 h2 h3 w0 pa w1 : Nat) (sl nn b n : Nat) (V : Nat → Nat) (sz : Nat) (hn : nn = 60 * sl) (hs : sl < 7) (hb2 : b ≤ 1000) (hn2 : n ≤ 60) : Met l ym_M_power [.code ym_M_power cd_M_power 6 none] ({ frames := 1, cells := 0, slots := 0, locals := 28 } : Room) (jw_Pc D vwCl (jt cs) [(m0, .inr (7, [.int (nI th), .int (nI nk), .ref f1, .ref f2, .ref f3, .int (nI np), .ref g1, .ref g2, .ref g3, .int (nI sA), .int (nI sB), .int (nI ne), .ref h1, .ref h2, .ref h3, .ref w0, .int (nI pa), .ref w1])), (w0, .inl (cs 1, 420, .inr (.inl (fun j => lN (rl_ V j)))))] sz TX [.ref m0, .int (nI nn), .long (lN b), .int (nI n)]) (va_Qv (fun (u : Unit) => True) (jw_B D vwCl (va_A [(m0, .inr (7, [.int (nI th), .int (nI nk), .ref f1, .ref f2, .ref f3, .int (nI np), .ref g1, .ref g2, .ref g3, .int (nI sA), .int (nI sB), .int (nI ne), .ref h1, .ref h2, .ref h3, .ref w0, .int (nI pa), .ref w1])), (w0, .inl (cs 1, 420, .inr (.inl (fun j => lN (rl_ V j)))))] sz) (fun (u : Unit) => [(m0, .inr (7, [.int (nI th), .int (nI nk), .ref f1, .ref f2, .ref f3, .int (nI np), .ref g1, .ref g2, .ref g3, .int (nI sA), .int (nI sB), .int (nI ne), .ref h1, .ref h2, .ref h3, .ref w0, .int (nI pa), .ref w1])), (w0, .inl (cs 1, 420, .inr (.inl (fun j => lN (rl_ (un_ V sl (b ^ n)) j)))))])) (va_A [(m0, .inr (7, [.int (nI th), .int (nI nk), .ref f1, .ref f2, .ref f3, .int (nI np), .ref g1, .ref g2, .ref g3, .int (nI sA), .int (nI sB), .int (nI ne), .ref h1, .ref h2, .ref h3, .ref w0, .int (nI pa), .ref w1])), (w0, .inl (cs 1, 420, .inr (.inl (fun j => lN (rl_ V j)))))] sz)) 0 0 (va_A [(m0, .inr (7, [.int (nI th), .int (nI nk), .ref f1, .ref f2, .ref f3, .int (nI np), .ref g1, .ref g2, .ref g3, .int (nI sA), .int (nI sB), .int (nI ne), .ref h1, .ref h2, .ref h3, .ref w0, .int (nI pa), .ref w1])), (w0, .inl (cs 1, 420, .inr (.inl (fun j => lN (rl_ V j)))))] sz) := by
  refine Met.ofW (cc := cd_M_power) (maxL := 6) (ret := none) (by decide) rfl ?_
  intro p e s m args below meth c s₁ BL hml hv
  obtain ⟨rfl, hsz, hP, hD0, hK, hT⟩ := hv
  have hx := BL.exec
  have hb := BL.bytes
  have hr := BL.returns
  have hts : ∀ w ∈ TW, w.before [.ref m0, .int (nI nn), .long (lN b), .int (nI n)].toArray s = true := fun w h => hT.use h _
  have hown : s.vm.findClass "UseOddsModel" = some m.cls := findClass_of_methodNamed BL.named
  have hlocks := BL.notSynchronized
  subst hsz
  have hD := hD0.self (sz := s.heap.size)
  generalize hAe : va_A [(m0, .inr (7, [.int (nI th), .int (nI nk), .ref f1, .ref f2, .ref f3, .int (nI np), .ref g1, .ref g2, .ref g3, .int (nI sA), .int (nI sB), .int (nI ne), .ref h1, .ref h2, .ref h3, .ref w0, .int (nI pa), .ref w1])), (w0, .inl (cs 1, 420, .inr (.inl (fun j => lN (rl_ V j)))))] s.heap.size = A at hD ⊢
  have hA : ∀ q : Nat, s.heap.size ≤ q → A q := fun q h => by rw [← hAe]; exact Or.inr h
  have hS : va_S A s.heap s.heap [] := va_S.rf
  have hl := lv_entry ([.ref m0, .int (nI nn), .long (lN b), .int (nI n)]) (n := 6) (Nat.le_of_ble_eq_true rfl)
  rw [lg_entry_eq]
  generalize (lg_sl ([.ref m0, .int (nI nn), .long (lN b), .int (nI n)]) ++ List.replicate (6 - (lg_sl ([.ref m0, .int (nI nn), .long (lN b), .int (nI n)])).length) Slot.unset).toArray = ls at hl ⊢
  have hl : lv_has ls 6 [(0, .ref m0), (1, .int (nI nn)), (2, .long (lN b)), (4, .int (nI n))] := hl
  subst hn
  refine lv_aload_n hx hb dd_M_power_0 rfl (lv_at hl 0 rfl) ?_
  refine lv_iload_n hx hb dd_M_power_1 rfl (lv_at hl 1 rfl) ?_
  refine lv_lconst (v := lN 1) hx hb dd_M_power_2 (by decide) ?_
  refine jw_callv (wc := [(m0, .inr (7, [.int (nI th), .int (nI nk), .ref f1, .ref f2, .ref f3, .int (nI np), .ref g1, .ref g2, .ref g3, .int (nI sA), .int (nI sB), .int (nI ne), .ref h1, .ref h2, .ref h3, .ref w0, .int (nI pa), .ref w1])), (w0, .inl (cs 1, 420, .inr (.inl (fun j => lN (rl_ V j)))))]) (wr := []) hP hD hS hA [0, 1] [] rfl rfl rfl (by decide) (va_runV (C := "UseOddsModel") (As := [.int (nI (60 * sl)), .long (lN 1)]) (rest := []) ⟨hx, hb, hml, hown, hts⟩ (c_M_set l D cs m0 th nk f1 f2 f3 np g1 g2 g3 sA sB ne h1 h2 h3 w0 pa w1 sl (60 * sl) 1 V _ rfl hs (by decide)) ⟨jw_cB 2 hts tw688 rfl rfl tw9 tw685 (by decide +kernel) ⟨Nat.le_of_ble_eq_true rfl, Nat.le_of_ble_eq_true rfl⟩, hts _ tw687, hts _ tws12⟩ ⟨jw_blind jx_TX, va_recv hK hP (ci := 7) (q0 := 0) rfl rfl, jw_pre (hP.sub [0, 1] rfl) (hD.sub [0, 1] (by decide) rfl) hK (fun U _ hW => hT.warm hW)⟩ rfl rfl hl.1 rfl (lv_room (Nat.le_of_ble_eq_true rfl)) dd_M_power_3 ⟨Nat.le_of_ble_eq_true rfl, Nat.le_of_ble_eq_true rfl⟩) (fun u H locs hw hP hD hS => ?_)
  have hP : va_P D vwCl [(m0, .inr (7, [.int (nI th), .int (nI nk), .ref f1, .ref f2, .ref f3, .int (nI np), .ref g1, .ref g2, .ref g3, .int (nI sA), .int (nI sB), .int (nI ne), .ref h1, .ref h2, .ref h3, .ref w0, .int (nI pa), .ref w1])), (w0, .inl (cs 1, 420, .inr (.inl (fun j => lN (rl_ (un_ V sl 1) j)))))] H := hP
  have hD : va_D A [(m0, .inr (7, [.int (nI th), .int (nI nk), .ref f1, .ref f2, .ref f3, .int (nI np), .ref g1, .ref g2, .ref g3, .int (nI sA), .int (nI sB), .int (nI ne), .ref h1, .ref h2, .ref h3, .ref w0, .int (nI pa), .ref w1])), (w0, .inl (cs 1, 420, .inr (.inl (fun j => lN (rl_ (un_ V sl 1) j)))))] := hD
  refine lv_iconst (v := nI 0) hx hb dd_M_power_6 (by decide) ?_
  refine lv_istore (lv' := [(5, .int (nI 0)), (0, .ref m0), (1, .int (nI (60 * sl))), (2, .long (lN b)), (4, .int (nI n))]) hx hb dd_M_power_7 hl (by decide) rfl (fun ls hl => ?_)
  refine lp_M_power (sl := sl) (b := b) (V := V) hx hb hown hts hK hT hml hA (Nat.le_refl _) (Nat.le_refl _) (Nat.zero_le _) (Nat.zero_le _) hs hb2 hn2 (n + 1) 0 (Nat.zero_le _) (by omega) _ _ ls hP hD hS (lv_sub hl [1, 2, 3, 4, 0] rfl) (fun H locs ls hP hD hS hl => ?_)
  exact W.vret hx hb hr (fun t ht hW => ⟨⟨(), rfl, trivial, by rw [ht]; exact hP, hD⟩, hS.F ht⟩) hS.2.2 dd_M_power_28

set_option maxHeartbeats 4000000 in
set_option maxRecDepth 100000 in
theorem c_M_down (l : Launch) (D : va_G) (cs : Nat → ClassId) (m0 th nk f1 f2 f3 np g1 g2 g3 sA sB ne h1 h2 h3 w0 pa w1 : Nat) (kd n q : Nat) (xa xb V : Nat → Nat) (sz : Nat) (hkd : kd < 8) (hn : n ≤ 60) (hq : q < n) (x1 : 0 < xa kd) (x2 : xa kd < xb kd) (x3 : xb kd ≤ 1000) (hV : V 0 * (q + 1) * (xb kd - xa kd) < zB ^ 60) : Met l ym_M_down [.code ym_M_down cd_M_down 6 none] ({ frames := 1, cells := 0, slots := 0, locals := 28 } : Room) (jw_Pc D vwCl (jt cs) [(m0, .inr (7, [.int (nI th), .int (nI nk), .ref f1, .ref f2, .ref f3, .int (nI np), .ref g1, .ref g2, .ref g3, .int (nI sA), .int (nI sB), .int (nI ne), .ref h1, .ref h2, .ref h3, .ref w0, .int (nI pa), .ref w1])), (f2, .inl (cs 0, 8, .inl (fun i => nI (xa i)))), (f3, .inl (cs 0, 8, .inl (fun i => nI (xb i)))), (w0, .inl (cs 1, 420, .inr (.inl (fun j => lN (rl_ V j)))))] sz TX [.ref m0, .int (nI kd), .int (nI n), .int (nI q)]) (va_Qv (fun (u : Unit) => True) (jw_B D vwCl (va_A [(m0, .inr (7, [.int (nI th), .int (nI nk), .ref f1, .ref f2, .ref f3, .int (nI np), .ref g1, .ref g2, .ref g3, .int (nI sA), .int (nI sB), .int (nI ne), .ref h1, .ref h2, .ref h3, .ref w0, .int (nI pa), .ref w1])), (f2, .inl (cs 0, 8, .inl (fun i => nI (xa i)))), (f3, .inl (cs 0, 8, .inl (fun i => nI (xb i)))), (w0, .inl (cs 1, 420, .inr (.inl (fun j => lN (rl_ V j)))))] sz) (fun (u : Unit) => [(m0, .inr (7, [.int (nI th), .int (nI nk), .ref f1, .ref f2, .ref f3, .int (nI np), .ref g1, .ref g2, .ref g3, .int (nI sA), .int (nI sB), .int (nI ne), .ref h1, .ref h2, .ref h3, .ref w0, .int (nI pa), .ref w1])), (f2, .inl (cs 0, 8, .inl (fun i => nI (xa i)))), (f3, .inl (cs 0, 8, .inl (fun i => nI (xb i)))), (w0, .inl (cs 1, 420, .inr (.inl (fun j => lN (rl_ (un_ V 0 (V 0 * (q + 1) * (xb kd - xa kd) / (n - q) / xa kd)) j)))))])) (va_A [(m0, .inr (7, [.int (nI th), .int (nI nk), .ref f1, .ref f2, .ref f3, .int (nI np), .ref g1, .ref g2, .ref g3, .int (nI sA), .int (nI sB), .int (nI ne), .ref h1, .ref h2, .ref h3, .ref w0, .int (nI pa), .ref w1])), (f2, .inl (cs 0, 8, .inl (fun i => nI (xa i)))), (f3, .inl (cs 0, 8, .inl (fun i => nI (xb i)))), (w0, .inl (cs 1, 420, .inr (.inl (fun j => lN (rl_ V j)))))] sz)) 0 0 (va_A [(m0, .inr (7, [.int (nI th), .int (nI nk), .ref f1, .ref f2, .ref f3, .int (nI np), .ref g1, .ref g2, .ref g3, .int (nI sA), .int (nI sB), .int (nI ne), .ref h1, .ref h2, .ref h3, .ref w0, .int (nI pa), .ref w1])), (f2, .inl (cs 0, 8, .inl (fun i => nI (xa i)))), (f3, .inl (cs 0, 8, .inl (fun i => nI (xb i)))), (w0, .inl (cs 1, 420, .inr (.inl (fun j => lN (rl_ V j)))))] sz) := by
  refine Met.ofW (cc := cd_M_down) (maxL := 6) (ret := none) (by decide) rfl ?_
  intro p e s m args below meth c s₁ BL hml hv
  obtain ⟨rfl, hsz, hP, hD0, hK, hT⟩ := hv
  have hx := BL.exec
  have hb := BL.bytes
  have hr := BL.returns
  have hts : ∀ w ∈ TW, w.before [.ref m0, .int (nI kd), .int (nI n), .int (nI q)].toArray s = true := fun w h => hT.use h _
  have hown : s.vm.findClass "UseOddsModel" = some m.cls := findClass_of_methodNamed BL.named
  have hlocks := BL.notSynchronized
  subst hsz
  have hD := hD0.self (sz := s.heap.size)
  generalize hAe : va_A [(m0, .inr (7, [.int (nI th), .int (nI nk), .ref f1, .ref f2, .ref f3, .int (nI np), .ref g1, .ref g2, .ref g3, .int (nI sA), .int (nI sB), .int (nI ne), .ref h1, .ref h2, .ref h3, .ref w0, .int (nI pa), .ref w1])), (f2, .inl (cs 0, 8, .inl (fun i => nI (xa i)))), (f3, .inl (cs 0, 8, .inl (fun i => nI (xb i)))), (w0, .inl (cs 1, 420, .inr (.inl (fun j => lN (rl_ V j)))))] s.heap.size = A at hD ⊢
  have hA : ∀ q : Nat, s.heap.size ≤ q → A q := fun q h => by rw [← hAe]; exact Or.inr h
  have hS : va_S A s.heap s.heap [] := va_S.rf
  have hl := lv_entry ([.ref m0, .int (nI kd), .int (nI n), .int (nI q)]) (n := 6) (Nat.le_of_ble_eq_true rfl)
  rw [lg_entry_eq]
  generalize (lg_sl ([.ref m0, .int (nI kd), .int (nI n), .int (nI q)]) ++ List.replicate (6 - (lg_sl ([.ref m0, .int (nI kd), .int (nI n), .int (nI q)])).length) Slot.unset).toArray = ls at hl ⊢
  have hl : lv_has ls 6 [(0, .ref m0), (1, .int (nI kd)), (2, .int (nI n)), (3, .int (nI q))] := hl
  refine lv_aload_n hx hb dd_M_down_0 rfl (lv_at hl 0 rfl) ?_
  refine lv_iconst (v := nI 0) hx hb dd_M_down_1 (by decide) ?_
  refine lv_iload_n hx hb dd_M_down_2 rfl (lv_at hl 3 rfl) ?_
  refine jw_i2l hx hb dd_M_down_3 (by omega) ?_
  refine lv_lconst (v := lN 1) hx hb dd_M_down_4 (by decide) ?_
  refine jw_ladd hx hb dd_M_down_5 ?_
  refine jw_callv (wc := [(m0, .inr (7, [.int (nI th), .int (nI nk), .ref f1, .ref f2, .ref f3, .int (nI np), .ref g1, .ref g2, .ref g3, .int (nI sA), .int (nI sB), .int (nI ne), .ref h1, .ref h2, .ref h3, .ref w0, .int (nI pa), .ref w1])), (w0, .inl (cs 1, 420, .inr (.inl (fun j => lN (rl_ V j)))))]) (wr := [(f2, .inl (cs 0, 8, .inl (fun i => nI (xa i)))), (f3, .inl (cs 0, 8, .inl (fun i => nI (xb i))))]) hP hD hS hA [0, 3] [1, 2] rfl rfl rfl (by decide) (va_runV (C := "UseOddsModel") (As := [.int (nI 0), .long (lN (q + 1))]) (rest := []) ⟨hx, hb, hml, hown, hts⟩ (c_M_times l D cs m0 th nk f1 f2 f3 np g1 g2 g3 sA sB ne h1 h2 h3 w0 pa w1 0 0 (q + 1) V _ rfl (by decide) (by omega)) ⟨jw_cB 2 hts tw692 rfl rfl tw9 tw689 (by decide +kernel) ⟨Nat.le_of_ble_eq_true rfl, Nat.le_of_ble_eq_true rfl⟩, hts _ tw691, hts _ tws13⟩ ⟨jw_blind jx_TX, va_recv hK hP (ci := 7) (q0 := 0) rfl rfl, jw_pre (hP.sub [0, 3] rfl) (hD.sub [0, 3] (by decide) rfl) hK (fun U _ hW => hT.warm hW)⟩ rfl rfl hl.1 rfl (lv_room (Nat.le_of_ble_eq_true rfl)) dd_M_down_6 ⟨Nat.le_of_ble_eq_true rfl, Nat.le_of_ble_eq_true rfl⟩) (fun u H locs hw hP hD hS => ?_)
  have hP : va_P D vwCl [(f2, .inl (cs 0, 8, .inl (fun i => nI (xa i)))), (f3, .inl (cs 0, 8, .inl (fun i => nI (xb i)))), (m0, .inr (7, [.int (nI th), .int (nI nk), .ref f1, .ref f2, .ref f3, .int (nI np), .ref g1, .ref g2, .ref g3, .int (nI sA), .int (nI sB), .int (nI ne), .ref h1, .ref h2, .ref h3, .ref w0, .int (nI pa), .ref w1])), (w0, .inl (cs 1, 420, .inr (.inl (fun j => lN (rl_ (un_ V 0 (V 0 * (q + 1))) j)))))] H := hP
  have hD : va_D A [(f2, .inl (cs 0, 8, .inl (fun i => nI (xa i)))), (f3, .inl (cs 0, 8, .inl (fun i => nI (xb i)))), (m0, .inr (7, [.int (nI th), .int (nI nk), .ref f1, .ref f2, .ref f3, .int (nI np), .ref g1, .ref g2, .ref g3, .int (nI sA), .int (nI sB), .int (nI ne), .ref h1, .ref h2, .ref h3, .ref w0, .int (nI pa), .ref w1])), (w0, .inl (cs 1, 420, .inr (.inl (fun j => lN (rl_ (un_ V 0 (V 0 * (q + 1))) j)))))] := hD
  refine lv_aload_n hx hb dd_M_down_9 rfl (lv_at hl 0 rfl) ?_
  refine lv_iconst (v := nI 0) hx hb dd_M_down_10 (by decide) ?_
  refine lv_aload_n hx hb dd_M_down_11 rfl (lv_at hl 0 rfl) ?_
  refine va_get (D := D) (ci := 7) (v := .ref f3) (C := "UseOddsModel") (T := TM_) (N := 18) hx hb hts IM_ hown hK hP 2 rfl rfl 4 (by decide) (hts _ tw571) (fun _ h9 => h9) rfl dd_M_down_12 ?_
  refine lv_iload_n hx hb dd_M_down_15 rfl (lv_at hl 1 rfl) ?_
  refine jw_iald hx hb hK hP 1 0 rfl rfl (i := kd) (by omega) (by decide) dd_M_down_16 ?_
  refine lv_aload_n hx hb dd_M_down_17 rfl (lv_at hl 0 rfl) ?_
  refine va_get (D := D) (ci := 7) (v := .ref f2) (C := "UseOddsModel") (T := TM_) (N := 18) hx hb hts IM_ hown hK hP 2 rfl rfl 3 (by decide) (hts _ tw570) (fun _ h9 => h9) rfl dd_M_down_18 ?_
  refine lv_iload_n hx hb dd_M_down_21 rfl (lv_at hl 1 rfl) ?_
  refine jw_iald hx hb hK hP 0 0 rfl rfl (i := kd) (by omega) (by decide) dd_M_down_22 ?_
  refine jw_isub hx hb dd_M_down_23 (by omega) ?_
  refine jw_i2l hx hb dd_M_down_24 (by omega) ?_
  refine jw_callv (wc := [(m0, .inr (7, [.int (nI th), .int (nI nk), .ref f1, .ref f2, .ref f3, .int (nI np), .ref g1, .ref g2, .ref g3, .int (nI sA), .int (nI sB), .int (nI ne), .ref h1, .ref h2, .ref h3, .ref w0, .int (nI pa), .ref w1])), (w0, .inl (cs 1, 420, .inr (.inl (fun j => lN (rl_ (un_ V 0 (V 0 * (q + 1))) j)))))]) (wr := [(f2, .inl (cs 0, 8, .inl (fun i => nI (xa i)))), (f3, .inl (cs 0, 8, .inl (fun i => nI (xb i))))]) hP hD hS hA [2, 3] [0, 1] rfl rfl rfl (by decide) (va_runV (C := "UseOddsModel") (As := [.int (nI 0), .long (lN ((xb kd) - (xa kd)))]) (rest := []) ⟨hx, hb, hml, hown, hts⟩ (c_M_times l D cs m0 th nk f1 f2 f3 np g1 g2 g3 sA sB ne h1 h2 h3 w0 pa w1 0 0 (xb kd - xa kd) (un_ V 0 (V 0 * (q + 1))) _ rfl (by decide) (by omega)) ⟨jw_cB 2 hts tw692 rfl rfl tw9 tw689 (by decide +kernel) ⟨Nat.le_of_ble_eq_true rfl, Nat.le_of_ble_eq_true rfl⟩, hts _ tw691, hts _ tws13⟩ ⟨jw_blind jx_TX, va_recv hK hP (ci := 7) (q0 := 2) rfl rfl, jw_pre (hP.sub [2, 3] rfl) (hD.sub [2, 3] (by decide) rfl) hK (fun U _ hW => hT.warm hW)⟩ rfl rfl hl.1 rfl (lv_room (Nat.le_of_ble_eq_true rfl)) dd_M_down_25 ⟨Nat.le_of_ble_eq_true rfl, Nat.le_of_ble_eq_true rfl⟩) (fun u H locs hw hP hD hS => ?_)
  have hP : va_P D vwCl [(f2, .inl (cs 0, 8, .inl (fun i => nI (xa i)))), (f3, .inl (cs 0, 8, .inl (fun i => nI (xb i)))), (m0, .inr (7, [.int (nI th), .int (nI nk), .ref f1, .ref f2, .ref f3, .int (nI np), .ref g1, .ref g2, .ref g3, .int (nI sA), .int (nI sB), .int (nI ne), .ref h1, .ref h2, .ref h3, .ref w0, .int (nI pa), .ref w1])), (w0, .inl (cs 1, 420, .inr (.inl (fun j => lN (rl_ (un_ (un_ V 0 (V 0 * (q + 1))) 0 (un_ V 0 (V 0 * (q + 1)) 0 * (xb kd - xa kd))) j)))))] H := hP
  have hD : va_D A [(f2, .inl (cs 0, 8, .inl (fun i => nI (xa i)))), (f3, .inl (cs 0, 8, .inl (fun i => nI (xb i)))), (m0, .inr (7, [.int (nI th), .int (nI nk), .ref f1, .ref f2, .ref f3, .int (nI np), .ref g1, .ref g2, .ref g3, .int (nI sA), .int (nI sB), .int (nI ne), .ref h1, .ref h2, .ref h3, .ref w0, .int (nI pa), .ref w1])), (w0, .inl (cs 1, 420, .inr (.inl (fun j => lN (rl_ (un_ (un_ V 0 (V 0 * (q + 1))) 0 (un_ V 0 (V 0 * (q + 1)) 0 * (xb kd - xa kd))) j)))))] := hD
  have eF : (fun j => lN (rl_ (un_ (un_ V 0 (V 0 * (q + 1))) 0 (un_ V 0 (V 0 * (q + 1)) 0 * (xb kd - xa kd))) j)) = (fun j => lN (rl_ (un_ V 0 (V 0 * (q + 1) * (xb kd - xa kd))) j)) := (by rw [un_un, un_s])
  rw [eF] at hP hD
  refine lv_aload_n hx hb dd_M_down_28 rfl (lv_at hl 0 rfl) ?_
  refine lv_iconst (v := nI 0) hx hb dd_M_down_29 (by decide) ?_
  refine lv_iload_n hx hb dd_M_down_30 rfl (lv_at hl 2 rfl) ?_
  refine lv_iload_n hx hb dd_M_down_31 rfl (lv_at hl 3 rfl) ?_
  refine jw_isub hx hb dd_M_down_32 (by omega) ?_
  refine jw_i2l hx hb dd_M_down_33 (by omega) ?_
  refine jw_calll (wc := [(m0, .inr (7, [.int (nI th), .int (nI nk), .ref f1, .ref f2, .ref f3, .int (nI np), .ref g1, .ref g2, .ref g3, .int (nI sA), .int (nI sB), .int (nI ne), .ref h1, .ref h2, .ref h3, .ref w0, .int (nI pa), .ref w1])), (w0, .inl (cs 1, 420, .inr (.inl (fun j => lN (rl_ (un_ V 0 (V 0 * (q + 1) * (xb kd - xa kd))) j)))))]) (wr := [(f2, .inl (cs 0, 8, .inl (fun i => nI (xa i)))), (f3, .inl (cs 0, 8, .inl (fun i => nI (xb i))))]) hP hD hS hA [2, 3] [0, 1] rfl rfl rfl (by decide) (va_runV (C := "UseOddsModel") (As := [.int (nI 0), .long (lN (n - q))]) (rest := []) ⟨hx, hb, hml, hown, hts⟩ (c_M_divide l D cs m0 th nk f1 f2 f3 np g1 g2 g3 sA sB ne h1 h2 h3 w0 pa w1 0 0 (n - q) (un_ V 0 (V 0 * (q + 1) * (xb kd - xa kd))) _ rfl (by decide) (by omega) (by omega) (by rw [un_s]; exact hV)) ⟨jw_cB 2 hts tw712 rfl rfl tw9 tw709 (by decide +kernel) ⟨Nat.le_of_ble_eq_true rfl, Nat.le_of_ble_eq_true rfl⟩, hts _ tw711, hts _ tws18⟩ ⟨jw_blind jx_TX, va_recv hK hP (ci := 7) (q0 := 2) rfl rfl, jw_pre (hP.sub [2, 3] rfl) (hD.sub [2, 3] (by decide) rfl) hK (fun U _ hW => hT.warm hW)⟩ rfl rfl hl.1 rfl (lv_room (Nat.le_of_ble_eq_true rfl)) dd_M_down_34 ⟨Nat.le_of_ble_eq_true rfl, Nat.le_of_ble_eq_true rfl⟩) (fun r4 u H locs hw hP hD hS => ?_)
  have hP : va_P D vwCl [(f2, .inl (cs 0, 8, .inl (fun i => nI (xa i)))), (f3, .inl (cs 0, 8, .inl (fun i => nI (xb i)))), (m0, .inr (7, [.int (nI th), .int (nI nk), .ref f1, .ref f2, .ref f3, .int (nI np), .ref g1, .ref g2, .ref g3, .int (nI sA), .int (nI sB), .int (nI ne), .ref h1, .ref h2, .ref h3, .ref w0, .int (nI pa), .ref w1])), (w0, .inl (cs 1, 420, .inr (.inl (fun j => lN (rl_ (un_ (un_ V 0 (V 0 * (q + 1) * (xb kd - xa kd))) 0 (un_ V 0 (V 0 * (q + 1) * (xb kd - xa kd)) 0 / (n - q))) j)))))] H := hP
  have hD : va_D A [(f2, .inl (cs 0, 8, .inl (fun i => nI (xa i)))), (f3, .inl (cs 0, 8, .inl (fun i => nI (xb i)))), (m0, .inr (7, [.int (nI th), .int (nI nk), .ref f1, .ref f2, .ref f3, .int (nI np), .ref g1, .ref g2, .ref g3, .int (nI sA), .int (nI sB), .int (nI ne), .ref h1, .ref h2, .ref h3, .ref w0, .int (nI pa), .ref w1])), (w0, .inl (cs 1, 420, .inr (.inl (fun j => lN (rl_ (un_ (un_ V 0 (V 0 * (q + 1) * (xb kd - xa kd))) 0 (un_ V 0 (V 0 * (q + 1) * (xb kd - xa kd)) 0 / (n - q))) j)))))] := hD
  have eF : (fun j => lN (rl_ (un_ (un_ V 0 (V 0 * (q + 1) * (xb kd - xa kd))) 0 (un_ V 0 (V 0 * (q + 1) * (xb kd - xa kd)) 0 / (n - q))) j)) = (fun j => lN (rl_ (un_ V 0 (V 0 * (q + 1) * (xb kd - xa kd) / (n - q))) j)) := (by rw [un_un, un_s])
  rw [eF] at hP hD
  rw [hw]
  refine lv_lstore (lv' := [(4, .long (lN (un_ V 0 (V 0 * (q + 1) * (xb kd - xa kd)) 0 % (n - q)))), (0, .ref m0), (1, .int (nI kd)), (2, .int (nI n)), (3, .int (nI q))]) hx hb dd_M_down_37 hl (by decide) rfl (fun ls hl => ?_)
  refine lv_aload_n hx hb dd_M_down_39 rfl (lv_at hl 1 rfl) ?_
  refine lv_iconst (v := nI 0) hx hb dd_M_down_40 (by decide) ?_
  refine lv_aload_n hx hb dd_M_down_41 rfl (lv_at hl 1 rfl) ?_
  refine va_get (D := D) (ci := 7) (v := .ref f2) (C := "UseOddsModel") (T := TM_) (N := 18) hx hb hts IM_ hown hK hP 2 rfl rfl 3 (by decide) (hts _ tw570) (fun _ h9 => h9) rfl dd_M_down_42 ?_
  refine lv_iload_n hx hb dd_M_down_45 rfl (lv_at hl 2 rfl) ?_
  refine jw_iald hx hb hK hP 0 0 rfl rfl (i := kd) (by omega) (by decide) dd_M_down_46 ?_
  refine jw_i2l hx hb dd_M_down_47 (by omega) ?_
  refine jw_calll (wc := [(m0, .inr (7, [.int (nI th), .int (nI nk), .ref f1, .ref f2, .ref f3, .int (nI np), .ref g1, .ref g2, .ref g3, .int (nI sA), .int (nI sB), .int (nI ne), .ref h1, .ref h2, .ref h3, .ref w0, .int (nI pa), .ref w1])), (w0, .inl (cs 1, 420, .inr (.inl (fun j => lN (rl_ (un_ V 0 (V 0 * (q + 1) * (xb kd - xa kd) / (n - q))) j)))))]) (wr := [(f2, .inl (cs 0, 8, .inl (fun i => nI (xa i)))), (f3, .inl (cs 0, 8, .inl (fun i => nI (xb i))))]) hP hD hS hA [2, 3] [0, 1] rfl rfl rfl (by decide) (va_runV (C := "UseOddsModel") (As := [.int (nI 0), .long (lN (xa kd))]) (rest := []) ⟨hx, hb, hml, hown, hts⟩ (c_M_divide l D cs m0 th nk f1 f2 f3 np g1 g2 g3 sA sB ne h1 h2 h3 w0 pa w1 0 0 (xa kd) (un_ V 0 (V 0 * (q + 1) * (xb kd - xa kd) / (n - q))) _ rfl (by decide) x1 (by omega) (by rw [un_s]; exact Nat.lt_of_le_of_lt (Nat.div_le_self _ _) hV)) ⟨jw_cB 2 hts tw712 rfl rfl tw9 tw709 (by decide +kernel) ⟨Nat.le_of_ble_eq_true rfl, Nat.le_of_ble_eq_true rfl⟩, hts _ tw711, hts _ tws18⟩ ⟨jw_blind jx_TX, va_recv hK hP (ci := 7) (q0 := 2) rfl rfl, jw_pre (hP.sub [2, 3] rfl) (hD.sub [2, 3] (by decide) rfl) hK (fun U _ hW => hT.warm hW)⟩ rfl rfl hl.1 rfl (lv_room (Nat.le_of_ble_eq_true rfl)) dd_M_down_48 ⟨Nat.le_of_ble_eq_true rfl, Nat.le_of_ble_eq_true rfl⟩) (fun r5 u H locs hw hP hD hS => ?_)
  have hP : va_P D vwCl [(f2, .inl (cs 0, 8, .inl (fun i => nI (xa i)))), (f3, .inl (cs 0, 8, .inl (fun i => nI (xb i)))), (m0, .inr (7, [.int (nI th), .int (nI nk), .ref f1, .ref f2, .ref f3, .int (nI np), .ref g1, .ref g2, .ref g3, .int (nI sA), .int (nI sB), .int (nI ne), .ref h1, .ref h2, .ref h3, .ref w0, .int (nI pa), .ref w1])), (w0, .inl (cs 1, 420, .inr (.inl (fun j => lN (rl_ (un_ (un_ V 0 (V 0 * (q + 1) * (xb kd - xa kd) / (n - q))) 0 (un_ V 0 (V 0 * (q + 1) * (xb kd - xa kd) / (n - q)) 0 / xa kd)) j)))))] H := hP
  have hD : va_D A [(f2, .inl (cs 0, 8, .inl (fun i => nI (xa i)))), (f3, .inl (cs 0, 8, .inl (fun i => nI (xb i)))), (m0, .inr (7, [.int (nI th), .int (nI nk), .ref f1, .ref f2, .ref f3, .int (nI np), .ref g1, .ref g2, .ref g3, .int (nI sA), .int (nI sB), .int (nI ne), .ref h1, .ref h2, .ref h3, .ref w0, .int (nI pa), .ref w1])), (w0, .inl (cs 1, 420, .inr (.inl (fun j => lN (rl_ (un_ (un_ V 0 (V 0 * (q + 1) * (xb kd - xa kd) / (n - q))) 0 (un_ V 0 (V 0 * (q + 1) * (xb kd - xa kd) / (n - q)) 0 / xa kd)) j)))))] := hD
  have eF : (fun j => lN (rl_ (un_ (un_ V 0 (V 0 * (q + 1) * (xb kd - xa kd) / (n - q))) 0 (un_ V 0 (V 0 * (q + 1) * (xb kd - xa kd) / (n - q)) 0 / xa kd)) j)) = (fun j => lN (rl_ (un_ V 0 (V 0 * (q + 1) * (xb kd - xa kd) / (n - q) / xa kd)) j)) := (by rw [un_un, un_s])
  rw [eF] at hP hD
  rw [hw]
  refine lv_lstore (lv' := [(4, .long (lN (un_ V 0 (V 0 * (q + 1) * (xb kd - xa kd) / (n - q)) 0 % xa kd))), (0, .ref m0), (1, .int (nI kd)), (2, .int (nI n)), (3, .int (nI q))]) hx hb dd_M_down_51 hl (by decide) rfl (fun ls hl => ?_)
  have hP := hP.sub (ws' := [(m0, .inr (7, [.int (nI th), .int (nI nk), .ref f1, .ref f2, .ref f3, .int (nI np), .ref g1, .ref g2, .ref g3, .int (nI sA), .int (nI sB), .int (nI ne), .ref h1, .ref h2, .ref h3, .ref w0, .int (nI pa), .ref w1])), (f2, .inl (cs 0, 8, .inl (fun i => nI (xa i)))), (f3, .inl (cs 0, 8, .inl (fun i => nI (xb i)))), (w0, .inl (cs 1, 420, .inr (.inl (fun j => lN (rl_ (un_ V 0 (V 0 * (q + 1) * (xb kd - xa kd) / (n - q) / xa kd)) j)))))]) [2, 0, 1, 3] rfl
  have hD := hD.sub (ws' := [(m0, .inr (7, [.int (nI th), .int (nI nk), .ref f1, .ref f2, .ref f3, .int (nI np), .ref g1, .ref g2, .ref g3, .int (nI sA), .int (nI sB), .int (nI ne), .ref h1, .ref h2, .ref h3, .ref w0, .int (nI pa), .ref w1])), (f2, .inl (cs 0, 8, .inl (fun i => nI (xa i)))), (f3, .inl (cs 0, 8, .inl (fun i => nI (xb i)))), (w0, .inl (cs 1, 420, .inr (.inl (fun j => lN (rl_ (un_ V 0 (V 0 * (q + 1) * (xb kd - xa kd) / (n - q) / xa kd)) j)))))]) [2, 0, 1, 3] (by decide) rfl
  exact W.vret hx hb hr (fun t ht hW => ⟨⟨(), rfl, trivial, by rw [ht]; exact hP, hD⟩, hS.F ht⟩) hS.2.2 dd_M_down_53

set_option maxHeartbeats 4000000 in
set_option maxRecDepth 100000 in
theorem lp_M_digitsOf {p : Program} {l : Launch} {e : Env} {R : Room} {s : State} {m : MethodId} {args : Array Value} {below : List Frame} {meth : Method} {c : Code} {cells slots : Nat} {Q : State → Prop} {H : Heap} {locs : List Loc} {A : Nat → Prop} {H0 : Heap} {D : va_G} {cs : Nat → ClassId} {m0 th nk f1 f2 f3 np g1 g2 g3 sA sB ne h1 h2 h3 w0 pa w1 : Nat} {sl : Nat} {V : Nat → Nat} (hx : p.tables.exec = Jvm.exec) (hb : c.code = cd_M_digitsOf) (hown : s.vm.findClass "UseOddsModel" = some m.cls) (hts : ∀ w ∈ TW, w.before args s = true) (hK : va_K D vwCl (jt cs) s) (hP : va_P D vwCl [(m0, .inr (7, [.int (nI th), .int (nI nk), .ref f1, .ref f2, .ref f3, .int (nI np), .ref g1, .ref g2, .ref g3, .int (nI sA), .int (nI sB), .int (nI ne), .ref h1, .ref h2, .ref h3, .ref w0, .int (nI pa), .ref w1])), (w0, .inl (cs 1, 420, .inr (.inl (fun j => lN (rl_ V j)))))] H) (hD : va_D A [(m0, .inr (7, [.int (nI th), .int (nI nk), .ref f1, .ref f2, .ref f3, .int (nI np), .ref g1, .ref g2, .ref g3, .int (nI sA), .int (nI sB), .int (nI ne), .ref h1, .ref h2, .ref h3, .ref w0, .int (nI pa), .ref w1])), (w0, .inl (cs 1, 420, .inr (.inl (fun j => lN (rl_ V j)))))]) (hS : va_S A H0 H locs) (hs : sl < 7) :
    ∀ (k : Nat), k ≤ 59 → V sl < zB ^ (k + 1) → ∀ (ls : Array Slot), lv_has ls 6 [(0, .ref m0), (1, .int (nI (60 * sl))), (2, .int (nI k))] →
    (∀ (k : Nat) (ls : Array Slot), k ≤ 59 → V sl < zB ^ (k + 1) → (k = 0 ∨ zG (V sl) k ≠ 0) → lv_has ls 6 [(0, .ref m0), (1, .int (nI (60 * sl))), (2, .int (nI k))] → W p l e R s m args below meth c H locs cells slots Q (F0 m 26 ls [])) → W p l e R s m args below meth c H locs cells slots Q (F0 m 3 ls []) := by
  intro k
  induction k with
  | zero =>
    intro hk hv ls hl kx
    refine lv_iload_n hx hb dd_M_digitsOf_3 rfl (lv_at hl 2 rfl) ?_
    refine jw_if_le (a := 0) (tgt := 26) hx hb dd_M_digitsOf_4 (by decide) (by omega) (fun c1 => ?_) (fun c1 => ?_)
    · exact kx 0 ls hk hv (Or.inl rfl) (lv_sub hl [0, 1, 2] rfl)
    · exact absurd c1 (by decide)
  | succ k ih =>
    intro hk hv ls hl kx
    refine lv_iload_n hx hb dd_M_digitsOf_3 rfl (lv_at hl 2 rfl) ?_
    refine jw_if_le (a := k + 1) (tgt := 26) hx hb dd_M_digitsOf_4 (by decide) (by omega) (fun c1 => ?_) (fun c1 => ?_)
    · exact absurd c1 (by omega)
    · refine lv_aload_n hx hb dd_M_digitsOf_7 rfl (lv_at hl 0 rfl) ?_
      refine va_get (D := D) (ci := 7) (v := .ref w0) (C := "UseOddsModel") (T := TM_) (N := 18) hx hb hts IM_ hown hK hP 0 rfl rfl 15 (by decide) (hts _ tw582) (fun _ h9 => h9) rfl dd_M_digitsOf_8 ?_
      refine lv_iload_n hx hb dd_M_digitsOf_11 rfl (lv_at hl 1 rfl) ?_
      refine lv_iload_n hx hb dd_M_digitsOf_12 rfl (lv_at hl 2 rfl) ?_
      refine jw_iadd hx hb dd_M_digitsOf_13 ?_
      refine jw_lald hx hb hK hP 1 1 rfl rfl (i := (60 * sl) + (k + 1)) (by omega) (by decide) dd_M_digitsOf_14 ?_
      refine jw_cvl (y := lN (zG (V sl) (k + 1))) (by rw [rl_at V sl (by omega)]) ?_
      refine lv_lconst (v := lN 0) hx hb dd_M_digitsOf_15 (by decide) ?_
      refine jw_lcmp_ne (a := zG (V sl) (k + 1)) (b := 0) (tgt := 26) hx hb dd_M_digitsOf_16 dd_M_digitsOf_17 (by decide) (Nat.lt_trans (zG_lt _ _) (by decide)) (by decide) (fun c2 => ?_) (fun c2 => ?_)
      · exact kx (k + 1) ls hk hv (Or.inr c2) (lv_sub hl [0, 1, 2] rfl)
      · refine lv_iinc (v := nI k) (lv' := [(2, .int (nI k)), (0, .ref m0), (1, .int (nI (60 * sl)))]) hx hb dd_M_digitsOf_20 hl (k := 2) rfl (pk_m1 k) (by decide) rfl (fun ls hl => ?_)
        refine lv_goto (tgt := 3) hx hb dd_M_digitsOf_23 (by decide) ?_
        exact ih (by omega) (zG_top hv (by omega)) ls (lv_sub hl [1, 2, 0] rfl) kx

set_option maxHeartbeats 4000000 in
set_option maxRecDepth 100000 in
theorem lp_M_digitsOf2 {p : Program} {l : Launch} {e : Env} {R : Room} {s : State} {m : MethodId} {args : Array Value} {below : List Frame} {meth : Method} {c : Code} {cells slots : Nat} {Q : State → Prop} {H : Heap} {locs : List Loc} {A : Nat → Prop} {H0 : Heap} {D : va_G} {cs : Nat → ClassId} {m0 th nk f1 f2 f3 np g1 g2 g3 sA sB ne h1 h2 h3 w0 pa w1 : Nat} {sl u T : Nat} {V : Nat → Nat} (hx : p.tables.exec = Jvm.exec) (hb : c.code = cd_M_digitsOf) (hown : s.vm.findClass "UseOddsModel" = some m.cls) (hts : ∀ w ∈ TW, w.before args s = true) (hK : va_K D vwCl (jt cs) s) (hP : va_P D vwCl [(m0, .inr (7, [.int (nI th), .int (nI nk), .ref f1, .ref f2, .ref f3, .int (nI np), .ref g1, .ref g2, .ref g3, .int (nI sA), .int (nI sB), .int (nI ne), .ref h1, .ref h2, .ref h3, .ref w0, .int (nI pa), .ref w1])), (w0, .inl (cs 1, 420, .inr (.inl (fun j => lN (rl_ V j)))))] H) (hD : va_D A [(m0, .inr (7, [.int (nI th), .int (nI nk), .ref f1, .ref f2, .ref f3, .int (nI np), .ref g1, .ref g2, .ref g3, .int (nI sA), .int (nI sB), .int (nI ne), .ref h1, .ref h2, .ref h3, .ref w0, .int (nI pa), .ref w1])), (w0, .inl (cs 1, 420, .inr (.inl (fun j => lN (rl_ V j)))))]) (hS : va_S A H0 H locs) (hs : sl < 7) (hT1 : T < 10 ^ 6) (hu : u ≤ 59) :
    ∀ (n q : Nat), q ≤ 5 → 6 ≤ q + n → (q = 0 ∨ 10 ^ q ≤ T) → ∀ (ls : Array Slot), lv_has ls 6 [(0, .ref m0), (1, .int (nI (60 * sl))), (2, .int (nI u)), (3, .int (nI (6 * u + (q + 1)))), (4, .long (lN (T / 10 ^ q)))] →
    (∀ (q : Nat) (ls : Array Slot), (q = 0 ∨ 10 ^ q ≤ T) → T < 10 ^ (q + 1) → lv_has ls 6 [(0, .ref m0), (1, .int (nI (60 * sl))), (2, .int (nI u)), (3, .int (nI (6 * u + (q + 1)))), (4, .long (lN (T / 10 ^ q)))] → W p l e R s m args below meth c H locs cells slots Q (F0 m 66 ls [])) → W p l e R s m args below meth c H locs cells slots Q (F0 m 43 ls []) := by
  intro n
  induction n with
  | zero =>
    intro q hq hn hj ls hl kx
    exact absurd hn (by omega)
  | succ n ih =>
    intro q hq hn hj ls hl kx
    have hqq : T / 10 ^ q < 2 ^ 63 := Nat.lt_of_le_of_lt (Nat.div_le_self _ _) (Nat.lt_trans hT1 (by decide))
    have hp : 0 < 10 ^ q := Nat.pow_pos (by decide)
    refine lv_lload hx hb dd_M_digitsOf_43 (lv_at hl 4 rfl) ?_
    refine lv_ldc2 (v := 9) hx hb hown (hts _ tw729) dd_M_digitsOf_45 ?_
    refine jw_cvl (y := lN 9) (by decide) ?_
    refine jw_lcmp_le (a := T / 10 ^ q) (b := 9) (tgt := 66) hx hb dd_M_digitsOf_48 dd_M_digitsOf_49 (by decide) hqq (by decide) (fun c1 => ?_) (fun c1 => ?_)
    · exact kx q ls hj (by rw [Nat.pow_succ, Nat.mul_comm]; exact (Nat.div_lt_iff_lt_mul hp).mp (by omega)) (lv_sub hl [0, 1, 2, 3, 4] rfl)
    · have hge : 10 ^ (q + 1) ≤ T := by rw [Nat.pow_succ, Nat.mul_comm]; exact (Nat.le_div_iff_mul_le hp).mp (by omega)
      have hq5 : q < 5 := by
        apply Nat.lt_of_not_le
        intro z
        rw [show q = 5 from by omega] at hge
        omega
      refine lv_iinc (v := nI (6 * u + (q + 1) + 1)) (lv' := [(3, .int (nI (6 * u + (q + 1) + 1))), (0, .ref m0), (1, .int (nI (60 * sl))), (2, .int (nI u)), (4, .long (lN (T / 10 ^ q)))]) hx hb dd_M_digitsOf_52 hl (k := 3) rfl (nI_1 (6 * u + (q + 1))) (by decide) rfl (fun ls hl => ?_)
      refine lv_lload hx hb dd_M_digitsOf_55 (lv_at hl 4 rfl) ?_
      refine lv_ldc2 (v := 10) hx hb hown (hts _ tw730) dd_M_digitsOf_57 ?_
      refine jw_cvl (y := lN 10) (by decide) ?_
      refine jw_ldiv hx hb dd_M_digitsOf_60 hqq (by decide) (by decide) ?_
      refine jw_cvl (y := lN (T / 10 ^ (q + 1))) (by rw [Nat.div_div_eq_div_mul, ← Nat.pow_succ]) ?_
      refine lv_lstore (lv' := [(4, .long (lN (T / 10 ^ (q + 1)))), (3, .int (nI (6 * u + (q + 1) + 1))), (0, .ref m0), (1, .int (nI (60 * sl))), (2, .int (nI u))]) hx hb dd_M_digitsOf_61 hl (by decide) rfl (fun ls hl => ?_)
      refine lv_goto (tgt := 43) hx hb dd_M_digitsOf_63 (by decide) ?_
      have e3 : 6 * u + (q + 1) + 1 = 6 * u + (q + 1 + 1) := by omega
      rw [e3] at hl
      exact ih (q + 1) (by omega) (by omega) (Or.inr hge) ls (lv_sub hl [2, 3, 4, 1, 0] rfl) kx

set_option maxHeartbeats 4000000 in
set_option maxRecDepth 100000 in
theorem c_M_digitsOf (l : Launch) (D : va_G) (cs : Nat → ClassId) (m0 th nk f1 f2 f3 np g1 g2 g3 sA sB ne h1 h2 h3 w0 pa w1 : Nat) (sl nn : Nat) (V : Nat → Nat) (sz : Nat) (hn : nn = 60 * sl) (hs : sl < 7) (hV : V sl < zB ^ 60) : Met l ym_M_digitsOf [.code ym_M_digitsOf cd_M_digitsOf 6 (some .int)] ({ frames := 0, cells := 0, slots := 0, locals := 0 } : Room) (jw_Pc D vwCl (jt cs) [(m0, .inr (7, [.int (nI th), .int (nI nk), .ref f1, .ref f2, .ref f3, .int (nI np), .ref g1, .ref g2, .ref g3, .int (nI sA), .int (nI sB), .int (nI ne), .ref h1, .ref h2, .ref h3, .ref w0, .int (nI pa), .ref w1])), (w0, .inl (cs 1, 420, .inr (.inl (fun j => lN (rl_ V j)))))] sz TX [.ref m0, .int (nI nn)]) (va_Qi (fun (r : Int32) (u : Unit) => r = nI (dL (V sl))) (jw_B D vwCl (va_A [(m0, .inr (7, [.int (nI th), .int (nI nk), .ref f1, .ref f2, .ref f3, .int (nI np), .ref g1, .ref g2, .ref g3, .int (nI sA), .int (nI sB), .int (nI ne), .ref h1, .ref h2, .ref h3, .ref w0, .int (nI pa), .ref w1])), (w0, .inl (cs 1, 420, .inr (.inl (fun j => lN (rl_ V j)))))] sz) (fun (u : Unit) => [(m0, .inr (7, [.int (nI th), .int (nI nk), .ref f1, .ref f2, .ref f3, .int (nI np), .ref g1, .ref g2, .ref g3, .int (nI sA), .int (nI sB), .int (nI ne), .ref h1, .ref h2, .ref h3, .ref w0, .int (nI pa), .ref w1])), (w0, .inl (cs 1, 420, .inr (.inl (fun j => lN (rl_ V j)))))])) (va_A [(m0, .inr (7, [.int (nI th), .int (nI nk), .ref f1, .ref f2, .ref f3, .int (nI np), .ref g1, .ref g2, .ref g3, .int (nI sA), .int (nI sB), .int (nI ne), .ref h1, .ref h2, .ref h3, .ref w0, .int (nI pa), .ref w1])), (w0, .inl (cs 1, 420, .inr (.inl (fun j => lN (rl_ V j)))))] sz)) 0 0 (va_A [(m0, .inr (7, [.int (nI th), .int (nI nk), .ref f1, .ref f2, .ref f3, .int (nI np), .ref g1, .ref g2, .ref g3, .int (nI sA), .int (nI sB), .int (nI ne), .ref h1, .ref h2, .ref h3, .ref w0, .int (nI pa), .ref w1])), (w0, .inl (cs 1, 420, .inr (.inl (fun j => lN (rl_ V j)))))] sz) := by
  refine Met.ofW (cc := cd_M_digitsOf) (maxL := 6) (ret := (some .int)) (by decide) rfl ?_
  intro p e s m args below meth c s₁ BL hml hv
  obtain ⟨rfl, hsz, hP, hD0, hK, hT⟩ := hv
  have hx := BL.exec
  have hb := BL.bytes
  have hr := BL.returns
  have hts : ∀ w ∈ TW, w.before [.ref m0, .int (nI nn)].toArray s = true := fun w h => hT.use h _
  have hown : s.vm.findClass "UseOddsModel" = some m.cls := findClass_of_methodNamed BL.named
  have hlocks := BL.notSynchronized
  subst hsz
  have hD := hD0.self (sz := s.heap.size)
  generalize hAe : va_A [(m0, .inr (7, [.int (nI th), .int (nI nk), .ref f1, .ref f2, .ref f3, .int (nI np), .ref g1, .ref g2, .ref g3, .int (nI sA), .int (nI sB), .int (nI ne), .ref h1, .ref h2, .ref h3, .ref w0, .int (nI pa), .ref w1])), (w0, .inl (cs 1, 420, .inr (.inl (fun j => lN (rl_ V j)))))] s.heap.size = A at hD ⊢
  have hA : ∀ q : Nat, s.heap.size ≤ q → A q := fun q h => by rw [← hAe]; exact Or.inr h
  have hS : va_S A s.heap s.heap [] := va_S.rf
  have hl := lv_entry ([.ref m0, .int (nI nn)]) (n := 6) (Nat.le_of_ble_eq_true rfl)
  rw [lg_entry_eq]
  generalize (lg_sl ([.ref m0, .int (nI nn)]) ++ List.replicate (6 - (lg_sl ([.ref m0, .int (nI nn)])).length) Slot.unset).toArray = ls at hl ⊢
  have hl : lv_has ls 6 [(0, .ref m0), (1, .int (nI nn))] := hl
  subst hn
  refine lv_bipush (v := nI 59) hx hb dd_M_digitsOf_0 (by decide) ?_
  refine lv_istore_n (lv' := [(2, .int (nI 59)), (0, .ref m0), (1, .int (nI (60 * sl)))]) hx hb dd_M_digitsOf_2 rfl hl (by decide) rfl (fun ls hl => ?_)
  refine lp_M_digitsOf (sl := sl) hx hb hown hts hK hP hD hS hs 59 (Nat.le_refl _) hV ls (lv_sub hl [1, 2, 0] rfl) (fun u ls hu hv hz hl => ?_)
  refine lv_bipush (v := nI 6) hx hb dd_M_digitsOf_26 (by decide) ?_
  refine lv_iload_n hx hb dd_M_digitsOf_28 rfl (lv_at hl 2 rfl) ?_
  refine jw_imul hx hb dd_M_digitsOf_29 ?_
  refine lv_iconst (v := nI 1) hx hb dd_M_digitsOf_30 (by decide) ?_
  refine jw_iadd hx hb dd_M_digitsOf_31 ?_
  refine lv_istore_n (lv' := [(3, .int (nI ((6 * u) + 1))), (0, .ref m0), (1, .int (nI (60 * sl))), (2, .int (nI u))]) hx hb dd_M_digitsOf_32 rfl hl (by decide) rfl (fun ls hl => ?_)
  refine lv_aload_n hx hb dd_M_digitsOf_33 rfl (lv_at hl 1 rfl) ?_
  refine va_get (D := D) (ci := 7) (v := .ref w0) (C := "UseOddsModel") (T := TM_) (N := 18) hx hb hts IM_ hown hK hP 0 rfl rfl 15 (by decide) (hts _ tw582) (fun _ h9 => h9) rfl dd_M_digitsOf_34 ?_
  refine lv_iload_n hx hb dd_M_digitsOf_37 rfl (lv_at hl 2 rfl) ?_
  refine lv_iload_n hx hb dd_M_digitsOf_38 rfl (lv_at hl 3 rfl) ?_
  refine jw_iadd hx hb dd_M_digitsOf_39 ?_
  refine jw_lald hx hb hK hP 1 1 rfl rfl (i := (60 * sl) + u) (by omega) (by decide) dd_M_digitsOf_40 ?_
  refine jw_cvl (y := lN (zG (V sl) u)) (by rw [rl_at V sl (by omega)]) ?_
  refine lv_lstore (lv' := [(4, .long (lN (zG (V sl) u))), (3, .int (nI ((6 * u) + 1))), (0, .ref m0), (1, .int (nI (60 * sl))), (2, .int (nI u))]) hx hb dd_M_digitsOf_41 hl (by decide) rfl (fun ls hl => ?_)
  have hT1 : zG (V sl) u < 10 ^ 6 := zG_lt _ _
  refine lp_M_digitsOf2 (sl := sl) (u := u) (T := zG (V sl) u) hx hb hown hts hK hP hD hS hs hT1 hu 6 0 (by omega) (by omega) (Or.inl rfl) ls ?_ (fun q ls q1 q2 hl => ?_)
  · rw [Nat.pow_zero, Nat.div_one]
    exact (lv_sub hl [2, 3, 4, 1, 0] rfl)
  · refine lv_iload_n hx hb dd_M_digitsOf_66 rfl (lv_at hl 3 rfl) ?_
    exact W.iret (v := (nI (6 * u + (q + 1)))) hx hb hr (fun t ht hW => ⟨⟨_, (), rfl, by rw [dL_top6 hV hv hz (show 1 ≤ q + 1 by omega) q2 (by rw [Nat.add_sub_cancel]; omega)], by rw [ht]; exact hP, hD⟩, hS.F ht⟩) hS.2.2 dd_M_digitsOf_67
