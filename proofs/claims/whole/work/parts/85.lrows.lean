/-! wrappers that catch; the law's context -/
def tb_ (q : Nat × Nat × Nat × Nat) : ExceptionTableEntry := ⟨q.1, q.2.1, q.2.2.1, q.2.2.2⟩
theorem tb_of {L : List ExceptionTableEntry} {hh : List (Nat × Nat × Nat × Nat)} (h : L.map (fun h => (h.startPc, h.endPc, h.handlerPc, h.catchType)) = hh) : L = hh.map tb_ := by
  rw [← h, List.map_map]
  have e : (tb_ ∘ fun h : ExceptionTableEntry => (h.startPc, h.endPc, h.handlerPc, h.catchType)) = id := by funext x; cases x; rfl
  rw [e, List.map_id]
theorem jw_MetW {l : Launch} {y : MethodName} {ws ws' : List Cond} {rm : Room} {Pc : Array Value → State → Prop} {Qc : Array Value → State → Outcome → State → Prop} {mc ms : Nat} {free : Addr → Prop} {cc : ByteArray} {maxL : Nat} {ret : Option FieldType} {hh : List (Nat × Nat × Nat × Nat)}
    (hy : plainName y.cls = true) (hw : ws = Cond.codeWith y cc maxL ret hh :: ws')
    (body : ∀ p e s m args below meth c s₁, BodyLoose p l y (headSpec ws rm) cc maxL ret e s m args below meth c s₁ → c.maxLocals = maxL → c.exceptionTable.toList = hh.map tb_ → Pc args s →
      W p l e (headSpec ws rm).room s m args below meth c s.heap [] 0 0 (MQ below Qc args s mc ms free) (entryFrame m args maxL)) : Met l y ws rm Pc Qc mc ms free := by
  refine va_MetW (hh := hh) hy hw (fun p e s m args below meth c s₁ B hml hP => ?_)
  obtain ⟨m9, meth9, c9, hn9, h1, h2, h3, h4, h5, -⟩ := Cond.codeWith_spec (atoms_spec (ws := ws) B.pre _ (by rw [hw]; exact List.mem_cons_self))
  cases B.named.symm.trans hn9
  have hc : c = c9 := by
    have g1 : s₁.code? m = some c := B.here.code
    rw [State.code?_eq] at g1
    have g2 : s₁.vm = s.vm := by rw [B.state]; rfl
    rw [g2, h1] at g1
    have g3 : meth9.code = some c := g1
    exact Option.some.inj (g3.symm.trans h2)
  subst hc
  exact body p e s m args below meth c s₁ B hml (tb_of h5) hP
section JWSW
variable {p : Program} {l : Launch} {e : Env} {R : Room} {s : State} {m : MethodId} {args : Array Value} {below : List Frame} {meth : Method} {c : Code} {H : Heap} {locs : List Loc} {cells slots : Nat}
variable {y : MethodName} {bytes cc : ByteArray} {maxL nL mc ms n index : Nat} {ret : Option FieldType} {hh : List (Nat × Nat × Nat × Nat)} {ws : List Cond} {rm : Room} {Pc : Array Value → State → Prop} {Qc : Array Value → State → Outcome → State → Prop} {free : Addr → Prop} {Ts : List Cond} {own : String} {As rest : List Value} {g : JFrame}
def jw_CW (R : Room) (s : State) (args : Array Value) (own : String) (index : Nat) (y : MethodName) (bytes : ByteArray) (maxL : Nat) (ret : Option FieldType) (hh : List (Nat × Nat × Nat × Nat)) (ws : List Cond) (rm : Room) (mc ms n : Nat) : Prop :=
  rm.cells = mc ∧ rm.slots = ms ∧ rm.frames + 1 ≤ R.frames ∧ 8 + (maxL + 11) + rm.locals ≤ R.locals ∧ (∀ w ∈ ws, ∀ (a' : Array Value) (U : State), s.WarmedH U.vm → w.before a' U = true) ∧ Cond.codeWith y bytes maxL ret hh ∈ ws ∧
  (Cond.codeWith y bytes maxL ret hh).before args s = true ∧ (Cond.initialized y.cls).before args s = true ∧ (y.cls ≠ "java/lang/invoke/MethodHandle" ∧ y.cls ≠ "java/lang/invoke/VarHandle") ∧ (∀ sig, parseMethodDescriptor y.desc = some sig → n = sig.parameters.length) ∧ (Cond.methodLink own index y).before args s = true ∧ (Cond.static y).before args s = true
theorem jw_cW (n : Nat) (hT : TX s) (hc : Cond.codeWith y bytes maxL ret hh ∈ TW) (hrc : rm.cells = mc) (hrs : rm.slots = ms) (hini : Cond.initialized y.cls ∈ TW) (hl : Cond.methodLink own index y ∈ TW) (hst : Cond.static y ∈ TW)
    (hd : y.cls ≠ "java/lang/invoke/MethodHandle" ∧ y.cls ≠ "java/lang/invoke/VarHandle" ∧ (parseMethodDescriptor y.desc).map (fun d => d.parameters.length) = some n) (hR : rm.frames + 1 ≤ R.frames ∧ 8 + (maxL + 11) + rm.locals ≤ R.locals) : jw_CW R s args own index y bytes maxL ret hh [Cond.codeWith y bytes maxL ret hh] rm mc ms n :=
  ⟨hrc, hrs, hR.1, hR.2, fun w hw a' U hW => by rw [List.mem_singleton.mp hw]; exact (hT.warm hW).use hc a', List.mem_singleton.mpr rfl, hT.use hc args, hT.use hini args, ⟨hd.1, hd.2.1⟩, fun sig h => by have h2 := hd.2.2; rw [h] at h2; exact (Option.some.inj h2).symm, hT.use hl args, hT.use hst args⟩
theorem jw_runSW (S : CallFix p m c cc nL s args Ts own) (hM : Met l y ws rm Pc Qc mc ms free) (cw : jw_CW R s args own index y bytes maxL ret hh ws rm mc ms n) (hp : PreS s H Pc As)
    (hg : g.method = m) (hn : As.length = n) (hsize : g.locals.size = nL) (hstack : g.stack = As.reverse ++ rest) (hW : 2 * g.monitorRoom + (rest.map fun v => v.category).sum ≤ 8) (hdg : decode cc g.pc = .ok (.invokestatic index, 3)) (hf : cells + mc ≤ R.cells ∧ slots + ms ≤ R.slots) :
    va_Run p l e R s m args below meth c H locs cells slots mc ms g rest (Qc As.toArray) free := by
  obtain ⟨hx, hb, hml, ho, -⟩ := S
  obtain ⟨hrc, hrs, hfr, hlo, hws, hcw, hcode, hini, hy, hlen, hlink, hstat⟩ := cw
  obtain ⟨hbl, hPc⟩ := hp
  have hK : Back l R p e below s args y 3 8 (PreOf R mc ms Pc) (PostOf Qc mc ms free) := va_backW (hh := hh) (bytes := bytes) (maxL := maxL) (ret := ret) hM hbl hrc hrs hfr hlo hws hcw (fun a' U hW => word_at hW (Or.inl (by first | rfl | simp [Cond.onTables, Cond.keeps, Cond.steady])) hini)
  intro T hT X
  have hdg2 : decode c.code g.pc = .ok (.invokestatic index, 3) := by rw [hb]; exact hdg
  obtain ⟨mk, methM, cM, hnamed, hmethM, -, -, -, -, -, -, hsigM⟩ := Cond.codeWith_spec hcode
  have hstatic : methM.isStatic = true := Cond.static_spec hnamed hmethM hstat
  obtain ⟨kP, hkP, -⟩ := className_of_methodNamed hnamed
  have hinitP : kP.init = .initialized := Cond.initialized_spec (findClass_of_methodNamed hnamed) hkP hini
  obtain ⟨vm₁, X₁, hstep₁⟩ := X.invokestatic hx ho hlink hnamed hmethM hstatic hkP hinitP hy (g := g) hg (argsL := As) (rest := rest) (hn.trans (hlen _ hsigM)) hstack hdg2
  obtain ⟨v, ⟨U', l2, c2, s2⟩, X', ⟨g', mk', t, L, e1, e2, hq, h1, hL, h2, h3⟩, hsteps⟩ := hK m meth c ⟨T.setVm vm₁, locs, cells, slots⟩ { g with stack := rest } (.invokestatic index) mk As.toArray X₁ hg (hsize.trans hml.symm) hdg2 hW (X₁.named hnamed) ⟨hf.1, hf.2, hPc (T.setVm vm₁) hT X₁.warmed⟩
  dsimp only [Pt.U, Pt.locs, Pt.cells, Pt.slots] at X' e1 e2 h1 h2 h3 hsteps
  subst h1; subst h2; subst h3
  exact ⟨v, (T.setVm vm₁).calling g' mk' As.toArray, t, U', L, hT, X', hL, e1, e2, hq, fun target h => hstep₁ _ fun acts => by rw [doInvoke_state]; exact hsteps.trans h⟩
end JWSW
abbrev IAE_ : String := "java/lang/IllegalArgumentException"
abbrev ISE_ : String := "java/lang/IllegalStateException"
def XQ (A : Nat → Prop) (U : State) : Prop := XC A U ∧ va_Nc ISE_ IAE_ U
theorem jx_XQ (A : Nat → Prop) : jw_X (XQ A) := fun u U hW hh h => ⟨jx_XC A u U hW hh h.1, h.2.moved hW.alike⟩
theorem XQ.call {A B : Nat → Prop} {s : State} {H : Heap} {locs : List Loc} (h : XQ A s) (hS : va_S A s.heap H locs) (hAB : ∀ q, B q → A q) : ∀ U : State, U.heap = H → s.WarmedH U.vm → XQ B U := fun U hU hW => ⟨h.1.call hS hAB U hU hW, h.2.moved hW.alike⟩
theorem xt_ca {w : Cond} (h : w ∈ XA_ ++ XS_) (g : xt_k w = true) {s : State} (hX : XT s) (args : Array Value) : w.before args s = true := va_Nw.use (Bool.and_eq_true_iff.mp (show (w.onTables && (w.keepsH || xt_c w)) = true from g)).1 (hX w (List.mem_filter.mpr ⟨h, g⟩))
set_option maxRecDepth 20000 in
theorem xt_cA {s : State} (hX : XT s) (args : Array Value) : (Cond.castable IAE_ IAE_).before args s = true := xt_ca (by decide +kernel) (by decide +kernel) hX args
set_option maxRecDepth 20000 in
theorem xt_cS {s : State} (hX : XT s) (args : Array Value) : (Cond.castable ISE_ ISE_).before args s = true := xt_ca (by decide +kernel) (by decide +kernel) hX args
section JWL
variable {p : Program} {l : Launch} {e : Env} {R : Room} {s : State} {m : MethodId} {args : Array Value} {below : List Frame} {meth : Method} {c : Code} {H : Heap} {locs : List Loc} {cells slots : Nat} {Q : State → Prop}
variable {cc : ByteArray} {pc : Nat} {ls : Array Slot} {rest : List Value} {A : Nat → Prop} {H0 : Heap}
/-- an int of the script -/
theorem jw_sld (hx : p.tables.exec = Jvm.exec) (hb : c.code = cc) {b L : Nat} {xs : Nat → Int32} (hX : va_X b L xs s H0) (hbl : b < H0.size) (hbA : ¬ A b) (hS : va_S A H0 H locs) {k : Nat} (hk : k < L) (hL : L ≤ 2560) (hdg : decode cc pc = .ok (.iaload, 1))
    (kk : W p l e R s m args below meth c H locs cells slots Q (F0 m (pc + 1) ls (.int (xs k) :: rest))) : W p l e R s m args below meth c H locs cells slots Q (F0 m pc ls (.int (nI k) :: .ref b :: rest)) := by
  have e : (nI k).toNatClampNeg = k := nI_clamp (by omega)
  refine va_sld hx hb hX hbl hbA hS (i := nI k) (fun q => ?_) hdg (by rw [e]; exact kk)
  rcases q with q | q
  · exact nI_pos (by omega) q
  · rw [e] at q; omega
/-- the switch -/
theorem jw_tabIn (hx : p.tables.exec = Jvm.exec) (hb : c.code = cc) {dflt lo hi : Int} {offs : Array Int} {len : Nat} {off : Int} {tgt k : Nat} (hdg : decode cc pc = .ok (.tableswitch dflt lo hi offs, len)) (hk : k < 100) (h1 : ¬ (k : Int) < lo) (h2 : ¬ hi < (k : Int)) (ho : offs[((k : Int) - lo).toNat]? = some off) (ht : (pc : Int) + off = (tgt : Int))
    (kk : W p l e R s m args below meth c H locs cells slots Q (F0 m tgt ls rest)) : W p l e R s m args below meth c H locs cells slots Q (F0 m pc ls (.int (nI k) :: rest)) := by
  have e : (nI k).toInt = (k : Int) := nI_toInt (by omega)
  exact lv_tableIn hx hb hdg (by rw [e]; exact h1) (by rw [e]; exact h2) (by rw [e]; exact ho) ht kk
end JWL
theorem l5_of {L i : Nat} (hL : L ≤ 2560) (hi : i ≤ L) : nI L - nI 5 < nI i ↔ L < i + 5 := by
  rcases Nat.lt_or_ge L 5 with h | h
  · have e : ∀ L, L < 5 → nI L - nI 5 < nI 0 := by decide
    exact ⟨fun _ => by omega, fun _ => Int32.lt_of_lt_of_le (e L h) (nI_le (Nat.zero_le _) (by omega))⟩
  · have e : nI L - nI 5 = nI (L - 5) := by
      have e2 : nI L = nI (L - 5) + nI 5 := by rw [nI_add, Nat.sub_add_cancel h]
      rw [e2, Int32.add_sub_cancel]
    rw [e, nI_ltI (by omega) (by omega)]; omega
theorem nI_5 (i : Nat) : nI i + Int32.ofInt 5 = nI (i + 5) := by
  rw [← nI_add]; rfl
