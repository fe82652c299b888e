/-! a frame over which an object is thrown; a call that returns or throws -/
section XMB
variable {p : Program} {l : Launch} {e : Env} {R : Room} {s : State} {m : MethodId} {args : Array Value} {below : List Frame} {meth : Method} {c : Code} {H : Heap} {locs : List Loc} {cells slots : Nat} {Q : State → Prop}
def xW (p : Program) (l : Launch) (e : Env) (R : Room) (s : State) (m : MethodId) (args : Array Value) (below : List Frame) (meth : Method) (c : Code) (H : Heap) (locs : List Loc) (cells slots : Nat) (Q : State → Prop) (g : JFrame) (q : Addr) : Prop :=
  ∀ T : State, T.heap = H → Stand p l e R s m args below meth c T locs cells slots → ∃ t, Steps p.tables e below ((T.setTop g).pushFrame (.throwing q)) t ∧ Q t
theorem xW.widen {g : JFrame} {q : Addr} {k n : Nat} (h1 : cells ≤ k) (h2 : slots ≤ n) (kk : xW p l e R s m args below meth c H locs k n Q g q) : xW p l e R s m args below meth c H locs cells slots Q g q := fun T hT X => kk T hT (stand_widen X h1 h2)
def xRun (p : Program) (l : Launch) (e : Env) (R : Room) (s : State) (m : MethodId) (args : Array Value) (below : List Frame) (meth : Method) (c : Code) (H : Heap) (locs : List Loc) (cells slots mc ms : Nat) (g : JFrame) (rest : List Value) (Qa : State → Outcome → State → Prop) (EC : String → State → State → Prop) (free : Addr → Prop) : Prop :=
  ∀ T : State, T.heap = H → Stand p l e R s m args below meth c T locs cells slots →
    (∃ (v : Option Value) (st₀ t T' : State) (L : List Loc), st₀.heap = H ∧ Stand p l e R s m args below meth c T' (locs ++ L) (cells + mc) (slots + ms) ∧ (∀ q ∈ L, free q.base) ∧ T'.heap = t.heap ∧ T'.vm = t.vm ∧ Qa st₀ (.returned v) t ∧ ∀ target, Steps p.tables e below (T'.setTop { g with pc := g.pc + 3, stack := v.toList ++ rest }) target → Steps p.tables e below (T.setTop g) target) ∨
    (∃ (q : Addr) (E : String) (st₀ t T' : State) (L : List Loc), st₀.heap = H ∧ Stand p l e R s m args below meth c T' (locs ++ L) (cells + mc) (slots + ms) ∧ (∀ q ∈ L, free q.base) ∧ T'.heap = t.heap ∧ T'.vm = t.vm ∧ EC E st₀ t ∧ xm_o E s q t ∧ ∀ target, Steps p.tables e below ((T'.setTop { g with stack := rest }).pushFrame (.throwing q)) target → Steps p.tables e below (T.setTop g) target)
variable {y : MethodName} {bytes cc : ByteArray} {maxL nL mc ms n index : Nat} {ret : Option FieldType} {ws : List Cond} {rm : Room} {Pc : Array Value → State → Prop} {Qc : Array Value → State → Outcome → State → Prop} {EC : String → State → State → Prop} {free : Addr → Prop} {Ts : List Cond} {own C : String} {b : Addr} {As rest : List Value} {g : JFrame}
theorem xm_runV (S : CallFix p m c cc nL s args Ts own) (hM : xm_ l y ws rm Pc Qc EC mc ms free) (cw : CallW R s args own C index y bytes maxL ret ws rm mc ms n) (hp : PreV s H C b Pc As) (hg : g.method = m) (hn : As.length = n) (hsize : g.locals.size = nL) (hstack : g.stack = As.reverse ++ .ref b :: rest) (hW : 2 * g.monitorRoom + (rest.map fun v => v.category).sum ≤ 8) (hdg : decode cc g.pc = .ok (.invokevirtual index, 3)) (hf : cells + mc ≤ R.cells ∧ slots + ms ≤ R.slots) :
    xRun p l e R s m args below meth c H locs cells slots mc ms g rest (Qc (Value.ref b :: As).toArray) EC free := by
  obtain ⟨hx, hb, hml, ho, -⟩ := S
  obtain ⟨⟨hrc, hrs, hfr, hlo, hws, hcw, hcode, hini, hy, hlen, hlink⟩, hin, hsel⟩ := cw
  obtain ⟨hbl, ⟨cellB, hcB, hoB, hclB⟩, hPc⟩ := hp
  intro T hT X
  have hdg2 : decode c.code g.pc = .ok (.invokevirtual index, 3) := by rw [hb]; exact hdg
  have hsz : g.locals.size = c.maxLocals := hsize.trans hml.symm
  obtain ⟨mk, methM, hnamed, hmethM, hstM, habM⟩ := Cond.instanceMethod_spec hin
  obtain ⟨methM', cM, hmethM', -, -, -, -, -, -, hsigM⟩ := Cond.code_spec hnamed hcode
  cases hmethM.symm.trans hmethM'
  obtain ⟨c2, r2, m2, q1, q2, q3, q4, kP, hkP, hkPi⟩ := Cond.selects_spec hsel
  cases hclB.symm.trans q1
  cases (State.methodFound?_of_named hnamed hy).symm.trans q2
  cases hnamed.symm.trans q3
  have hselP : selectMethod e.platform s.vm cellB.cls mk = .method mk := by rw [Launch.admits_selectMethod X.admits]; exact q4
  obtain ⟨vm₁, X₁, hstep₁⟩ := X.invokevirtual hx ho hlink hnamed hmethM hstM hkP hkPi hy (a := b) (cell := cellB) (by rw [hT]; exact hcB) (fun z h => by rw [h] at hoB; cases hoB) hselP hmethM habM hkP hkPi (g := g) hg (argsL := As) (rest := rest) (hn.trans (hlen _ hsigM)) hstack hdg2
  have hinU : (Cond.initialized y.cls).before (Value.ref b :: As).toArray (T.setVm vm₁) = true := word_at X₁.warmed (Or.inl (by first | rfl | simp [Cond.onTables, Cond.keeps, Cond.steady])) hini
  have hal : s.vm.Alike vm₁ := X₁.warmed.alike
  rcases xm_back (g := { g with stack := rest }) (bytes := bytes) (maxL := maxL) (ret := ret) (W9 := 8) hM hbl hrc hrs hfr hlo hws hcw hinU X₁ hg hsz hdg2 hW (X₁.named hnamed) hf.1 hf.2 (hPc (T.setVm vm₁) hT X₁.warmed) with ⟨v, t, T', L, X', hL, e1, e2, hq, hsteps⟩ | ⟨q, E, t, T', L, X', hL, e1, e2, hE, ⟨ce, o1, o2, o3⟩, hsteps⟩
  · exact Or.inl ⟨v, (T.setVm vm₁).calling { g with stack := rest } mk (Value.ref b :: As).toArray, t, T', L, hT, X', hL, e1, e2, hq, fun target h => hstep₁ _ fun acts => by rw [doInvoke_state]; exact hsteps.trans h⟩
  · exact Or.inr ⟨q, E, (T.setVm vm₁).calling { g with stack := rest } mk (Value.ref b :: As).toArray, t, T', L, hT, X', hL, e1, e2, hE, ⟨ce, o1, o2, by rw [← hal.findClass]; exact o3⟩, fun target h => hstep₁ _ fun acts => by rw [doInvoke_state]; exact hsteps.trans h⟩
theorem xm_runS (S : CallFix p m c cc nL s args Ts own) (hM : xm_ l y ws rm Pc Qc EC mc ms free) (cw : CallB R s args own index y bytes maxL ret ws rm mc ms n ∧ (Cond.static y).before args s = true) (hp : PreS s H Pc As) (hg : g.method = m) (hn : As.length = n) (hsize : g.locals.size = nL) (hstack : g.stack = As.reverse ++ rest) (hW : 2 * g.monitorRoom + (rest.map fun v => v.category).sum ≤ 8) (hdg : decode cc g.pc = .ok (.invokestatic index, 3)) (hf : cells + mc ≤ R.cells ∧ slots + ms ≤ R.slots) :
    xRun p l e R s m args below meth c H locs cells slots mc ms g rest (Qc As.toArray) EC free := by
  obtain ⟨hx, hb, hml, ho, -⟩ := S
  obtain ⟨⟨hrc, hrs, hfr, hlo, hws, hcw, hcode, hini, hy, hlen, hlink⟩, hstat⟩ := cw
  obtain ⟨hbl, hPc⟩ := hp
  intro T hT X
  have hdg2 : decode c.code g.pc = .ok (.invokestatic index, 3) := by rw [hb]; exact hdg
  have hsz : g.locals.size = c.maxLocals := hsize.trans hml.symm
  obtain ⟨mk, hnamed⟩ := Cond.code_named hcode
  obtain ⟨methM, cM, hmethM, -, -, -, -, -, -, hsigM⟩ := Cond.code_spec hnamed hcode
  have hstatic : methM.isStatic = true := Cond.static_spec hnamed hmethM hstat
  obtain ⟨kP, hkP, -⟩ := className_of_methodNamed hnamed
  have hinitP : kP.init = .initialized := Cond.initialized_spec (findClass_of_methodNamed hnamed) hkP hini
  obtain ⟨vm₁, X₁, hstep₁⟩ := X.invokestatic hx ho hlink hnamed hmethM hstatic hkP hinitP hy (g := g) hg (argsL := As) (rest := rest) (hn.trans (hlen _ hsigM)) hstack hdg2
  have hinU : (Cond.initialized y.cls).before As.toArray (T.setVm vm₁) = true := word_at X₁.warmed (Or.inl (by first | rfl | simp [Cond.onTables, Cond.keeps, Cond.steady])) hini
  have hal : s.vm.Alike vm₁ := X₁.warmed.alike
  rcases xm_back (g := { g with stack := rest }) (bytes := bytes) (maxL := maxL) (ret := ret) (W9 := 8) hM hbl hrc hrs hfr hlo hws hcw hinU X₁ hg hsz hdg2 hW (X₁.named hnamed) hf.1 hf.2 (hPc (T.setVm vm₁) hT X₁.warmed) with ⟨v, t, T', L, X', hL, e1, e2, hq, hsteps⟩ | ⟨q, E, t, T', L, X', hL, e1, e2, hE, ⟨ce, o1, o2, o3⟩, hsteps⟩
  · exact Or.inl ⟨v, (T.setVm vm₁).calling { g with stack := rest } mk As.toArray, t, T', L, hT, X', hL, e1, e2, hq, fun target h => hstep₁ _ fun acts => by rw [doInvoke_state]; exact hsteps.trans h⟩
  · exact Or.inr ⟨q, E, (T.setVm vm₁).calling { g with stack := rest } mk As.toArray, t, T', L, hT, X', hL, e1, e2, hE, ⟨ce, o1, o2, by rw [← hal.findClass]; exact o3⟩, fun target h => hstep₁ _ fun acts => by rw [doInvoke_state]; exact hsteps.trans h⟩
end XMB
section XMC
variable {p : Program} {l : Launch} {e : Env} {R : Room} {s : State} {m : MethodId} {args : Array Value} {below : List Frame} {meth : Method} {c : Code} {H : Heap} {locs : List Loc} {cells slots : Nat} {Q : State → Prop}
variable {pc : Nat} {ls : Array Slot} {st0 rest : List Value} {D : va_G} {cl : List vw_C} {A0 : Nat → Prop} {ws wc wr : va_W} {H0 : Heap} {mc ms : Nat} {a : Array Value}
/-- the world behind one that has thrown E -/
def xm_E (D : va_G) (cl : List vw_C) (A : Nat → Prop) {S : Type} (px : String → S → Prop) (w1 : S → va_W) : String → State → State → Prop := fun E st t => ∃ u : S, px E u ∧ (va_P D cl (w1 u) t.heap ∧ va_D A (w1 u)) ∧ va_F A st t
theorem xm_keep {st t T' : State} {L : List Loc} {A1 free : Nat → Prop} (h0 : st.heap = H) (e1 : T'.heap = t.heap) (hS : va_S A0 H0 H locs) (hA : ∀ q, A1 q → A0 q) (hf : ∀ q, free q → A0 q) (hL : ∀ q ∈ L, free q.base) (hF : va_F A1 st t) : va_S A0 H0 T'.heap (locs ++ L) ∧ ∀ q : Nat, q < H.size → ¬ A1 q → T'.heap[q]? = H[q]? := by
  obtain ⟨hz, hk⟩ := hF
  rw [h0] at hz hk
  refine ⟨⟨Nat.le_trans hS.1 (by rw [e1]; exact hz), fun q h1 h2 => by rw [e1, hk q (Nat.lt_of_lt_of_le h1 hS.1) (fun z => h2 (hA q z))]; exact hS.2.1 q h1 h2, fun q hq => ?_⟩, fun q h1 h2 => by rw [e1]; exact hk q h1 h2⟩
  rcases List.mem_append.mp hq with h | h
  · exact hS.2.2 q h
  · exact hf _ (hL q h)
theorem xm_calli {S SX : Type} {post : Int32 → S → Prop} {w1 : S → va_W} {px : String → SX → Prop} {wx : SX → va_W} (hP : va_P D cl ws H) (hD : va_D A0 ws) (hS : va_S A0 H0 H locs) (hA : ∀ q, H0.size ≤ q → A0 q) (isC isR : List Nat) (hC : isC.map (fun i => ws[i]?) = wc.map some) (hR : isR.map (fun i => ws[i]?) = wr.map some) (hn : va_nd isR = true) (hdis : ∀ i ∈ isR, i ∉ isC)
    (hr : xRun p l e R s m args below meth c H locs cells slots mc ms (F0 m pc ls st0) rest (va_Qi post (jw_B D cl (va_A wc H.size) w1) (va_A wc H.size) a) (xm_E D cl (va_A wc H.size) px wx) (va_A wc H.size))
    (kx : ∀ (E : String) (q9 : Addr) (u : SX) (t : State) (H1 : Heap) (locs1 : List Loc), px E u → va_P D cl (wr ++ wx u) H1 → va_D A0 (wr ++ wx u) → va_S A0 H0 H1 locs1 → t.heap = H1 → xm_o E s q9 t → xW p l e R s m args below meth c H1 locs1 (cells + mc) (slots + ms) Q (F0 m pc ls rest) q9)
    (kk : ∀ (r : Int32) (u : S) (H1 : Heap) (locs1 : List Loc), post r u → va_P D cl (wr ++ w1 u) H1 → va_D A0 (wr ++ w1 u) → va_S A0 H0 H1 locs1 → W p l e R s m args below meth c H1 locs1 (cells + mc) (slots + ms) Q (F0 m (pc + 3) ls (.int r :: rest))) :
    W p l e R s m args below meth c H locs cells slots Q (F0 m pc ls st0) := by
  have hF := va_free (wc := wc) hD hS hA isC hC
  intro T hT X
  rcases hr T hT X with ⟨v, st₀, t, T', L, h0, X', hL, e1, e2, ⟨⟨r, u, hv, hp, hb⟩, hf⟩, st⟩ | ⟨q, E, st₀, t, T', L, h0, X', hL, e1, e2, ⟨u, hp, hb, hf⟩, ho, st⟩
  · cases hv
    obtain ⟨hS1, hk1⟩ := xm_keep h0 e1 hS hF hF hL hf
    obtain ⟨hP2, hD2⟩ := va_join hP hD isC isR hC hR hn hdis hk1 hF (by rw [e1]; exact hb.1) hb.2
    obtain ⟨t2, a1, b1⟩ := kk r u T'.heap (locs ++ L) hp hP2 hD2 hS1 T' rfl X'
    exact ⟨t2, st t2 a1, b1⟩
  · obtain ⟨hS1, hk1⟩ := xm_keep h0 e1 hS hF hF hL hf
    obtain ⟨hP2, hD2⟩ := va_join hP hD isC isR hC hR hn hdis hk1 hF (by rw [e1]; exact hb.1) hb.2
    obtain ⟨t2, a1, b1⟩ := kx E q u t T'.heap (locs ++ L) hp hP2 hD2 hS1 e1.symm ho T' rfl X'
    exact ⟨t2, st t2 a1, b1⟩
theorem xm_calll {S SX : Type} {post : Int64 → S → Prop} {w1 : S → va_W} {px : String → SX → Prop} {wx : SX → va_W} (hP : va_P D cl ws H) (hD : va_D A0 ws) (hS : va_S A0 H0 H locs) (hA : ∀ q, H0.size ≤ q → A0 q) (isC isR : List Nat) (hC : isC.map (fun i => ws[i]?) = wc.map some) (hR : isR.map (fun i => ws[i]?) = wr.map some) (hn : va_nd isR = true) (hdis : ∀ i ∈ isR, i ∉ isC)
    (hr : xRun p l e R s m args below meth c H locs cells slots mc ms (F0 m pc ls st0) rest (va_Ql post (jw_B D cl (va_A wc H.size) w1) (va_A wc H.size) a) (xm_E D cl (va_A wc H.size) px wx) (va_A wc H.size))
    (kx : ∀ (E : String) (q9 : Addr) (u : SX) (t : State) (H1 : Heap) (locs1 : List Loc), px E u → va_P D cl (wr ++ wx u) H1 → va_D A0 (wr ++ wx u) → va_S A0 H0 H1 locs1 → t.heap = H1 → xm_o E s q9 t → xW p l e R s m args below meth c H1 locs1 (cells + mc) (slots + ms) Q (F0 m pc ls rest) q9)
    (kk : ∀ (r : Int64) (u : S) (H1 : Heap) (locs1 : List Loc), post r u → va_P D cl (wr ++ w1 u) H1 → va_D A0 (wr ++ w1 u) → va_S A0 H0 H1 locs1 → W p l e R s m args below meth c H1 locs1 (cells + mc) (slots + ms) Q (F0 m (pc + 3) ls (.long r :: rest))) :
    W p l e R s m args below meth c H locs cells slots Q (F0 m pc ls st0) := by
  have hF := va_free (wc := wc) hD hS hA isC hC
  intro T hT X
  rcases hr T hT X with ⟨v, st₀, t, T', L, h0, X', hL, e1, e2, ⟨⟨r, u, hv, hp, hb⟩, hf⟩, st⟩ | ⟨q, E, st₀, t, T', L, h0, X', hL, e1, e2, ⟨u, hp, hb, hf⟩, ho, st⟩
  · cases hv
    obtain ⟨hS1, hk1⟩ := xm_keep h0 e1 hS hF hF hL hf
    obtain ⟨hP2, hD2⟩ := va_join hP hD isC isR hC hR hn hdis hk1 hF (by rw [e1]; exact hb.1) hb.2
    obtain ⟨t2, a1, b1⟩ := kk r u T'.heap (locs ++ L) hp hP2 hD2 hS1 T' rfl X'
    exact ⟨t2, st t2 a1, b1⟩
  · obtain ⟨hS1, hk1⟩ := xm_keep h0 e1 hS hF hF hL hf
    obtain ⟨hP2, hD2⟩ := va_join hP hD isC isR hC hR hn hdis hk1 hF (by rw [e1]; exact hb.1) hb.2
    obtain ⟨t2, a1, b1⟩ := kx E q u t T'.heap (locs ++ L) hp hP2 hD2 hS1 e1.symm ho T' rfl X'
    exact ⟨t2, st t2 a1, b1⟩
theorem xm_callv {S SX : Type} {post : S → Prop} {w1 : S → va_W} {px : String → SX → Prop} {wx : SX → va_W} (hP : va_P D cl ws H) (hD : va_D A0 ws) (hS : va_S A0 H0 H locs) (hA : ∀ q, H0.size ≤ q → A0 q) (isC isR : List Nat) (hC : isC.map (fun i => ws[i]?) = wc.map some) (hR : isR.map (fun i => ws[i]?) = wr.map some) (hn : va_nd isR = true) (hdis : ∀ i ∈ isR, i ∉ isC)
    (hr : xRun p l e R s m args below meth c H locs cells slots mc ms (F0 m pc ls st0) rest (va_Qv post (jw_B D cl (va_A wc H.size) w1) (va_A wc H.size) a) (xm_E D cl (va_A wc H.size) px wx) (va_A wc H.size))
    (kx : ∀ (E : String) (q9 : Addr) (u : SX) (t : State) (H1 : Heap) (locs1 : List Loc), px E u → va_P D cl (wr ++ wx u) H1 → va_D A0 (wr ++ wx u) → va_S A0 H0 H1 locs1 → t.heap = H1 → xm_o E s q9 t → xW p l e R s m args below meth c H1 locs1 (cells + mc) (slots + ms) Q (F0 m pc ls rest) q9)
    (kk : ∀ (u : S) (H1 : Heap) (locs1 : List Loc), post u → va_P D cl (wr ++ w1 u) H1 → va_D A0 (wr ++ w1 u) → va_S A0 H0 H1 locs1 → W p l e R s m args below meth c H1 locs1 (cells + mc) (slots + ms) Q (F0 m (pc + 3) ls (rest))) :
    W p l e R s m args below meth c H locs cells slots Q (F0 m pc ls st0) := by
  have hF := va_free (wc := wc) hD hS hA isC hC
  intro T hT X
  rcases hr T hT X with ⟨v, st₀, t, T', L, h0, X', hL, e1, e2, ⟨⟨u, hv, hp, hb⟩, hf⟩, st⟩ | ⟨q, E, st₀, t, T', L, h0, X', hL, e1, e2, ⟨u, hp, hb, hf⟩, ho, st⟩
  · cases hv
    obtain ⟨hS1, hk1⟩ := xm_keep h0 e1 hS hF hF hL hf
    obtain ⟨hP2, hD2⟩ := va_join hP hD isC isR hC hR hn hdis hk1 hF (by rw [e1]; exact hb.1) hb.2
    obtain ⟨t2, a1, b1⟩ := kk u T'.heap (locs ++ L) hp hP2 hD2 hS1 T' rfl X'
    exact ⟨t2, st t2 a1, b1⟩
  · obtain ⟨hS1, hk1⟩ := xm_keep h0 e1 hS hF hF hL hf
    obtain ⟨hP2, hD2⟩ := va_join hP hD isC isR hC hR hn hdis hk1 hF (by rw [e1]; exact hb.1) hb.2
    obtain ⟨t2, a1, b1⟩ := kx E q u t T'.heap (locs ++ L) hp hP2 hD2 hS1 e1.symm ho T' rfl X'
    exact ⟨t2, st t2 a1, b1⟩
/-- caught: the rows ahead of x name classes that it is not of -/
theorem xm_catch {own name E : String} {q : Addr} {t : State} (hown : s.vm.findClass own = some m.cls) (pre : List ExceptionTableEntry) (x : ExceptionTableEntry) (suf : List ExceptionTableEntry) (hsplit : c.exceptionTable.toList = pre ++ x :: suf)
    (hpass : ∀ z ∈ pre, z.catchType ≠ 0 ∧ ∃ nm : String, (Cond.classLink own z.catchType nm).before args s = true ∧ va_Nc E nm s) (hx : covers x pc = true) (h0 : x.catchType ≠ 0) (hlink : (Cond.classLink own x.catchType name).before args s = true) (hcast : (Cond.castable E name).before args s = true) (ht : t.heap = H) (ho : xm_o E s q t)
    (kk : W p l e R s m args below meth c H locs cells slots Q (F0 m x.handlerPc ls [.ref q])) : xW p l e R s m args below meth c H locs cells slots Q (F0 m pc ls rest) q := by
  intro T hT X
  obtain ⟨ce, o1, o2, o3⟩ := ho
  rw [ht] at o1
  obtain ⟨c1, c2, w1, w2, w3⟩ := Cond.castable_spec hcast
  cases o3.symm.trans w1
  obtain ⟨hend, hk0⟩ := X.catches_of_link hown h0 hlink w2 w3
  have hpl : e.platform.magicAccessors = ({} : Platform).magicAccessors := by rw [X.admits.platform]
  obtain ⟨vm', X', st⟩ := X.caughtThrough q (g := F0 m pc ls rest) rfl (cell := ce) (by rw [hT]; exact o1) (by rw [o2]; rfl) hk0 pre x suf hsplit (fun z hz => by
    obtain ⟨g1, nm, g2, cE, cN, g3, g4, g5⟩ := hpass z hz
    cases o3.symm.trans g3
    obtain ⟨c', hc', hcl⟩ := Cond.classLink_spec hown g2 e.platform hpl
    cases g4.symm.trans hc'
    exact Or.inr ⟨g1, cN, hcl, g5⟩) hx hend
  obtain ⟨t2, a1, b1⟩ := kk (T.setVm vm') hT X'
  refine ⟨t2, ?_, b1⟩
  rw [X.pushThrowing_eq]
  exact st t2 a1
end XMC
