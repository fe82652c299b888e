/-! 'throw new E("text")' anywhere in a body -/
theorem xm_throwG {p : Program} {l : Launch} {e : Env} {R : Room} {s : State} {m : MethodId} {args : Array Value} {below : List Frame} {meth : Method} {c : Code} {H : Heap} {locs : List Loc} {cells slots : Nat}
    {Qc : Array Value → State → Outcome → State → Prop} {EC : String → State → State → Prop} {free : Addr → Prop} {mc ms : Nat} {ls : Array Slot} {rest : List Value} {pc : Nat} {cc : ByteArray} (hx : p.tables.exec = Jvm.exec) (hb : c.code = cc) (hl : l.stackTraces = false) {own cls text : String} {names : List String} {ik is ic : Nat} (hown : s.vm.findClass own = some m.cls) (hcls : Bundle.fit cls = true) (hnames : ∀ n ∈ names, Bundle.fit n = true)
    (hw : ∀ U : State, U.vm = s.vm → U.heap = H → (Cond.classLink own ik cls).before args U = true ∧ (Cond.initialized cls).before args U = true ∧ (Cond.stringRef own is text).before args U = true ∧ ∀ a ∈ Bundle.ownAtoms own ic cls names, a.before args U = true) (hsize : ls.size = c.maxLocals)
    (d0 : decode cc pc = .ok (.new ik, 3)) (d3 : decode cc (pc + 3) = .ok (.dup, 1)) (d4 : decode cc (pc + 4) = .ok (.ldc is, 2)) (d6 : decode cc (pc + 6) = .ok (.invokespecial ic, 3)) (d9 : decode cc (pc + 9) = .ok (.athrow, 1))
    (hout : c.exceptionTable.isEmpty = true) (hRframes : names.length + 3 < R.frames) (hRlocals : (rest.map fun v => v.category).sum + (13 * (names.length + 1) + 43) ≤ R.locals) (hRcells : cells + 1 ≤ R.cells) (hRslots : slots + 6 ≤ R.slots) (hlocks : meth.locks = false)
    (hE : ∀ t : State, H.size ≤ t.heap.size → (∀ q : Nat, q < H.size → t.heap[q]? = H[q]?) → EC cls s t) (hf : ∀ z ∈ locs, free z.base) (hc : cells + 1 ≤ mc) (hs : slots + 6 ≤ ms) :
    W p l e R s m args below meth c H locs cells slots (xm_MQ below Qc EC args s mc ms free) (F0 m pc ls rest) := by
  intro T hT X
  have X' := xm_rebase (R' := { frames := R.frames, cells := 1, slots := 6, locals := R.locals }) X (Nat.le_refl _) (Nat.le_refl _) hRcells hRslots
  obtain ⟨k1, k2, k3, k4⟩ := hw ((T.setVm s.vm).setFrames (.invoking m args :: below)) rfl hT
  obtain ⟨t, st, o, r1, r2, r3⟩ := xm_throwS (s := (T.setVm s.vm).setFrames (.invoking m args :: below)) (R := { frames := R.frames, cells := 1, slots := 6, locals := R.locals }) (Qc := fun _ _ _ _ => False) (EC := fun E u t => E = cls ∧ u.heap.size ≤ t.heap.size ∧ ∀ q : Nat, q < u.heap.size → t.heap[q]? = u.heap[q]?) (free := fun _ => False) (mc := 1) (ms := 6) hx hb hl hown hcls hnames k1 k2 k3 k4 hsize d0 d3 d4 d6 d9 hout hRframes hRlocals (Nat.le_refl _) (Nat.le_refl _) hlocks (fun t h1 h2 => ⟨rfl, h1, h2⟩) (Nat.le_refl _) (Nat.le_refl _) T rfl X'
  rcases r3 with ⟨hF, -⟩ | ⟨q, E, L, rfl, ⟨rfl, e1, e2⟩, ho, ⟨hW, hsm⟩, hL⟩
  · exact hF.elim
  · have hL0 : L = [] := by
      cases L with
      | nil => rfl
      | cons z zs => exact (hL z List.mem_cons_self).elim
    subst hL0
    have hsm2 : (T.setVm s.vm).sameButNew ({ t with vm := s.vm } : State) [] 1 6 := by
      obtain ⟨q1, q2, q3, q4, q5, q6⟩ := hsm
      refine ⟨?_, q2, q3, q4, q5, q6⟩
      rw [State.setFrames_setFrames] at q1
      exact q1
    have hsame : s.sameButNew ({ t with vm := s.vm } : State) (locs ++ []) (cells + 1) (slots + 6) := X.same.trans hsm2
    rw [List.append_nil] at hsame
    have eH : ((T.setVm s.vm).setFrames (.invoking m args :: below)).heap = H := hT
    rw [eH] at e1 e2
    exact ⟨t, st, .threw q, r1, r2, Or.inr ⟨q, E, locs, rfl, hE t e1 e2, ho, ⟨hW, hsame.mono hc hs⟩, hf⟩⟩
/-! the words of a throw: those of the tables, and the two statics of Throwable -/
def XA_ : List Cond := Bundle.ownAtoms "UseOdds" 230 "java/lang/IllegalArgumentException" ["java/lang/RuntimeException", "java/lang/Exception"]
def XS_ : List Cond := Bundle.ownAtoms "UseOdds" 78 "java/lang/IllegalStateException" ["java/lang/RuntimeException", "java/lang/Exception"]
def xt_c : Cond → Bool
  | .castable .. => true
  | .declares _ => true
  | _ => false
def xt_k (w : Cond) : Bool := w.onTables && (w.keepsH || xt_c w)
def XW_ : List Cond := (XA_ ++ XS_).filter xt_k
def XT (U : State) : Prop := ∀ w ∈ XW_, w.before #[] U = true
theorem XT.warm {s U : State} (hW : s.WarmedH U.vm) (h : XT s) : XT U := fun w hw => by
  have g := (List.mem_filter.mp hw).2
  unfold xt_k at g
  obtain ⟨g1, g2⟩ := Bool.and_eq_true_iff.mp g
  rcases Bool.or_eq_true_iff.mp g2 with g2 | g2
  · have h1 := Cond.holds_shiftedH (args := #[]) (o := none) (State.Shifted.of_warmed hW) (fun m x hx => by rw [hW.hostNow]; exact hx) w [] g2 (h w hw)
    exact va_tabs (A := #[]) (A' := #[]) g1 (rfl : (s.setVm U.vm).vm = U.vm) h1
  · cases w <;> first | exact va_Nw.warmC hW (h _ hw) | exact va_Nw.warmD hW (h _ hw) | (simp [xt_c] at g2)
def xt_4 : List Cond := [.laysStatic Bundle.tN "UNASSIGNED_STACK" Bundle.steD, .laysStatic Bundle.tN "SUPPRESSED_SENTINEL" Bundle.listD, .isRef (.static Bundle.tN "UNASSIGNED_STACK" Bundle.steD), .isRef (.static Bundle.tN "SUPPRESSED_SENTINEL" Bundle.listD)]
set_option maxRecDepth 20000 in
theorem xt_all : ∀ a ∈ XA_ ++ XS_, xt_k a = true ∨ a ∈ xt_4 := by decide +kernel
/-- a static of Throwable that holds null or a reference, in a cell outside A -/
def eh_ (n d : String) (A : Nat → Prop) (U : State) (H : Heap) : Prop := ∃ (cT : ClassId) (k : Class) (i : Nat) (f : Field) (a : Nat) (cell : Cell) (v : Value), U.vm.findClass Bundle.tN = some cT ∧ U.fieldFound? Bundle.tN n d = some (cT, k, i, f) ∧ f.isStatic = true ∧ k.statics = some a ∧ H[a]? = some cell ∧ cell.vm.isStatics = true ∧ cell.cls = cT ∧ f.slot < cell.slots.size ∧ k.staticTypes[f.slot]? = some f.type ∧ cell.slots[f.slot]? = some v ∧ v.isRef = true ∧ ¬ A a
theorem eh_.moved {n d : String} {A : Nat → Prop} {u U : State} {H : Heap} (hvm : u.vm.Alike U.vm) (h : eh_ n d A u H) : eh_ n d A U H := by
  obtain ⟨cT, k, i, f, a, cell, v, h1, h2, h3, h4, h5, h6, h7, h8, h9, h10⟩ := h
  obtain ⟨k', hi', hek⟩ := State.fieldFound?_setVm hvm h2
  exact ⟨cT, k', i, f, a, cell, v, by rw [hvm.findClass]; exact h1, hi', h3, by rw [hek]; exact h4, h5, h6, h7, h8, by rw [hek]; exact h9, h10⟩
theorem eh_.kept {n d : String} {A : Nat → Prop} {U : State} {H H1 : Heap} (h : eh_ n d A U H) (hq : ∀ a : Nat, a < H.size → ¬ A a → H1[a]? = H[a]?) : eh_ n d A U H1 := by
  obtain ⟨cT, k, i, f, a, cell, v, h1, h2, h3, h4, h5, h6, h7, h8, h9, h10, h11, h12⟩ := h
  exact ⟨cT, k, i, f, a, cell, v, h1, h2, h3, h4, by rw [hq a (Array.getElem?_eq_some_iff.mp h5).1 h12]; exact h5, h6, h7, h8, h9, h10, h11, h12⟩
theorem eh_.narrow {n d : String} {A B : Nat → Prop} {U : State} {H : Heap} (h : eh_ n d A U H) (hAB : ∀ q, B q → A q) : eh_ n d B U H := by
  obtain ⟨cT, k, i, f, a, cell, v, h1, h2, h3, h4, h5, h6, h7, h8, h9, h10, h11, h12⟩ := h
  exact ⟨cT, k, i, f, a, cell, v, h1, h2, h3, h4, h5, h6, h7, h8, h9, h10, h11, fun z => h12 (hAB a z)⟩
theorem eh_.words {n d : String} {A : Nat → Prop} {U : State} (h : eh_ n d A U U.heap) (args : Array Value) : (Cond.laysStatic Bundle.tN n d).before args U = true ∧ (Cond.isRef (.static Bundle.tN n d)).before args U = true := by
  obtain ⟨cT, k, i, f, a, cell, v, h1, h2, h3, h4, h5, h6, h7, h8, h9, h10, h11, h12⟩ := h
  refine ⟨Cond.laysStatic_of h1 h2 h3 h4 h5 h6 h7 h8 h9, ?_⟩
  have he : (Term.static Bundle.tN n d).eval args U none [] U = some v := by
    simp [Term.eval, State.fieldNamed?, h2, h3, h4, h5, h6, h10]
  simp only [Cond.before, Cond.holds, Cond.value, he]
  cases v <;> simp [Value.isRef] at h11 ⊢
theorem eh_.of {n d : String} {A : Nat → Prop} {U : State} {args : Array Value} (h1 : (Cond.laysStatic Bundle.tN n d).before args U = true) (h2 : (Cond.isRef (.static Bundle.tN n d)).before args U = true) (hA : ∀ a : Nat, a < U.heap.size → ¬ A a) : eh_ n d A U U.heap := by
  obtain ⟨c, k, i, f, a, cell, hc, hi, hst, ha, hcell, hs, hcls, hlt, hty⟩ := Cond.laysStatic_spec h1
  have hv : cell.slots[f.slot]? = some cell.slots[f.slot] := Array.getElem?_eq_getElem hlt
  have he : (Term.static Bundle.tN n d).eval args U none [] U = some cell.slots[f.slot] := by
    simp [Term.eval, State.fieldNamed?, hi, hst, ha, hcell, hs, hv]
  refine ⟨c, k, i, f, a, cell, cell.slots[f.slot], hc, hi, hst, ha, hcell, hs, hcls, hlt, hty, hv, ?_, hA a (Array.getElem?_eq_some_iff.mp hcell).1⟩
  simp only [Cond.before, Cond.holds, Cond.value, he] at h2
  revert h2
  generalize cell.slots[f.slot] = v
  intro h2
  cases v <;> simp [Value.isRef] at h2 ⊢
