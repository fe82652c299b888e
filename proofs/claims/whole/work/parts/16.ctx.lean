/-! the context of every contract: the tables' words, and the array classes -/
def TX (U : State) : Prop := ∀ w ∈ TW, w.before #[] U = true
theorem tw_on {w : Cond} (h : w ∈ TW) : w.onTables = true ∧ w.keepsH = true := by
  have g := (List.mem_filter.mp h).2
  unfold TWg at g
  exact Bool.and_eq_true_iff.mp g
theorem TX.use {U : State} (h : TX U) {w : Cond} (hw : w ∈ TW) (A : Array Value) : w.before A U = true := va_Nw.use (tw_on hw).1 (h w hw)
theorem TX.warm {s U : State} (hW : s.WarmedH U.vm) (h : TX s) : TX U := fun w hw => by
  have h1 := Cond.holds_shiftedH (args := #[]) (o := none) (State.Shifted.of_warmed hW) (fun m x hx => by rw [hW.hostNow]; exact hx) w [] (tw_on hw).2 (h w hw)
  exact va_tabs (A := #[]) (A' := #[]) (tw_on hw).1 (rfl : (s.setVm U.vm).vm = U.vm) h1
theorem jx_TX : jw_X TX := fun _ _ hW _ h => h.warm hW
abbrev jt (cs : Nat → ClassId) : List (ClassId × FieldType) := [(cs 0, .int), (cs 1, .long), (cs 2, .array .int)]
theorem gd_ {y : MethodName} {c : ByteArray} {n : Nat} {r : Option FieldType} (h : Cond.code y c n r ∈ TW) : GoodIn TW [Cond.code y c n r] := fun w hw => by
  rw [List.mem_singleton.mp hw]
  exact ⟨h, Or.inl rfl⟩
theorem jw_cB {R : Room} {s : State} {args : Array Value} {own : String} {index : Nat} {y : MethodName} {bytes : ByteArray} {maxL : Nat} {ret : Option FieldType} {rm : Room} {mc ms : Nat} (n : Nat) (hts : ∀ w ∈ TW, w.before args s = true) (hc : Cond.code y bytes maxL ret ∈ TW) (hrc : rm.cells = mc) (hrs : rm.slots = ms) (hini : Cond.initialized y.cls ∈ TW) (hl : Cond.methodLink own index y ∈ TW)
    (hd : y.cls ≠ "java/lang/invoke/MethodHandle" ∧ y.cls ≠ "java/lang/invoke/VarHandle" ∧ (parseMethodDescriptor y.desc).map (fun d => d.parameters.length) = some n) (hR : rm.frames + 1 ≤ R.frames ∧ 8 + (maxL + 11) + rm.locals ≤ R.locals) : CallB R s args own index y bytes maxL ret [Cond.code y bytes maxL ret] rm mc ms n :=
  callB_of n hts (gd_ hc) rfl hrc hrs (hts _ hini) (hts _ hl) hd hR
theorem jw_cN {R : Room} {s : State} {args : Array Value} {own host : String} {index : Nat} {y : MethodName} {bytes : ByteArray} {maxL : Nat} {ret : Option FieldType} {rm : Room} {mc ms : Nat} (n : Nat) (hT : TX s) (hc : Cond.code y bytes maxL ret ∈ TW) (hrc : rm.cells = mc) (hrs : rm.slots = ms) (hini : Cond.initialized y.cls ∈ TW) (hl : Cond.methodLinkNest own index y host ∈ TW)
    (hd : y.cls ≠ "java/lang/invoke/MethodHandle" ∧ y.cls ≠ "java/lang/invoke/VarHandle" ∧ (parseMethodDescriptor y.desc).map (fun d => d.parameters.length) = some n) (hR : rm.frames + 1 ≤ R.frames ∧ 8 + (maxL + 11) + rm.locals ≤ R.locals) : va_CN R s args own index y host bytes maxL ret [Cond.code y bytes maxL ret] rm mc ms n :=
  va_cnB n (fun w h => hT.use h args) (gd_ hc) rfl hrc hrs (hT _ hl) (hT.use hini args) hd hR
/-- an array's contents, said otherwise where it has places -/
theorem jw_cellJ {cA : ClassId} {n : Nat} {f g : Nat → Int64} (h : ∀ j, j < n → f j = g j) : vp_cell cA (n, .inr (.inl f)) = vp_cell cA (n, .inr (.inl g)) := by
  rw [vp_cell_l, vp_cell_l]
  unfold arrV
  congr 2
  funext j
  show Value.long (f j.val) = Value.long (g j.val)
  rw [h j.val j.isLt]
theorem jw_cellI {cA : ClassId} {n : Nat} {f g : Nat → Int32} (h : ∀ j, j < n → f j = g j) : vp_cell cA (n, .inl f) = vp_cell cA (n, .inl g) := by
  rw [vp_cell_i, vp_cell_i]
  unfold arrV
  congr 2
  funext j
  show Value.int (f j.val) = Value.int (g j.val)
  rw [h j.val j.isLt]
theorem jw_reP {D : va_G} {cl : List vw_C} {ws : va_W} {H : Heap} {q a : Nat} {x y : ClassId × vp_A} (hP : va_P D cl ws H) (ha : ws[q]? = some (a, .inl x)) (h : vp_cell x.1 x.2 = vp_cell y.1 y.2) : va_P D cl (ws.set q (a, .inl y)) H := fun k z hz => by
  rw [List.getElem?_set] at hz
  by_cases e : q = k
  · subst e
    rw [if_pos rfl] at hz
    have hl : q < ws.length := (List.getElem?_eq_some_iff.mp ha).1
    rw [if_pos hl] at hz
    cases hz
    have h1 := hP q _ ha
    show H[a]? = some (vp_cell y.1 y.2)
    rw [← h]
    exact h1
  · rw [if_neg e] at hz
    exact hP k z hz
theorem nI_dec (k : Nat) : nI k + Int32.ofInt (-1) = nI k - 1 := by
  rw [Int32.sub_eq_add_neg]
  rfl
