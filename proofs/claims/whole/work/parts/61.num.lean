/-! longs as they come -/
section JWR2
variable {p : Program} {l : Launch} {e : Env} {R : Room} {s : State} {m : MethodId} {args : Array Value} {below : List Frame} {meth : Method} {c : Code} {H : Heap} {locs : List Loc} {cells slots : Nat} {Q : State → Prop}
variable {cc : ByteArray} {pc : Nat} {ls : Array Slot} {rest : List Value}
theorem jr_lcmp_eq (hx : p.tables.exec = Jvm.exec) (hb : c.code = cc) {x y : Int64} {off : Int} {tgt : Nat} (hd0 : decode cc pc = .ok (.lcmp, 1)) (hdg : decode cc (pc + 1) = .ok (.ifCond .eq off, 3)) (ht : ((pc + 1 : Nat) : Int) + off = (tgt : Int))
    (kt : x = y → W p l e R s m args below meth c H locs cells slots Q (F0 m tgt ls (rest))) (kf : ¬ x = y → W p l e R s m args below meth c H locs cells slots Q (F0 m (pc + 1 + 3) ls (rest))) : W p l e R s m args below meth c H locs cells slots Q (F0 m pc ls (.long y :: .long x :: rest)) := W.lcmp hx hb hd0 (lv_if_eq hx hb hdg ht (fun q => kt ((lg_cmp_eq x y).mp q)) (fun q => kf (fun z => q ((lg_cmp_eq x y).mpr z))))
theorem jr_lcmp_ne (hx : p.tables.exec = Jvm.exec) (hb : c.code = cc) {x y : Int64} {off : Int} {tgt : Nat} (hd0 : decode cc pc = .ok (.lcmp, 1)) (hdg : decode cc (pc + 1) = .ok (.ifCond .ne off, 3)) (ht : ((pc + 1 : Nat) : Int) + off = (tgt : Int))
    (kt : ¬ x = y → W p l e R s m args below meth c H locs cells slots Q (F0 m tgt ls (rest))) (kf : x = y → W p l e R s m args below meth c H locs cells slots Q (F0 m (pc + 1 + 3) ls (rest))) : W p l e R s m args below meth c H locs cells slots Q (F0 m pc ls (.long y :: .long x :: rest)) := W.lcmp hx hb hd0 (lv_if_ne hx hb hdg ht (fun q => kt (fun z => q ((lg_cmp_eq x y).mpr z))) (fun q => kf ((lg_cmp_eq x y).mp q)))
theorem jr_lcmp_lt (hx : p.tables.exec = Jvm.exec) (hb : c.code = cc) {x y : Int64} {off : Int} {tgt : Nat} (hd0 : decode cc pc = .ok (.lcmp, 1)) (hdg : decode cc (pc + 1) = .ok (.ifCond .lt off, 3)) (ht : ((pc + 1 : Nat) : Int) + off = (tgt : Int))
    (kt : x < y → W p l e R s m args below meth c H locs cells slots Q (F0 m tgt ls (rest))) (kf : ¬ x < y → W p l e R s m args below meth c H locs cells slots Q (F0 m (pc + 1 + 3) ls (rest))) : W p l e R s m args below meth c H locs cells slots Q (F0 m pc ls (.long y :: .long x :: rest)) := W.lcmp hx hb hd0 (lv_if_lt hx hb hdg ht (fun q => kt ((lg_cmp_lt x y).mp q)) (fun q => kf (fun z => q ((lg_cmp_lt x y).mpr z))))
theorem jr_lcmp_ge (hx : p.tables.exec = Jvm.exec) (hb : c.code = cc) {x y : Int64} {off : Int} {tgt : Nat} (hd0 : decode cc pc = .ok (.lcmp, 1)) (hdg : decode cc (pc + 1) = .ok (.ifCond .ge off, 3)) (ht : ((pc + 1 : Nat) : Int) + off = (tgt : Int))
    (kt : y ≤ x → W p l e R s m args below meth c H locs cells slots Q (F0 m tgt ls (rest))) (kf : ¬ y ≤ x → W p l e R s m args below meth c H locs cells slots Q (F0 m (pc + 1 + 3) ls (rest))) : W p l e R s m args below meth c H locs cells slots Q (F0 m pc ls (.long y :: .long x :: rest)) := W.lcmp hx hb hd0 (lv_if_ge hx hb hdg ht (fun q => kt ((lg_cmp_ge x y).mp q)) (fun q => kf (fun z => q ((lg_cmp_ge x y).mpr z))))
theorem jr_lcmp_gt (hx : p.tables.exec = Jvm.exec) (hb : c.code = cc) {x y : Int64} {off : Int} {tgt : Nat} (hd0 : decode cc pc = .ok (.lcmp, 1)) (hdg : decode cc (pc + 1) = .ok (.ifCond .gt off, 3)) (ht : ((pc + 1 : Nat) : Int) + off = (tgt : Int))
    (kt : y < x → W p l e R s m args below meth c H locs cells slots Q (F0 m tgt ls (rest))) (kf : ¬ y < x → W p l e R s m args below meth c H locs cells slots Q (F0 m (pc + 1 + 3) ls (rest))) : W p l e R s m args below meth c H locs cells slots Q (F0 m pc ls (.long y :: .long x :: rest)) := W.lcmp hx hb hd0 (lv_if_gt hx hb hdg ht (fun q => kt ((lg_cmp_gt x y).mp q)) (fun q => kf (fun z => q ((lg_cmp_gt x y).mpr z))))
theorem jr_lcmp_le (hx : p.tables.exec = Jvm.exec) (hb : c.code = cc) {x y : Int64} {off : Int} {tgt : Nat} (hd0 : decode cc pc = .ok (.lcmp, 1)) (hdg : decode cc (pc + 1) = .ok (.ifCond .le off, 3)) (ht : ((pc + 1 : Nat) : Int) + off = (tgt : Int))
    (kt : x ≤ y → W p l e R s m args below meth c H locs cells slots Q (F0 m tgt ls (rest))) (kf : ¬ x ≤ y → W p l e R s m args below meth c H locs cells slots Q (F0 m (pc + 1 + 3) ls (rest))) : W p l e R s m args below meth c H locs cells slots Q (F0 m pc ls (.long y :: .long x :: rest)) := W.lcmp hx hb hd0 (lv_if_le hx hb hdg ht (fun q => kt ((lg_cmp_le x y).mp q)) (fun q => kf (fun z => q ((lg_cmp_le x y).mpr z))))
end JWR2
theorem lN_of {h : Int64} (g : ¬ h < 0) : ∃ n, n < 2 ^ 63 ∧ h = lN n := by
  have h0 : (0 : Int64) ≤ h := Int64.not_lt.mp g
  have h1 : 0 ≤ h.toInt := by have := Int64.le_iff_toInt_le.mp h0; simpa using this
  have h2 : h.toInt < 2 ^ 63 := Int64.toInt_lt h
  refine ⟨h.toInt.toNat, by omega, ?_⟩
  apply Int64.toInt_inj.mp
  have h3 : (lN h.toInt.toNat).toInt = ((h.toInt.toNat : Nat) : Int) := Int64.toInt_ofNat_of_lt (by omega)
  rw [h3]
  omega
theorem lN_ss (a b c : Nat) : (lN a - lN b) - lN c = lN a - lN (b + c) := by
  rw [← lN_add, Int64.sub_eq_add_neg, Int64.sub_eq_add_neg, Int64.sub_eq_add_neg, Int64.neg_add, Int64.sub_eq_add_neg, Int64.add_assoc]
theorem lN_s0 (a : Nat) : lN a = lN a - lN 0 := by
  rw [show lN 0 = 0 from rfl]; simp
def wl_ (h : Int64) (b : Nat) : Prop := ∃ k, k ≤ b ∧ h = lN k
theorem wl_of {h : Int64} {b : Nat} (hb : b < 2 ^ 63) : (¬ h < lN 0 ∧ ¬ lN b < h) ↔ wl_ h b := by
  constructor
  · rintro ⟨h1, h2⟩
    obtain ⟨n, hn, rfl⟩ := lN_of h1
    exact ⟨n, by have := (pk_lLT hb hn).mpr; apply Decidable.byContradiction; intro q; exact h2 (this (by omega)), rfl⟩
  · rintro ⟨k, h1, rfl⟩
    refine ⟨fun q => ?_, fun q => ?_⟩
    · have := (pk_lLT (by omega) (by decide)).mp q; omega
    · have := (pk_lLT hb (by omega)).mp q; omega
/-- what is lost from the top down to the pipe before v, with one more; 0 if one has no size -/
def pe_ (lo par : Nat → Nat) : Nat → Nat → Nat
  | 0, _ => 1
  | f + 1, v => if v = 0 then 1 else if lo (v - 1) = 0 then 0 else if pe_ lo par f (par (v - 1)) = 0 then 0 else pe_ lo par f (par (v - 1)) + (lo (v - 1) - 1)
theorem pe_0 (lo par : Nat → Nat) : ∀ f, pe_ lo par f 0 = 1
  | 0 => rfl
  | _ + 1 => if_pos rfl
theorem pe_fuel {lo par : Nat → Nat} {np : Nat} (hpar : ∀ i, i < np → par i ≤ i) : ∀ f v, v ≤ f → v ≤ np → pe_ lo par f v = pe_ lo par v v
  | 0, v, h, _ => by rw [Nat.le_zero.mp h]
  | f + 1, 0, _, _ => (pe_0 lo par (f + 1)).trans (pe_0 lo par 0).symm
  | f + 1, v + 1, h, hn => by
    have hp := hpar v (by omega)
    show (if v + 1 = 0 then 1 else if lo (v + 1 - 1) = 0 then 0 else if pe_ lo par f (par (v + 1 - 1)) = 0 then 0 else pe_ lo par f (par (v + 1 - 1)) + (lo (v + 1 - 1) - 1)) = (if v + 1 = 0 then 1 else if lo (v + 1 - 1) = 0 then 0 else if pe_ lo par v (par (v + 1 - 1)) = 0 then 0 else pe_ lo par v (par (v + 1 - 1)) + (lo (v + 1 - 1) - 1))
    rw [Nat.add_sub_cancel, pe_fuel hpar f (par v) (by omega) (by omega), pe_fuel hpar v (par v) hp (by omega)]
/-- .. to pipe i -/
def pd_ (lo par : Nat → Nat) (i : Nat) : Nat := pe_ lo par 20 (i + 1)
theorem pd_s {lo par : Nat → Nat} {np i : Nat} (hpar : ∀ i, i < np → par i ≤ i) (hnp : np ≤ 20) (hi : i < np) : pd_ lo par i = if lo i = 0 then 0 else if par i = 0 then lo i else if pd_ lo par (par i - 1) = 0 then 0 else pd_ lo par (par i - 1) + (lo i - 1) := by
  have hp := hpar i hi
  unfold pd_
  show (if i + 1 = 0 then 1 else if lo (i + 1 - 1) = 0 then 0 else if pe_ lo par 19 (par (i + 1 - 1)) = 0 then 0 else pe_ lo par 19 (par (i + 1 - 1)) + (lo (i + 1 - 1) - 1)) = _
  rw [if_neg (by omega), Nat.add_sub_cancel]
  by_cases q : lo i = 0
  · rw [if_pos q, if_pos q]
  · rw [if_neg q, if_neg q]
    by_cases z : par i = 0
    · rw [if_pos z, z, pe_0, if_neg (by omega)]; omega
    · rw [if_neg z, show par i - 1 + 1 = par i from by omega, pe_fuel hpar 19 (par i) (by omega) (by omega), pe_fuel hpar 20 (par i) (by omega) (by omega)]
theorem pe_le {lo par : Nat → Nat} {B : Nat} (h : ∀ i, lo i ≤ B + 1) : ∀ f v, pe_ lo par f v ≤ B * f + 1
  | 0, _ => Nat.le_of_eq (by simp [pe_])
  | f + 1, v => by
    have h1 := pe_le (par := par) h f (par (v - 1))
    have h2 := h (v - 1)
    rw [Nat.mul_succ]
    show (if v = 0 then 1 else if lo (v - 1) = 0 then 0 else if pe_ lo par f (par (v - 1)) = 0 then 0 else pe_ lo par f (par (v - 1)) + (lo (v - 1) - 1)) ≤ _
    split
    · omega
    · split
      · omega
      · split <;> omega
/-- what the first n pipes cost, with one more; 0 if one has no size -/
def cs_ (b ln pr : Nat → Nat) : Nat → Nat
  | 0 => 1
  | n + 1 => if cs_ b ln pr n = 0 then 0 else if b n = 0 then 0 else cs_ b ln pr n + ln n * pr (b n - 1)
theorem cs_z {b ln pr : Nat → Nat} {i : Nat} (h : cs_ b ln pr i = 0) : ∀ n, i ≤ n → cs_ b ln pr n = 0
  | 0, g => by
    have e0 : i = 0 := Nat.le_zero.mp g
    subst e0
    exact h
  | n + 1, g => by
    by_cases q : i = n + 1
    · rw [← q]; exact h
    · show (if cs_ b ln pr n = 0 then 0 else _) = 0
      rw [if_pos (cs_z h n (by omega))]
/-- the first of the first n with the most -/
def wo_ (d : Nat → Nat) : Nat → Nat
  | 0 => 0
  | n + 1 => if d (wo_ d n) < d n then n else wo_ d n
theorem wo_lt (d : Nat → Nat) : ∀ n, 0 < n → wo_ d n < n
  | 0, h => absurd h (Nat.lt_irrefl 0)
  | 1, _ => by show (if d 0 < d 0 then 0 else 0) < 1; split <;> omega
  | n + 2, _ => by
    have := wo_lt d (n + 1) (by omega)
    show (if d (wo_ d (n + 1)) < d (n + 1) then n + 1 else wo_ d (n + 1)) < n + 2
    split <;> omega
