/-! BASE: worlds of this claim, partial functions, entry, return and call rows in one piece each -/
abbrev TY (C : Nat → ClassId) : List (ClassId × FieldType) := [(C 0, .int), (C 1, .boolean), (C 2, .object "LentCourage$Moment"), (C 3, .object "LentCourage$Ledger")]
abbrev ob (a ci : Nat) (fs : List Value) : Nat × va_E := (a, .inr (ci, fs))
abbrev ia (C : Nat → ClassId) (a n : Nat) (f : Nat → Int32) : Nat × va_E := (a, .inl (C 0, n, .inl f))
abbrev za (C : Nat → ClassId) (a n : Nat) (f : Nat → Int32) : Nat × va_E := (a, .inl (C 1, n, .inl f))
abbrev vin (i : Int32) (n : Nat) : Prop := ¬ (i < 0 ∨ n ≤ i.toNatClampNeg)
abbrev okZ (x : Int32) : Prop := x = 0 ∨ x = 1
def chk {α : Type} (c : Prop) [Decidable c] (k : Option α) : Option α := if c then k else none
theorem of_chk {α : Type} {c : Prop} [Decidable c] {k : Option α} {o : α} (h : chk c k = some o) : c ∧ k = some o := by
  unfold chk at h
  by_cases hc : c
  · rw [if_pos hc] at h; exact ⟨hc, h⟩
  · rw [if_neg hc] at h; cases h
def lt_ {α β : Type} (v : α) (k : α → Option β) : Option β := k v
theorem of_lt {α β : Type} {v y : α} {k : α → Option β} {o : β} (h : lt_ v k = some o) (e : y = v) : k y = some o := by subst e; exact h
theorem of_pos {α : Type} {c : Prop} [Decidable c] {a b : Option α} {o : α} (h : (if c then a else b) = some o) (hc : c) : a = some o := by rw [if_pos hc] at h; exact h
theorem of_neg {α : Type} {c : Prop} [Decidable c] {a b : Option α} {o : α} (h : (if c then a else b) = some o) (hc : ¬ c) : b = some o := by rw [if_neg hc] at h; exact h
theorem of_bind {α β : Type} {x : Option α} {k : α → Option β} {o : β} (h : x.bind k = some o) : ∃ a, x = some a ∧ k a = some o := by
  cases x with
  | none => cases h
  | some a => exact ⟨a, rfl, h⟩
theorem okZ_nar {x : Int32} (h : okZ x) : narrow .boolean (.int x) = .int x := by rcases h with rfl | rfl <;> decide
theorem okZ_fit {x : Int32} (h : okZ x) : fits .boolean (.int x) = true := by rcases h with rfl | rfl <;> decide
theorem okZ_0 : okZ 0 := Or.inl rfl
theorem okZ_1 : okZ 1 := Or.inr rfl
theorem okZ_ite {c : Prop} [Decidable c] {a b : Int32} (ha : okZ a) (hb : okZ b) : okZ (if c then a else b) := by
  by_cases h : c
  · rw [if_pos h]; exact ha
  · rw [if_neg h]; exact hb
theorem tOut {x : Int32} {lo hi : Int} (h : ∀ k : Int, lo ≤ k → k ≤ hi → ¬ x.toInt = k) : x.toInt < lo ∨ hi < x.toInt := by
  by_cases h1 : x.toInt < lo
  · exact Or.inl h1
  · by_cases h2 : hi < x.toInt
    · exact Or.inr h2
    · exact absurd rfl (h x.toInt (by omega) (by omega))
def cpn (f g : Nat → Int32) (k : Nat) : Nat → Int32 := fun i => if i < k then f i else g i
abbrev mPre (D : va_G) (C : Nat → ClassId) (ws : va_W) (sz : Nat) : State → Prop := fun U => U.heap.size = sz ∧ va_P D vwCl ws U.heap ∧ va_K D vwCl (TY C) U ∧ va_D (fun _ => True) ws
abbrev mB (D : va_G) (C : Nat → ClassId) (A : Nat → Prop) (ws : va_W) : Unit → State → Prop := fun _ t => va_P D vwCl ws t.heap ∧ va_K D vwCl (TY C) t ∧ va_D A ws
abbrev MI (l : Launch) (y : MethodName) (w : List Cond) (rm : Room) (D : va_G) (C : Nat → ClassId) (av : List Value) (W0 W1 : va_W) (sz : Nat) (r : Int32) : Prop :=
  Met l y w rm (va_Pc av (mPre D C W0 sz)) (va_Qi (fun (x : Int32) (_ : Unit) => x = r) (mB D C (va_A W0 sz) W1) (va_A W0 sz)) 0 0 (va_A W0 sz)
abbrev ML (l : Launch) (y : MethodName) (w : List Cond) (rm : Room) (D : va_G) (C : Nat → ClassId) (av : List Value) (W0 W1 : va_W) (sz : Nat) (r : Int64) : Prop :=
  Met l y w rm (va_Pc av (mPre D C W0 sz)) (va_Ql (fun (x : Int64) (_ : Unit) => x = r) (mB D C (va_A W0 sz) W1) (va_A W0 sz)) 0 0 (va_A W0 sz)
abbrev MV (l : Launch) (y : MethodName) (w : List Cond) (rm : Room) (D : va_G) (C : Nat → ClassId) (av : List Value) (W0 W1 : va_W) (sz : Nat) : Prop :=
  Met l y w rm (va_Pc av (mPre D C W0 sz)) (va_Qv (fun (_ : Unit) => True) (mB D C (va_A W0 sz) W1) (va_A W0 sz)) 0 0 (va_A W0 sz)
section ENTRY
variable {l : Launch} {y : MethodName} {w w' : List Cond} {rm : Room} {D : va_G} {C : Nat → ClassId} {av : List Value} {W0 W1 : va_W} {sz : Nat} {cc : ByteArray} {maxL : Nat} {ret : Option FieldType}
theorem en_G {Qc : (Nat → Prop) → Array Value → State → Outcome → State → Prop} (hy : plainName y.cls = true) (hw : w = Cond.code y cc maxL ret :: w') (hn : (lg_sl av).length ≤ maxL)
    (body : ∀ (p : Program) (e : Env) (s : State) (m : MethodId) (below : List Frame) (meth : Method) (c : Code) (A : Nat → Prop) (ls : Array Slot) (H : Heap) (locs : List Loc), p.tables.exec = Jvm.exec → c.code = cc → meth.sig.returnType = ret → meth.locks = false → c.maxLocals = maxL → (∀ q ∈ w, q.before av.toArray s = true) → s.vm.findClass y.cls = some m.cls → va_K D vwCl (TY C) s → va_P D vwCl W0 H → va_D A W0 → va_S A s.heap H locs → (∀ q, s.heap.size ≤ q → A q) → lv_has ls maxL (lv_args 0 av) →
      W p l e rm s m av.toArray below meth c H locs 0 0 (MQ below (Qc A) av.toArray s 0 0 A) (F0 m 0 ls [])) : Met l y w rm (va_Pc av (mPre D C W0 sz)) (Qc (va_A W0 sz)) 0 0 (va_A W0 sz) := by
  refine Met.ofW hy hw ?_
  intro p e s m args below meth c s₁ B hml hv
  obtain ⟨rfl, hsz, hP, hK, hD0⟩ := hv
  subst hsz
  have key := body p e s m below meth c (va_A W0 s.heap.size) _ s.heap [] B.exec B.bytes B.returns B.notSynchronized hml (atoms_spec (ws := w) B.pre) (findClass_of_methodNamed B.named) hK hP hD0.self va_S.rf (fun q h => Or.inr h) (lv_entry av hn)
  rw [lg_entry_eq]
  exact key
abbrev en_B (l : Launch) (y : MethodName) (w : List Cond) (rm : Room) (D : va_G) (C : Nat → ClassId) (av : List Value) (W0 : va_W) (cc : ByteArray) (maxL : Nat) (ret : Option FieldType) (Qc : (Nat → Prop) → Array Value → State → Outcome → State → Prop) : Prop :=
  ∀ (p : Program) (e : Env) (s : State) (m : MethodId) (below : List Frame) (meth : Method) (c : Code) (A : Nat → Prop) (ls : Array Slot) (H : Heap) (locs : List Loc), p.tables.exec = Jvm.exec → c.code = cc → meth.sig.returnType = ret → meth.locks = false → c.maxLocals = maxL → (∀ q ∈ w, q.before av.toArray s = true) → s.vm.findClass y.cls = some m.cls → va_K D vwCl (TY C) s → va_P D vwCl W0 H → va_D A W0 → va_S A s.heap H locs → (∀ q, s.heap.size ≤ q → A q) → lv_has ls maxL (lv_args 0 av) →
      W p l e rm s m av.toArray below meth c H locs 0 0 (MQ below (Qc A) av.toArray s 0 0 A) (F0 m 0 ls [])
theorem en_I {r : Int32} (hy : plainName y.cls = true) (hw : w = Cond.code y cc maxL ret :: w') (hn : (lg_sl av).length ≤ maxL) (body : en_B l y w rm D C av W0 cc maxL ret (fun A => va_Qi (fun (x : Int32) (_ : Unit) => x = r) (mB D C A W1) A)) : MI l y w rm D C av W0 W1 sz r := en_G (Qc := fun A => va_Qi (fun (x : Int32) (_ : Unit) => x = r) (mB D C A W1) A) hy hw hn body
theorem en_L {r : Int64} (hy : plainName y.cls = true) (hw : w = Cond.code y cc maxL ret :: w') (hn : (lg_sl av).length ≤ maxL) (body : en_B l y w rm D C av W0 cc maxL ret (fun A => va_Ql (fun (x : Int64) (_ : Unit) => x = r) (mB D C A W1) A)) : ML l y w rm D C av W0 W1 sz r := en_G (Qc := fun A => va_Ql (fun (x : Int64) (_ : Unit) => x = r) (mB D C A W1) A) hy hw hn body
theorem en_V (hy : plainName y.cls = true) (hw : w = Cond.code y cc maxL ret :: w') (hn : (lg_sl av).length ≤ maxL) (body : en_B l y w rm D C av W0 cc maxL ret (fun A => va_Qv (fun (_ : Unit) => True) (mB D C A W1) A)) : MV l y w rm D C av W0 W1 sz := en_G (Qc := fun A => va_Qv (fun (_ : Unit) => True) (mB D C A W1) A) hy hw hn body
end ENTRY
section ROWS
variable {p : Program} {l : Launch} {e : Env} {R : Room} {s : State} {m : MethodId} {args : Array Value} {below : List Frame} {meth : Method} {c : Code} {H H0 : Heap} {locs : List Loc} {cells slots : Nat} {Q : State → Prop} {cc : ByteArray} {pc : Nat} {ls : Array Slot} {rest st0 : List Value} {A : Nat → Prop} {D : va_G} {C : Nat → ClassId} {W0 W1 : va_W}
theorem ret_I {r : Int32} (hx : p.tables.exec = Jvm.exec) (hb : c.code = cc) (hr : meth.sig.returnType = some .int) (hlocks : meth.locks = false) (hK : va_K D vwCl (TY C) s) (hP : va_P D vwCl W1 H) (hD : va_D A W1) (hS : va_S A s.heap H locs) (hdg : decode cc pc = .ok (.ireturn, 1)) :
    W p l e R s m args below meth c H locs cells slots (MQ below (va_Qi (fun (x : Int32) (_ : Unit) => x = r) (mB D C A W1) A) args s cells slots A) (F0 m pc ls [.int r]) :=
  W.iret hx hb hr (fun t ht hW => ⟨⟨r, (), rfl, rfl, by rw [ht]; exact hP, va_K.moved hW.alike hK, hD⟩, hS.F ht⟩) hS.2.2 hdg hlocks
theorem ret_Z {r : Int32} (hx : p.tables.exec = Jvm.exec) (hb : c.code = cc) (hr : meth.sig.returnType = some .boolean) (hlocks : meth.locks = false) (hz : okZ r) (hK : va_K D vwCl (TY C) s) (hP : va_P D vwCl W1 H) (hD : va_D A W1) (hS : va_S A s.heap H locs) (hdg : decode cc pc = .ok (.ireturn, 1)) :
    W p l e R s m args below meth c H locs cells slots (MQ below (va_Qi (fun (x : Int32) (_ : Unit) => x = r) (mB D C A W1) A) args s cells slots A) (F0 m pc ls [.int r]) :=
  W.zret hx hb hr (okZ_nar hz) (fun t ht hW => ⟨⟨r, (), rfl, rfl, by rw [ht]; exact hP, va_K.moved hW.alike hK, hD⟩, hS.F ht⟩) hS.2.2 hdg hlocks
theorem ret_L {r : Int64} (hx : p.tables.exec = Jvm.exec) (hb : c.code = cc) (hr : meth.sig.returnType = some .long) (hlocks : meth.locks = false) (hK : va_K D vwCl (TY C) s) (hP : va_P D vwCl W1 H) (hD : va_D A W1) (hS : va_S A s.heap H locs) (hdg : decode cc pc = .ok (.lreturn, 1)) :
    W p l e R s m args below meth c H locs cells slots (MQ below (va_Ql (fun (x : Int64) (_ : Unit) => x = r) (mB D C A W1) A) args s cells slots A) (F0 m pc ls [.long r]) :=
  W.lret hx hb hr (fun t ht hW => ⟨⟨r, (), rfl, rfl, by rw [ht]; exact hP, va_K.moved hW.alike hK, hD⟩, hS.F ht⟩) hS.2.2 hdg hlocks
theorem ret_V (hx : p.tables.exec = Jvm.exec) (hb : c.code = cc) (hr : meth.sig.returnType = none) (hlocks : meth.locks = false) (hK : va_K D vwCl (TY C) s) (hP : va_P D vwCl W1 H) (hD : va_D A W1) (hS : va_S A s.heap H locs) (hdg : decode cc pc = .ok (.return_, 1)) :
    W p l e R s m args below meth c H locs cells slots (MQ below (va_Qv (fun (_ : Unit) => True) (mB D C A W1) A) args s cells slots A) (F0 m pc ls []) :=
  W.vret hx hb hr (fun t ht hW => ⟨⟨(), rfl, trivial, by rw [ht]; exact hP, va_K.moved hW.alike hK, hD⟩, hS.F ht⟩) hS.2.2 hdg hlocks
/-- a joint: prove what comes behind it once, then every way that leads to it -/
theorem jn {g : JFrame} (Inv : Heap → List Loc → JFrame → Prop) (k : ∀ H' L' g', Inv H' L' g' → W p l e R s m args below meth c H' L' cells slots Q g') (r : (∀ H' L' g', Inv H' L' g' → W p l e R s m args below meth c H' L' cells slots Q g') → W p l e R s m args below meth c H locs cells slots Q g) : W p l e R s m args below meth c H locs cells slots Q g := r k
theorem jp {g g2 : JFrame} (k : W p l e R s m args below meth c H locs cells slots Q g2) (r : W p l e R s m args below meth c H locs cells slots Q g2 → W p l e R s m args below meth c H locs cells slots Q g) : W p l e R s m args below meth c H locs cells slots Q g := r k
variable {nL : Nat} {Ts : List Cond} {own Cn : String} {y : MethodName} {bytes : ByteArray} {maxL index n ci : Nat} {ret : Option FieldType} {ws ws' : List Cond} {rm : Room} {b : Nat} {As : List Value} {W2 wc w1 wr : va_W} {fs : List Value} {q : vw_C}
theorem cut_in (hK : va_K D vwCl (TY C) s) (hP : va_P D vwCl W0 H) (hD : va_D A W0) (isC : List Nat) (hC : isC.map (fun i => W0[i]?) = wc.map some) (hnC : va_nd isC = true) : va_P D vwCl wc H ∧ va_D (fun _ => True) wc := by
  have h1 : isC.filterMap (fun i => W0[i]?) = wc := by
    have := congrArg (fun z => z.filterMap id) hC
    simpa [List.filterMap_map, Function.comp_def] using this
  exact ⟨hP.sub isC h1, (hD.sub isC hnC hC).weaken (fun _ _ _ _ => trivial)⟩
theorem cut_out {H1 : Heap} (hP : va_P D vwCl W0 H) (hD : va_D A W0) (isC isR isB : List Nat) (hC : isC.map (fun i => W0[i]?) = wc.map some) (hR : isR.map (fun i => W0[i]?) = wr.map some) (hn : va_nd isR = true) (hdis : ∀ i ∈ isR, i ∉ isC)
    (hk : ∀ q : Nat, q < H.size → ¬ va_A wc H.size q → H1[q]? = H[q]?) (hF : ∀ q, va_A wc H.size q → A q) (hP1 : va_P D vwCl w1 H1) (hD1 : va_D (va_A wc H.size) w1) (hB : isB.map (fun i => (wr ++ w1)[i]?) = W2.map some) (hnB : va_nd isB = true) : va_P D vwCl W2 H1 ∧ va_D A W2 := by
  obtain ⟨h1, h2⟩ := va_join hP hD isC isR hC hR hn hdis hk hF hP1 hD1
  have h3 : isB.filterMap (fun i => (wr ++ w1)[i]?) = W2 := by
    have := congrArg (fun z => z.filterMap id) hB
    simpa [List.filterMap_map, Function.comp_def] using this
  exact ⟨h1.sub isB h3, h2.sub isB hnB hB⟩
theorem blind {av : List Value} {sz : Nat} : FrameBlind (va_Pc av (mPre D C W0 sz)) := fun a U g mk q => by
  obtain ⟨q0, q1, qP, qK, qD⟩ := q
  exact ⟨q0, q1, qP, va_K.moved (u := U) (U := U.calling g mk a) (Vm.Alike.refl U.vm) qK, qD⟩
theorem cV_run {Qc : Array Value → State → Outcome → State → Prop} {free : Addr → Prop} (S : CallFix p m c cc nL s args Ts own) (hM : Met l y ws rm (va_Pc (.ref b :: As) (mPre D C wc H.size)) Qc 0 0 free) (hg : GoodIn Ts (wsV own index Cn y ws)) (hw : ws = Cond.code y bytes maxL ret :: ws') (hrc : rm.cells = 0 ∧ rm.slots = 0)
    (hd : y.cls = Cn ∧ y.cls ≠ "java/lang/invoke/MethodHandle" ∧ y.cls ≠ "java/lang/invoke/VarHandle" ∧ (parseMethodDescriptor y.desc).map (fun d => d.parameters.length) = some n) (hR : rm.frames + 1 ≤ R.frames ∧ 8 + (maxL + 11) + rm.locals ≤ R.locals) (hn : As.length = n)
    (hK : va_K D vwCl (TY C) s) (hPc : va_P D vwCl wc H ∧ va_D (fun _ => True) wc) (hq : vwCl[ci]? = some q) (hqC : q.1 = Cn) (he : wc[0]? = some (b, .inr (ci, fs))) (hsize : ls.size = nL) (hst : st0 = As.reverse ++ .ref b :: rest) (hcat : (rest.map fun v => v.category).sum ≤ 8) (hdg : decode cc pc = .ok (.invokevirtual index, 3)) (hf : cells ≤ R.cells ∧ slots ≤ R.slots) :
    va_Run p l e R s m args below meth c H locs cells slots 0 0 (F0 m pc ls st0) rest (Qc (Value.ref b :: As).toArray) free :=
  va_runV S hM (cwV n S.2.2.2.2 hg hw hrc.1 hrc.2 hd hR) ⟨blind, hqC ▸ va_recv hK hPc.1 hq he, fun U hU hW => ⟨rfl, by rw [hU], by rw [hU]; exact hPc.1, va_K.moved hW.alike hK, hPc.2⟩⟩ rfl hn hsize hst (lv_room hcat) hdg hf
theorem cS_run {Qc : Array Value → State → Outcome → State → Prop} {free : Addr → Prop} (S : CallFix p m c cc nL s args Ts own) (hM : Met l y ws rm (va_Pc As (mPre D C wc H.size)) Qc 0 0 free) (hg : GoodIn Ts (va_wsS own index y ws)) (hw : ws = Cond.code y bytes maxL ret :: ws') (hrc : rm.cells = 0 ∧ rm.slots = 0)
    (hd : y.cls ≠ "java/lang/invoke/MethodHandle" ∧ y.cls ≠ "java/lang/invoke/VarHandle" ∧ (parseMethodDescriptor y.desc).map (fun d => d.parameters.length) = some n) (hR : rm.frames + 1 ≤ R.frames ∧ 8 + (maxL + 11) + rm.locals ≤ R.locals) (hn : As.length = n)
    (hK : va_K D vwCl (TY C) s) (hPc : va_P D vwCl wc H ∧ va_D (fun _ => True) wc) (hsize : ls.size = nL) (hst : st0 = As.reverse ++ rest) (hcat : (rest.map fun v => v.category).sum ≤ 8) (hdg : decode cc pc = .ok (.invokestatic index, 3)) (hf : cells ≤ R.cells ∧ slots ≤ R.slots) :
    va_Run p l e R s m args below meth c H locs cells slots 0 0 (F0 m pc ls st0) rest (Qc As.toArray) free :=
  va_runS S hM (va_cwS n S.2.2.2.2 hg hw hrc.1 hrc.2 hd hR) ⟨blind, fun U hU hW => ⟨rfl, by rw [hU], by rw [hU]; exact hPc.1, va_K.moved hW.alike hK, hPc.2⟩⟩ rfl hn hsize hst (lv_room hcat) hdg hf
theorem c_I {r : Int32} {a : Array Value} (hrun : va_Run p l e R s m args below meth c H locs cells slots 0 0 (F0 m pc ls st0) rest (va_Qi (fun (x : Int32) (_ : Unit) => x = r) (mB D C (va_A wc H.size) w1) (va_A wc H.size) a) (va_A wc H.size))
    (hP : va_P D vwCl W0 H) (hD : va_D A W0) (hS : va_S A H0 H locs) (hA : ∀ q, H0.size ≤ q → A q) (isC isR isB : List Nat) (hC : isC.map (fun i => W0[i]?) = wc.map some) (hRr : isR.map (fun i => W0[i]?) = wr.map some) (hn : va_nd isR = true) (hdis : ∀ i ∈ isR, i ∉ isC) (hB : isB.map (fun i => (wr ++ w1)[i]?) = W2.map some) (hnB : va_nd isB = true)
    (k : ∀ (H1 : Heap) (locs1 : List Loc), va_P D vwCl W2 H1 → va_D A W2 → va_S A H0 H1 locs1 → W p l e R s m args below meth c H1 locs1 cells slots Q (F0 m (pc + 3) ls (.int r :: rest))) : W p l e R s m args below meth c H locs cells slots Q (F0 m pc ls st0) := by
  have hFc := va_free (wc := wc) hD hS hA isC hC
  refine va_calli hrun hS (fun q _ h => hFc q h) hFc (fun r' u t H1 locs1 ht hvm hw hB1 hz1 hk1 hS1 => ?_)
  subst hw
  obtain ⟨hP1, hK1, hD1⟩ := hB1
  rw [ht] at hP1
  obtain ⟨h1, h2⟩ := cut_out hP hD isC isR isB hC hRr hn hdis hk1 hFc hP1 hD1 hB hnB
  exact k H1 locs1 h1 h2 hS1
theorem c_L {r : Int64} {a : Array Value} (hrun : va_Run p l e R s m args below meth c H locs cells slots 0 0 (F0 m pc ls st0) rest (va_Ql (fun (x : Int64) (_ : Unit) => x = r) (mB D C (va_A wc H.size) w1) (va_A wc H.size) a) (va_A wc H.size))
    (hP : va_P D vwCl W0 H) (hD : va_D A W0) (hS : va_S A H0 H locs) (hA : ∀ q, H0.size ≤ q → A q) (isC isR isB : List Nat) (hC : isC.map (fun i => W0[i]?) = wc.map some) (hRr : isR.map (fun i => W0[i]?) = wr.map some) (hn : va_nd isR = true) (hdis : ∀ i ∈ isR, i ∉ isC) (hB : isB.map (fun i => (wr ++ w1)[i]?) = W2.map some) (hnB : va_nd isB = true)
    (k : ∀ (H1 : Heap) (locs1 : List Loc), va_P D vwCl W2 H1 → va_D A W2 → va_S A H0 H1 locs1 → W p l e R s m args below meth c H1 locs1 cells slots Q (F0 m (pc + 3) ls (.long r :: rest))) : W p l e R s m args below meth c H locs cells slots Q (F0 m pc ls st0) := by
  have hFc := va_free (wc := wc) hD hS hA isC hC
  refine va_calll hrun hS (fun q _ h => hFc q h) hFc (fun r' u t H1 locs1 ht hvm hw hB1 hz1 hk1 hS1 => ?_)
  subst hw
  obtain ⟨hP1, hK1, hD1⟩ := hB1
  rw [ht] at hP1
  obtain ⟨h1, h2⟩ := cut_out hP hD isC isR isB hC hRr hn hdis hk1 hFc hP1 hD1 hB hnB
  exact k H1 locs1 h1 h2 hS1
theorem c_V {a : Array Value} (hrun : va_Run p l e R s m args below meth c H locs cells slots 0 0 (F0 m pc ls st0) rest (va_Qv (fun (_ : Unit) => True) (mB D C (va_A wc H.size) w1) (va_A wc H.size) a) (va_A wc H.size))
    (hP : va_P D vwCl W0 H) (hD : va_D A W0) (hS : va_S A H0 H locs) (hA : ∀ q, H0.size ≤ q → A q) (isC isR isB : List Nat) (hC : isC.map (fun i => W0[i]?) = wc.map some) (hRr : isR.map (fun i => W0[i]?) = wr.map some) (hn : va_nd isR = true) (hdis : ∀ i ∈ isR, i ∉ isC) (hB : isB.map (fun i => (wr ++ w1)[i]?) = W2.map some) (hnB : va_nd isB = true)
    (k : ∀ (H1 : Heap) (locs1 : List Loc), va_P D vwCl W2 H1 → va_D A W2 → va_S A H0 H1 locs1 → W p l e R s m args below meth c H1 locs1 cells slots Q (F0 m (pc + 3) ls rest)) : W p l e R s m args below meth c H locs cells slots Q (F0 m pc ls st0) := by
  have hFc := va_free (wc := wc) hD hS hA isC hC
  refine va_callv hrun hS (fun q _ h => hFc q h) hFc (fun u t H1 locs1 ht hvm hw hB1 hz1 hk1 hS1 => ?_)
  obtain ⟨hP1, hK1, hD1⟩ := hB1
  rw [ht] at hP1
  obtain ⟨h1, h2⟩ := cut_out hP hD isC isR isB hC hRr hn hdis hk1 hFc hP1 hD1 hB hnB
  exact k H1 locs1 h1 h2 hS1
theorem vpin_k {i : Int32} {n k : Nat} (h0 : ¬ i < 0) (hi : i.toNatClampNeg = k) (hk : k < n) : vp_in i n := by
  rintro (h | h)
  · exact h0 h
  · omega
theorem ld_ialdK {ws : va_W} {tys : List (ClassId × FieldType)} (hx : p.tables.exec = Jvm.exec) (hb : c.code = cc) (hK : va_K D vwCl tys s) (hP : va_P D vwCl ws H) (q0 t0 : Nat) {a : Nat} {cA : ClassId} {n k : Nat} {f : Nat → Int32} (ha : ws[q0]? = some (a, .inl (cA, n, .inl f))) (ht : tys[t0]? = some (cA, .int)) {i : Int32} (h0 : ¬ i < 0) (hi : i.toNatClampNeg = k) (hk : k < n) (hdg : decode cc pc = .ok (.iaload, 1))
    (kk : W p l e R s m args below meth c H locs cells slots Q (F0 m (pc + 1) ls (.int (f k) :: rest))) : W p l e R s m args below meth c H locs cells slots Q (F0 m pc ls (.int i :: .ref a :: rest)) := by
  subst hi
  exact va_iald hx hb hK hP q0 t0 ha ht (vpin_k h0 rfl hk) hdg kk
theorem ld_zaldK {ws : va_W} {tys : List (ClassId × FieldType)} (hx : p.tables.exec = Jvm.exec) (hb : c.code = cc) (hK : va_K D vwCl tys s) (hP : va_P D vwCl ws H) (q0 t0 : Nat) {a : Nat} {cA : ClassId} {n k : Nat} {f : Nat → Int32} (ha : ws[q0]? = some (a, .inl (cA, n, .inl f))) (ht : tys[t0]? = some (cA, .boolean)) {i : Int32} (h0 : ¬ i < 0) (hi : i.toNatClampNeg = k) (hk : k < n) (hdg : decode cc pc = .ok (.baload, 1))
    (kk : W p l e R s m args below meth c H locs cells slots Q (F0 m (pc + 1) ls (.int (f k) :: rest))) : W p l e R s m args below meth c H locs cells slots Q (F0 m pc ls (.int i :: .ref a :: rest)) := by
  subst hi
  exact va_zald hx hb hK hP q0 t0 ha ht (vpin_k h0 rfl hk) hdg kk
theorem st_IK {ws : va_W} {tys : List (ClassId × FieldType)} (hx : p.tables.exec = Jvm.exec) (hb : c.code = cc) (hK : va_K D vwCl tys s) (hP : va_P D vwCl ws H) (hD : va_D A ws) (hS : va_S A H0 H locs) (q0 t0 : Nat) {a : Nat} {cA : ClassId} {n k : Nat} {f : Nat → Int32} (ha : ws[q0]? = some (a, .inl (cA, n, .inl f))) (ht : tys[t0]? = some (cA, .int)) {i x : Int32} (h0 : ¬ i < 0) (hi : i.toNatClampNeg = k) (hk : k < n) (hdg : decode cc pc = .ok (.iastore, 1))
    (kk : ∀ (H1 : Heap) (locs1 : List Loc), va_P D vwCl (ws.set q0 (a, .inl (cA, n, .inl (upd f k x)))) H1 → va_D A (ws.set q0 (a, .inl (cA, n, .inl (upd f k x)))) → va_S A H0 H1 locs1 → W p l e R s m args below meth c H1 locs1 cells slots Q (F0 m (pc + 1) ls rest)) : W p l e R s m args below meth c H locs cells slots Q (F0 m pc ls (.int x :: .int i :: .ref a :: rest)) := by
  subst hi
  exact va_iast hx hb hK hP hD hS q0 t0 ha ht (vpin_k h0 rfl hk) hdg kk
theorem vpnar_okZ {x : Int32} (h : okZ x) : vp_nar .boolean x = x := by rcases h with rfl | rfl <;> decide
theorem st_Z {ws : va_W} {tys : List (ClassId × FieldType)} (hx : p.tables.exec = Jvm.exec) (hb : c.code = cc) (hK : va_K D vwCl tys s) (hP : va_P D vwCl ws H) (hD : va_D A ws) (hS : va_S A H0 H locs) (q0 t0 : Nat) {a : Nat} {cA : ClassId} {n : Nat} {f : Nat → Int32} (ha : ws[q0]? = some (a, .inl (cA, n, .inl f))) (ht : tys[t0]? = some (cA, .boolean)) {i x : Int32} (hin : vp_in i n) (hz : okZ x) (hdg : decode cc pc = .ok (.bastore, 1))
    (kk : ∀ (H1 : Heap) (locs1 : List Loc), va_P D vwCl (ws.set q0 (a, .inl (cA, n, .inl (upd f i.toNatClampNeg x)))) H1 → va_D A (ws.set q0 (a, .inl (cA, n, .inl (upd f i.toNatClampNeg x)))) → va_S A H0 H1 locs1 → W p l e R s m args below meth c H1 locs1 cells slots Q (F0 m (pc + 1) ls rest)) : W p l e R s m args below meth c H locs cells slots Q (F0 m pc ls (.int x :: .int i :: .ref a :: rest)) := by
  refine va_zast hx hb hK hP hD hS q0 t0 ha ht hin hdg ?_
  rw [vpnar_okZ hz]
  exact kk
theorem st_ZK {ws : va_W} {tys : List (ClassId × FieldType)} (hx : p.tables.exec = Jvm.exec) (hb : c.code = cc) (hK : va_K D vwCl tys s) (hP : va_P D vwCl ws H) (hD : va_D A ws) (hS : va_S A H0 H locs) (q0 t0 : Nat) {a : Nat} {cA : ClassId} {n k : Nat} {f : Nat → Int32} (ha : ws[q0]? = some (a, .inl (cA, n, .inl f))) (ht : tys[t0]? = some (cA, .boolean)) {i x : Int32} (h0 : ¬ i < 0) (hi : i.toNatClampNeg = k) (hk : k < n) (hz : okZ x) (hdg : decode cc pc = .ok (.bastore, 1))
    (kk : ∀ (H1 : Heap) (locs1 : List Loc), va_P D vwCl (ws.set q0 (a, .inl (cA, n, .inl (upd f k x)))) H1 → va_D A (ws.set q0 (a, .inl (cA, n, .inl (upd f k x)))) → va_S A H0 H1 locs1 → W p l e R s m args below meth c H1 locs1 cells slots Q (F0 m (pc + 1) ls rest)) : W p l e R s m args below meth c H locs cells slots Q (F0 m pc ls (.int x :: .int i :: .ref a :: rest)) := by
  subst hi
  exact st_Z hx hb hK hP hD hS q0 t0 ha ht (vpin_k h0 rfl hk) hz hdg kk
theorem cp_eq (f g : Nat → Int32) (k : Nat) : va_cpy f g (0 : Int32).toNatClampNeg (0 : Int32).toNatClampNeg k = cpn f g k := by
  funext i
  have h0 : (0 : Int32).toNatClampNeg = 0 := by decide
  rw [h0]
  by_cases h : i < k
  · simp [va_cpy, cpn, h]
  · simp [va_cpy, cpn, h]
theorem cp_I {ws : va_W} {index : Nat} (hx : p.tables.exec = Jvm.exec) (hb : c.code = cc) (hml : c.maxLocals = ls.size) (hown : s.vm.findClass own = some m.cls) (hlink : (Cond.methodLink own index arraycopyName).before args s = true) (hnat : (Cond.native arraycopyName).before args s = true) (hstat : (Cond.static arraycopyName).before args s = true) (hini : (Cond.initialized "java/lang/System").before args s = true)
    (hK : va_K D vwCl (TY C) s) (hP : va_P D vwCl ws H) (hD : va_D A ws) (hS : va_S A H0 H locs) (q0 q1 : Nat) {a0 a n0 n1 k : Nat} {f g : Nat → Int32} (ha0 : ws[q0]? = some (ia C a0 n0 f)) (ha1 : ws[q1]? = some (ia C a n1 g)) {n : Int32} (h3 : ¬ n < 0) (hk : n.toNatClampNeg = k) (h4 : k ≤ n0) (h5 : k ≤ n1)
    (hframes : 1 ≤ R.frames) (hlocals : 64 ≤ R.locals) (hdg : decode cc pc = .ok (.invokestatic index, 3))
    (kk : ∀ (H1 : Heap) (locs1 : List Loc), va_P D vwCl (ws.set q1 (ia C a n1 (cpn f g k))) H1 → va_D A (ws.set q1 (ia C a n1 (cpn f g k))) → va_S A H0 H1 locs1 → W p l e R s m args below meth c H1 locs1 cells slots Q (F0 m (pc + 3) ls [])) : W p l e R s m args below meth c H locs cells slots Q (F0 m pc ls [.int n, .int 0, .ref a, .int 0, .ref a0]) := by
  have z0 : (0 : Int32).toNatClampNeg = 0 := by decide
  refine va_copyi hx hb hml hown hlink hnat hstat hini hK hP hD hS q0 q1 0 0 ha0 ha1 rfl rfl rfl (by decide) (by decide) h3 (by rw [z0, hk]; omega) (by rw [z0, hk]; omega) (fun _ _ => rfl) hframes (Nat.le_trans (by decide) hlocals) hdg ?_
  rw [hk, cp_eq]
  exact kk
end ROWS
def FU : Nat := 1000000
