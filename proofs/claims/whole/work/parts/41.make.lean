/-! MAKING: new arrays and objects, constructors by contract -/
abbrev nk (a : String) (i : Nat) (y : MethodName) (U : State) : Prop := va_Nw (.methodLinkNest a i y RX10) U
def NK (U : State) : Prop := nk RX1 11 yX2_init U ∧ nk RX10 9 yX8_init U ∧ nk RX10 18 yX5_init U ∧ nk RX10 25 yX4_init U ∧ nk RX10 50 yX0_init U ∧ nk RX10 57 yX9_init U ∧ nk RX10 64 yX6_init U ∧ nk RX10 71 yX7_init U ∧ nk RX10 78 yX3_init U ∧ va_AO RX2 U ∧ va_AO RX1 U
theorem NK.same {u U : State} (h : u.vm = U.vm) (hk : NK u) : NK U := by
  obtain ⟨h1, h2, h3, h4, h5, h6, h7, h8, h9, h10, h11⟩ := hk
  exact ⟨h1.same rfl h, h2.same rfl h, h3.same rfl h, h4.same rfl h, h5.same rfl h, h6.same rfl h, h7.same rfl h, h8.same rfl h, h9.same rfl h, h10.moved (by rw [h]; exact Vm.Alike.refl _), h11.moved (by rw [h]; exact Vm.Alike.refl _)⟩
theorem NK.warm {s U : State} (hW : s.WarmedH U.vm) (hk : NK s) : NK U := by
  obtain ⟨h1, h2, h3, h4, h5, h6, h7, h8, h9, h10, h11⟩ := hk
  exact ⟨h1.warmM hW, h2.warmM hW, h3.warmM hW, h4.warmM hW, h5.warmM hW, h6.warmM hW, h7.warmM hW, h8.warmM hW, h9.warmM hW, h10.moved hW.alike, h11.moved hW.alike⟩
abbrev mC {S : Type} (D : va_G) (C : Nat → ClassId) (A : Nat → Prop) (W1 : S → va_W) : S → State → Prop := fun u t => va_P D vwCl (W1 u) t.heap ∧ va_K D vwCl (TY C) t ∧ va_D A (W1 u)
abbrev MC {S : Type} (l : Launch) (y : MethodName) (w : List Cond) (rm : Room) (D : va_G) (C : Nat → ClassId) (av : List Value) (W0 : va_W) (X : State → Prop) (post : S → Prop) (W1 : S → va_W) (sz mc ms : Nat) : Prop :=
  Met l y w rm (va_Pc av (fun U => mPre D C W0 sz U ∧ X U)) (va_Qv post (mC D C (va_A W0 sz) W1) (va_A W0 sz)) mc ms (va_A W0 sz)
theorem en_C {S : Type} {l : Launch} {y : MethodName} {w w' : List Cond} {rm : Room} {D : va_G} {C : Nat → ClassId} {av : List Value} {W0 : va_W} {X : State → Prop} {post : S → Prop} {W1 : S → va_W} {sz mc ms : Nat} {cc : ByteArray} {maxL : Nat} (hy : plainName y.cls = true) (hw : w = Cond.code y cc maxL none :: w') (hn : (lg_sl av).length ≤ maxL)
    (body : ∀ (p : Program) (e : Env) (s : State) (m : MethodId) (below : List Frame) (meth : Method) (c : Code) (A : Nat → Prop) (ls : Array Slot) (H : Heap) (locs : List Loc), p.tables.exec = Jvm.exec → c.code = cc → meth.sig.returnType = none → meth.locks = false → c.maxLocals = maxL → (∀ q ∈ w, q.before av.toArray s = true) → s.vm.findClass y.cls = some m.cls → meth.name = y.name → X s → va_K D vwCl (TY C) s → va_P D vwCl W0 H → va_D A W0 → va_S A s.heap H locs → (∀ q, s.heap.size ≤ q → A q) → lv_has ls maxL (lv_args 0 av) →
      W p l e rm s m av.toArray below meth c H locs 0 0 (MQ below (va_Qv post (mC D C A W1) A) av.toArray s mc ms A) (F0 m 0 ls [])) : MC l y w rm D C av W0 X post W1 sz mc ms := by
  refine Met.ofW hy hw ?_
  intro p e s m args below meth c s₁ B hml hv
  obtain ⟨rfl, ⟨hsz, hP, hK, hD0⟩, hX⟩ := hv
  subst hsz
  have key := body p e s m below meth c (va_A W0 s.heap.size) _ s.heap [] B.exec B.bytes B.returns B.notSynchronized hml (atoms_spec (ws := w) B.pre) (findClass_of_methodNamed B.named) (name_of_methodNamed B.named B.method).1 hX hK hP hD0.self va_S.rf (fun q h => Or.inr h) (lv_entry av hn)
  rw [lg_entry_eq]
  exact key
section MAKE
variable {p : Program} {l : Launch} {e : Env} {R : Room} {s : State} {m : MethodId} {args : Array Value} {below : List Frame} {meth : Method} {c : Code} {H H0 : Heap} {locs : List Loc} {cells slots : Nat} {Q : State → Prop} {cc : ByteArray} {pc : Nat} {ls : Array Slot} {rest st0 : List Value} {A : Nat → Prop} {D : va_G} {C : Nat → ClassId} {ws : va_W}
theorem ret_C {S : Type} {post : S → Prop} {W1 : S → va_W} (u : S) (hu : post u) (hx : p.tables.exec = Jvm.exec) (hb : c.code = cc) (hr : meth.sig.returnType = none) (hlocks : meth.locks = false) (hK : va_K D vwCl (TY C) s) (hP : va_P D vwCl (W1 u) H) (hD : va_D A (W1 u)) (hS : va_S A s.heap H locs) (hdg : decode cc pc = .ok (.return_, 1)) :
    W p l e R s m args below meth c H locs cells slots (MQ below (va_Qv post (mC D C A W1) A) args s cells slots A) (F0 m pc ls []) :=
  W.vret hx hb hr (fun t ht hW => ⟨⟨u, rfl, hu, by rw [ht]; exact hP, va_K.moved hW.alike hK, hD⟩, hS.F ht⟩) hS.2.2 hdg hlocks
theorem nw_I (hx : p.tables.exec = Jvm.exec) (hb : c.code = cc) (harr : (Cond.arrayClass .int).before args s = true) (hK : va_K D vwCl (TY C) s) (hP : va_P D vwCl ws H) (hD : va_D A ws) (hS : va_S A H0 H locs) (hA : ∀ q, H0.size ≤ q → A q) {n : Int32} {N : Nat} (hn : ¬ n < 0) (hN : n.toNatClampNeg = N) (hby : N * componentBytes .int ≤ 536870912) (hcells : cells + 1 ≤ R.cells) (hslots : slots + N ≤ R.slots) (hdg : decode cc pc = .ok (.newarray .int, 2))
    (kk : ∀ (q : Nat) (H1 : Heap), va_P D vwCl (ws ++ [ia C q N (fun _ => 0)]) H1 → va_D A (ws ++ [ia C q N (fun _ => 0)]) → va_S A H0 H1 locs → W p l e R s m args below meth c H1 locs (cells + 1) (slots + N) Q (F0 m (pc + 2) ls (.ref q :: rest))) : W p l e R s m args below meth c H locs cells slots Q (F0 m pc ls (.int n :: rest)) := by
  refine va_newa (atype := .int) hx hb harr (ty := .int) rfl hK hP hD hS hA (a0 := (N, .inl (fun _ => 0))) (fun _ => rfl) hn hN hby hcells hslots hdg (fun q cA H1 hK1 hP1 hD1 hS1 => ?_)
  have h4 : s.vm.findClass ("[" ++ FieldType.int.toString) = some cA := (hK1.2 4 (cA, .int) rfl).2
  have h0 : s.vm.findClass ("[" ++ FieldType.int.toString) = some (C 0) := (hK.2 0 (C 0, .int) rfl).2
  have he : cA = C 0 := Option.some.inj (h4.symm.trans h0)
  subst he
  exact kk q H1 hP1 hD1 hS1
theorem nw_Z (hx : p.tables.exec = Jvm.exec) (hb : c.code = cc) (harr : (Cond.arrayClass .boolean).before args s = true) (hK : va_K D vwCl (TY C) s) (hP : va_P D vwCl ws H) (hD : va_D A ws) (hS : va_S A H0 H locs) (hA : ∀ q, H0.size ≤ q → A q) {n : Int32} {N : Nat} (hn : ¬ n < 0) (hN : n.toNatClampNeg = N) (hby : N * componentBytes .boolean ≤ 536870912) (hcells : cells + 1 ≤ R.cells) (hslots : slots + N ≤ R.slots) (hdg : decode cc pc = .ok (.newarray .boolean, 2))
    (kk : ∀ (q : Nat) (H1 : Heap), va_P D vwCl (ws ++ [za C q N (fun _ => 0)]) H1 → va_D A (ws ++ [za C q N (fun _ => 0)]) → va_S A H0 H1 locs → W p l e R s m args below meth c H1 locs (cells + 1) (slots + N) Q (F0 m (pc + 2) ls (.ref q :: rest))) : W p l e R s m args below meth c H locs cells slots Q (F0 m pc ls (.int n :: rest)) := by
  refine va_newa (atype := .boolean) hx hb harr (ty := .boolean) rfl hK hP hD hS hA (a0 := (N, .inl (fun _ => 0))) (fun _ => rfl) hn hN hby hcells hslots hdg (fun q cA H1 hK1 hP1 hD1 hS1 => ?_)
  have h4 : s.vm.findClass ("[" ++ FieldType.boolean.toString) = some cA := (hK1.2 4 (cA, .boolean) rfl).2
  have h0 : s.vm.findClass ("[" ++ FieldType.boolean.toString) = some (C 1) := (hK.2 1 (C 1, .boolean) rfl).2
  have he : cA = C 1 := Option.some.inj (h4.symm.trans h0)
  subst he
  exact kk q H1 hP1 hD1 hS1
theorem nw_Q {own CN : String} {index j : Nat} (hx : p.tables.exec = Jvm.exec) (hb : c.code = cc) (hown : s.vm.findClass own = some m.cls) (hclink : (Cond.classLink own index CN).before args s = true) (hover : va_AO CN s) (hj : (TY C)[j]? = some (C j, .object CN)) (hK : va_K D vwCl (TY C) s) (hP : va_P D vwCl ws H) (hD : va_D A ws) (hS : va_S A H0 H locs) (hA : ∀ q, H0.size ≤ q → A q) {n : Int32} {N : Nat} (hn : ¬ n < 0) (hN : n.toNatClampNeg = N) (hby : N * 4 ≤ 536870912) (hcells : cells + 1 ≤ R.cells) (hslots : slots + N ≤ R.slots) (hdg : decode cc pc = .ok (.anewarray index, 3))
    (kk : ∀ (q : Nat) (H1 : Heap), va_P D vwCl (ws ++ [ra C j q N (fun _ => none)]) H1 → va_D A (ws ++ [ra C j q N (fun _ => none)]) → va_S A H0 H1 locs → W p l e R s m args below meth c H1 locs (cells + 1) (slots + N) Q (F0 m (pc + 3) ls (.ref q :: rest))) : W p l e R s m args below meth c H locs cells slots Q (F0 m pc ls (.int n :: rest)) := by
  refine va_newq hx hb hown hclink hover hK hP hD hS hA hn hN hby hcells hslots hdg (fun q cA H1 hK1 hP1 hD1 hS1 => ?_)
  obtain ⟨_, _, _, _, _, h4⟩ := (hK1.2 4 (cA, .object CN) rfl).2
  obtain ⟨_, _, _, _, _, h0⟩ := (hK.2 j (C j, .object CN) hj).2
  have he : cA = C j := Option.some.inj (h4.symm.trans h0)
  subst he
  exact kk q H1 hP1 hD1 hS1
variable {S : Type} {post : S → Prop} {w1 : S → va_W} {X : State → Prop} {nL mc ms maxL index n : Nat} {Ts ws0 ws' : List Cond} {own : String} {y : MethodName} {bytes : ByteArray} {rm : Room} {b : Nat} {wc xs : va_W}
theorem blindC {av : List Value} {sz : Nat} (hXb : ∀ U V : State, U.vm = V.vm → X U → X V) : FrameBlind (va_Pc av (fun U => mPre D C wc sz U ∧ X U)) := fun a U g mk q => by
  obtain ⟨q0, ⟨q1, qP, qK, qD⟩, qX⟩ := q
  exact ⟨q0, ⟨q1, qP, va_K.moved (u := U) (U := U.calling g mk a) (Vm.Alike.refl U.vm) qK, qD⟩, hXb U _ rfl qX⟩
theorem cI_run (S0 : CallFix p m c cc nL s args Ts own) (hM : MC l y ws0 rm D C [.ref b] wc X post w1 H.size mc ms) (hg : GoodIn Ts ws0) (hw : ws0 = Cond.code y bytes maxL none :: ws') (hrc : rm.cells = mc ∧ rm.slots = ms) (hini : (Cond.initialized y.cls).before args s = true) (hl : (Cond.methodLink own index y).before args s = true) (hinst : (Cond.instanceMethod y).before args s = true) (hy1 : y.name = "<init>")
    (hd : y.cls ≠ "java/lang/invoke/MethodHandle" ∧ y.cls ≠ "java/lang/invoke/VarHandle" ∧ (parseMethodDescriptor y.desc).map (fun d => d.parameters.length) = some 0) (hR : rm.frames + 1 ≤ R.frames ∧ 8 + (maxL + 11) + rm.locals ≤ R.locals) (hXb : ∀ U V : State, U.vm = V.vm → X U → X V) (hXw : ∀ U : State, s.WarmedH U.vm → X U)
    (hK : va_K D vwCl (TY C) s) (hPc : va_P D vwCl wc H ∧ va_D (fun _ => True) wc) (hsize : ls.size = nL) (hcat : (rest.map fun v => v.category).sum ≤ 8) (hdg : decode cc pc = .ok (.invokespecial index, 3)) (hf : cells + mc ≤ R.cells ∧ slots + ms ≤ R.slots) :
    va_Run p l e R s m args below meth c H locs cells slots mc ms (F0 m pc ls (.ref b :: rest)) rest (va_Qv post (mC D C (va_A wc H.size) w1) (va_A wc H.size) [Value.ref b].toArray) (va_A wc H.size) :=
  va_runI (As := []) S0 hM (cwI 0 S0.2.2.2.2 hg hw hrc.1 hrc.2 hini hl hinst hy1 hd hR) ⟨blindC hXb, fun U hU hW => ⟨rfl, ⟨by rw [hU], by rw [hU]; exact hPc.1, va_K.moved hW.alike hK, hPc.2⟩, hXw U hW⟩⟩ rfl rfl hsize rfl (lv_room hcat) hdg hf
theorem cN_run {host : String} (S0 : CallFix p m c cc nL s args Ts own) (hM : MC l y ws0 rm D C [.ref b] wc X post w1 H.size mc ms) (hg : GoodIn Ts ws0) (hw : ws0 = Cond.code y bytes maxL none :: ws') (hrc : rm.cells = mc ∧ rm.slots = ms) (hini : (Cond.initialized y.cls).before args s = true) (hl : va_Nw (.methodLinkNest own index y host) s) (hinst : (Cond.instanceMethod y).before args s = true) (hy1 : y.name = "<init>")
    (hd : y.cls ≠ "java/lang/invoke/MethodHandle" ∧ y.cls ≠ "java/lang/invoke/VarHandle" ∧ (parseMethodDescriptor y.desc).map (fun d => d.parameters.length) = some 0) (hR : rm.frames + 1 ≤ R.frames ∧ 8 + (maxL + 11) + rm.locals ≤ R.locals) (hXb : ∀ U V : State, U.vm = V.vm → X U → X V) (hXw : ∀ U : State, s.WarmedH U.vm → X U)
    (hK : va_K D vwCl (TY C) s) (hPc : va_P D vwCl wc H ∧ va_D (fun _ => True) wc) (hsize : ls.size = nL) (hcat : (rest.map fun v => v.category).sum ≤ 8) (hdg : decode cc pc = .ok (.invokespecial index, 3)) (hf : cells + mc ≤ R.cells ∧ slots + ms ≤ R.slots) :
    va_Run p l e R s m args below meth c H locs cells slots mc ms (F0 m pc ls (.ref b :: rest)) rest (va_Qv post (mC D C (va_A wc H.size) w1) (va_A wc H.size) [Value.ref b].toArray) (va_A wc H.size) :=
  va_runIN (As := []) S0 hM ⟨va_cnB 0 S0.2.2.2.2 hg hw hrc.1 hrc.2 hl hini hd hR, hy1, hinst⟩ ⟨blindC hXb, fun U hU hW => ⟨rfl, ⟨by rw [hU], by rw [hU]; exact hPc.1, va_K.moved hW.alike hK, hPc.2⟩, hXw U hW⟩⟩ rfl rfl hsize rfl (lv_room hcat) hdg hf
theorem c_New {a : Array Value} (hrun : va_Run p l e R s m args below meth c H locs cells slots mc ms (F0 m pc ls st0) rest (va_Qv post (mC D C (va_A wc H.size) w1) (va_A wc H.size) a) (va_A wc H.size))
    (hP : va_P D vwCl (xs ++ wc) H) (hD : va_D A (xs ++ wc)) (hS : va_S A H0 H locs) (hA : ∀ q, H0.size ≤ q → A q)
    (k : ∀ (u : S) (H1 : Heap) (locs1 : List Loc), post u → va_P D vwCl (xs ++ w1 u) H1 → va_D A (xs ++ w1 u) → va_S A H0 H1 locs1 → W p l e R s m args below meth c H1 locs1 (cells + mc) (slots + ms) Q (F0 m (pc + 3) ls rest)) : W p l e R s m args below meth c H locs cells slots Q (F0 m pc ls st0) := by
  have hFc := free_gen (List.Perm.refl (xs ++ wc)) hD hS hA
  refine va_callv hrun hS (fun q _ h => hFc q h) hFc (fun u t H1 locs1 ht hvm hw hB1 hz1 hk1 hS1 => ?_)
  obtain ⟨hP1, hK1, hD1⟩ := hB1
  rw [ht] at hP1
  obtain ⟨h1, h2⟩ := cut_gen (List.Perm.refl (xs ++ wc)) (List.Perm.refl (xs ++ w1 u)) hP hD hk1 hFc hP1 hD1
  exact k u H1 locs1 hw h1 h2 hS1
end MAKE
