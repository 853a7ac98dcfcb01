/-! WORLDS up to order; a ledger's past: ten moments by one array of references -/
theorem vaP_iff {D : va_G} {cl : List vw_C} {ws : va_W} {H : Heap} : va_P D cl ws H ↔ ∀ q ∈ ws, va_at D cl q H := by
  constructor
  · intro h q hq
    obtain ⟨i, hi⟩ := List.getElem?_of_mem hq
    exact h i q hi
  · intro h k q hk
    exact h q (List.mem_of_getElem? hk)
theorem vaD_iff {A : Nat → Prop} {ws : va_W} : va_D A ws ↔ ws.Pairwise (fun p q => p.1 ≠ q.1) ∧ ∀ q ∈ ws, A q.1 := by
  constructor
  · intro h
    refine ⟨List.pairwise_iff_getElem.mpr (fun i j hi hj hij e => ?_), fun q hq => ?_⟩
    · have := h.1 i j _ _ (List.getElem?_eq_getElem hi) (List.getElem?_eq_getElem hj) e
      omega
    · obtain ⟨i, hi⟩ := List.getElem?_of_mem hq
      exact h.2 i q hi
  · rintro ⟨h1, h2⟩
    refine ⟨fun i j p q hp hq e => ?_, fun k q hk => h2 q (List.mem_of_getElem? hk)⟩
    have h3 := List.pairwise_iff_getElem.mp h1
    obtain ⟨hi, rfl⟩ := List.getElem?_eq_some_iff.mp hp
    obtain ⟨hj, rfl⟩ := List.getElem?_eq_some_iff.mp hq
    rcases Nat.lt_trichotomy i j with h | h | h
    · exact absurd e (h3 i j hi hj h)
    · exact h
    · exact absurd e.symm (h3 j i hj hi h)
theorem vaP_perm {D : va_G} {cl : List vw_C} {ws ws' : va_W} {H : Heap} (h : va_P D cl ws H) (p : ws.Perm ws') : va_P D cl ws' H := vaP_iff.mpr fun q hq => vaP_iff.mp h q (p.mem_iff.mpr hq)
theorem vaD_perm {A : Nat → Prop} {ws ws' : va_W} (h : va_D A ws) (p : ws.Perm ws') : va_D A ws' := by
  obtain ⟨h1, h2⟩ := vaD_iff.mp h
  exact vaD_iff.mpr ⟨h1.perm p (fun h e => h e.symm), fun q hq => h2 q (p.mem_iff.mpr hq)⟩
theorem vaP_app {D : va_G} {cl : List vw_C} {a b : va_W} {H : Heap} : va_P D cl (a ++ b) H ↔ va_P D cl a H ∧ va_P D cl b H := by
  rw [vaP_iff, vaP_iff, vaP_iff]
  constructor
  · intro h
    exact ⟨fun q hq => h q (List.mem_append_left _ hq), fun q hq => h q (List.mem_append_right _ hq)⟩
  · rintro ⟨h1, h2⟩ q hq
    rcases List.mem_append.mp hq with h | h
    · exact h1 q h
    · exact h2 q h
theorem vaD_app {A : Nat → Prop} {a b : va_W} : va_D A (a ++ b) ↔ va_D A a ∧ va_D A b ∧ ∀ p ∈ a, ∀ q ∈ b, p.1 ≠ q.1 := by
  rw [vaD_iff, vaD_iff, vaD_iff, List.pairwise_append]
  constructor
  · rintro ⟨⟨h1, h2, h3⟩, h4⟩
    exact ⟨⟨h1, fun q hq => h4 q (List.mem_append_left _ hq)⟩, ⟨h2, fun q hq => h4 q (List.mem_append_right _ hq)⟩, h3⟩
  · rintro ⟨⟨h1, h2⟩, ⟨h3, h4⟩, h5⟩
    refine ⟨⟨h1, h3, h5⟩, fun q hq => ?_⟩
    rcases List.mem_append.mp hq with h | h
    · exact h2 q h
    · exact h4 q h
theorem va_A_iff {ws : va_W} {sz q : Nat} : va_A ws sz q ↔ (∃ c ∈ ws, c.1 = q) ∨ sz ≤ q := by
  constructor
  · rintro (⟨k, e, h⟩ | h)
    · exact Or.inl ⟨_, List.mem_of_getElem? h, rfl⟩
    · exact Or.inr h
  · rintro (⟨c, hc, rfl⟩ | h)
    · obtain ⟨i, hi⟩ := List.getElem?_of_mem hc
      exact Or.inl ⟨i, c.2, hi⟩
    · exact Or.inr h
/-- a call: its world cut out of the caller's, in any order, and put back -/
theorem cut_gen {A0 : Nat → Prop} {D : va_G} {cl : List vw_C} {ws wc wr w1 w2 : va_W} {H H1 : Heap} (hp : ws.Perm (wr ++ wc)) (hq : (wr ++ w1).Perm w2) (hP : va_P D cl ws H) (hD : va_D A0 ws)
    (hk : ∀ q : Nat, q < H.size → ¬ va_A wc H.size q → H1[q]? = H[q]?) (hF : ∀ q, va_A wc H.size q → A0 q) (hP1 : va_P D cl w1 H1) (hD1 : va_D (va_A wc H.size) w1) : va_P D cl w2 H1 ∧ va_D A0 w2 := by
  obtain ⟨hPr, hPc⟩ := vaP_app.mp (vaP_perm hP hp)
  obtain ⟨hDr, hDc, hx⟩ := vaD_app.mp (vaD_perm hD hp)
  have apart : ∀ c ∈ wr, c.1 < H.size ∧ ¬ va_A wc H.size c.1 := by
    intro c hc
    have hl := (vaP_iff.mp hPr c hc).lt
    refine ⟨hl, fun h => ?_⟩
    rcases va_A_iff.mp h with ⟨d, hd, e⟩ | h
    · exact hx c hc d hd e.symm
    · omega
  have hPr1 : va_P D cl wr H1 := vaP_iff.mpr fun c hc => (vaP_iff.mp hPr c hc).kept (hk c.1 (apart c hc).1 (apart c hc).2)
  have hD1' : va_D A0 w1 := hD1.weaken (fun k q _ h => hF q.1 h)
  refine ⟨vaP_perm (vaP_app.mpr ⟨hPr1, hP1⟩) hq, vaD_perm (vaD_app.mpr ⟨hDr, hD1', fun p hp q hq e => ?_⟩) hq⟩
  exact (apart p hp).2 (by rw [e]; exact (vaD_iff.mp hD1).2 q hq)
theorem free_gen {A0 : Nat → Prop} {ws wc wr : va_W} {H0 H : Heap} {locs : List Loc} (hp : ws.Perm (wr ++ wc)) (hD : va_D A0 ws) (hS : va_S A0 H0 H locs) (hA : ∀ q, H0.size ≤ q → A0 q) : ∀ q, va_A wc H.size q → A0 q := by
  intro q h
  rcases va_A_iff.mp h with ⟨c, hc, rfl⟩ | h
  · exact (vaD_iff.mp hD).2 c (hp.mem_iff.mpr (List.mem_append_right _ hc))
  · exact hA q (Nat.le_trans hS.1 h)
theorem cut_inP {A0 : Nat → Prop} {D : va_G} {ws wc wr : va_W} {H : Heap} (hp : ws.Perm (wr ++ wc)) (hP : va_P D vwCl ws H) (hD : va_D A0 ws) : va_P D vwCl wc H ∧ va_D (fun _ => True) wc := by
  obtain ⟨hPr, hPc⟩ := vaP_app.mp (vaP_perm hP hp)
  obtain ⟨hDr, hDc, hx⟩ := vaD_app.mp (vaD_perm hD hp)
  exact ⟨hPc, hDc.weaken (fun _ _ _ _ => trivial)⟩
/-- an order by places -/
theorem perm_pl {α : Type} : ∀ (is : List Nat) (xs ys : List α) {n : Nat}, is.Perm (List.range n) → xs.length = n → is.map (fun i => xs[i]?) = ys.map some → xs.Perm ys := by
  intro is xs ys n hp hn h
  subst hn
  have h1 : ((List.range xs.length).map (fun i => xs[i]?)) = xs.map some := by
    apply List.ext_getElem?
    intro i
    by_cases hi : i < xs.length
    · simp [hi]
    · simp [hi]
  have h2 := hp.map (fun i => xs[i]?)
  rw [h, h1] at h2
  have h3 := h2.filterMap id
  simp at h3
  exact h3.symm
section ROWSP
variable {p : Program} {l : Launch} {e : Env} {R : Room} {s : State} {m : MethodId} {args : Array Value} {below : List Frame} {meth : Method} {c : Code} {H H0 : Heap} {locs : List Loc} {cells slots : Nat} {Q : State → Prop} {cc : ByteArray} {pc : Nat} {ls : Array Slot} {rest st0 : List Value} {A : Nat → Prop} {D : va_G} {C : Nat → ClassId} {W0 W2 wc w1 wr : va_W}
theorem cp_Int {r : Int32} {a : Array Value} (hrun : va_Run p l e R s m args below meth c H locs cells slots 0 0 (F0 m pc ls st0) rest (va_Qi (fun (x : Int32) (_ : Unit) => x = r) (mB D C (va_A wc H.size) w1) (va_A wc H.size) a) (va_A wc H.size))
    (hP : va_P D vwCl W0 H) (hD : va_D A W0) (hS : va_S A H0 H locs) (hA : ∀ q, H0.size ≤ q → A q) (hp : W0.Perm (wr ++ wc)) (hq : (wr ++ w1).Perm W2)
    (k : ∀ (H1 : Heap) (locs1 : List Loc), va_P D vwCl W2 H1 → va_D A W2 → va_S A H0 H1 locs1 → W p l e R s m args below meth c H1 locs1 cells slots Q (F0 m (pc + 3) ls (.int r :: rest))) : W p l e R s m args below meth c H locs cells slots Q (F0 m pc ls st0) := by
  have hFc := free_gen hp hD hS hA
  refine va_calli hrun hS (fun q _ h => hFc q h) hFc (fun r' u t H1 locs1 ht hvm hw hB1 hz1 hk1 hS1 => ?_)
  subst hw
  obtain ⟨hP1, hK1, hD1⟩ := hB1
  rw [ht] at hP1
  obtain ⟨h1, h2⟩ := cut_gen hp hq hP hD hk1 hFc hP1 hD1
  exact k H1 locs1 h1 h2 hS1
theorem cp_Void {a : Array Value} (hrun : va_Run p l e R s m args below meth c H locs cells slots 0 0 (F0 m pc ls st0) rest (va_Qv (fun (_ : Unit) => True) (mB D C (va_A wc H.size) w1) (va_A wc H.size) a) (va_A wc H.size))
    (hP : va_P D vwCl W0 H) (hD : va_D A W0) (hS : va_S A H0 H locs) (hA : ∀ q, H0.size ≤ q → A q) (hp : W0.Perm (wr ++ wc)) (hq : (wr ++ w1).Perm W2)
    (k : ∀ (H1 : Heap) (locs1 : List Loc), va_P D vwCl W2 H1 → va_D A W2 → va_S A H0 H1 locs1 → W p l e R s m args below meth c H1 locs1 cells slots Q (F0 m (pc + 3) ls rest)) : W p l e R s m args below meth c H locs cells slots Q (F0 m pc ls st0) := by
  have hFc := free_gen hp hD hS hA
  refine va_callv hrun hS (fun q _ h => hFc q h) hFc (fun u t H1 locs1 ht hvm hw hB1 hz1 hk1 hS1 => ?_)
  obtain ⟨hP1, hK1, hD1⟩ := hB1
  rw [ht] at hP1
  obtain ⟨h1, h2⟩ := cut_gen hp hq hP hD hk1 hFc hP1 hD1
  exact k H1 locs1 h1 h2 hS1
end ROWSP
abbrev MomS : Type := Int32 × Int32 × Int32 × Int32 × Int32 × (Nat → Int32) × (Nat → Int32) × (Nat → Int32)
abbrev MomA : Type := Nat × Nat × Nat × Nat
abbrev mw (C : Nat → ClassId) (a : MomA) (u : MomS) : va_W := [ob a.1 2 [.int u.1, .int u.2.1, .int u.2.2.1, .int u.2.2.2.1, .int u.2.2.2.2.1, .ref a.2.1, .ref a.2.2.1, .ref a.2.2.2], ia C a.2.1 6 u.2.2.2.2.2.1, ia C a.2.2.1 6 u.2.2.2.2.2.2.1, ia C a.2.2.2 6 u.2.2.2.2.2.2.2]
/-- the past: an array of ten references, by the order g, and ten moments at the places ad -/
abbrev pa_ (C : Nat → ClassId) (q : Nat) (ad : Nat → MomA) (g : Nat → Nat) : Nat × va_E := (q, .inl (C 2, 10, .inr (.inr (.inr (.inr (fun k => some (ad (g k)).1))))))
def pm_ (C : Nat → ClassId) (ad : Nat → MomA) (g : Nat → Nat) (P : Nat → MomS) : va_W := (List.range 10).flatMap (fun k => mw C (ad (g k)) (P k))
theorem flat_focus (g : Nat → va_W) {n k : Nat} (hk : k < n) : ((List.range n).flatMap g).Perm (((List.range n).erase k).flatMap g ++ g k) := by
  have h := (List.perm_cons_erase (List.mem_range.mpr hk)).flatMap_right g
  refine h.trans ?_
  rw [List.flatMap_cons]
  exact List.perm_append_comm
theorem flat_rest {g g' : Nat → va_W} {n k : Nat} (h : ∀ i, i ≠ k → g' i = g i) : ((List.range n).erase k).flatMap g' = ((List.range n).erase k).flatMap g := by
  rw [List.flatMap_def, List.flatMap_def]
  congr 1
  apply List.map_congr_left
  intro i hi
  refine h i (fun e => ?_)
  subst e
  exact List.Nodup.not_mem_erase List.nodup_range hi
theorem pmA {α : Type} {xs xr wc tl : List α} {n : Nat} (is : List Nat) (h1 : is.Perm (List.range n)) (hn : xs.length = n) (h2 : is.map (fun i => xs[i]?) = (xr ++ wc).map some) : (xs ++ tl).Perm ((xr ++ tl) ++ wc) := by
  refine ((perm_pl is xs _ h1 hn h2).append_right tl).trans ?_
  rw [List.append_assoc, List.append_assoc]
  exact List.perm_append_comm.append_left xr
theorem pmA' {α : Type} {xr w1 xs2 tl : List α} {n : Nat} (is : List Nat) (h1 : is.Perm (List.range n)) (hn : (xr ++ w1).length = n) (h2 : is.map (fun i => (xr ++ w1)[i]?) = xs2.map some) : ((xr ++ tl) ++ w1).Perm (xs2 ++ tl) := by
  refine List.Perm.trans ?_ ((perm_pl is _ _ h1 hn h2).append_right tl)
  rw [List.append_assoc, List.append_assoc]
  exact List.perm_append_comm.append_left xr
theorem pmB {α : Type} {xs xr wc tl : List α} {n : Nat} (is : List Nat) (h1 : is.Perm (List.range n)) (hn : xs.length = n) (h2 : is.map (fun i => xs[i]?) = (xr ++ wc).map some) : (xs ++ tl).Perm (xr ++ (wc ++ tl)) := by
  have h := (perm_pl is xs _ h1 hn h2).append_right tl
  rwa [List.append_assoc] at h
theorem pmB' {α : Type} {xr w1 xs2 tl : List α} {n : Nat} (is : List Nat) (h1 : is.Perm (List.range n)) (hn : (xr ++ w1).length = n) (h2 : is.map (fun i => (xr ++ w1)[i]?) = xs2.map some) : (xr ++ (w1 ++ tl)).Perm (xs2 ++ tl) := by
  have h := (perm_pl is _ _ h1 hn h2).append_right tl
  rwa [List.append_assoc] at h
