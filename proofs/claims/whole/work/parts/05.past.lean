/-! THE PAST: its moments one by one, and turned by one place -/
theorem vin_lt {i : Int32} {n : Nat} (h : vin i n) : i.toNatClampNeg < n := Nat.not_le.mp fun q => h (Or.inr q)
def rotP {α : Type} (f : Nat → α) : Nat → α := fun k => if k = 9 then f 0 else f (k + 1)
def pr_ (C : Nat → ClassId) (ad : Nat → MomA) (g : Nat → Nat) (P : Nat → MomS) (k : Nat) : va_W := ((List.range 10).erase k).flatMap (fun i => mw C (ad (g i)) (P i))
section PAST
variable {C : Nat → ClassId} {ad : Nat → MomA} {g : Nat → Nat} {P : Nat → MomS} {k : Nat}
theorem pm_cut (hk : k < 10) : (pm_ C ad g P).Perm (pr_ C ad g P k ++ mw C (ad (g k)) (P k)) := flat_focus (fun i => mw C (ad (g i)) (P i)) hk
theorem pm_same (hk : k < 10) : (pr_ C ad g P k ++ mw C (ad (g k)) (P k)).Perm (pm_ C ad g P) := (pm_cut hk).symm
theorem pm_put {o : MomS} (hk : k < 10) : (pr_ C ad g P k ++ mw C (ad (g k)) o).Perm (pm_ C ad g (va_up P k o)) := by
  have h := (flat_focus (fun i => mw C (ad (g i)) (va_up P k o i)) hk).symm
  have e : ((List.range 10).erase k).flatMap (fun i => mw C (ad (g i)) (va_up P k o i)) = pr_ C ad g P k := flat_rest (fun i hi => by rw [va_up_ne _ _ hi])
  rw [e, va_up_self] at h
  exact h
theorem pm_rot : (pm_ C ad g P).Perm (pm_ C ad (rotP g) (rotP P)) := by
  have h : ([0, 1, 2, 3, 4, 5, 6, 7, 8, 9] : List Nat).Perm [1, 2, 3, 4, 5, 6, 7, 8, 9, 0] := by decide
  exact h.flatMap_right (fun i => mw C (ad (g i)) (P i))
end PAST
theorem pmF {α : Type} {xs T R N M Y : List α} {n : Nat} (is : List Nat) (h1 : is.Perm (List.range n)) (hn : xs.length = n) (h2 : is.map (fun i => xs[i]?) = (Y ++ M).map some) (h : T.Perm (R ++ N)) : (xs ++ T).Perm ((Y ++ R) ++ (N ++ M)) := by
  refine ((perm_pl is xs _ h1 hn h2).append h).trans ?_
  rw [List.append_assoc, List.append_assoc, ← List.append_assoc R N M]
  exact List.perm_append_comm.append_left Y
theorem pmF' {α : Type} {xs T R N M Y : List α} {n : Nat} (is : List Nat) (h1 : is.Perm (List.range n)) (hn : (Y ++ M).length = n) (h2 : is.map (fun i => (Y ++ M)[i]?) = xs.map some) (h : (R ++ N).Perm T) : ((Y ++ R) ++ (N ++ M)).Perm (xs ++ T) := by
  refine List.Perm.trans ?_ ((perm_pl is _ _ h1 hn h2).append h)
  rw [List.append_assoc, List.append_assoc, ← List.append_assoc R N M]
  exact List.perm_append_comm.append_left Y
theorem pmG {α : Type} {xs T R N M Y : List α} {n : Nat} (is : List Nat) (h1 : is.Perm (List.range n)) (hn : xs.length = n) (h2 : is.map (fun i => xs[i]?) = (Y ++ M).map some) (h : T.Perm (R ++ N)) : (xs ++ T).Perm ((Y ++ R) ++ (M ++ N)) := (pmF is h1 hn h2 h).trans (List.perm_append_comm.append_left _)
theorem pmG' {α : Type} {xs T R N M Y : List α} {n : Nat} (is : List Nat) (h1 : is.Perm (List.range n)) (hn : (Y ++ M).length = n) (h2 : is.map (fun i => (Y ++ M)[i]?) = xs.map some) (h : (R ++ N).Perm T) : ((Y ++ R) ++ (M ++ N)).Perm (xs ++ T) := (List.perm_append_comm.append_left _).trans (pmF' is h1 hn h2 h)
abbrev ra (C : Nat → ClassId) (j a n : Nat) (f : Nat → Option Nat) : Nat × va_E := (a, .inl (C j, n, .inr (.inr (.inr (.inr f)))))
theorem arr_ext {c : ClassId} {n : Nat} {f g : Nat → Value} (h : ∀ j, j < n → f j = g j) : arrV c n f = arrV c n g := by
  unfold arrV
  congr 1
  apply Array.ext
  · simp
  · intro i h1 h2
    simp at h1
    simp [h i h1]
theorem ra_ext {D : va_G} {cl : List vw_C} {C : Nat → ClassId} {j a n q : Nat} {f g : Nat → Option Nat} {ws : va_W} {H : Heap} {A : Nat → Prop} (hP : va_P D cl ws H) (hD : va_D A ws) (hq : ws[q]? = some (ra C j a n f)) (h : ∀ k, k < n → f k = g k) : va_P D cl (ws.set q (ra C j a n g)) H ∧ va_D A (ws.set q (ra C j a n g)) := by
  refine ⟨hP.set hD hq ?_ (fun _ _ => rfl), hD.set hq⟩
  have h1 : H[a]? = some (vp_cell (C j) (n, .inr (.inr (.inr (.inr f))))) := hP q _ hq
  show H[a]? = some (vp_cell (C j) (n, .inr (.inr (.inr (.inr g)))))
  rw [h1, vp_cell_q, vp_cell_q, arr_ext (fun k hk => by rw [h k hk])]
