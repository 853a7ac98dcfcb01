/-! TAILS: several pasts side by side -/
theorem pmT {α : Type} {xs xr wc TL TR TC : List α} {n : Nat} (is : List Nat) (h1 : is.Perm (List.range n)) (hn : xs.length = n) (h2 : is.map (fun i => xs[i]?) = (xr ++ wc).map some) (ht : TL.Perm (TR ++ TC)) : (xs ++ TL).Perm ((xr ++ TR) ++ (wc ++ TC)) := by
  refine ((perm_pl is xs _ h1 hn h2).append ht).trans ?_
  rw [List.append_assoc, List.append_assoc]
  refine List.Perm.append_left xr ?_
  rw [← List.append_assoc, ← List.append_assoc]
  exact List.perm_append_comm.append_right TC
theorem pmT' {α : Type} {xr w1 xs2 TL TR TC : List α} {n : Nat} (is : List Nat) (h1 : is.Perm (List.range n)) (hn : (xr ++ w1).length = n) (h2 : is.map (fun i => (xr ++ w1)[i]?) = xs2.map some) (ht : TL.Perm (TR ++ TC)) : ((xr ++ TR) ++ (w1 ++ TC)).Perm (xs2 ++ TL) := by
  refine List.Perm.trans ?_ ((perm_pl is _ _ h1 hn h2).append ht.symm)
  rw [List.append_assoc, List.append_assoc]
  refine List.Perm.append_left xr ?_
  rw [← List.append_assoc, ← List.append_assoc]
  exact List.perm_append_comm.append_right TC
theorem tl10 {α : Type} {T0 T1 T2 : List α} : (T0 ++ (T1 ++ T2)).Perm (T2 ++ (T1 ++ T0)) := by
  refine List.perm_append_comm.trans ?_
  rw [← List.append_assoc]
  exact List.perm_append_comm.append_right T0
theorem tl20 {α : Type} {T0 T1 T2 : List α} : (T0 ++ (T1 ++ T2)).Perm (T1 ++ (T2 ++ T0)) := by
  refine List.perm_append_comm.trans ?_
  rw [List.append_assoc]
theorem tl01 {α : Type} {T0 T1 T2 : List α} : (T0 ++ (T1 ++ T2)).Perm (T2 ++ (T0 ++ T1)) := by
  rw [← List.append_assoc]
  exact List.perm_append_comm
theorem tl02 {α : Type} {T0 T1 T2 : List α} : (T0 ++ (T1 ++ T2)).Perm (T1 ++ (T0 ++ T2)) := List.perm_append_comm_assoc _ _ _
theorem tl0 {α : Type} {T0 T1 T2 : List α} : (T0 ++ (T1 ++ T2)).Perm ((T1 ++ T2) ++ T0) := List.perm_append_comm
theorem pmC10_3 {α : Type} {xs xr wc T0 T1 T2 : List α} {n : Nat} (is : List Nat) (h1 : is.Perm (List.range n)) (hn : xs.length = n) (h2 : is.map (fun i => xs[i]?) = (xr ++ wc).map some) : (xs ++ (T0 ++ (T1 ++ T2))).Perm ((xr ++ T2) ++ (wc ++ (T1 ++ T0))) := pmT is h1 hn h2 tl10
theorem pmC10_3' {α : Type} {xr w1 xs2 T0 T1 T2 : List α} {n : Nat} (is : List Nat) (h1 : is.Perm (List.range n)) (hn : (xr ++ w1).length = n) (h2 : is.map (fun i => (xr ++ w1)[i]?) = xs2.map some) : ((xr ++ T2) ++ (w1 ++ (T1 ++ T0))).Perm (xs2 ++ (T0 ++ (T1 ++ T2))) := pmT' is h1 hn h2 tl10
theorem pmC20_3 {α : Type} {xs xr wc T0 T1 T2 : List α} {n : Nat} (is : List Nat) (h1 : is.Perm (List.range n)) (hn : xs.length = n) (h2 : is.map (fun i => xs[i]?) = (xr ++ wc).map some) : (xs ++ (T0 ++ (T1 ++ T2))).Perm ((xr ++ T1) ++ (wc ++ (T2 ++ T0))) := pmT is h1 hn h2 tl20
theorem pmC20_3' {α : Type} {xr w1 xs2 T0 T1 T2 : List α} {n : Nat} (is : List Nat) (h1 : is.Perm (List.range n)) (hn : (xr ++ w1).length = n) (h2 : is.map (fun i => (xr ++ w1)[i]?) = xs2.map some) : ((xr ++ T1) ++ (w1 ++ (T2 ++ T0))).Perm (xs2 ++ (T0 ++ (T1 ++ T2))) := pmT' is h1 hn h2 tl20
theorem pmC01_3 {α : Type} {xs xr wc T0 T1 T2 : List α} {n : Nat} (is : List Nat) (h1 : is.Perm (List.range n)) (hn : xs.length = n) (h2 : is.map (fun i => xs[i]?) = (xr ++ wc).map some) : (xs ++ (T0 ++ (T1 ++ T2))).Perm ((xr ++ T2) ++ (wc ++ (T0 ++ T1))) := pmT is h1 hn h2 tl01
theorem pmC01_3' {α : Type} {xr w1 xs2 T0 T1 T2 : List α} {n : Nat} (is : List Nat) (h1 : is.Perm (List.range n)) (hn : (xr ++ w1).length = n) (h2 : is.map (fun i => (xr ++ w1)[i]?) = xs2.map some) : ((xr ++ T2) ++ (w1 ++ (T0 ++ T1))).Perm (xs2 ++ (T0 ++ (T1 ++ T2))) := pmT' is h1 hn h2 tl01
theorem pmC02_3 {α : Type} {xs xr wc T0 T1 T2 : List α} {n : Nat} (is : List Nat) (h1 : is.Perm (List.range n)) (hn : xs.length = n) (h2 : is.map (fun i => xs[i]?) = (xr ++ wc).map some) : (xs ++ (T0 ++ (T1 ++ T2))).Perm ((xr ++ T1) ++ (wc ++ (T0 ++ T2))) := pmT is h1 hn h2 tl02
theorem pmC02_3' {α : Type} {xr w1 xs2 T0 T1 T2 : List α} {n : Nat} (is : List Nat) (h1 : is.Perm (List.range n)) (hn : (xr ++ w1).length = n) (h2 : is.map (fun i => (xr ++ w1)[i]?) = xs2.map some) : ((xr ++ T1) ++ (w1 ++ (T0 ++ T2))).Perm (xs2 ++ (T0 ++ (T1 ++ T2))) := pmT' is h1 hn h2 tl02
theorem pmC0_3 {α : Type} {xs xr wc T0 T1 T2 : List α} {n : Nat} (is : List Nat) (h1 : is.Perm (List.range n)) (hn : xs.length = n) (h2 : is.map (fun i => xs[i]?) = (xr ++ wc).map some) : (xs ++ (T0 ++ (T1 ++ T2))).Perm ((xr ++ (T1 ++ T2)) ++ (wc ++ T0)) := pmT is h1 hn h2 tl0
theorem pmC0_3' {α : Type} {xr w1 xs2 T0 T1 T2 : List α} {n : Nat} (is : List Nat) (h1 : is.Perm (List.range n)) (hn : (xr ++ w1).length = n) (h2 : is.map (fun i => (xr ++ w1)[i]?) = xs2.map some) : ((xr ++ (T1 ++ T2)) ++ (w1 ++ T0)).Perm (xs2 ++ (T0 ++ (T1 ++ T2))) := pmT' is h1 hn h2 tl0
theorem pmH {α : Type} {xs T1 T2 R1 R2 N1 N2 : List α} (h1 : T1.Perm (R1 ++ N1)) (h2 : T2.Perm (R2 ++ N2)) : (xs ++ (T1 ++ T2)).Perm ((xs ++ (R1 ++ R2)) ++ (N1 ++ N2)) := by
  rw [List.append_assoc]
  refine List.Perm.append_left xs ((h1.append h2).trans ?_)
  rw [List.append_assoc, List.append_assoc]
  refine List.Perm.append_left R1 ?_
  rw [← List.append_assoc, ← List.append_assoc]
  exact List.perm_append_comm.append_right N2
theorem pmH' {α : Type} {xs T1 T2 R1 R2 N1 N2 : List α} (h1 : (R1 ++ N1).Perm T1) (h2 : (R2 ++ N2).Perm T2) : ((xs ++ (R1 ++ R2)) ++ (N1 ++ N2)).Perm (xs ++ (T1 ++ T2)) := (pmH h1.symm h2.symm).symm
abbrev im_ (C : Nat → ClassId) (q a b : Nat) : Nat × va_E := ra C 3 q 2 (fun k => if k = 0 then some a else some b)
