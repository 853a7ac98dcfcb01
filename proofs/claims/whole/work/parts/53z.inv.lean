/-! THE RELATION between the class and the reference: both hold one abstract state of naturals -/
/-- a moment: hour, since, fresh, done, holder, where all are, who held it last when, what is owed -/
abbrev AM : Type := Nat × Nat × Nat × Nat × Option Nat × (Nat → Nat) × (Nat → Nat) × (Nat → Nat)
abbrev aH (a : AM) : Nat := a.1
abbrev aS (a : AM) : Nat := a.2.1
abbrev aF (a : AM) : Nat := a.2.2.1
abbrev aD (a : AM) : Nat := a.2.2.2.1
abbrev aO (a : AM) : Option Nat := a.2.2.2.2.1
abbrev aA (a : AM) : Nat → Nat := a.2.2.2.2.2.1
abbrev aL (a : AM) : Nat → Nat := a.2.2.2.2.2.2.1
abbrev aW (a : AM) : Nat → Nat := a.2.2.2.2.2.2.2
def hoI : Option Nat → Int32
  | none => -9
  | some k => nI k
def MVa (np nd : Nat) (a : AM) : Prop := aH a ≤ 200 ∧ aF a ≤ 1 ∧ aD a < 2 ^ nd ∧ (∀ k, aO a = some k → k < np ∧ aS a ≤ aH a) ∧ (aO a = none → aF a = 0) ∧ (∀ p, p < np → aA a p ≤ 30 ∧ aL a p ≤ aH a) ∧ ∀ p, p < 6 → aW a p ≤ 999
def MCl (np : Nat) (a : AM) (u : MomS) : Prop := u.1 = nI (aH a) ∧ u.2.1 = hoI (aO a) ∧ (∀ k, aO a = some k → u.2.2.1 = nI (aS a)) ∧ u.2.2.2.1 = nI (aF a) ∧ u.2.2.2.2.1 = nI (aD a) ∧ (∀ p, p < np → u.2.2.2.2.2.1 p = nI (aA a p) ∧ u.2.2.2.2.2.2.1 p = nI (aL a p)) ∧ ∀ p, p < 6 → u.2.2.2.2.2.2.2 p = nI (aW a p)
def MMo (np : Nat) (a : AM) (s : Nat → Int32) (o : Nat) : Prop := s o = nI (aH a) ∧ s (o + 1) = hoI (aO a) ∧ (∀ k, aO a = some k → s (o + 2) = nI (aS a)) ∧ s (o + 3) = nI (aF a) ∧ s (o + 22) = nI (aD a) ∧ (∀ p, p < np → s (o + (4 + p)) = nI (aA a p) ∧ s (o + (10 + p)) = nI (aL a p)) ∧ ∀ p, p < 6 → s (o + (16 + p)) = nI (aW a p)
def LedR (np nd : Nat) (st : Int32) (u : MomS) (P : Nat → MomS) (s : Nat → Int32) (o : Nat) (a : AM) : Prop :=
  ∃ n : Nat, n ≤ 10 ∧ st = nI n ∧ s (o + 23) = nI n ∧ MVa np nd a ∧ MCl np a u ∧ MMo np a s o ∧ ∀ k : Nat, k < n → ∃ b : AM, MVa np nd b ∧ MCl np b (P k) ∧ MMo np b s (o + (24 + 23 * k))
/-- a port: people, deeds, office, free; home; who, place, from, till, worth -/
def PV (np nd po fr : Nat) (hm wh pl fm tl wo : Nat → Nat) : Prop := np ≤ 6 ∧ nd ≤ 8 ∧ po ≤ 30 ∧ fr ≤ 9 ∧ (∀ p, p < np → hm p ≤ 30) ∧ ∀ d, d < nd → wh d < np ∧ pl d ≤ 30 ∧ fm d ≤ tl d ∧ tl d ≤ 99 ∧ 1 ≤ wo d ∧ wo d ≤ 20
def PCl (np nd po fr : Nat) (hm wh pl fm tl wo : Nat → Nat) (ci : Nat → Int32) (ca : Nat → Nat → Int32) : Prop :=
  ci 8 = nI po ∧ ci 9 = nI fr ∧ ci 10 = nI np ∧ ci 11 = nI nd ∧ (∀ p, p < np → ca 1 p = nI (hm p)) ∧ ∀ d, d < nd → ca 2 d = nI (wh d) ∧ ca 3 d = nI (pl d) ∧ ca 4 d = nI (fm d) ∧ ca 5 d = nI (tl d) ∧ ca 6 d = nI (wo d)
def PMo (np nd po fr : Nat) (hm wh pl fm tl wo : Nat → Nat) (t : Nat → Int32) : Prop :=
  t 0 = nI np ∧ t 1 = nI nd ∧ t 2 = nI po ∧ t 3 = nI fr ∧ (∀ p, p < np → t (6 + p) = nI (hm p)) ∧ ∀ d, d < nd → t (12 + d) = nI (wh d) ∧ t (20 + d) = nI (pl d) ∧ t (28 + d) = nI (fm d) ∧ t (36 + d) = nI (tl d) ∧ t (44 + d) = nI (wo d)
def TextR (n1 n2 : Int32) (a b : Nat → Int32) : Prop := ∃ n : Nat, n ≤ 180 ∧ n1 = nI n ∧ n2 = nI n ∧ ∀ i : Nat, i < n → ∃ x : Nat, x < 256 ∧ a i = nI x ∧ b i = nI x
def HeardR (nd : Nat) (n1 n2 : Int32) (d1 h1 d2 h2 : Nat → Int32) : Prop :=
  ∃ (n : Nat) (hd hh : Nat → Nat), n ≤ 6 ∧ n1 = nI n ∧ n2 = nI n ∧ (∀ i : Nat, i < n → hd i < nd ∧ hh i ≤ 99 ∧ d1 i = nI (hd i) ∧ d2 i = nI (hd i) ∧ h1 i = nI (hh i) ∧ h2 i = nI (hh i)) ∧ ∀ i : Nat, i + 1 < n → hh i ≤ hh (i + 1)
/-- what the reference's search gives, whatever lies in its scratch rows -/
def BestR (told s : Nat → Int32) (n w h : Int32) (row : Nat → Int32) : Prop :=
  ∀ r b p : Nat → Int32, ∃ o', fX11_rounds told s r b p = some o' ∧ o'.1 = n ∧ o'.2.1 = w ∧ o'.2.2.1 = h ∧ ∀ k : Nat, nI k < n → k < 8 → o'.2.2.2.2.1 k = row k
def ImgR (np nd : Nat) (k1 k2 st : Int32) (u : MomS) (P : Nat → MomS) (s : Nat → Int32) (o : Nat) : Prop := okZ k1 ∧ k2 = k1 ∧ (k1 = 1 → ∃ a, LedR np nd st u P s o a)
def Inv (tr : Int64) (ci : Nat → Int32) (ca : Nat → Nat → Int32) (pr : Nat → MomS) (pm : Nat → Nat → MomS) (mt : Int64) (mi : Nat → Int32) (ma : Nat → Nat → Int32) : Prop :=
  tr = mt ∧ TextR (ci 1) (mi 0) (ca 0) (ma 0) ∧ ∃ (np nd po fr : Nat) (hm wh pl fm tl wo : Nat → Nat) (a : AM), PV np nd po fr hm wh pl fm tl wo ∧ PCl np nd po fr hm wh pl fm tl wo ci ca ∧ PMo np nd po fr hm wh pl fm tl wo (ma 1) ∧
  LedR np nd (ci 16) (pr 0) (pm 0) (ma 3) 0 a ∧
  ImgR np nd (ca 13 0) (ma 5 0) (ci 17) (pr 1) (pm 1) (ma 4) 0 ∧ ImgR np nd (ca 13 1) (ma 5 1) (ci 18) (pr 2) (pm 2) (ma 4) 254 ∧
  HeardR nd (ci 19) (mi 1) (ca 14) (ca 15) (ma 6) (ma 7) ∧
  okZ (ci 0) ∧ (ci 0 = 1 → BestR (ma 1) (ma 3) (ci 23) (ci 24) (ci 25) (ca 17))
