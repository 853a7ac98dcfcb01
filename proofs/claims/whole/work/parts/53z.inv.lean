/-! THE RELATION between the class and the reference, in their numbers -/
def MomR (np nd : Nat) (u : MomS) (s : Nat → Int32) (o : Nat) : Prop :=
  ∃ hh : Nat, hh ≤ 200 ∧ u.1 = nI hh ∧ s o = nI hh ∧
  ((u.2.1 = -9 ∧ s (o + 1) = -9 ∧ u.2.2.2.1 = 0) ∨ ∃ k si : Nat, k < np ∧ si ≤ hh ∧ u.2.1 = nI k ∧ s (o + 1) = nI k ∧ u.2.2.1 = nI si ∧ s (o + 2) = nI si) ∧
  okZ u.2.2.2.1 ∧ s (o + 3) = u.2.2.2.1 ∧
  (∃ dn : Nat, dn < 2 ^ nd ∧ u.2.2.2.2.1 = nI dn ∧ s (o + 22) = nI dn) ∧
  (∀ p : Nat, p < np → ∃ x : Nat, x ≤ 30 ∧ u.2.2.2.2.2.1 p = nI x ∧ s (o + 4 + p) = nI x) ∧
  (∀ p : Nat, p < np → ∃ t : Nat, t ≤ hh ∧ u.2.2.2.2.2.2.1 p = nI t ∧ s (o + 10 + p) = nI t) ∧
  (∀ p : Nat, p < 6 → ∃ w : Nat, w ≤ 999 ∧ u.2.2.2.2.2.2.2 p = nI w ∧ s (o + 16 + p) = nI w)
def LedR (np nd : Nat) (st : Int32) (u : MomS) (P : Nat → MomS) (s : Nat → Int32) (o : Nat) : Prop :=
  ∃ n : Nat, n ≤ 10 ∧ st = nI n ∧ s (o + 23) = nI n ∧ MomR np nd u s o ∧ ∀ k : Nat, k < n → MomR np nd (P k) s (o + 24 + 23 * k)
def PortR (np nd : Nat) (ci : Nat → Int32) (ca : Nat → Nat → Int32) (told : Nat → Int32) : Prop :=
  np ≤ 6 ∧ nd ≤ 8 ∧ ci 10 = nI np ∧ told 0 = nI np ∧ ci 11 = nI nd ∧ told 1 = nI nd ∧
  (∃ x : Nat, x ≤ 30 ∧ ci 8 = nI x ∧ told 2 = nI x) ∧ (∃ x : Nat, x ≤ 9 ∧ ci 9 = nI x ∧ told 3 = nI x) ∧
  (∀ p : Nat, p < np → ∃ x : Nat, x ≤ 30 ∧ ca 1 p = nI x ∧ told (6 + p) = nI x) ∧
  ∀ d : Nat, d < nd → ∃ w x f t v : Nat, w < np ∧ x ≤ 30 ∧ f ≤ t ∧ t ≤ 99 ∧ 1 ≤ v ∧ v ≤ 20 ∧ ca 2 d = nI w ∧ told (12 + d) = nI w ∧ ca 3 d = nI x ∧ told (20 + d) = nI x ∧ ca 4 d = nI f ∧ told (28 + d) = nI f ∧ ca 5 d = nI t ∧ told (36 + d) = nI t ∧ ca 6 d = nI v ∧ told (44 + d) = nI v
def TextR (n1 n2 : Int32) (a b : Nat → Int32) : Prop := ∃ n : Nat, n ≤ 180 ∧ n1 = nI n ∧ n2 = nI n ∧ ∀ i : Nat, i < n → ∃ x : Nat, x < 256 ∧ a i = nI x ∧ b i = nI x
def HeardR (nd : Nat) (n1 n2 : Int32) (d1 h1 d2 h2 : Nat → Int32) : Prop :=
  ∃ n : Nat, n ≤ 6 ∧ n1 = nI n ∧ n2 = nI n ∧ (∀ i : Nat, i < n → ∃ d t : Nat, d < nd ∧ t ≤ 99 ∧ d1 i = nI d ∧ d2 i = nI d ∧ h1 i = nI t ∧ h2 i = nI t) ∧ ∀ i : Nat, i + 1 < n → h1 i ≤ h1 (i + 1)
/-- what the reference's search gives, whatever lies in its scratch rows -/
def BestR (told s : Nat → Int32) (n w h : Int32) (row : Nat → Int32) : Prop :=
  ∀ r b p : Nat → Int32, ∃ o', fX11_rounds told s r b p = some o' ∧ o'.1 = n ∧ o'.2.1 = w ∧ o'.2.2.1 = h ∧ ∀ k : Nat, nI k < n → k < 8 → o'.2.2.2.2.1 k = row k
def Inv (tr : Int64) (ci : Nat → Int32) (ca : Nat → Nat → Int32) (pr : Nat → MomS) (pm : Nat → Nat → MomS) (mt : Int64) (mi : Nat → Int32) (ma : Nat → Nat → Int32) : Prop :=
  tr = mt ∧ TextR (ci 1) (mi 0) (ca 0) (ma 0) ∧ ∃ np nd : Nat, PortR np nd ci ca (ma 1) ∧ LedR np nd (ci 16) (pr 0) (pm 0) (ma 3) 0 ∧
  (okZ (ca 13 0) ∧ ma 5 0 = ca 13 0 ∧ (ca 13 0 = 1 → LedR np nd (ci 17) (pr 1) (pm 1) (ma 4) 0)) ∧
  (okZ (ca 13 1) ∧ ma 5 1 = ca 13 1 ∧ (ca 13 1 = 1 → LedR np nd (ci 18) (pr 2) (pm 2) (ma 4) 254)) ∧
  HeardR nd (ci 19) (mi 1) (ca 14) (ca 15) (ma 6) (ma 7) ∧
  okZ (ci 0) ∧ (ci 0 = 1 → BestR (ma 1) (ma 3) (ci 23) (ci 24) (ci 25) (ca 17))
