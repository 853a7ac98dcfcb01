/-! THE TEXT READ, A PORT BEGUN -/
section READER2
variable {n : Nat} {x : Nat → Nat} {a b : Nat → Int32}
theorem item_cm (hn : n ≤ 180) (hx : ∀ i, i < n → x i < 256 ∧ a i = nI (x i) ∧ b i = nI (x i)) {k st it o1 f1 : Nat} {D : DS} {t : Nat → Int32} {s1 v1 s2 v2 : Int32} (hk : k ≤ n) (hst : st ≤ 180) (hD : DrR o1 f1 it D t) (hT : TokR s1 v1 s2 v2) :
    ItemR n b k it (fX5_readItem (nI o1) (nI f1) (nI n) (nI st) (nI k) s1 v1 a D.1 D.2.1 D.2.2.1 D.2.2.2.1 D.2.2.2.2.1 D.2.2.2.2.2.1 D.2.2.2.2.2.2.1 D.2.2.2.2.2.2.2.1 D.2.2.2.2.2.2.2.2.1 D.2.2.2.2.2.2.2.2.2) (fX11_readsItem (nI n) (nI k) s2 (nI st) v2 b t) := by
  have other : ¬ s1 = 1 → ¬ s2 = 1 → ItemR n b k it (fX5_readItem (nI o1) (nI f1) (nI n) (nI st) (nI k) s1 v1 a D.1 D.2.1 D.2.2.1 D.2.2.2.1 D.2.2.2.2.1 D.2.2.2.2.2.1 D.2.2.2.2.2.2.1 D.2.2.2.2.2.2.2.1 D.2.2.2.2.2.2.2.2.1 D.2.2.2.2.2.2.2.2.2) (fX11_readsItem (nI n) (nI k) s2 (nI st) v2 b t) := by
    intro h1 h2
    have hc : fX5_readItem (nI o1) (nI f1) (nI n) (nI st) (nI k) s1 v1 a D.1 D.2.1 D.2.2.1 D.2.2.2.1 D.2.2.2.2.1 D.2.2.2.2.2.1 D.2.2.2.2.2.2.1 D.2.2.2.2.2.2.2.1 D.2.2.2.2.2.2.2.2.1 D.2.2.2.2.2.2.2.2.2 = some (0, nI o1, nI f1, nI st, nI k, s1, v1, D) := by
      unfold fX5_readItem
      rw [if_neg h1]
    refine ItemR_fail (st := st) (0, nI o1, nI f1, nI st, nI k, s1, v1, D) (0, nI k, s2, nI st, v2, t) hc ?_ rfl rfl rfl rfl hst
    unfold fX11_readsItem
    rw [if_neg h2, lt_eq, lt_eq, if_neg (show ¬ (0 : Int32) = 100 by decide), if_neg (show ¬ (0 : Int32) = 102 by decide), if_neg (show ¬ (0 : Int32) = 111 by decide), if_neg (show ¬ (0 : Int32) = 112 by decide)]
  rcases hT with ⟨q1, q2⟩ | ⟨q1, q2, q3⟩ | ⟨q1, q2, v, q3, q4, q5⟩ | ⟨q1, q2⟩ | ⟨q1, q2⟩ | ⟨q1, q2, v, q3, q4, q5⟩
  · exact other (by rw [q1]; decide) (by rw [q2]; decide)
  · subst q1
    subst q2
    subst q3
    by_cases z1 : v1 = 100
    · subst z1; exact item_d hn hx hk hst hD
    by_cases z2 : v1 = 102
    · subst z2; exact item_f hn hx hk hst hD
    by_cases z3 : v1 = 111
    · subst z3; exact item_o hn hx hk hst hD
    by_cases z4 : v1 = 112
    · subst z4; exact item_p hn hx hk hst hD
    have hc : fX5_readItem (nI o1) (nI f1) (nI n) (nI st) (nI k) 1 v1 a D.1 D.2.1 D.2.2.1 D.2.2.2.1 D.2.2.2.2.1 D.2.2.2.2.2.1 D.2.2.2.2.2.2.1 D.2.2.2.2.2.2.2.1 D.2.2.2.2.2.2.2.2.1 D.2.2.2.2.2.2.2.2.2 = some (0, nI o1, nI f1, nI st, nI k, 1, v1, D) := by
      unfold fX5_readItem
      rw [if_pos rfl, if_neg z1, if_neg z2, if_neg z3, if_neg z4]
    refine ItemR_fail (st := st) (0, nI o1, nI f1, nI st, nI k, 1, v1, D) (0, nI k, 1, nI st, v1, t) hc ?_ rfl rfl rfl rfl hst
    unfold fX11_readsItem
    rw [if_pos rfl, lt_eq, lt_eq, if_neg z1, if_neg z2, if_neg z3, if_neg z4]
  · exact other (by rw [q1]; decide) (by rw [q2]; decide)
  · exact other (by rw [q1]; decide) (by rw [q2]; decide)
  · exact other (by rw [q1]; decide) (by rw [q2]; decide)
  · exact other (by rw [q1]; decide) (by rw [q2]; decide)
end READER2
