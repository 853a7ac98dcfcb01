/-! WALKS, LENDS, BRINGS -/
def aSp (po : Nat) (a : AM) : Nat := match aO a with
  | none => po
  | some k => aA a k
def dist (x y : Nat) : Nat := if x ≤ y then y - x else x - y
theorem dist_c (x y : Nat) : dist x y = dist y x := by
  unfold dist
  split <;> split <;> omega
theorem dist_le {x y c : Nat} (hx : x ≤ c) (hy : y ≤ c) : dist x y ≤ c := by
  unfold dist
  split <;> omega
theorem far_m {x y : Nat} (hx : x < 2 ^ 30) (hy : y < 2 ^ 30) : fX11_far (nI x) (nI y) = some (nI (dist x y)) := by
  unfold fX11_far dist
  by_cases h : x ≤ y
  · rw [if_pos (nI_le h (by omega)), if_pos h, pk_sub h]
  · rw [if_neg (nI_ge (show y < x by omega) (by omega)), if_neg h, pk_sub (by omega)]
theorem abs_c {x y : Nat} (hx : x < 2 ^ 30) (hy : y < 2 ^ 30) : (if 0 ≤ nI x - nI y then nI x - nI y else 0 - (nI x - nI y)) = nI (dist x y) := by
  unfold dist
  have e : (nI x - nI y).toInt = (x : Int) - y := pk_sub_toInt (by omega) (by omega)
  by_cases h : y ≤ x
  · rw [if_pos (by rw [Int32.le_iff_toInt_le, e, Int32.toInt_zero]; omega), pk_sub h]
    by_cases q : x ≤ y
    · rw [if_pos q, show x = y by omega]
    · rw [if_neg q]
  · rw [if_neg (by rw [Int32.le_iff_toInt_le, e, Int32.toInt_zero]; omega), if_pos (by omega), Int32.zero_sub, Int32.neg_sub, pk_sub (by omega)]
theorem aSp_none {po : Nat} {a : AM} (q : aO a = none) : aSp po a = po := by
  unfold aSp
  rw [q]
theorem aSp_some {po k : Nat} {a : AM} (q : aO a = some k) : aSp po a = aA a k := by
  unfold aSp
  rw [q]
theorem ho_some {a : AM} (q : ¬ aO a = none) : ∃ k, aO a = some k := by
  cases h : aO a with
  | none => exact absurd h q
  | some k => exact ⟨k, rfl⟩
theorem spoon_c {np nd po : Nat} {a : AM} {u : MomS} (hV : MVa np nd a) (hC : MCl np a u) (hnp : np ≤ 6) : fX2_spoonPlace u.2.1 u.2.2.2.2.2.1 (nI po) = some (nI (aSp po a)) := by
  obtain ⟨k1, k2, k3, k4, k5, k6, k7⟩ := hC
  unfold fX2_spoonPlace
  rw [k2, held_c (hV.ho hnp), Option.bind_some]
  by_cases q : aO a = none
  · rw [if_pos q, if_pos rfl, aSp_none q]
    rfl
  · obtain ⟨k, hk⟩ := ho_some q
    have hk1 := (hV.2.2.2.1 k hk).1
    rw [if_neg q, if_neg one_ne, aSp_some hk, hk, show hoI (some k) = nI k from rfl, chk_vin (by omega) (by omega), nI_clamp (by omega), (k6 k hk1).1]
    rfl
theorem spoon_m {np nd po : Nat} {a : AM} {t s : Nat → Int32} (hV : MVa np nd a) (hM : MMo np a s 0) (hnp : np ≤ 6) (ht : t 2 = nI po) : fX11_spoonAt t s = some (nI (aSp po a)) := by
  obtain ⟨g1, g2, g3, g4, g5, g6, g7⟩ := mmo_un hM
  unfold fX11_spoonAt
  rw [held_m hV hnp g2, Option.bind_some, g2, ht]
  by_cases q : aO a = none
  · rw [if_pos q, if_pos rfl, aSp_none q]
    rfl
  · obtain ⟨k, hk⟩ := ho_some q
    have hk1 := (hV.2.2.2.1 k hk).1
    rw [if_neg q, if_neg one_ne, aSp_some hk, hk, show (4 : Int32) + hoI (some k) = nI (4 + k) from nI_add 4 k, chk_vin (by omega) (by omega), nI_clamp (by omega), (g6 k hk1).1]
    rfl
theorem aSp_le {np nd po : Nat} {a : AM} (hV : MVa np nd a) (hp : po ≤ 30) : aSp po a ≤ 30 := by
  unfold aSp
  cases q : aO a with
  | none => exact hp
  | some k => exact (hV.2.2.2.2.2.1 k (hV.2.2.2.1 k q).1).1
section STEPS2
variable {tr : Int64} {ci : Nat → Int32} {ca : Nat → Nat → Int32} {pr : Nat → MomS} {pm : Nat → Nat → MomS} {mt : Int64} {mi : Nat → Int32} {ma : Nat → Nat → Int32}
theorem P_walks (pg : Nat → Nat → Nat) (h : Inv tr ci ca pr pm mt mi ma) (p1 : Int32) : ∃ o o', fX10_walks (ci 0) (ci 8) (ci 16) ((pr 0).1) ((pr 0).2.1) ((pr 0).2.2.1) ((pr 0).2.2.2.1) ((pr 0).2.2.2.2.1) ((pr 0).2.2.2.2.2.1) ((pr 0).2.2.2.2.2.2.1) ((pr 0).2.2.2.2.2.2.2) (pm 0) (pg 0) p1 = some o ∧ fX11_walks (ma 1) (ma 3) p1 = some o' ∧ o.1 = o'.1 ∧ Inv tr (upd (upd ci 0 o.2.1) 16 o.2.2.1) ca (va_up pr 0 (o.2.2.2.1, (pr 0).2.1, (pr 0).2.2.1, (pr 0).2.2.2.1, (pr 0).2.2.2.2.1, o.2.2.2.2.1, (pr 0).2.2.2.2.2.2.1, (pr 0).2.2.2.2.2.2.2)) (va_up pm 0 o.2.2.2.2.2.1) mt mi (va_up ma 3 o'.2) := by
  obtain ⟨htr, hT, np, nd, po, fr, hm, wh, pl, fm, tl, wo, a, hPV, hC, hMo, ⟨ns, hns, e16, s23, hMV, hMC, hMM, hpast⟩, hI0, hI1, hHe, hz, hB⟩ := id h
  have hnp := hPV.1
  have hpo := hPV.2.2.1
  obtain ⟨k1, k2, k3, k4, k5, k6, k7⟩ := id hMC
  obtain ⟨g1, g2, g3, g4, g5, g6, g7⟩ := mmo_un hMM
  have hsp := aSp_le hMV hpo
  have sc := spoon_c (po := po) hMV hMC hnp
  have sm' := spoon_m (po := po) (t := ma 1) hMV hMM hnp hMo.2.2.1
  have hh : fX2_isHeld (pr 0).2.1 = some (if aO a = none then 0 else 1) := by rw [k2]; exact held_c (hMV.ho hnp)
  unfold fX10_walks fX11_walks fX10_beginStep
  rw [in_eq, Option.bind_some, hC.1]
  rcases in3 p1 0 30 (by omega) (by omega) with q | ⟨q0, q1, q2⟩ | ⟨j, hj1, hj2, hj3, q0, q1, q2⟩
  · rw [if_pos (show p1 < 0 from q), if_pos (show p1 < 0 from q), if_pos rfl]
    exact ⟨_, _, rfl, rfl, rfl, Inv_same h⟩
  · rw [if_neg (show ¬ p1 < 0 from q0), if_neg (show ¬ p1 ≤ 30 from q1), if_neg (show ¬ p1 < 0 from q0), if_pos (show 30 < p1 from q2), if_pos rfl]
    exact ⟨_, _, rfl, rfl, rfl, Inv_same h⟩
  · rw [if_neg (show ¬ p1 < 0 from q0), if_pos (show p1 ≤ 30 from q1), if_neg (show ¬ p1 < 0 from q0), if_neg (show ¬ 30 < p1 from q2), if_neg one_ne, held_m hMV hnp g2, sc, sm', Option.bind_some, Option.bind_some]
    subst hj3
    rw [abs_c (by omega) (by omega), far_m (by omega) (by omega), dist_c j, Option.bind_some, Option.bind_some, hh, lt_eq, Option.bind_some]
    by_cases qn : aO a = none
    · rw [if_pos qn, if_pos rfl, if_pos rfl]
      exact ⟨_, _, rfl, rfl, rfl, Inv_same h⟩
    · obtain ⟨k, qh⟩ := ho_some qn
      have hk := (hMV.2.2.2.1 k qh).1
      have ho : (pr 0).2.1 = nI k := by rw [k2, qh]; rfl
      rw [if_neg qn, if_neg one_ne, if_neg one_ne]
      have hd := dist_le hsp hj2
      by_cases q3 : dist (aSp po a) j = 0
      · rw [q3, if_pos (show nI 0 = (0 : Int32) from rfl), if_pos (show nI 0 = (0 : Int32) from rfl)]
        exact ⟨_, _, rfl, rfl, rfl, Inv_same h⟩
      · have q4 : ¬ nI (dist (aSp po a) j) = 0 := fun z => q3 ((nI_eq (b := 0) (by omega) (by omega)).mp z)
        rw [if_neg q4, if_neg q4]
        have ec : (pr 0).1 + nI (dist (aSp po a) j) = nI (aH a + dist (aSp po a) j) := by rw [k1, nI_add]
        have em : ma 3 0 + nI (dist (aSp po a) j) = nI (aH a + dist (aSp po a) j) := by rw [g1, nI_add]
        have hH := hMV.1
        rw [ec, em]
        generalize hdd : aH a + dist (aSp po a) j = H'
        rw [hdd] at ec em
        by_cases qq : H' ≤ 200
        · rw [if_pos (show nI H' ≤ 200 from nI_le (b := 200) qq (by omega)), if_pos (show nI H' ≤ 200 from nI_le (b := 200) qq (by omega))]
          obtain ⟨n', P', g', s', r1, r2, hn', h0', s23', hs', hP'⟩ := remember (g := pg 0) hnp hns s23 hMV hMC hMM hpast
          rw [e16, r1, r2]
          refine ⟨(nI H', 0, nI n', nI H', upd ((pr 0).2.2.2.2.2.1) k (nI j), P', g'), (nI H', upd (upd s' (4 + k) (nI j)) 0 (nI H')), ?_, ?_, rfl, ?_⟩
          · unfold fX2_walkTo
            rw [hh, if_neg qn, Option.bind_some, Option.bind_some, Option.bind_some, if_neg one_ne, ho, chk_vin (by omega) (by omega), nI_clamp (by omega), ec, lt_eq]
            rfl
          · rw [Option.bind_some, hs' 1 (by omega), g2, qh, show (4 : Int32) + hoI (some k) = nI (4 + k) from nI_add 4 k, chk_vin (by omega) (by omega), nI_clamp (by omega), upd_n _ _ (show ¬ 0 = 4 + k by omega), hs' 0 (by omega), em, lt_eq, upd_s]
          · refine Inv_new (s' := upd (upd s' (4 + k) (nI j)) 0 (nI H')) (a' := (H', aS a, aF a, aD a, aO a, fun p => if p = k then j else aA a p, aL a, aW a)) htr hT hPV hC hMo hI0 hI1 hHe ⟨n', hn', rfl, ?_, ?_, ⟨rfl, k2, k3, k4, k5, ?_, k7⟩, ?_, ?_⟩
            · exact (upd_n _ _ (by omega)).trans ((upd_n _ _ (by omega)).trans s23')
            · obtain ⟨v1, v2, v3, v4, v5, v6, v7⟩ := hMV
              have hle : aH a ≤ H' := by omega
              refine ⟨qq, v2, v3, fun k hk => ⟨(v4 k hk).1, Nat.le_trans (v4 k hk).2 hle⟩, v5, fun p hp => ⟨?_, Nat.le_trans (v6 p hp).2 hle⟩, v7⟩
              show (if p = k then j else aA a p) ≤ 30
              have := (v6 p hp).1
              split <;> omega
            · intro p hp
              refine ⟨?_, (k6 p hp).2⟩
              show upd ((pr 0).2.2.2.2.2.1) k (nI j) p = nI (if p = k then j else aA a p)
              by_cases e : p = k
              · subst e
                rw [upd_s, if_pos rfl]
              · rw [upd_n _ _ e, if_neg e]
                exact (k6 p hp).1
            · have hs2 : ∀ i, i < 23 → ¬ i = 0 → ¬ i = 4 + k → upd (upd s' (4 + k) (nI j)) 0 (nI H') i = ma 3 i := fun i hi h0 h1 => (upd_n _ _ h0).trans ((upd_n _ _ h1).trans (hs' i hi))
              refine mmo_mk (upd_s _ _ _) ((hs2 _ (by omega) (by omega) (by omega)).trans g2) (fun k hk => (hs2 _ (by omega) (by omega) (by omega)).trans (g3 k hk)) ((hs2 _ (by omega) (by omega) (by omega)).trans g4) ((hs2 _ (by omega) (by omega) (by omega)).trans g5) (fun p hp => ⟨?_, (hs2 _ (by omega) (by omega) (by omega)).trans (g6 p hp).2⟩) (fun p hp => (hs2 _ (by omega) (by omega) (by omega)).trans (g7 p hp))
              show upd (upd s' (4 + k) (nI j)) 0 (nI H') (4 + p) = nI (if p = k then j else aA a p)
              by_cases e : p = k
              · subst e
                rw [upd_n _ _ (by omega), upd_s, if_pos rfl]
              · rw [hs2 _ (by omega) (by omega) (by omega), if_neg e]
                exact (g6 p hp).1
            · exact PastR_cg hnp hP' (fun i hi => (upd_n _ _ (by omega)).trans (upd_n _ _ (by omega)))
        · rw [if_neg (show ¬ nI H' ≤ 200 from nI_ge (a := 200) (by omega) (by omega)), if_neg (show ¬ nI H' ≤ 200 from nI_ge (a := 200) (by omega) (by omega))]
          exact ⟨_, _, rfl, rfl, rfl, Inv_same h⟩
end STEPS2
