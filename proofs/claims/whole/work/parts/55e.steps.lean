/-! STEPS -/
theorem in3 (x : Int32) (lo hi : Nat) (h : lo ≤ hi) (hh : hi < 2 ^ 29) : (x < nI lo) ∨ (¬ x < nI lo ∧ ¬ x ≤ nI hi ∧ nI hi < x) ∨ ∃ j, lo ≤ j ∧ j ≤ hi ∧ x = nI j ∧ ¬ x < nI lo ∧ x ≤ nI hi ∧ ¬ nI hi < x := by
  rcases ix3 x (hi + 1) (by omega) with (h0 | ⟨h0, h1⟩) | ⟨j, hj, rfl⟩
  · left
    rw [Int32.lt_iff_toInt_lt, nI_toInt (by omega)]
    rw [Int32.lt_iff_toInt_lt, Int32.toInt_zero] at h0
    omega
  · right
    left
    rw [Int32.le_iff_toInt_le, nI_toInt (by omega)] at h1
    rw [Int32.lt_iff_toInt_lt, Int32.le_iff_toInt_le, Int32.lt_iff_toInt_lt, nI_toInt (by omega), nI_toInt (by omega)]
    omega
  · by_cases q : j < lo
    · exact Or.inl (nI_lt q (by omega))
    · exact Or.inr (Or.inr ⟨j, by omega, by omega, rfl, nI_nlt (by omega) (by omega), nI_le (by omega) (by omega), nI_nlt (by omega) (by omega)⟩)
theorem upd_id (f : Nat → Int32) (k : Nat) : upd f k (f k) = f := by
  funext i
  by_cases h : i = k
  · subst h
    rw [upd_s]
  · rw [upd_n _ _ h]
theorem vup_id {α : Type} (f : Nat → α) (k : Nat) : va_up f k (f k) = f := by
  funext i
  by_cases h : i = k
  · subst h
    rw [vup_s]
  · rw [vup_n _ _ h]
theorem mmo_mk {np : Nat} {a : AM} {s : Nat → Int32} (h1 : s 0 = nI (aH a)) (h2 : s 1 = hoI (aO a)) (h3 : ∀ k, aO a = some k → s 2 = nI (aS a)) (h4 : s 3 = nI (aF a)) (h5 : s 22 = nI (aD a)) (h6 : ∀ p, p < np → s (4 + p) = nI (aA a p) ∧ s (10 + p) = nI (aL a p)) (h7 : ∀ p, p < 6 → s (16 + p) = nI (aW a p)) : MMo np a s 0 := by
  refine ⟨h1, h2, h3, h4, h5, fun p hp => ?_, fun p hp => ?_⟩
  · rw [Nat.zero_add, Nat.zero_add]
    exact h6 p hp
  · rw [Nat.zero_add]
    exact h7 p hp
theorem mmo_un {np : Nat} {a : AM} {s : Nat → Int32} (h : MMo np a s 0) : s 0 = nI (aH a) ∧ s 1 = hoI (aO a) ∧ (∀ k, aO a = some k → s 2 = nI (aS a)) ∧ s 3 = nI (aF a) ∧ s 22 = nI (aD a) ∧ (∀ p, p < np → s (4 + p) = nI (aA a p) ∧ s (10 + p) = nI (aL a p)) ∧ ∀ p, p < 6 → s (16 + p) = nI (aW a p) := by
  obtain ⟨h1, h2, h3, h4, h5, h6, h7⟩ := h
  simp only [Nat.zero_add] at h2 h3 h4 h5 h6 h7
  exact ⟨h1, h2, h3, h4, h5, h6, h7⟩
theorem PastR_cg {np nd n : Nat} {P : Nat → MomS} {s s' : Nat → Int32} (hn : np ≤ 6) (h : PastR np nd n P s 0) (e : ∀ i, 24 ≤ i → s' i = s i) : PastR np nd n P s' 0 := by
  intro k hk
  obtain ⟨b, b1, b2, b3⟩ := h k hk
  exact ⟨b, b1, b2, MMo_cg hn b3 (fun i _ => e _ (by omega))⟩
section STEPS
variable {tr : Int64} {ci : Nat → Int32} {ca : Nat → Nat → Int32} {pr : Nat → MomS} {pm : Nat → Nat → MomS} {mt : Int64} {mi : Nat → Int32} {ma : Nat → Nat → Int32}
theorem Inv_same (h : Inv tr ci ca pr pm mt mi ma) : Inv tr (upd (upd ci 0 (ci 0)) 16 (ci 16)) ca (va_up pr 0 (pr 0)) (va_up pm 0 (pm 0)) mt mi (va_up ma 3 (ma 3)) := by
  have e : upd (upd ci 0 (ci 0)) 16 (ci 16) = ci := by
    rw [upd_id, upd_id]
  rw [e, vup_id, vup_id, vup_id]
  exact h
theorem Inv_new {np nd po fr : Nat} {hm wh pl fm tl wo : Nat → Nat} {n' : Nat} {a' : AM} {u' : MomS} {P' : Nat → MomS} {s' : Nat → Int32} (htr : tr = mt) (hT : TextR (ci 1) (mi 0) (ca 0) (ma 0)) (hPV : PV np nd po fr hm wh pl fm tl wo) (hC : PCl np nd po fr hm wh pl fm tl wo ci ca) (hMo : PMo np nd po fr hm wh pl fm tl wo (ma 1)) (hI0 : ImgR np nd (ca 13 0) (ma 5 0) (ci 17) (pr 1) (pm 1) (ma 4) 0) (hI1 : ImgR np nd (ca 13 1) (ma 5 1) (ci 18) (pr 2) (pm 2) (ma 4) 254) (hHe : HeardR nd (ci 19) (mi 1) (ca 14) (ca 15) (ma 6) (ma 7)) (hL : LedR np nd (nI n') u' P' s' 0 a') : Inv tr (upd (upd ci 0 0) 16 (nI n')) ca (va_up pr 0 u') (va_up pm 0 P') mt mi (va_up ma 3 s') :=
  ⟨htr, hT, np, nd, po, fr, hm, wh, pl, fm, tl, wo, a', hPV, hC, hMo, hL, hI0, hI1, hHe, okZ_0, fun z => absurd (show (0 : Int32) = 1 from z) (by decide)⟩
theorem P_keeps (pg : Nat → Nat → Nat) (h : Inv tr ci ca pr pm mt mi ma) (p1 : Int32) : ∃ o o', fX10_keeps (ci 0) (ci 16) ((pr 0).1) ((pr 0).2.1) ((pr 0).2.2.1) ((pr 0).2.2.2.1) ((pr 0).2.2.2.2.1) ((pr 0).2.2.2.2.2.1) ((pr 0).2.2.2.2.2.2.1) ((pr 0).2.2.2.2.2.2.2) (pm 0) (pg 0) p1 = some o ∧ fX11_keeps (ma 3) p1 = some o' ∧ o.1 = o'.1 ∧ Inv tr (upd (upd ci 0 o.2.1) 16 o.2.2.1) ca (va_up pr 0 (o.2.2.2.1, (pr 0).2.1, (pr 0).2.2.1, (pr 0).2.2.2.1, (pr 0).2.2.2.2.1, (pr 0).2.2.2.2.2.1, (pr 0).2.2.2.2.2.2.1, (pr 0).2.2.2.2.2.2.2)) (va_up pm 0 o.2.2.2.2.1) mt mi (va_up ma 3 o'.2) := by
  obtain ⟨htr, hT, np, nd, po, fr, hm, wh, pl, fm, tl, wo, a, hPV, hC, hMo, ⟨ns, hns, e16, s23, hMV, hMC, hMM, hpast⟩, hI0, hI1, hHe, hz, hB⟩ := id h
  have hnp := hPV.1
  obtain ⟨k1, k2, k3, k4, k5, k6, k7⟩ := id hMC
  obtain ⟨g1, g2, g3, g4, g5, g6, g7⟩ := mmo_un hMM
  unfold fX10_keeps fX11_keeps fX10_beginStep
  rw [in_eq, Option.bind_some]
  rcases in3 p1 1 20 (by omega) (by omega) with q | ⟨q0, q1, q2⟩ | ⟨j, hj1, hj2, hj3, q0, q1, q2⟩
  · rw [if_pos (show p1 < 1 from q), if_pos (show p1 < 1 from q), if_pos rfl]
    exact ⟨_, _, rfl, rfl, rfl, Inv_same h⟩
  · rw [if_neg (show ¬ p1 < 1 from q0), if_neg (show ¬ p1 ≤ 20 from q1), if_neg (show ¬ p1 < 1 from q0), if_pos (show 20 < p1 from q2), if_pos rfl]
    exact ⟨_, _, rfl, rfl, rfl, Inv_same h⟩
  · rw [if_neg (show ¬ p1 < 1 from q0), if_pos (show p1 ≤ 20 from q1), if_neg (show ¬ p1 < 1 from q0), if_neg (show ¬ 20 < p1 from q2), if_neg one_ne, held_m hMV hnp g2, Option.bind_some]
    have hh : fX2_isHeld (pr 0).2.1 = some (if aO a = none then 0 else 1) := by rw [k2]; exact held_c (hMV.ho hnp)
    rw [hh, Option.bind_some]
    by_cases qh : aO a = none
    · rw [if_pos qh, if_pos rfl, if_pos rfl]
      exact ⟨_, _, rfl, rfl, rfl, Inv_same h⟩
    · rw [if_neg qh, if_neg one_ne, if_neg one_ne]
      subst hj3
      have ec : (pr 0).1 + nI j = nI (aH a + j) := by rw [k1, nI_add]
      have em : ma 3 0 + nI j = nI (aH a + j) := by rw [g1, nI_add]
      have hH := hMV.1
      rw [ec, em]
      by_cases qq : aH a + j ≤ 200
      · rw [if_pos (show nI (aH a + j) ≤ 200 from nI_le (b := 200) qq (by omega)), if_pos (show nI (aH a + j) ≤ 200 from nI_le (b := 200) qq (by omega))]
        obtain ⟨n', P', g', s', r1, r2, hn', h0', s23', hs', hP'⟩ := remember (g := pg 0) hnp hns s23 hMV hMC hMM hpast
        rw [e16, r1, r2]
        refine ⟨(nI (aH a + j), 0, nI n', nI (aH a + j), P', g'), (nI (aH a + j), upd s' 0 (nI (aH a + j))), rfl, ?_, rfl, ?_⟩
        · rw [Option.bind_some, hs' 0 (by omega), em, lt_eq, upd_s]
        · refine Inv_new (s' := upd s' 0 (nI (aH a + j))) (a' := (aH a + j, aS a, aF a, aD a, aO a, aA a, aL a, aW a)) htr hT hPV hC hMo hI0 hI1 hHe ⟨n', hn', rfl, ?_, ?_, ⟨rfl, k2, k3, k4, k5, k6, k7⟩, ?_, ?_⟩
          · exact (upd_n _ _ (by omega)).trans s23'
          · obtain ⟨v1, v2, v3, v4, v5, v6, v7⟩ := hMV
            exact ⟨qq, v2, v3, fun k hk => ⟨(v4 k hk).1, Nat.le_trans (v4 k hk).2 (Nat.le_add_right _ _)⟩, v5, fun p hp => ⟨(v6 p hp).1, Nat.le_trans (v6 p hp).2 (Nat.le_add_right _ _)⟩, v7⟩
          · have hs2 : ∀ i, i < 23 → ¬ i = 0 → upd s' 0 (nI (aH a + j)) i = ma 3 i := fun i hi h0 => (upd_n _ _ h0).trans (hs' i hi)
            exact mmo_mk (upd_s _ _ _) ((hs2 _ (by omega) (by omega)).trans g2) (fun k hk => (hs2 _ (by omega) (by omega)).trans (g3 k hk)) ((hs2 _ (by omega) (by omega)).trans g4) ((hs2 _ (by omega) (by omega)).trans g5) (fun p hp => ⟨(hs2 _ (by omega) (by omega)).trans (g6 p hp).1, (hs2 _ (by omega) (by omega)).trans (g6 p hp).2⟩) (fun p hp => (hs2 _ (by omega) (by omega)).trans (g7 p hp))
          · exact PastR_cg hnp hP' (fun i hi => upd_n _ _ (by omega))
      · rw [if_neg (show ¬ nI (aH a + j) ≤ 200 from nI_ge (a := 200) (by omega) (by omega)), if_neg (show ¬ nI (aH a + j) ≤ 200 from nI_ge (a := 200) (by omega) (by omega))]
        exact ⟨_, _, rfl, rfl, rfl, Inv_same h⟩
end STEPS
