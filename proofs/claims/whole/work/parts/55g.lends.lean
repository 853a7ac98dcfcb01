/-! GIVING IT AWAY -/
def giveL (a : AM) : Nat → Nat := match aO a with
  | none => aL a
  | some k => fun p => if p = k then aH a else aL a p
def giveR (fr : Nat) (a : AM) : Nat := match aO a with
  | none => 0
  | some k => min (aW a k + (aH a - aS a - fr)) 999
def giveW (fr : Nat) (a : AM) : Nat → Nat := match aO a with
  | none => aW a
  | some k => fun p => if p = k then min (aW a k + (aH a - aS a - fr)) 999 else aW a p
theorem tsub_c {x y : Nat} (hx : x < 2 ^ 30) (hy : y < 2 ^ 30) : (if 0 < nI x - nI y then nI x - nI y else 0) = nI (x - y) := by
  have e : (nI x - nI y).toInt = (x : Int) - y := pk_sub_toInt (by omega) (by omega)
  by_cases h : y < x
  · rw [if_pos (by rw [Int32.lt_iff_toInt_lt, e, Int32.toInt_zero]; omega), pk_sub (by omega)]
  · rw [if_neg (by rw [Int32.lt_iff_toInt_lt, e, Int32.toInt_zero]; omega), show x - y = 0 by omega]
    rfl
theorem tsub_m {x y : Nat} (hx : x < 2 ^ 30) (hy : y < 2 ^ 30) : (if nI x - nI y ≤ 0 then 0 else nI x - nI y) = nI (x - y) := by
  have e : (nI x - nI y).toInt = (x : Int) - y := pk_sub_toInt (by omega) (by omega)
  by_cases h : y < x
  · rw [if_neg (by rw [Int32.le_iff_toInt_le, e, Int32.toInt_zero]; omega), pk_sub (by omega)]
  · rw [if_pos (by rw [Int32.le_iff_toInt_le, e, Int32.toInt_zero]; omega), show x - y = 0 by omega]
    rfl
theorem min_c {x : Nat} (hx : x < 2 ^ 30) : (if nI x < 999 then nI x else 999) = nI (min x 999) := by
  by_cases h : x < 999
  · rw [if_pos (show nI x < 999 from nI_lt (b := 999) h (by omega)), show min x 999 = x by omega]
  · rw [if_neg (show ¬ nI x < 999 from nI_nlt (b := 999) (by omega) (by omega)), show min x 999 = 999 by omega]
    rfl
theorem min_m {x : Nat} (hx : x < 2 ^ 30) : (if nI x ≤ 999 then nI x else 999) = nI (min x 999) := by
  by_cases h : x ≤ 999
  · rw [if_pos (show nI x ≤ 999 from nI_le (b := 999) h (by omega)), show min x 999 = x by omega]
  · rw [if_neg (show ¬ nI x ≤ 999 from nI_ge (a := 999) (by omega) (by omega)), show min x 999 = 999 by omega]
    rfl
theorem giveL_none {a : AM} (q : aO a = none) : giveL a = aL a := by
  unfold giveL
  rw [q]
theorem giveR_none {fr : Nat} {a : AM} (q : aO a = none) : giveR fr a = 0 := by
  unfold giveR
  rw [q]
theorem giveW_none {fr : Nat} {a : AM} (q : aO a = none) : giveW fr a = aW a := by
  unfold giveW
  rw [q]
theorem giveL_some {k : Nat} {a : AM} (q : aO a = some k) : giveL a = fun p => if p = k then aH a else aL a p := by
  unfold giveL
  rw [q]
theorem giveR_some {fr k : Nat} {a : AM} (q : aO a = some k) : giveR fr a = min (aW a k + (aH a - aS a - fr)) 999 := by
  unfold giveR
  rw [q]
theorem giveW_some {fr k : Nat} {a : AM} (q : aO a = some k) : giveW fr a = fun p => if p = k then min (aW a k + (aH a - aS a - fr)) 999 else aW a p := by
  unfold giveW
  rw [q]
theorem giveL_le {np nd : Nat} {a : AM} (hV : MVa np nd a) (p : Nat) (hp : p < np) : giveL a p ≤ aH a := by
  by_cases q : aO a = none
  · rw [giveL_none q]
    exact (hV.2.2.2.2.2.1 p hp).2
  · obtain ⟨k, hk⟩ := ho_some q
    rw [giveL_some hk]
    have := (hV.2.2.2.2.2.1 p hp).2
    show (if p = k then aH a else aL a p) ≤ aH a
    split
    · exact Nat.le_refl _
    · exact this
theorem giveW_le {np nd fr : Nat} {a : AM} (hV : MVa np nd a) (p : Nat) (hp : p < 6) : giveW fr a p ≤ 999 := by
  by_cases q : aO a = none
  · rw [giveW_none q]
    exact hV.2.2.2.2.2.2 p hp
  · obtain ⟨k, hk⟩ := ho_some q
    rw [giveW_some hk]
    have := hV.2.2.2.2.2.2 p hp
    show (if p = k then min (aW a k + (aH a - aS a - fr)) 999 else aW a p) ≤ 999
    split
    · omega
    · exact this
theorem give_c {np nd fr : Nat} {a : AM} {u : MomS} (hV : MVa np nd a) (hC : MCl np a u) (hnp : np ≤ 6) (hfr : fr ≤ 9) :
    ∃ (L W : Nat → Int32), fX2_giveAway u.1 u.2.1 u.2.2.1 u.2.2.2.1 u.2.2.2.2.2.2.1 u.2.2.2.2.2.2.2 (nI fr) = some (nI (giveR fr a), -9, 0, L, W) ∧ (∀ p, p < np → L p = nI (giveL a p)) ∧ ∀ p, p < 6 → W p = nI (giveW fr a p) := by
  obtain ⟨k1, k2, k3, k4, k5, k6, k7⟩ := hC
  unfold fX2_giveAway
  by_cases q : aO a = none
  · refine ⟨u.2.2.2.2.2.2.1, u.2.2.2.2.2.2.2, ?_, fun p hp => ?_, fun p hp => ?_⟩
    · rw [k2, q, k4, hV.2.2.2.2.1 q, giveR_none q]
      rfl
    · rw [giveL_none q]
      exact (k6 p hp).2
    · rw [giveW_none q]
      exact k7 p hp
  · obtain ⟨k, hk⟩ := ho_some q
    have hk1 := hV.2.2.2.1 k hk
    have hH := hV.1
    have hW := hV.2.2.2.2.2.2 k (by omega)
    refine ⟨upd u.2.2.2.2.2.2.1 k (nI (aH a)), upd u.2.2.2.2.2.2.2 k (nI (min (aW a k + (aH a - aS a - fr)) 999)), ?_, fun p hp => ?_, fun p hp => ?_⟩
    · have hh : fX2_heldFor u.1 u.2.1 u.2.2.1 = some (nI (aH a - aS a)) := by
        unfold fX2_heldFor
        rw [k2, held_c (hV.ho hnp), Option.bind_some, if_neg q, if_neg one_ne, k1, k3 k hk, pk_sub hk1.2]
      rw [hh, k1, k2, hk, giveR_some hk, show hoI (some k) = nI k from rfl, if_pos (show (0 : Int32) ≤ nI k from nI_le (a := 0) (by omega) (by omega)), Option.bind_some, tsub_c (by omega) (by omega), lt_eq, chk_vin (by omega) (by omega), nI_clamp (by omega), k7 k (by omega), nI_add, min_c (by omega), lt_eq, upd_s]
    · rw [giveL_some hk]
      show _ = nI (if p = k then aH a else aL a p)
      by_cases e : p = k
      · subst e
        rw [upd_s, if_pos rfl]
      · rw [upd_n _ _ e, if_neg e]
        exact (k6 p hp).2
    · rw [giveW_some hk]
      show _ = nI (if p = k then min (aW a k + (aH a - aS a - fr)) 999 else aW a p)
      by_cases e : p = k
      · subst e
        rw [upd_s, if_pos rfl]
      · rw [upd_n _ _ e, if_neg e]
        exact k7 p hp
theorem give_m {np nd fr : Nat} {a : AM} {t s : Nat → Int32} (hV : MVa np nd a) (hM : MMo np a s 0) (hnp : np ≤ 6) (hfr : fr ≤ 9) (ht : t 3 = nI fr) :
    ∃ s2 : Nat → Int32, fX11_gives t s = some (nI (giveR fr a), s2) ∧ (∀ i, i < 10 ∨ 22 ≤ i → s2 i = s i) ∧ (∀ p, p < np → s2 (10 + p) = nI (giveL a p)) ∧ ∀ p, p < 6 → s2 (16 + p) = nI (giveW fr a p) := by
  obtain ⟨g1, g2, g3, g4, g5, g6, g7⟩ := mmo_un hM
  unfold fX11_gives
  rw [held_m hV hnp g2, Option.bind_some]
  by_cases q : aO a = none
  · refine ⟨s, ?_, fun i _ => rfl, fun p hp => ?_, fun p hp => ?_⟩
    · rw [if_pos q, if_pos rfl, giveR_none q]
      rfl
    · rw [giveL_none q]
      exact (g6 p hp).2
    · rw [giveW_none q]
      exact g7 p hp
  · obtain ⟨k, hk⟩ := ho_some q
    have hk1 := hV.2.2.2.1 k hk
    have hH := hV.1
    have hW := hV.2.2.2.2.2.2 k (by omega)
    refine ⟨upd (upd s (16 + k) (nI (min (aW a k + (aH a - aS a - fr)) 999))) (10 + k) (nI (aH a)), ?_, fun i hi => ?_, fun p hp => ?_, fun p hp => ?_⟩
    · rw [if_neg q, if_neg one_ne, g2, hk, giveR_some hk, show hoI (some k) = nI k from rfl, lt_eq, g1, g3 k hk, ht, pk_sub hk1.2, lt_eq, show (16 : Int32) + nI k = nI (16 + k) from nI_add 16 k, show (10 : Int32) + nI k = nI (10 + k) from nI_add 10 k, chk_vin (by omega) (by omega), nI_clamp (by omega), tsub_m (by omega) (by omega), g7 k (by omega), nI_add, lt_eq, min_m (by omega), lt_eq, lt_eq, chk_vin (by omega) (by omega), nI_clamp (by omega), upd_n _ _ (show ¬ 0 = 16 + k by omega), g1, upd_n _ _ (show ¬ 16 + k = 10 + k by omega), upd_s]
    · rw [upd_n _ _ (by omega), upd_n _ _ (by omega)]
    · rw [giveL_some hk]
      show _ = nI (if p = k then aH a else aL a p)
      by_cases e : p = k
      · subst e
        rw [upd_s, if_pos rfl]
      · rw [upd_n _ _ (by omega), upd_n _ _ (by omega), if_neg e]
        exact (g6 p hp).2
    · rw [giveW_some hk]
      show _ = nI (if p = k then min (aW a k + (aH a - aS a - fr)) 999 else aW a p)
      by_cases e : p = k
      · subst e
        rw [upd_n _ _ (by omega), upd_s, if_pos rfl]
      · rw [upd_n _ _ (by omega), upd_n _ _ (by omega), if_neg e]
        exact g7 p hp
section STEPS3
variable {tr : Int64} {ci : Nat → Int32} {ca : Nat → Nat → Int32} {pr : Nat → MomS} {pm : Nat → Nat → MomS} {mt : Int64} {mi : Nat → Int32} {ma : Nat → Nat → Int32}
theorem P_lends (pg : Nat → Nat → Nat) (h : Inv tr ci ca pr pm mt mi ma) (p1 : Int32) : ∃ o o', fX10_lends (ci 0) (ci 8) (ci 9) (ci 10) (ci 16) ((pr 0).1) ((pr 0).2.1) ((pr 0).2.2.1) ((pr 0).2.2.2.1) ((pr 0).2.2.2.2.1) ((pr 0).2.2.2.2.2.1) ((pr 0).2.2.2.2.2.2.1) ((pr 0).2.2.2.2.2.2.2) (pm 0) (pg 0) p1 = some o ∧ fX11_lends (ma 1) (ma 3) p1 = some o' ∧ o.1 = o'.1 ∧ Inv tr (upd (upd ci 0 o.2.1) 16 o.2.2.1) ca (va_up pr 0 ((pr 0).1, o.2.2.2.1, o.2.2.2.2.1, o.2.2.2.2.2.1, (pr 0).2.2.2.2.1, (pr 0).2.2.2.2.2.1, o.2.2.2.2.2.2.1, o.2.2.2.2.2.2.2.1)) (va_up pm 0 o.2.2.2.2.2.2.2.2.1) mt mi (va_up ma 3 o'.2) := by
  obtain ⟨htr, hT, np, nd, po, fr, hm, wh, pl, fm, tl, wo, a, hPV, hC, hMo, ⟨ns, hns, e16, s23, hMV, hMC, hMM, hpast⟩, hI0, hI1, hHe, hz, hB⟩ := id h
  have hnp := hPV.1
  have hpo := hPV.2.2.1
  have hfr := hPV.2.2.2.1
  obtain ⟨k1, k2, k3, k4, k5, k6, k7⟩ := id hMC
  obtain ⟨g1, g2, g3, g4, g5, g6, g7⟩ := mmo_un hMM
  have hsp := aSp_le hMV hpo
  have sc := spoon_c (po := po) hMV hMC hnp
  have sm' := spoon_m (po := po) (t := ma 1) hMV hMM hnp hMo.2.2.1
  unfold fX10_lends fX11_lends fX10_beginStep
  rw [hC.2.2.1, hC.1, hC.2.1, hasOne_eq, isOne_eq hMo.1 (by omega), Option.bind_some, Option.bind_some]
  rcases ix3 p1 np (by omega) with hout | ⟨j, hj, rfl⟩
  · rw [no_out hout, if_pos rfl, if_pos rfl]
    exact ⟨_, _, rfl, rfl, rfl, Inv_same h⟩
  · rw [no_in hj (by omega), if_neg one_ne, if_neg one_ne, g2]
    have ek : (hoI (aO a) = nI j) ↔ aO a = some j := ⟨fun z => (hoI_ne (by omega) (hMV.ho hnp)).mp z.symm, fun z => ((hoI_ne (by omega) (hMV.ho hnp)).mpr z).symm⟩
    by_cases qj : aO a = some j
    · rw [if_pos (k2.trans (ek.mpr qj)), if_pos (ek.mpr qj)]
      exact ⟨_, _, rfl, rfl, rfl, Inv_same h⟩
    · rw [if_neg (fun z => qj (ek.mp (k2.symm.trans z))), if_neg (fun z => qj (ek.mp z)), chk_vin (by omega) (by omega), show (4 : Int32) + nI j = nI (4 + j) from nI_add 4 j, chk_vin (by omega) (by omega), nI_clamp (by omega), nI_clamp (by omega), sc, sm', Option.bind_some, Option.bind_some, (k6 j hj).1, (g6 j hj).1]
      have hA := (hMV.2.2.2.2.2.1 j hj).1
      by_cases qa : aA a j = aSp po a
      · rw [if_pos (show nI (aA a j) = nI (aSp po a) by rw [qa]), if_pos (show nI (aA a j) = nI (aSp po a) by rw [qa])]
        obtain ⟨n', P', g', s', r1, r2, hn', h0', s23', hs', hP'⟩ := remember (g := pg 0) hnp hns s23 hMV hMC hMM hpast
        have hMs : MMo np a s' 0 := MMo_cg hnp hMM (fun i hi => by rw [Nat.zero_add]; exact hs' i hi)
        obtain ⟨L, W, c1, c2, c3⟩ := give_c hMV hMC hnp hfr
        obtain ⟨s2, d1, d2, d3, d4⟩ := give_m (t := ma 1) hMV hMs hnp hfr hMo.2.2.2.1
        obtain ⟨t1, t2, t3, t4, t5, t6, t7⟩ := mmo_un hMs
        simp only [e16, r1, r2, c1, Option.bind_some, d1]
        refine ⟨(nI (giveR fr a), 0, nI n', nI j, nI (aH a), 1, L, W, P', g'), (nI (giveR fr a), upd (upd (upd s2 1 (nI j)) 2 (nI (aH a))) 3 1), ?_, ?_, rfl, ?_⟩
        · rw [k1]
          rfl
        · rw [upd_n _ _ (show ¬ 0 = 1 by omega), d2 0 (by omega), t1, lt_eq]
        · refine Inv_new (s' := upd (upd (upd s2 1 (nI j)) 2 (nI (aH a))) 3 1) (a' := (aH a, aH a, 1, aD a, some j, aA a, giveL a, giveW fr a)) htr hT hPV hC hMo hI0 hI1 hHe ⟨n', hn', rfl, ?_, ?_, ⟨k1, rfl, fun _ _ => rfl, rfl, k5, fun p hp => ⟨(k6 p hp).1, c2 p hp⟩, c3⟩, ?_, ?_⟩
          · exact (upd_n _ _ (by omega)).trans ((upd_n _ _ (by omega)).trans ((upd_n _ _ (by omega)).trans ((d2 23 (by omega)).trans s23')))
          · obtain ⟨v1, v2, v3, v4, v5, v6, v7⟩ := id hMV
            refine ⟨v1, Nat.le_refl _, v3, fun k hk => ?_, fun z => (by cases z), fun p hp => ⟨(v6 p hp).1, giveL_le hMV p hp⟩, fun p hp => giveW_le hMV p hp⟩
            cases hk
            exact ⟨hj, Nat.le_refl _⟩
          · have hs2 : ∀ i, (i = 0 ∨ 4 ≤ i) → upd (upd (upd s2 1 (nI j)) 2 (nI (aH a))) 3 1 i = s2 i := fun i hi => (upd_n _ _ (by omega)).trans ((upd_n _ _ (by omega)).trans (upd_n _ _ (by omega)))
            refine mmo_mk ((hs2 _ (by omega)).trans ((d2 _ (by omega)).trans t1)) ?_ ?_ (upd_s _ _ _) ((hs2 _ (by omega)).trans ((d2 _ (by omega)).trans t5)) (fun p hp => ⟨(hs2 _ (by omega)).trans ((d2 _ (by omega)).trans (t6 p hp).1), (hs2 _ (by omega)).trans (d3 p hp)⟩) (fun p hp => (hs2 _ (by omega)).trans (d4 p hp))
            · rw [upd_n _ _ (by omega), upd_n _ _ (by omega), upd_s]
              rfl
            · intro k _
              rw [upd_n _ _ (by omega), upd_s]
          · exact PastR_cg hnp hP' (fun i hi => (upd_n _ _ (by omega)).trans ((upd_n _ _ (by omega)).trans ((upd_n _ _ (by omega)).trans (d2 i (by omega)))))
      · rw [if_neg (fun z => qa ((nI_eq (by omega) (by omega)).mp z)), if_neg (fun z => qa ((nI_eq (by omega) (by omega)).mp z))]
        exact ⟨_, _, rfl, rfl, rfl, Inv_same h⟩
theorem P_brings (pg : Nat → Nat → Nat) (h : Inv tr ci ca pr pm mt mi ma) : ∃ o o', fX10_brings (ci 0) (ci 8) (ci 9) (ci 16) ((pr 0).1) ((pr 0).2.1) ((pr 0).2.2.1) ((pr 0).2.2.2.1) ((pr 0).2.2.2.2.1) ((pr 0).2.2.2.2.2.1) ((pr 0).2.2.2.2.2.2.1) ((pr 0).2.2.2.2.2.2.2) (pm 0) (pg 0) = some o ∧ fX11_brings (ma 1) (ma 3) = some o' ∧ o.1 = o'.1 ∧ Inv tr (upd (upd ci 0 o.2.1) 16 o.2.2.1) ca (va_up pr 0 ((pr 0).1, o.2.2.2.1, (pr 0).2.2.1, o.2.2.2.2.1, (pr 0).2.2.2.2.1, (pr 0).2.2.2.2.2.1, o.2.2.2.2.2.1, o.2.2.2.2.2.2.1)) (va_up pm 0 o.2.2.2.2.2.2.2.1) mt mi (va_up ma 3 o'.2) := by
  obtain ⟨htr, hT, np, nd, po, fr, hm, wh, pl, fm, tl, wo, a, hPV, hC, hMo, ⟨ns, hns, e16, s23, hMV, hMC, hMM, hpast⟩, hI0, hI1, hHe, hz, hB⟩ := id h
  have hnp := hPV.1
  have hpo := hPV.2.2.1
  have hfr := hPV.2.2.2.1
  obtain ⟨k1, k2, k3, k4, k5, k6, k7⟩ := id hMC
  obtain ⟨g1, g2, g3, g4, g5, g6, g7⟩ := mmo_un hMM
  have hsp := aSp_le hMV hpo
  have sc := spoon_c (po := po) hMV hMC hnp
  have sm' := spoon_m (po := po) (t := ma 1) hMV hMM hnp hMo.2.2.1
  have hh : fX2_isHeld (pr 0).2.1 = some (if aO a = none then 0 else 1) := by rw [k2]; exact held_c (hMV.ho hnp)
  unfold fX10_brings fX11_brings fX10_beginStep
  rw [hC.1, hC.2.1, hMo.2.2.1, hh, held_m hMV hnp g2, Option.bind_some, Option.bind_some]
  by_cases q : aO a = none
  · rw [if_pos q, if_pos rfl, if_pos rfl]
    exact ⟨_, _, rfl, rfl, rfl, Inv_same h⟩
  · rw [if_neg q, if_neg one_ne, if_neg one_ne, sc, sm', Option.bind_some, Option.bind_some]
    by_cases qa : aSp po a = po
    · rw [if_pos (show nI (aSp po a) = nI po by rw [qa]), if_pos (show nI (aSp po a) = nI po by rw [qa])]
      obtain ⟨n', P', g', s', r1, r2, hn', h0', s23', hs', hP'⟩ := remember (g := pg 0) hnp hns s23 hMV hMC hMM hpast
      have hMs : MMo np a s' 0 := MMo_cg hnp hMM (fun i hi => by rw [Nat.zero_add]; exact hs' i hi)
      obtain ⟨L, W, c1, c2, c3⟩ := give_c hMV hMC hnp hfr
      obtain ⟨s2, d1, d2, d3, d4⟩ := give_m (t := ma 1) hMV hMs hnp hfr hMo.2.2.2.1
      obtain ⟨t1, t2, t3, t4, t5, t6, t7⟩ := mmo_un hMs
      simp only [e16, r1, r2, c1, Option.bind_some, d1]
      refine ⟨(nI (giveR fr a), 0, nI n', -9, 0, L, W, P', g'), (nI (giveR fr a), upd (upd (upd s2 1 (-9)) 2 0) 3 0), rfl, rfl, rfl, ?_⟩
      refine Inv_new (s' := upd (upd (upd s2 1 (-9)) 2 0) 3 0) (a' := (aH a, 0, 0, aD a, none, aA a, giveL a, giveW fr a)) htr hT hPV hC hMo hI0 hI1 hHe ⟨n', hn', rfl, ?_, ?_, ⟨k1, rfl, fun _ z => (by cases z), rfl, k5, fun p hp => ⟨(k6 p hp).1, c2 p hp⟩, c3⟩, ?_, ?_⟩
      · exact (upd_n _ _ (by omega)).trans ((upd_n _ _ (by omega)).trans ((upd_n _ _ (by omega)).trans ((d2 23 (by omega)).trans s23')))
      · obtain ⟨v1, v2, v3, v4, v5, v6, v7⟩ := id hMV
        exact ⟨v1, Nat.zero_le _, v3, fun k hk => (by cases hk), fun _ => rfl, fun p hp => ⟨(v6 p hp).1, giveL_le hMV p hp⟩, fun p hp => giveW_le hMV p hp⟩
      · have hs2 : ∀ i, (i = 0 ∨ 4 ≤ i) → upd (upd (upd s2 1 (-9)) 2 0) 3 0 i = s2 i := fun i hi => (upd_n _ _ (by omega)).trans ((upd_n _ _ (by omega)).trans (upd_n _ _ (by omega)))
        refine mmo_mk ((hs2 _ (by omega)).trans ((d2 _ (by omega)).trans t1)) ?_ (fun _ z => by cases z) (upd_s _ _ _) ((hs2 _ (by omega)).trans ((d2 _ (by omega)).trans t5)) (fun p hp => ⟨(hs2 _ (by omega)).trans ((d2 _ (by omega)).trans (t6 p hp).1), (hs2 _ (by omega)).trans (d3 p hp)⟩) (fun p hp => (hs2 _ (by omega)).trans (d4 p hp))
        rw [upd_n _ _ (by omega), upd_n _ _ (by omega), upd_s]
        rfl
      · exact PastR_cg hnp hP' (fun i hi => (upd_n _ _ (by omega)).trans ((upd_n _ _ (by omega)).trans ((upd_n _ _ (by omega)).trans (d2 i (by omega)))))
    · rw [if_neg (fun z => qa ((nI_eq (by omega) (by omega)).mp z)), if_neg (fun z => qa ((nI_eq (by omega) (by omega)).mp z))]
      exact ⟨_, _, rfl, rfl, rfl, Inv_same h⟩
end STEPS3
