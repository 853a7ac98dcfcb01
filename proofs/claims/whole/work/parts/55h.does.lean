/-! DOES, UNDO, MARK -/
theorem or_bit : ∀ dn, dn < 256 → ∀ j, j < 8 → nI dn ||| ((1 : Int32) <<< (nI j &&& 31)) = nI (dn ||| 2 ^ j) := by decide +kernel
def aCan (wh pl fm tl : Nat → Nat) (a : AM) (j : Nat) : Bool := decide (aO a = some (wh j) ∧ aF a = 1 ∧ aA a (wh j) = pl j ∧ (aD a).testBit j = false ∧ fm j ≤ aH a ∧ aH a ≤ tl j)
theorem aCan_t {wh pl fm tl : Nat → Nat} {a : AM} {j : Nat} : aCan wh pl fm tl a j = true ↔ (aO a = some (wh j) ∧ aF a = 1 ∧ aA a (wh j) = pl j ∧ (aD a).testBit j = false ∧ fm j ≤ aH a ∧ aH a ≤ tl j) := decide_eq_true_iff
theorem nI_z {n : Nat} (h : n < 2 ^ 30) : (nI n = 0) ↔ n = 0 := nI_eq (b := 0) (by omega) (by omega)
theorem can_c {np nd j : Nat} {wh pl fm tl : Nat → Nat} {a : AM} {u : MomS} {rw' rp rf rt : Nat → Int32} (hV : MVa np nd a) (hC : MCl np a u) (hnp : np ≤ 6) (hnd : nd ≤ 8) (hj : j < nd) (hw : wh j < np) (hp : pl j ≤ 30) (hf : fm j ≤ 99) (ht : tl j ≤ 99) (e1 : rw' j = nI (wh j)) (e2 : rp j = nI (pl j)) (e3 : rf j = nI (fm j)) (e4 : rt j = nI (tl j)) :
    fX2_canDo u.1 u.2.1 u.2.2.2.1 u.2.2.2.2.1 u.2.2.2.2.2.1 rw' rp rf rt (nI j) = some (if aCan wh pl fm tl a j then 1 else 0) := by
  obtain ⟨k1, k2, k3, k4, k5, k6, k7⟩ := hC
  have hH := hV.1
  have hF := hV.2.1
  have hD := pow_nd hnd hV.2.2.1
  unfold fX2_canDo
  rw [k2, held_c (hV.ho hnp), Option.bind_some, k4, chk_vin (by omega) (by omega), nI_clamp (by omega), e1, e2, e3, e4, k1, k5, isDone_c (by omega) (by omega)]
  by_cases q : aO a = none
  · rw [if_pos q, if_pos rfl, if_neg (fun z => by have := (aCan_t.mp z).1; rw [q] at this; cases this)]
    rfl
  · obtain ⟨k, hk⟩ := ho_some q
    have hk1 := (hV.2.2.2.1 k hk).1
    have hA := (hV.2.2.2.2.2.1 k hk1).1
    rw [if_neg q, if_neg one_ne, show hoI (aO a) = nI k by rw [hk]; rfl]
    by_cases qf : aF a = 0
    · rw [qf, if_pos (show nI 0 = (0 : Int32) from rfl), if_neg (fun z => by have := (aCan_t.mp z).2.1; omega)]
      rfl
    · rw [if_neg (fun z => qf ((nI_z (by omega)).mp z))]
      by_cases qw : wh j = k
      · rw [if_pos (show nI (wh j) = nI k by rw [qw]), chk_vin (by omega) (by omega), nI_clamp (by omega), (k6 k hk1).1]
        by_cases qa : aA a k = pl j
        · rw [if_pos (show nI (aA a k) = nI (pl j) by rw [qa]), Option.bind_some]
          by_cases qd : (aD a).testBit j = true
          · rw [qd, if_pos rfl, if_neg one_ne, if_neg (fun z => by have := (aCan_t.mp z).2.2.2.1; rw [qd] at this; cases this)]
            rfl
          · rw [Bool.not_eq_true] at qd
            rw [qd, if_neg Bool.false_ne_true, if_pos rfl]
            by_cases q1 : fm j ≤ aH a
            · rw [if_neg (nI_nlt q1 (by omega))]
              by_cases q2 : aH a ≤ tl j
              · rw [if_neg (nI_nlt q2 (by omega)), if_pos (aCan_t.mpr ⟨by rw [hk, qw], by omega, by rw [qw]; exact qa, qd, q1, q2⟩)]
                rfl
              · rw [if_pos (nI_lt (show tl j < aH a by omega) (by omega)), if_neg (fun z => q2 (aCan_t.mp z).2.2.2.2.2)]
                rfl
            · rw [if_pos (nI_lt (show aH a < fm j by omega) (by omega)), if_neg (fun z => q1 (aCan_t.mp z).2.2.2.2.1)]
              rfl
        · rw [if_neg (fun z => qa ((nI_eq (by omega) (by omega)).mp z)), if_neg (fun z => qa (by rw [← qw]; exact (aCan_t.mp z).2.2.1))]
          rfl
      · rw [if_neg (fun z => qw ((nI_eq (by omega) (by omega)).mp z)), if_neg (fun z => qw (by have := (aCan_t.mp z).1; rw [hk] at this; cases this; rfl))]
        rfl
theorem does_m {np nd po j : Nat} {wh pl fm tl : Nat → Nat} {a : AM} {t s : Nat → Int32} (hV : MVa np nd a) (hM : MMo np a s 0) (hnp : np ≤ 6) (hnd : nd ≤ 8) (hj : j < nd) (hw : wh j < np) (hp : pl j ≤ 30) (hf : fm j ≤ 99) (ht : tl j ≤ 99) (e0 : t 1 = nI nd) (epo : t 2 = nI po) (e1 : t (12 + j) = nI (wh j)) (e2 : t (20 + j) = nI (pl j)) (e3 : t (28 + j) = nI (fm j)) (e4 : t (36 + j) = nI (tl j)) :
    fX11_does t s (nI j) = if aCan wh pl fm tl a j then (fX11_remembers s).bind (fun o17 => lt_ ((o17 22) ||| (1 <<< (nI j &&& 31))) (fun z18 => (fX11_worthDone t (upd (upd o17 22 z18) 3 0)).bind (fun o19 => some (o19, (upd (upd o17 22 z18) 3 0))))) else some (-2, s) := by
  obtain ⟨g1, g2, g3, g4, g5, g6, g7⟩ := mmo_un hM
  have hH := hV.1
  have hF := hV.2.1
  have hD := pow_nd hnd hV.2.2.1
  unfold fX11_does
  rw [isDeed_eq e0 (by omega), no_in hj (by omega), Option.bind_some, if_neg one_ne, held_m hV hnp g2, Option.bind_some, spoon_m hV hM hnp epo, isDone_m g5 (by omega) (by omega), show (12 : Int32) + nI j = nI (12 + j) from nI_add 12 j, show (20 : Int32) + nI j = nI (20 + j) from nI_add 20 j, show (28 : Int32) + nI j = nI (28 + j) from nI_add 28 j, show (36 : Int32) + nI j = nI (36 + j) from nI_add 36 j, chk_vin (by omega) (by omega), nI_clamp (by omega), e1, g2, g4]
  by_cases q : aO a = none
  · rw [if_pos q, if_pos rfl, if_neg (fun z => by have := (aCan_t.mp z).1; rw [q] at this; cases this)]
  · obtain ⟨k, hk⟩ := ho_some q
    have hk1 := (hV.2.2.2.1 k hk).1
    have hA := (hV.2.2.2.2.2.1 k hk1).1
    rw [if_neg q, if_neg one_ne, show hoI (aO a) = nI k by rw [hk]; rfl]
    by_cases qw : k = wh j
    · rw [if_pos (show nI k = nI (wh j) by rw [qw])]
      by_cases qf : aF a = 0
      · rw [qf, if_pos (show nI 0 = (0 : Int32) from rfl), if_neg (fun z => by have := (aCan_t.mp z).2.1; omega)]
      · rw [if_neg (fun z => qf ((nI_z (by omega)).mp z)), Option.bind_some, chk_vin (by omega) (by omega), nI_clamp (by omega), e2, aSp_some hk, Option.bind_some]
        by_cases qa : aA a k = pl j
        · rw [if_pos (show nI (aA a k) = nI (pl j) by rw [qa])]
          by_cases qd : (aD a).testBit j = true
          · rw [qd, if_pos (rfl : true = true), if_neg one_ne, if_neg (fun z => by have := (aCan_t.mp z).2.2.2.1; rw [qd] at this; cases this)]
          · rw [Bool.not_eq_true] at qd
            rw [qd, if_neg Bool.false_ne_true, if_pos rfl, chk_vin (by omega) (by omega), chk_vin (by omega) (by omega), nI_clamp (by omega), nI_clamp (by omega), e3, e4, g1, in_eq, Option.bind_some]
            by_cases q1 : fm j ≤ aH a
            · rw [if_neg (nI_nlt q1 (by omega))]
              by_cases q2 : aH a ≤ tl j
              · rw [if_neg (nI_nlt q2 (by omega)), if_neg one_ne, if_pos (aCan_t.mpr ⟨by rw [hk, qw], by omega, by rw [← qw]; exact qa, qd, q1, q2⟩)]
              · rw [if_pos (nI_lt (show tl j < aH a by omega) (by omega)), if_pos rfl, if_neg (fun z => q2 (aCan_t.mp z).2.2.2.2.2)]
            · rw [if_pos (nI_lt (show aH a < fm j by omega) (by omega)), if_pos rfl, if_neg (fun z => q1 (aCan_t.mp z).2.2.2.2.1)]
        · rw [if_neg (fun z => qa ((nI_eq (by omega) (by omega)).mp z)), if_neg (fun z => qa (by rw [qw]; exact (aCan_t.mp z).2.2.1))]
    · rw [if_neg (fun z => qw ((nI_eq (by omega) (by omega)).mp z)), if_neg (fun z => qw (by have := (aCan_t.mp z).1; rw [hk] at this; cases this; rfl))]
section STEPS4
variable {tr : Int64} {ci : Nat → Int32} {ca : Nat → Nat → Int32} {pr : Nat → MomS} {pm : Nat → Nat → MomS} {mt : Int64} {mi : Nat → Int32} {ma : Nat → Nat → Int32}
theorem P_does (pg : Nat → Nat → Nat) (h : Inv tr ci ca pr pm mt mi ma) (p1 : Int32) : ∃ o o', fX10_does (ci 0) (ci 11) (ca 2) (ca 3) (ca 4) (ca 5) (ca 6) (ci 16) ((pr 0).1) ((pr 0).2.1) ((pr 0).2.2.1) ((pr 0).2.2.2.1) ((pr 0).2.2.2.2.1) ((pr 0).2.2.2.2.2.1) ((pr 0).2.2.2.2.2.2.1) ((pr 0).2.2.2.2.2.2.2) (pm 0) (pg 0) p1 = some o ∧ fX11_does (ma 1) (ma 3) p1 = some o' ∧ o.1 = o'.1 ∧ Inv tr (upd (upd ci 0 o.2.1) 16 o.2.2.1) ca (va_up pr 0 ((pr 0).1, (pr 0).2.1, (pr 0).2.2.1, o.2.2.2.1, o.2.2.2.2.1, (pr 0).2.2.2.2.2.1, (pr 0).2.2.2.2.2.2.1, (pr 0).2.2.2.2.2.2.2)) (va_up pm 0 o.2.2.2.2.2.1) mt mi (va_up ma 3 o'.2) := by
  obtain ⟨htr, hT, np, nd, po, fr, hm, wh, pl, fm, tl, wo, a, hPV, hC, hMo, ⟨ns, hns, e16, s23, hMV, hMC, hMM, hpast⟩, hI0, hI1, hHe, hz, hB⟩ := id h
  have hnp := hPV.1
  have hnd := hPV.2.1
  obtain ⟨k1, k2, k3, k4, k5, k6, k7⟩ := id hMC
  obtain ⟨g1, g2, g3, g4, g5, g6, g7⟩ := mmo_un hMM
  have hD := pow_nd hnd hMV.2.2.1
  rw [hC.2.2.2.1]
  rcases ix3 p1 nd (by omega) with hout | ⟨j, hj, rfl⟩
  · unfold fX10_does fX11_does
    rw [hasDeed_eq, isDeed_eq hMo.2.1 (by omega), no_out hout, Option.bind_some, Option.bind_some, if_pos rfl, if_pos rfl]
    exact ⟨_, _, rfl, rfl, rfl, Inv_same h⟩
  · obtain ⟨w1, w2, w3, w4, w5, w6⟩ := hPV.2.2.2.2.2 j hj
    obtain ⟨a1, a2, a3, a4, a5⟩ := hC.2.2.2.2.2 j hj
    obtain ⟨b1, b2, b3, b4, b5⟩ := hMo.2.2.2.2.2 j hj
    have hc := can_c hMV hMC hnp hnd hj w1 w2 (by omega) w4 a1 a2 a3 a4
    have hm' := does_m (s := ma 3) hMV hMM hnp hnd hj w1 w2 (by omega) w4 hMo.2.1 hMo.2.2.1 b1 b2 b3 b4
    unfold fX10_does fX10_beginStep
    rw [hasDeed_eq, no_in hj (by omega), Option.bind_some, if_neg one_ne, hc, hm', Option.bind_some]
    by_cases qc : aCan wh pl fm tl a j
    · rw [if_pos qc, if_neg one_ne, if_pos qc]
      obtain ⟨n', P', g', s', r1, r2, hn', h0', s23', hs', hP'⟩ := remember (g := pg 0) hnp hns s23 hMV hMC hMM hpast
      have hdn : aD a ||| 2 ^ j < 2 ^ nd := Nat.or_lt_two_pow hMV.2.2.1 (Nat.pow_lt_pow_right (by omega) hj)
      have hdn2 := pow_nd hnd hdn
      have ew : s' 22 = nI (aD a) := (hs' 22 (by omega)).trans g5
      have w1 := worth_c (wo := wo) (r := ca 6) hnd (show aD a ||| 2 ^ j < 2 ^ 31 by omega) (fun d hd => (hC.2.2.2.2.2 d hd).2.2.2.2)
      have w2 := worth_m (wo := wo) (t := ma 1) (s := upd (upd s' 22 (nI (aD a ||| 2 ^ j))) 3 0) hnd (show aD a ||| 2 ^ j < 2 ^ 31 by omega) hMo.2.1 ((upd_n _ _ (by omega)).trans (upd_s _ _ _)) (fun d hd => (hMo.2.2.2.2.2 d hd).2.2.2.2)
      rw [e16, r1, r2]
      refine ⟨(nI (aWorth nd (aD a ||| 2 ^ j) wo), 0, nI n', 0, nI (aD a ||| 2 ^ j), P', g'), (nI (aWorth nd (aD a ||| 2 ^ j) wo), upd (upd s' 22 (nI (aD a ||| 2 ^ j))) 3 0), ?_, ?_, rfl, ?_⟩
      · rw [Option.bind_some, Option.bind_some, k5, or_bit _ hD _ (by omega), lt_eq, w1]
        rfl
      · rw [Option.bind_some, ew, or_bit _ hD _ (by omega), lt_eq, w2]
        rfl
      · refine Inv_new (s' := upd (upd s' 22 (nI (aD a ||| 2 ^ j))) 3 0) (a' := (aH a, aS a, 0, aD a ||| 2 ^ j, aO a, aA a, aL a, aW a)) htr hT hPV hC hMo hI0 hI1 hHe ⟨n', hn', rfl, ?_, ?_, ⟨k1, k2, k3, rfl, rfl, k6, k7⟩, ?_, ?_⟩
        · exact (upd_n _ _ (by omega)).trans ((upd_n _ _ (by omega)).trans s23')
        · obtain ⟨v1, v2, v3, v4, v5, v6, v7⟩ := hMV
          exact ⟨v1, Nat.zero_le _, hdn, v4, fun _ => rfl, v6, v7⟩
        · have hs2 : ∀ i, i < 22 → ¬ i = 3 → upd (upd s' 22 (nI (aD a ||| 2 ^ j))) 3 0 i = ma 3 i := fun i hi h0 => (upd_n _ _ h0).trans ((upd_n _ _ (by omega)).trans (hs' i (by omega)))
          exact mmo_mk ((hs2 _ (by omega) (by omega)).trans g1) ((hs2 _ (by omega) (by omega)).trans g2) (fun k hk => (hs2 _ (by omega) (by omega)).trans (g3 k hk)) (upd_s _ _ _) ((upd_n _ _ (by omega)).trans (upd_s _ _ _)) (fun p hp => ⟨(hs2 _ (by omega) (by omega)).trans (g6 p hp).1, (hs2 _ (by omega) (by omega)).trans (g6 p hp).2⟩) (fun p hp => (hs2 _ (by omega) (by omega)).trans (g7 p hp))
        · exact PastR_cg hnp hP' (fun i hi => (upd_n _ _ (by omega)).trans (upd_n _ _ (by omega)))
    · rw [if_neg qc, if_pos rfl, if_neg qc]
      exact ⟨_, _, rfl, rfl, rfl, Inv_same h⟩
theorem P_undo (pg : Nat → Nat → Nat) (h : Inv tr ci ca pr pm mt mi ma) : ∃ o o', fX10_undo (ci 0) (ci 16) ((pr 0).1) ((pr 0).2.1) ((pr 0).2.2.1) ((pr 0).2.2.2.1) ((pr 0).2.2.2.2.1) ((pr 0).2.2.2.2.2.1) ((pr 0).2.2.2.2.2.2.1) ((pr 0).2.2.2.2.2.2.2) (pm 0) = some o ∧ fX11_undo (ma 3) = some o' ∧ o.1 = o'.1 ∧ Inv tr (upd (upd ci 0 o.2.1) 16 o.2.2.1) ca (va_up pr 0 (o.2.2.2.1, o.2.2.2.2.1, o.2.2.2.2.2.1, o.2.2.2.2.2.2.1, o.2.2.2.2.2.2.2.1, o.2.2.2.2.2.2.2.2.1, o.2.2.2.2.2.2.2.2.2.1, o.2.2.2.2.2.2.2.2.2.2)) pm mt mi (va_up ma 3 o'.2) := by
  obtain ⟨htr, hT, np, nd, po, fr, hm, wh, pl, fm, tl, wo, a, hPV, hC, hMo, ⟨ns, hns, e16, s23, hMV, hMC, hMM, hpast⟩, hI0, hI1, hHe, hz, hB⟩ := id h
  have hnp := hPV.1
  have s23' : ma 3 23 = nI ns := s23
  unfold fX10_undo fX11_undo fX1_undoStep
  by_cases q : ns = 0
  · subst q
    rw [if_pos (show ci 16 = 0 from e16), if_pos (show ma 3 23 = 0 from s23')]
    have hs := Inv_same h
    rw [vup_id pm] at hs
    exact ⟨_, _, rfl, rfl, rfl, hs⟩
  · obtain ⟨m, rfl⟩ : ∃ m, ns = m + 1 := ⟨ns - 1, by omega⟩
    obtain ⟨b, b1, b2, b3⟩ := hpast m (by omega)
    obtain ⟨w, hw, hwC⟩ := copy_c (v := pr 0) hnp b1 b2
    have es : nI (m + 1) - 1 = nI m := by rw [show (1 : Int32) = nI 1 from rfl, pk_sub (by omega), Nat.add_sub_cancel]
    rw [e16, s23', if_neg (fun z => q ((nI_z (by omega)).mp z)), if_neg (fun z => q ((nI_z (by omega)).mp z)), if_neg (show ¬ nI (m + 1) ≤ 0 from nI_ge (a := 0) (by omega) (by omega)), es, lt_eq, lt_eq, chk_vin (by omega) (by omega), nI_clamp (by omega), hw, upd_s, show (23 : Int32) * nI m = nI (23 * m) from pk_mul 23 m, show (24 : Int32) + nI (23 * m) = nI (24 + 23 * m) from nI_add 24 _, lt_eq]
    have r := und40 (s := upd (ma 3) 23 (nI m)) (sp := 24 + 23 * m) (by omega) (by omega) FU 0 (by omega) (by unfold FU; omega)
    rw [cpy_0] at r
    rw [show (0 : Int32) = nI 0 from rfl, r]
    refine ⟨(nI m, 0, nI m, w), (nI m, va_cpy (upd (ma 3) 23 (nI m)) (upd (ma 3) 23 (nI m)) (24 + 23 * m) 0 23), rfl, ?_, rfl, ?_⟩
    · rw [Option.bind_some]
      dsimp only
      rw [cpy_out (i := 23) (by omega), upd_s]
    · have hn := Inv_new (pr := pr) (P' := pm 0) (s' := va_cpy (upd (ma 3) 23 (nI m)) (upd (ma 3) 23 (nI m)) (24 + 23 * m) 0 23) (u' := w) (n' := m) (a' := b) htr hT hPV hC hMo hI0 hI1 hHe ⟨m, by omega, rfl, ?_, b1, hwC, ?_, ?_⟩
      · rw [vup_id pm] at hn
        exact hn
      · rw [Nat.zero_add, cpy_out (by omega), upd_s]
      · refine MMo_cg hnp b3 (fun i hi => ?_)
        rw [cpy_in hi, upd_n _ _ (by omega), Nat.zero_add]
      · refine PastR_cg hnp (P := pm 0) (n := m) (s := ma 3) (fun k hk => hpast k (by omega)) (fun i hi => ?_)
        rw [cpy_out (by omega), upd_n _ _ (by omega)]
theorem i64_add (x y z : Int64) : x + y + z = x + (y + z) := Int64.add_assoc x y z
theorem P_mark (pg : Nat → Nat → Nat) (h : Inv tr ci ca pr pm mt mi ma) (p1 : Int32) (p2 : Int32) : ∃ o o', fX10_mark tr (ci 10) ((pr 0).1) ((pr 0).2.1) ((pr 0).2.2.2.2.2.1) ((pr 0).2.2.2.2.2.2.1) ((pr 0).2.2.2.2.2.2.2) p1 p2 = some o ∧ fX11_mark mt (ma 1) (ma 3) p1 p2 = some o' ∧ o.1 = o'.1 ∧ Inv o.2 ci ca pr pm o'.2 mi ma := by
  obtain ⟨htr, hT, np, nd, po, fr, hm, wh, pl, fm, tl, wo, a, hPV, hC, hMo, ⟨ns, hns, e16, s23, hMV, hMC, hMM, hpast⟩, hrest⟩ := id h
  have hnp := hPV.1
  obtain ⟨k1, k2, k3, k4, k5, k6, k7⟩ := id hMC
  obtain ⟨g1, g2, g3, g4, g5, g6, g7⟩ := mmo_un hMM
  have hI : ∀ x : Int64, Inv x ci ca pr pm x mi ma := fun x => ⟨rfl, h.2⟩
  subst htr
  have key : ∀ {f g : Option (Int32 × Int64)} {c : Int32 × Int64}, f = some c → g = some c → ∃ o o', f = some o ∧ g = some o' ∧ o.1 = o'.1 ∧ Inv o.2 ci ca pr pm o'.2 mi ma := fun {f g c} hf hg => ⟨c, c, hf, hg, rfl, hI _⟩
  unfold fX10_mark fX11_mark
  rw [hC.2.2.1, hasOne_eq, isOne_eq hMo.1 (by omega), in_eq, Option.bind_some, Option.bind_some, Option.bind_some]
  rcases ix3 p2 np (by omega) with hout | ⟨j, hj, rfl⟩
  · rw [no_out hout, if_pos rfl, if_pos rfl]
    refine key rfl ?_
    repeat (first | rfl | split)
  · rw [no_in hj (by omega), if_neg one_ne, if_neg one_ne]
    have c1 := care_c hMV hMC hj hnp
    have c2 := care_m hMV hMM hj hnp
    rcases in3 p1 0 5 (by omega) (by omega) with q | ⟨q0, q1, q2⟩ | ⟨i, hi1, hi2, hi3, q0, q1, q2⟩
    · rw [if_pos (show p1 < 0 from q), if_pos rfl]
      have n : ∀ x : Nat, x < 6 → ¬ p1 = nI x := fun x hx z => by
        rw [z] at q
        exact nI_pos (by omega) q
      rw [if_neg (show ¬ p1 = 0 from n 0 (by omega)), if_neg (show ¬ p1 = 1 from n 1 (by omega)), if_neg (show ¬ p1 = 2 from n 2 (by omega)), if_neg (show ¬ p1 = 3 from n 3 (by omega)), if_neg (show ¬ p1 = 4 from n 4 (by omega)), if_neg (show ¬ p1 = 5 from n 5 (by omega))]
      exact key rfl rfl
    · rw [if_neg (show ¬ p1 < 0 from q0), if_pos (show 5 < p1 from q2), if_pos rfl]
      have n : ∀ x : Nat, x < 6 → ¬ p1 = nI x := fun x hx z => by
        rw [z] at q2
        exact nI_nlt (a := 5) (b := x) (by omega) (by omega) q2
      rw [if_neg (show ¬ p1 = 0 from n 0 (by omega)), if_neg (show ¬ p1 = 1 from n 1 (by omega)), if_neg (show ¬ p1 = 2 from n 2 (by omega)), if_neg (show ¬ p1 = 3 from n 3 (by omega)), if_neg (show ¬ p1 = 4 from n 4 (by omega)), if_neg (show ¬ p1 = 5 from n 5 (by omega))]
      exact key rfl rfl
    · rw [if_neg (show ¬ p1 < 0 from q0), if_neg (show ¬ 5 < p1 from q2), if_neg one_ne, c2, show (16 : Int32) + nI j = nI (16 + j) from nI_add 16 j, show (4 : Int32) + nI j = nI (4 + j) from nI_add 4 j]
      unfold fX10_markOfClerk fX10_markOfPilot fX10_markOfWidow fX10_markOfThief fX10_markOfFriend fX10_markOfOne
      simp (disch := omega) only [c1, chk_vin, nI_clamp, lt_eq, Option.bind_some, g7, g6, k7, k6, g1]
      simp only [k1, i64_add, Int32.mul_comm _ (2 : Int32)]
      subst hi3
      rcases (show i = 0 ∨ i = 1 ∨ i = 2 ∨ i = 3 ∨ i = 4 ∨ i = 5 by omega) with rfl | rfl | rfl | rfl | rfl | rfl
      · exact key rfl rfl
      · exact key rfl rfl
      · exact key rfl rfl
      · exact key rfl rfl
      · exact key rfl rfl
      · exact key rfl rfl
end STEPS4
