/-! THE SIMPLE CALLS -/
theorem two {α : Type} {f g : Option α} (e : f = g) (h : ∃ o, g = some o) : ∃ o o', f = some o ∧ g = some o' ∧ o = o' := by
  obtain ⟨o, ho⟩ := h
  exact ⟨o, o, e.trans ho, ho, rfl⟩
theorem two' {α : Type} {f g : Option α} {P : Prop} {c : α} (hf : f = some c) (hg : g = some c) (h : P) : ∃ o o', f = some o ∧ g = some o' ∧ o = o' ∧ P := ⟨c, c, hf, hg, rfl, h⟩
section SIMPLE
variable {tr : Int64} {ci : Nat → Int32} {ca : Nat → Nat → Int32} {pr : Nat → MomS} {pm : Nat → Nat → MomS} {mt : Int64} {mi : Nat → Int32} {ma : Nat → Nat → Int32}
theorem P_trace (pg : Nat → Nat → Nat) (h : Inv tr ci ca pr pm mt mi ma) : ∃ o o', fX10_trace tr = some o ∧ fX11_trace mt = some o' ∧ o = o' ∧ Inv tr ci ca pr pm mt mi ma := ⟨tr, mt, rfl, rfl, h.1, h⟩
theorem keyI {x : Option Int32} {P : Prop} (hx : ∃ o, x = some o) (h : P) : ∃ o o', x = some o ∧ x = some o' ∧ o = o' ∧ P := by
  obtain ⟨o, ho⟩ := hx
  exact ⟨o, o, ho, ho, rfl, h⟩
theorem P_count (pg : Nat → Nat → Nat) (h : Inv tr ci ca pr pm mt mi ma) (p1 : Int32) : ∃ o o', fX10_count (ci 1) (ci 8) (ci 9) (ci 10) (ci 11) (ci 16) (ci 19) p1 = some o ∧ fX11_count (mi 0) (mi 1) (ma 1) (ma 3) p1 = some o' ∧ o = o' ∧ Inv tr ci ca pr pm mt mi ma := by
  obtain ⟨htr, ⟨nt, hnt, e1, m0, htx⟩, np, nd, po, fr, hm, wh, pl, fm, tl, wo, a, hV, ⟨e8, e9, e10, e11, eh, ed⟩, ⟨t0, t1, t2, t3, th, td⟩, ⟨ns, hns, e16, s23, hM, hpast⟩, hI0, hI1, ⟨nh, hd, hh, hnh, e19, m1, hhe, hso⟩, hB⟩ := id h
  have s23' : ma 3 23 = nI ns := s23
  unfold fX10_count fX11_count
  rw [e1, m0, e8, t2, e9, t3, e10, t0, e11, t1, e16, s23', e19, m1]
  refine keyI ?_ h
  repeat (first | exact ⟨_, rfl⟩ | split)
/-- what the text holds is all that changes -/
theorem Inv_text {n1 n2 : Int32} {a b : Nat → Int32} (h : Inv tr ci ca pr pm mt mi ma) (hT : TextR n1 n2 a b) : Inv tr (upd ci 1 n1) (va_up ca 0 a) pr pm mt (upd mi 0 n2) (va_up ma 0 b) := by
  obtain ⟨htr, _, hr⟩ := h
  exact ⟨htr, hT, hr⟩
theorem Inv_text0 {n1 n2 : Int32} (h : Inv tr ci ca pr pm mt mi ma) (hT : TextR n1 n2 (ca 0) (ma 0)) : Inv tr (upd ci 1 n1) ca pr pm mt (upd mi 0 n2) ma := by
  obtain ⟨htr, _, hr⟩ := h
  exact ⟨htr, hT, hr⟩
theorem P_clear (pg : Nat → Nat → Nat) (h : Inv tr ci ca pr pm mt mi ma) : ∃ o o', fX10_clear (ci 1) = some o ∧ fX11_clear (mi 0) = some o' ∧ o.1 = o'.1 ∧ Inv tr (upd ci 1 o.2) ca pr pm mt (upd mi 0 o'.2) ma := by
  obtain ⟨nt, hnt, e1, m0, htx⟩ := h.2.1
  exact ⟨_, _, rfl, rfl, by show ci 1 = mi 0; rw [e1, m0], Inv_text0 h ⟨0, by omega, rfl, rfl, fun i hi => absurd hi (by omega)⟩⟩
theorem P_type (pg : Nat → Nat → Nat) (h : Inv tr ci ca pr pm mt mi ma) (p1 : Int32) : ∃ o o', fX10_type (ci 1) (ca 0) p1 = some o ∧ fX11_type (mi 0) (ma 0) p1 = some o' ∧ o.1 = o'.1 ∧ Inv tr (upd ci 1 o.2.1) (va_up ca 0 o.2.2) pr pm mt (upd mi 0 o'.2.1) (va_up ma 0 o'.2.2) := by
  obtain ⟨nt, hnt, e1, m0, htx⟩ := id h.2.1
  rw [e1, m0]
  unfold fX10_type fX11_type
  rw [in_eq, Option.bind_some]
  rcases ix3 p1 256 (by omega) with (hn | ⟨hn, hb⟩) | ⟨j, hj, rfl⟩
  · rw [if_pos hn, if_pos hn, if_pos rfl]
    exact ⟨_, _, rfl, rfl, rfl, Inv_text h ⟨nt, hnt, rfl, rfl, htx⟩⟩
  · have hb2 : (255 : Int32) < p1 := by
      rw [Int32.le_iff_toInt_le, nI_toInt (by omega)] at hb
      rw [Int32.lt_iff_toInt_lt, show (255 : Int32).toInt = 255 from rfl]
      omega
    have hb3 : ¬ p1 ≤ (255 : Int32) := by
      rw [Int32.lt_iff_toInt_lt] at hb2
      rw [Int32.le_iff_toInt_le]
      omega
    rw [if_neg hn, if_neg hb3, if_neg hn, if_pos hb2, if_pos rfl]
    exact ⟨_, _, rfl, rfl, rfl, Inv_text h ⟨nt, hnt, rfl, rfl, htx⟩⟩
  · have h0 : ¬ nI j < 0 := nI_pos (by omega)
    have h1 : nI j ≤ (255 : Int32) := nI_le (b := 255) (by omega) (by omega)
    have h2 : ¬ (255 : Int32) < nI j := nI_nlt (a := 255) (by omega) (by omega)
    rw [if_neg h0, if_pos h1, if_neg h0, if_neg h2, if_neg one_ne]
    by_cases hf : nt = 180
    · subst hf
      rw [if_neg (show ¬ nI 180 < (180 : Int32) by decide), if_pos (show nI 180 = (180 : Int32) from rfl)]
      exact ⟨_, _, rfl, rfl, rfl, Inv_text h ⟨180, by omega, rfl, rfl, htx⟩⟩
    · rw [if_pos (show nI nt < (180 : Int32) from nI_lt (b := 180) (by omega) (by omega)), if_neg (show ¬ nI nt = (180 : Int32) from fun q => hf ((nI_eq (b := 180) (by omega) (by omega)).mp q)), chk_vin (by omega) (by omega), chk_vin (by omega) (by omega), lt_eq, lt_eq, nI_clamp (by omega)]
      refine ⟨_, _, rfl, rfl, rfl, Inv_text h ⟨nt + 1, by omega, nI_1 nt, nI_1 nt, fun i hi => ?_⟩⟩
      by_cases hi2 : i = nt
      · subst hi2
        exact ⟨j, hj, upd_s _ _ _, upd_s _ _ _⟩
      · obtain ⟨x, hx, ha, hb⟩ := htx i (by omega)
        exact ⟨x, hx, (upd_n _ _ hi2).trans ha, (upd_n _ _ hi2).trans hb⟩
theorem P_forget (pg : Nat → Nat → Nat) (h : Inv tr ci ca pr pm mt mi ma) : ∃ o o', fX10_forget (ci 19) = some o ∧ fX11_forget (mi 1) = some o' ∧ o.1 = o'.1 ∧ Inv tr (upd ci 19 o.2) ca pr pm mt (upd mi 1 o'.2) ma := by
  obtain ⟨htr, hT, np, nd, po, fr, hm, wh, pl, fm, tl, wo, a, hV, hC, hMo, hL, hI0, hI1, ⟨nh, hd, hh, hnh, e19, m1, hhe, hso⟩, hz, hB⟩ := id h
  exact ⟨_, _, rfl, rfl, by show ci 19 = mi 1; rw [e19, m1], htr, hT, np, nd, po, fr, hm, wh, pl, fm, tl, wo, a, hV, hC, hMo, hL, hI0, hI1, ⟨0, hd, hh, by omega, rfl, rfl, fun i hi => absurd hi (by omega), fun i hi => absurd hi (by omega)⟩, hz, hB⟩
/-- CARE -/
def aCare (a : AM) (p : Nat) : Nat := if aO a = some p then 0 else aH a - aL a p
theorem care_c {np nd j : Nat} {a : AM} {u : MomS} (hV : MVa np nd a) (h : MCl np a u) (hj : j < np) (hnp : np ≤ 6) : fX2_careOf u.1 u.2.1 u.2.2.2.2.2.2.1 (nI j) = some (nI (aCare a j)) := by
  obtain ⟨h1, h2, h3, h4, h5, h6, h7⟩ := h
  have hl := (hV.2.2.2.2.2.1 j hj).2
  unfold fX2_careOf aCare
  rw [h1, h2, chk_vin (by omega) (by omega), nI_clamp (by omega), (h6 j hj).2, pk_sub hl]
  by_cases q : aO a = some j
  · rw [if_pos ((hoI_ne (by omega) (hV.ho hnp)).mpr q), if_pos q]
    rfl
  · rw [if_neg (fun z => q ((hoI_ne (by omega) (hV.ho hnp)).mp z)), if_neg q]
    rfl
theorem care_m {np nd j : Nat} {a : AM} {s : Nat → Int32} (hV : MVa np nd a) (h : MMo np a s 0) (hj : j < np) (hnp : np ≤ 6) : fX11_care s (nI j) = some (nI (aCare a j)) := by
  obtain ⟨h1, h2, h3, h4, h5, h6, h7⟩ := h
  simp only [Nat.zero_add] at h2 h6
  have hl := (hV.2.2.2.2.2.1 j hj).2
  unfold fX11_care aCare
  rw [h1, h2, show ((10 : Int32) + nI j) = nI (10 + j) from nI_add 10 j, chk_vin (by omega) (by omega), nI_clamp (by omega), (h6 j hj).2, pk_sub hl]
  by_cases q : aO a = some j
  · rw [if_pos ((hoI_ne (by omega) (hV.ho hnp)).mpr q).symm, if_pos q]
    rfl
  · rw [if_neg (fun z => q ((hoI_ne (by omega) (hV.ho hnp)).mp z.symm)), if_neg q]
    rfl
theorem P_one (pg : Nat → Nat → Nat) (h : Inv tr ci ca pr pm mt mi ma) (p1 : Int32) (p2 : Int32) : ∃ o o', fX10_one (ci 10) (ca 1) ((pr 0).1) ((pr 0).2.1) ((pr 0).2.2.2.2.2.1) ((pr 0).2.2.2.2.2.2.1) ((pr 0).2.2.2.2.2.2.2) p1 p2 = some o ∧ fX11_one (ma 1) (ma 3) p1 p2 = some o' ∧ o = o' ∧ Inv tr ci ca pr pm mt mi ma := by
  obtain ⟨htr, hT, np, nd, po, fr, hm, wh, pl, fm, tl, wo, a, ⟨hnp, hnd, hPV⟩, ⟨e8, e9, e10, e11, eh, ed⟩, ⟨t0, t1, t2, t3, th, td⟩, ⟨ns, hns, e16, s23, hMV, hMC, hMM, hpast⟩, hrest⟩ := id h
  rw [e10]
  rcases ix3 p1 np (by omega) with hout | ⟨j, hj, rfl⟩
  · refine two' (c := -1) ?_ ?_ h
    · unfold fX10_one
      rw [hasOne_eq, no_out hout]
      rfl
    · unfold fX11_one
      rw [isOne_eq t0 (by omega), no_out hout]
      rfl
  · have c1 := care_c hMV hMC hj hnp
    have c2 := care_m hMV hMM hj hnp
    obtain ⟨g1, g2, g3, g4, g5, g6, g7⟩ := hMM
    obtain ⟨k1, k2, k3, k4, k5, k6, k7⟩ := hMC
    simp only [Nat.zero_add] at g6 g7
    have a1 := eh j hj
    have b1 := th j hj
    have a2 := (k6 j hj).1
    have b2 := (g6 j hj).1
    have a3 := k7 j (by omega)
    have b3 := g7 j (by omega)
    unfold fX10_one fX11_one
    rw [hasOne_eq, isOne_eq t0 (by omega), no_in hj (by omega), Option.bind_some, Option.bind_some, if_neg one_ne, if_neg one_ne, c1, c2]
    rw [show (6 : Int32) + nI j = nI (6 + j) from nI_add 6 j, show (4 : Int32) + nI j = nI (4 + j) from nI_add 4 j, show (16 : Int32) + nI j = nI (16 + j) from nI_add 16 j]
    simp (disch := omega) only [chk_vin, nI_clamp, a1, b1, a2, b2, a3, b3, Option.bind_some]
    refine keyI ?_ h
    repeat (first | exact ⟨_, rfl⟩ | split)
end SIMPLE
