/-! KEEP, BACK -/
theorem LedR_cg {np nd : Nat} {st : Int32} {u : MomS} {P : Nat → MomS} {s s' : Nat → Int32} {o o' : Nat} {a : AM} (hn : np ≤ 6) (h : LedR np nd st u P s o a) (e : ∀ i, i < 254 → s' (o' + i) = s (o + i)) : LedR np nd st u P s' o' a := by
  obtain ⟨n, h10, e1, e2, v, c, m, p⟩ := h
  refine ⟨n, h10, e1, (e 23 (by omega)).trans e2, v, c, MMo_cg hn m (fun i hi => e i (by omega)), fun k hk => ?_⟩
  obtain ⟨b, b1, b2, b3⟩ := p k hk
  refine ⟨b, b1, b2, MMo_cg hn b3 (fun i hi => ?_)⟩
  rw [Nat.add_assoc o', Nat.add_assoc o]
  exact e (24 + 23 * k + i) (by omega)
theorem copy21 {np nd n : Nat} {P : Nat → MomS} {s : Nat → Int32} {o : Nat} (hn : np ≤ 6) (h10 : n ≤ 10) (hP : ∀ k : Nat, k < n → ∃ b : AM, MVa np nd b ∧ MCl np b (P k) ∧ MMo np b s (o + (24 + 23 * k))) :
    ∀ (f k : Nat) (Q : Nat → MomS), k ≤ n → n < k + f → (∀ i : Nat, i < k → ∃ b : AM, MVa np nd b ∧ MCl np b (Q i) ∧ MMo np b s (o + (24 + 23 * i))) →
    ∃ Q', fX1_copyFrom_21 (nI n) P f (nI k) Q = some (nI n, Q') ∧ ∀ i : Nat, i < n → ∃ b : AM, MVa np nd b ∧ MCl np b (Q' i) ∧ MMo np b s (o + (24 + 23 * i)) := by
  intro f
  induction f with
  | zero => intro k Q a b; omega
  | succ f ih =>
    intro k Q a ba hQ
    rw [fX1_copyFrom_21]
    by_cases e : k = n
    · subst e
      rw [if_pos (nI_le (Nat.le_refl _) (by omega))]
      exact ⟨Q, rfl, hQ⟩
    · obtain ⟨b, b1, b2, b3⟩ := hP k (by omega)
      obtain ⟨w, hw, hwC⟩ := copy_c (v := Q k) hn b1 b2
      rw [if_neg (nI_ge (show k < n by omega) (by omega)), chk_vin (by omega) (by omega), nI_clamp (by omega), hw, Option.bind_some, lt_eq, nI_1]
      refine ih (k + 1) (va_up Q k w) (by omega) (by omega) (fun i hi => ?_)
      by_cases q : i = k
      · subst q
        exact ⟨b, b1, by rw [va_up_self]; exact hwC, b3⟩
      · rw [va_up_ne _ _ q]
        exact hQ i (by omega)
theorem copyLed {np nd : Nat} {st : Int32} {u : MomS} {P : Nat → MomS} {s : Nat → Int32} {o : Nat} {a : AM} (v : MomS) (Q : Nat → MomS) (hn : np ≤ 6) (h : LedR np nd st u P s o a) :
    ∃ (w : MomS) (Q' : Nat → MomS), fX1_copyFrom v.2.2.2.2.2.1 v.2.2.2.2.2.2.1 v.2.2.2.2.2.2.2 Q st u.1 u.2.1 u.2.2.1 u.2.2.2.1 u.2.2.2.2.1 u.2.2.2.2.2.1 u.2.2.2.2.2.2.1 u.2.2.2.2.2.2.2 P = some (st, w.1, w.2.1, w.2.2.1, w.2.2.2.1, w.2.2.2.2.1, w.2.2.2.2.2.1, w.2.2.2.2.2.2.1, w.2.2.2.2.2.2.2, Q') ∧ LedR np nd st w Q' s o a := by
  obtain ⟨n, h10, e1, e2, hv, c, m, p⟩ := h
  obtain ⟨w, hw, hwC⟩ := copy_c (v := v) hn hv c
  obtain ⟨Q', hQ', hQg⟩ := copy21 hn h10 p FU 0 Q (by omega) (by unfold FU; omega) (fun i hi => absurd hi (by omega))
  refine ⟨w, Q', ?_, n, h10, e1, e2, hv, hwC, m, hQg⟩
  unfold fX1_copyFrom
  rw [hw, Option.bind_some, e1, show (0 : Int32) = nI 0 from rfl, hQ']
  rfl
theorem okZ_two {x : Int32} (h : okZ x) : x = 0 ∨ x = 1 := h
section IMAGES
variable {tr : Int64} {ci : Nat → Int32} {ca : Nat → Nat → Int32} {pr : Nat → MomS} {pm : Nat → Nat → MomS} {mt : Int64} {mi : Nat → Int32} {ma : Nat → Nat → Int32}
theorem Inv_new2 {np nd po fr : Nat} {hm wh pl fm tl wo : Nat → Nat} {st : Int32} {a' : AM} {u' : MomS} {P' : Nat → MomS} {s' : Nat → Int32} (htr : tr = mt) (hT : TextR (ci 1) (mi 0) (ca 0) (ma 0)) (hPV : PV np nd po fr hm wh pl fm tl wo) (hC : PCl np nd po fr hm wh pl fm tl wo ci ca) (hMo : PMo np nd po fr hm wh pl fm tl wo (ma 1)) (hI0 : ImgR np nd (ca 13 0) (ma 5 0) (ci 17) (pr 1) (pm 1) (ma 4) 0) (hI1 : ImgR np nd (ca 13 1) (ma 5 1) (ci 18) (pr 2) (pm 2) (ma 4) 254) (hHe : HeardR nd (ci 19) (mi 1) (ca 14) (ca 15) (ma 6) (ma 7)) (hL : LedR np nd st u' P' s' 0 a') : Inv tr (upd (upd ci 0 0) 16 st) ca (va_up pr 0 u') (va_up pm 0 P') mt mi (va_up ma 3 s') :=
  ⟨htr, hT, np, nd, po, fr, hm, wh, pl, fm, tl, wo, a', hPV, hC, hMo, hL, hI0, hI1, hHe, okZ_0, fun z => absurd (show (0 : Int32) = 1 from z) (by decide)⟩
theorem Inv_img {np nd po fr : Nat} {hm wh pl fm tl wo : Nat → Nat} {a : AM} {st0 st1 : Int32} {u0 u1 : MomS} {P0 P1 : Nat → MomS} {im km kc : Nat → Int32} (htr : tr = mt) (hT : TextR (ci 1) (mi 0) (ca 0) (ma 0)) (hPV : PV np nd po fr hm wh pl fm tl wo) (hC : PCl np nd po fr hm wh pl fm tl wo ci ca) (hMo : PMo np nd po fr hm wh pl fm tl wo (ma 1)) (hL : LedR np nd (ci 16) (pr 0) (pm 0) (ma 3) 0 a) (hHe : HeardR nd (ci 19) (mi 1) (ca 14) (ca 15) (ma 6) (ma 7)) (hz : okZ (ci 0)) (hB : ci 0 = 1 → BestR (ma 1) (ma 3) (ci 23) (ci 24) (ci 25) (ca 17)) (hI0 : ImgR np nd (kc 0) (km 0) st0 u0 P0 im 0) (hI1 : ImgR np nd (kc 1) (km 1) st1 u1 P1 im 254) : Inv tr (upd (upd ci 17 st0) 18 st1) (va_up ca 13 kc) (va_up (va_up pr 1 u0) 2 u1) (va_up (va_up pm 1 P0) 2 P1) mt mi (va_up (va_up ma 4 im) 5 km) :=
  ⟨htr, hT, np, nd, po, fr, hm, wh, pl, fm, tl, wo, a, hPV, hC, hMo, hL, hI0, hI1, hHe, hz, hB⟩
theorem P_keep (pg : Nat → Nat → Nat) (h : Inv tr ci ca pr pm mt mi ma) (p1 : Int32) : ∃ o o', fX10_keep (ci 16) ((pr 0).1) ((pr 0).2.1) ((pr 0).2.2.1) ((pr 0).2.2.2.1) ((pr 0).2.2.2.2.1) ((pr 0).2.2.2.2.2.1) ((pr 0).2.2.2.2.2.2.1) ((pr 0).2.2.2.2.2.2.2) (pm 0) (ci 17) ((pr 1).1) ((pr 1).2.1) ((pr 1).2.2.1) ((pr 1).2.2.2.1) ((pr 1).2.2.2.2.1) ((pr 1).2.2.2.2.2.1) ((pr 1).2.2.2.2.2.2.1) ((pr 1).2.2.2.2.2.2.2) (pm 1) (ci 18) ((pr 2).1) ((pr 2).2.1) ((pr 2).2.2.1) ((pr 2).2.2.2.1) ((pr 2).2.2.2.2.1) ((pr 2).2.2.2.2.2.1) ((pr 2).2.2.2.2.2.2.1) ((pr 2).2.2.2.2.2.2.2) (pm 2) (ca 13) p1 = some o ∧ fX11_keep (ma 3) (ma 4) (ma 5) p1 = some o' ∧ o.1 = o'.1 ∧ Inv tr (upd (upd ci 17 o.2.1) 18 o.2.2.2.2.2.2.2.2.2.2.2.1) (va_up ca 13 o.2.2.2.2.2.2.2.2.2.2.2.2.2.2.2.2.2.2.2.2.2) (va_up (va_up pr 1 (o.2.2.1, o.2.2.2.1, o.2.2.2.2.1, o.2.2.2.2.2.1, o.2.2.2.2.2.2.1, o.2.2.2.2.2.2.2.1, o.2.2.2.2.2.2.2.2.1, o.2.2.2.2.2.2.2.2.2.1)) 2 (o.2.2.2.2.2.2.2.2.2.2.2.2.1, o.2.2.2.2.2.2.2.2.2.2.2.2.2.1, o.2.2.2.2.2.2.2.2.2.2.2.2.2.2.1, o.2.2.2.2.2.2.2.2.2.2.2.2.2.2.2.1, o.2.2.2.2.2.2.2.2.2.2.2.2.2.2.2.2.1, o.2.2.2.2.2.2.2.2.2.2.2.2.2.2.2.2.2.1, o.2.2.2.2.2.2.2.2.2.2.2.2.2.2.2.2.2.2.1, o.2.2.2.2.2.2.2.2.2.2.2.2.2.2.2.2.2.2.2.1)) (va_up (va_up pm 1 o.2.2.2.2.2.2.2.2.2.2.1) 2 o.2.2.2.2.2.2.2.2.2.2.2.2.2.2.2.2.2.2.2.2.1) mt mi (va_up (va_up ma 4 o'.2.1) 5 o'.2.2) := by
  obtain ⟨htr, hT, np, nd, po, fr, hm, wh, pl, fm, tl, wo, a, hPV, hC, hMo, hL, hI0, hI1, hHe, hz, hB⟩ := id h
  have hnp := hPV.1
  have e1 : (pr 0).1 = nI (aH a) := by
    obtain ⟨n, _, _, _, _, c, _, _⟩ := hL
    exact c.1
  have e2 : ma 3 0 = nI (aH a) := by
    obtain ⟨n, _, _, _, _, _, m, _⟩ := hL
    exact m.1
  have hsame : Inv tr (upd (upd ci 17 (ci 17)) 18 (ci 18)) (va_up ca 13 (ca 13)) (va_up (va_up pr 1 (pr 1)) 2 (pr 2)) (va_up (va_up pm 1 (pm 1)) 2 (pm 2)) mt mi (va_up (va_up ma 4 (ma 4)) 5 (ma 5)) := Inv_img htr hT hPV hC hMo hL hHe hz hB hI0 hI1
  unfold fX10_keep fX11_keep
  rw [in_eq, Option.bind_some]
  rcases in3 p1 0 1 (by omega) (by omega) with q | ⟨q0, q1, q2⟩ | ⟨i, hi1, hi2, hi3, q0, q1, q2⟩
  · rw [if_pos (show p1 < 0 from q), if_pos (show p1 < 0 from q), if_pos rfl]
    exact ⟨_, _, rfl, rfl, rfl, hsame⟩
  · have q3 : ¬ p1 < 2 := fun z => by
      have z2 : (1 : Int32) < p1 := q2
      rw [Int32.lt_iff_toInt_lt] at z z2
      have y1 : (1 : Int32).toInt = 1 := rfl
      have y2 : (2 : Int32).toInt = 2 := rfl
      omega
    rw [if_neg (show ¬ p1 < 0 from q0), if_neg q3, if_neg (show ¬ p1 < 0 from q0), if_pos (show 1 < p1 from q2), if_pos rfl]
    exact ⟨_, _, rfl, rfl, rfl, hsame⟩
  · have r := kee13 (s := ma 3) (im := ma 4) (i := i) (by omega) FU 0 (by omega) (by unfold FU; omega)
    rw [cpy_0, ← hi3] at r
    have r' : fX11_keep_13 p1 (ma 3) FU 0 (ma 4) = some (nI 254, va_cpy (ma 3) (ma 4) 0 (254 * i) 254) := r
    rw [if_neg (show ¬ p1 < 0 from q0), if_neg (show ¬ p1 < 0 from q0), if_neg (show ¬ 1 < p1 from q2), if_neg one_ne, r', Option.bind_some]
    subst hi3
    rw [if_pos (show nI i < (2 : Int32) from nI_lt (b := 2) (by omega) (by omega)), chk_vin (by omega) (by omega), nI_clamp (by omega)]
    rcases (show i = 0 ∨ i = 1 by omega) with rfl | rfl
    · obtain ⟨w, Q', c1, c2⟩ := copyLed (pr 1) (pm 1) hnp hL
      rw [if_pos (show nI 0 = 0 from rfl), c1]
      refine ⟨_, _, rfl, rfl, e1.trans e2.symm, Inv_img htr hT hPV hC hMo hL hHe hz hB ⟨okZ_1, rfl, fun _ => ⟨a, LedR_cg hnp c2 (fun i hi => ?_)⟩⟩ ⟨hI1.1, hI1.2.1, fun z => ?_⟩⟩
      · exact cpy_in hi
      · obtain ⟨b, hb⟩ := hI1.2.2 z
        exact ⟨b, LedR_cg hnp hb (fun i hi => cpy_out (by omega))⟩
    · obtain ⟨w, Q', c1, c2⟩ := copyLed (pr 2) (pm 2) hnp hL
      rw [if_neg (show ¬ nI 1 = 0 by decide), chk_tt (show nI 1 = 1 from rfl), c1]
      refine ⟨_, _, rfl, rfl, e1.trans e2.symm, Inv_img htr hT hPV hC hMo hL hHe hz hB ⟨hI0.1, hI0.2.1, fun z => ?_⟩ ⟨okZ_1, rfl, fun _ => ⟨a, LedR_cg hnp c2 (fun i hi => ?_)⟩⟩⟩
      · obtain ⟨b, hb⟩ := hI0.2.2 z
        exact ⟨b, LedR_cg hnp hb (fun i hi => cpy_out (by omega))⟩
      · rw [show 0 + i = 0 + i from rfl]
        exact cpy_in (dp := 254) hi
theorem P_back (pg : Nat → Nat → Nat) (h : Inv tr ci ca pr pm mt mi ma) (p1 : Int32) : ∃ o o', fX10_back (ci 0) (ci 16) ((pr 0).1) ((pr 0).2.1) ((pr 0).2.2.1) ((pr 0).2.2.2.1) ((pr 0).2.2.2.2.1) ((pr 0).2.2.2.2.2.1) ((pr 0).2.2.2.2.2.2.1) ((pr 0).2.2.2.2.2.2.2) (pm 0) (ci 17) ((pr 1).1) ((pr 1).2.1) ((pr 1).2.2.1) ((pr 1).2.2.2.1) ((pr 1).2.2.2.2.1) ((pr 1).2.2.2.2.2.1) ((pr 1).2.2.2.2.2.2.1) ((pr 1).2.2.2.2.2.2.2) (pm 1) (ci 18) ((pr 2).1) ((pr 2).2.1) ((pr 2).2.2.1) ((pr 2).2.2.2.1) ((pr 2).2.2.2.2.1) ((pr 2).2.2.2.2.2.1) ((pr 2).2.2.2.2.2.2.1) ((pr 2).2.2.2.2.2.2.2) (pm 2) (ca 13) p1 = some o ∧ fX11_back (ma 3) (ma 4) (ma 5) p1 = some o' ∧ o.1 = o'.1 ∧ Inv tr (upd (upd ci 0 o.2.1) 16 o.2.2.1) ca (va_up pr 0 (o.2.2.2.1, o.2.2.2.2.1, o.2.2.2.2.2.1, o.2.2.2.2.2.2.1, o.2.2.2.2.2.2.2.1, o.2.2.2.2.2.2.2.2.1, o.2.2.2.2.2.2.2.2.2.1, o.2.2.2.2.2.2.2.2.2.2.1)) (va_up pm 0 o.2.2.2.2.2.2.2.2.2.2.2) mt mi (va_up ma 3 o'.2) := by
  obtain ⟨htr, hT, np, nd, po, fr, hm, wh, pl, fm, tl, wo, a, hPV, hC, hMo, hL, hI0, hI1, hHe, hz, hB⟩ := id h
  have hnp := hPV.1
  have fin : ∀ (st : Int32) (u : MomS) (P : Nat → MomS) (k : Nat), k < 2 → (∃ b, LedR np nd st u P (ma 4) (254 * k) b) → ∃ (w : MomS) (Q' : Nat → MomS), fX1_copyFrom (pr 0).2.2.2.2.2.1 (pr 0).2.2.2.2.2.2.1 (pr 0).2.2.2.2.2.2.2 (pm 0) st u.1 u.2.1 u.2.2.1 u.2.2.2.1 u.2.2.2.2.1 u.2.2.2.2.2.1 u.2.2.2.2.2.2.1 u.2.2.2.2.2.2.2 P = some (st, w.1, w.2.1, w.2.2.1, w.2.2.2.1, w.2.2.2.2.1, w.2.2.2.2.2.1, w.2.2.2.2.2.2.1, w.2.2.2.2.2.2.2, Q') ∧ w.1 = va_cpy (ma 4) (ma 3) (254 * k) 0 254 0 ∧ Inv tr (upd (upd ci 0 0) 16 st) ca (va_up pr 0 w) (va_up pm 0 Q') mt mi (va_up ma 3 (va_cpy (ma 4) (ma 3) (254 * k) 0 254)) := by
    intro st u P k hk hb
    obtain ⟨b, hb⟩ := hb
    obtain ⟨w, Q', c1, c2⟩ := copyLed (pr 0) (pm 0) hnp hb
    have c3 : LedR np nd st w Q' (va_cpy (ma 4) (ma 3) (254 * k) 0 254) 0 b := LedR_cg hnp c2 (fun i hi => cpy_in hi)
    refine ⟨w, Q', c1, ?_, Inv_new2 htr hT hPV hC hMo hI0 hI1 hHe c3⟩
    obtain ⟨n, _, _, _, _, c, m, _⟩ := c3
    exact c.1.trans m.1.symm
  unfold fX10_back fX11_back
  rw [in_eq, Option.bind_some]
  rcases in3 p1 0 1 (by omega) (by omega) with q | ⟨q0, q1, q2⟩ | ⟨i, hi1, hi2, hi3, q0, q1, q2⟩
  · rw [if_pos (show p1 < 0 from q), if_pos (show p1 < 0 from q), if_pos rfl]
    exact ⟨_, _, rfl, rfl, rfl, Inv_same h⟩
  · have q3 : ¬ p1 < 2 := fun z => by
      have z2 : (1 : Int32) < p1 := q2
      rw [Int32.lt_iff_toInt_lt] at z z2
      have y1 : (1 : Int32).toInt = 1 := rfl
      have y2 : (2 : Int32).toInt = 2 := rfl
      omega
    rw [if_neg (show ¬ p1 < 0 from q0), if_neg q3, if_neg (show ¬ p1 < 0 from q0), if_pos (show 1 < p1 from q2), if_pos rfl]
    exact ⟨_, _, rfl, rfl, rfl, Inv_same h⟩
  · have r := bac25 (s := ma 3) (im := ma 4) (i := i) (by omega) FU 0 (by omega) (by unfold FU; omega)
    rw [cpy_0, ← hi3] at r
    rw [if_neg (show ¬ p1 < 0 from q0), if_neg (show ¬ p1 < 0 from q0), if_neg (show ¬ 1 < p1 from q2), if_neg one_ne]
    subst hi3
    rw [if_pos (show nI i < (2 : Int32) from nI_lt (b := 2) (by omega) (by omega)), chk_vin (by omega) (by omega), chk_vin (by omega) (by omega), nI_clamp (by omega)]
    have r' : fX11_back_25 (nI i) (ma 4) FU 0 (ma 3) = some (nI 254, va_cpy (ma 4) (ma 3) (254 * i) 0 254) := r
    rw [r']
    rcases (show i = 0 ∨ i = 1 by omega) with rfl | rfl
    · rw [hI0.2.1]
      rcases okZ_two hI0.1 with z | z
      · rw [z, if_pos rfl, if_pos rfl]
        exact ⟨_, _, rfl, rfl, rfl, Inv_same h⟩
      · obtain ⟨w, Q', c1, c2, c3⟩ := fin (ci 17) (pr 1) (pm 1) 0 (by omega) (hI0.2.2 z)
        rw [z, if_neg one_ne, if_neg one_ne, if_pos (show nI 0 = 0 from rfl), c1]
        exact ⟨_, _, rfl, rfl, c2, c3⟩
    · rw [hI1.2.1]
      rcases okZ_two hI1.1 with z | z
      · rw [z, if_pos rfl, if_pos rfl]
        exact ⟨_, _, rfl, rfl, rfl, Inv_same h⟩
      · obtain ⟨w, Q', c1, c2, c3⟩ := fin (ci 18) (pr 2) (pm 2) 1 (by omega) (hI1.2.2 z)
        rw [z, if_neg one_ne, if_neg one_ne, if_neg (show ¬ nI 1 = 0 by decide), chk_tt (show nI 1 = 1 from rfl), c1]
        exact ⟨_, _, rfl, rfl, c2, c3⟩
end IMAGES
