/-! WHAT WAS HEARD -/
theorem hears_eq (w : Int32) : ∀ (n : Nat) (k : Int32) (d h : Nat → Int32), fX11_hears_37 w n k d h = fX0_insert_15 w n k d h := by
  intro n
  induction n with
  | zero => intros; rfl
  | succ n ih =>
    intros k d h
    rw [fX11_hears_37, fX0_insert_15]
    simp only [ih]
/-- arrays in which the last ones of m are shifted up by one from k -/
def ShR (m k : Nat) (D : Nat → Nat) (d : Nat → Int32) : Prop := (∀ i, i < k → d i = nI (D i)) ∧ ∀ i, k < i → i ≤ m → d i = nI (D (i - 1))
theorem ShR_up {m k : Nat} {D : Nat → Nat} {d : Nat → Int32} (hk : k + 1 ≤ m) (h : ShR m (k + 1) D d) : ShR m k D (upd d (k + 1) (d k)) := by
  refine ⟨fun i hi => ?_, fun i hi hi2 => ?_⟩
  · rw [upd_n _ _ (by omega)]
    exact h.1 i (by omega)
  · by_cases e : i = k + 1
    · subst e
      rw [upd_s]
      exact h.1 k (by omega)
    · rw [upd_n _ _ e]
      exact h.2 i (by omega) hi2
theorem ins_loop {m x : Nat} {D H : Nat → Nat} (hm : m ≤ 5) (hx : x ≤ 99) (hH : ∀ i, i < m → H i ≤ 99) : ∀ (n k : Nat) (d h : Nat → Int32), k ≤ m → k < n → ShR m k D d → ShR m k H h → (∀ i, k ≤ i → i < m → x < H i) →
    ∃ (k' : Nat) (d' h' : Nat → Int32), fX0_insert_15 (nI x) n (nI k) d h = some (nI k', d', h') ∧ k' ≤ m ∧ ShR m k' D d' ∧ ShR m k' H h' ∧ (∀ i, k' ≤ i → i < m → x < H i) ∧ (k' = 0 ∨ H (k' - 1) ≤ x) := by
  intro n
  induction n with
  | zero => intro k d h a b; omega
  | succ n ih =>
    intro k d h a b hd hh hx2
    rw [fX0_insert_15]
    by_cases e : k = 0
    · subst e
      rw [if_pos (show nI 0 ≤ 0 from by decide)]
      exact ⟨0, d, h, rfl, by omega, hd, hh, hx2, Or.inl rfl⟩
    · obtain ⟨k, rfl⟩ : ∃ j, k = j + 1 := ⟨k - 1, by omega⟩
      have es : nI (k + 1) - 1 = nI k := by rw [show (1 : Int32) = nI 1 from rfl, pk_sub (by omega), Nat.add_sub_cancel]
      have es2 : nI (k + 1) + -1 = nI k := by rw [← Int32.sub_eq_add_neg]; exact es
      have hHk := hH k (by omega)
      rw [if_neg (show ¬ nI (k + 1) ≤ 0 from nI_ge (a := 0) (by omega) (by omega)), es, es2]
      simp (disch := omega) only [chk_vin, nI_clamp]
      by_cases q : H k ≤ x
      · rw [if_pos (show h k ≤ nI x by rw [hh.1 k (by omega)]; exact nI_le q (by omega))]
        exact ⟨k + 1, d, h, rfl, by omega, hd, hh, hx2, Or.inr (by rw [Nat.add_sub_cancel]; exact q)⟩
      · rw [if_neg (show ¬ h k ≤ nI x by rw [hh.1 k (by omega)]; exact nI_ge (show x < H k by omega) (by omega)), lt_eq, lt_eq, lt_eq]
        refine ih k _ _ (by omega) (by omega) (ShR_up (by omega) hd) (ShR_up (by omega) hh) (fun i hi hi2 => ?_)
        by_cases e2 : i = k
        · rw [e2]; omega
        · exact hx2 i (by omega) hi2
theorem Inv_heard {tr : Int64} {ci : Nat → Int32} {ca : Nat → Nat → Int32} {pr : Nat → MomS} {pm : Nat → Nat → MomS} {mt : Int64} {mi : Nat → Int32} {ma : Nat → Nat → Int32} {np nd po fr : Nat} {hm wh pl fm tl wo : Nat → Nat} {a : AM} {n1 n2 : Int32} {d1 h1 d2 h2 : Nat → Int32} (htr : tr = mt) (hT : TextR (ci 1) (mi 0) (ca 0) (ma 0)) (hPV : PV np nd po fr hm wh pl fm tl wo) (hC : PCl np nd po fr hm wh pl fm tl wo ci ca) (hMo : PMo np nd po fr hm wh pl fm tl wo (ma 1)) (hL : LedR np nd (ci 16) (pr 0) (pm 0) (ma 3) 0 a) (hI0 : ImgR np nd (ca 13 0) (ma 5 0) (ci 17) (pr 1) (pm 1) (ma 4) 0) (hI1 : ImgR np nd (ca 13 1) (ma 5 1) (ci 18) (pr 2) (pm 2) (ma 4) 254) (hz : okZ (ci 0)) (hB : ci 0 = 1 → BestR (ma 1) (ma 3) (ci 23) (ci 24) (ci 25) (ca 17)) (hHe : HeardR nd n1 n2 d1 h1 d2 h2) : Inv tr (upd ci 19 n1) (va_up (va_up ca 14 d1) 15 h1) pr pm mt (upd mi 1 n2) (va_up (va_up ma 6 d2) 7 h2) :=
  ⟨htr, hT, np, nd, po, fr, hm, wh, pl, fm, tl, wo, a, hPV, hC, hMo, hL, hI0, hI1, hHe, hz, hB⟩
section HEARD
variable {tr : Int64} {ci : Nat → Int32} {ca : Nat → Nat → Int32} {pr : Nat → MomS} {pm : Nat → Nat → MomS} {mt : Int64} {mi : Nat → Int32} {ma : Nat → Nat → Int32}
theorem P_hears (pg : Nat → Nat → Nat) (h : Inv tr ci ca pr pm mt mi ma) (p1 : Int32) (p2 : Int32) : ∃ o o', fX10_hears (ci 11) (ci 19) (ca 14) (ca 15) p1 p2 = some o ∧ fX11_hears (mi 1) (ma 1) (ma 6) (ma 7) p1 p2 = some o' ∧ o.1 = o'.1 ∧ Inv tr (upd ci 19 o.2.1) (va_up (va_up ca 14 o.2.2.1) 15 o.2.2.2) pr pm mt (upd mi 1 o'.2.1) (va_up (va_up ma 6 o'.2.2.1) 7 o'.2.2.2) := by
  obtain ⟨htr, hT, np, nd, po, fr, hm, wh, pl, fm, tl, wo, a, hPV, hC, hMo, hL, hI0, hI1, hHe, hz, hB⟩ := id h
  have hnd := hPV.2.1
  have same := Inv_heard htr hT hPV hC hMo hL hI0 hI1 hz hB hHe
  obtain ⟨m, hd, hh, hm6, e19, m1, hhe, hso⟩ := id hHe
  unfold fX10_hears fX11_hears
  rw [hC.2.2.2.1, hasDeed_eq, isDeed_eq hMo.2.1 (by omega), Option.bind_some, Option.bind_some, in_eq, Option.bind_some]
  rcases ix3 p1 nd (by omega) with hout | ⟨j, hj, rfl⟩
  · rw [no_out hout, if_pos rfl, if_pos rfl]
    exact ⟨_, _, rfl, rfl, rfl, same⟩
  · rw [no_in hj (by omega), if_neg one_ne, if_neg one_ne]
    rcases in3 p2 0 99 (by omega) (by omega) with q | ⟨q0, q1, q2⟩ | ⟨x, hx1, hx2, hx3, q0, q1, q2⟩
    · rw [if_pos (show p2 < 0 from q), if_pos (show p2 < 0 from q), if_pos rfl]
      exact ⟨_, _, rfl, rfl, rfl, same⟩
    · rw [if_neg (show ¬ p2 < 0 from q0), if_neg (show ¬ p2 ≤ 99 from q1), if_neg (show ¬ p2 < 0 from q0), if_pos (show 99 < p2 from q2), if_pos rfl]
      exact ⟨_, _, rfl, rfl, rfl, same⟩
    · rw [if_neg (show ¬ p2 < 0 from q0), if_pos (show p2 ≤ 99 from q1), if_neg (show ¬ p2 < 0 from q0), if_neg (show ¬ 99 < p2 from q2), if_neg one_ne]
      subst hx3
      by_cases q6 : m = 6
      · rw [if_neg (show ¬ ci 19 < 6 by rw [e19, q6]; decide), if_pos (show mi 1 = 6 by rw [m1, q6]; rfl)]
        exact ⟨_, _, rfl, rfl, rfl, same⟩
      · unfold fX0_insert
        have l6 : ci 19 < 6 := by rw [e19]; exact nI_lt (b := 6) (by omega) (by omega)
        rw [if_pos l6, if_pos l6, if_neg (show ¬ mi 1 = 6 by rw [m1]; exact fun z => q6 ((nI_eq (b := 6) (by omega) (by omega)).mp z)), e19, m1, hears_eq]
        obtain ⟨k1, d1, h1, r1, b1, c1, c2, c3, c4⟩ := ins_loop (D := hd) (H := hh) (show m ≤ 5 by omega) hx2 (fun i hi => (hhe i hi).2.1) FU m (ca 14) (ca 15) (Nat.le_refl _) (by unfold FU; omega) ⟨fun i hi => (hhe i hi).2.2.1, fun i hi hi2 => by omega⟩ ⟨fun i hi => (hhe i hi).2.2.2.2.1, fun i hi hi2 => by omega⟩ (fun i hi hi2 => by omega)
        obtain ⟨k2, d2, h2, r2, b2, g1, g2, g3, g4⟩ := ins_loop (D := hd) (H := hh) (show m ≤ 5 by omega) hx2 (fun i hi => (hhe i hi).2.1) FU m (ma 6) (ma 7) (Nat.le_refl _) (by unfold FU; omega) ⟨fun i hi => (hhe i hi).2.2.2.1, fun i hi hi2 => by omega⟩ ⟨fun i hi => (hhe i hi).2.2.2.2.2, fun i hi hi2 => by omega⟩ (fun i hi hi2 => by omega)
        have ek : k2 = k1 := by
          rcases Nat.lt_trichotomy k1 k2 with z | z | z
          · have y1 := c3 (k2 - 1) (by omega) (by omega)
            rcases g4 with w | w <;> omega
          · exact z.symm
          · have y1 := g3 (k1 - 1) (by omega) (by omega)
            rcases c4 with w | w <;> omega
        subst ek
        rw [r1, r2, Option.bind_some, Option.bind_some, chk_vin (by omega) (by omega), chk_vin (by omega) (by omega), lt_eq, lt_eq, nI_clamp (by omega), nI_1]
        refine ⟨_, _, rfl, rfl, rfl, Inv_heard htr hT hPV hC hMo hL hI0 hI1 hz hB ⟨m + 1, fun i => if i < k2 then hd i else if i = k2 then j else hd (i - 1), fun i => if i < k2 then hh i else if i = k2 then x else hh (i - 1), by omega, rfl, rfl, fun i hi => ?_, fun i hi => ?_⟩⟩
        · dsimp only
          rcases Nat.lt_trichotomy i k2 with z | z | z
          · obtain ⟨f1, f2, _⟩ := hhe i (by omega)
            rw [if_pos z, if_pos z, upd_n _ _ (by omega), upd_n _ _ (by omega), upd_n _ _ (by omega), upd_n _ _ (by omega)]
            exact ⟨f1, f2, c1.1 i z, g1.1 i z, c2.1 i z, g2.1 i z⟩
          · subst z
            rw [if_neg (Nat.lt_irrefl _), if_neg (Nat.lt_irrefl _), if_pos rfl, if_pos rfl, upd_s, upd_s, upd_s, upd_s]
            exact ⟨hj, hx2, rfl, rfl, rfl, rfl⟩
          · obtain ⟨f1, f2, _⟩ := hhe (i - 1) (by omega)
            rw [if_neg (show ¬ i < k2 by omega), if_neg (show ¬ i < k2 by omega), if_neg (show ¬ i = k2 by omega), if_neg (show ¬ i = k2 by omega), upd_n _ _ (by omega), upd_n _ _ (by omega), upd_n _ _ (by omega), upd_n _ _ (by omega)]
            exact ⟨f1, f2, c1.2 i z (by omega), g1.2 i z (by omega), c2.2 i z (by omega), g2.2 i z (by omega)⟩
        · dsimp only
          by_cases z1 : i + 1 < k2
          · rw [if_pos z1, if_pos (by omega)]
            exact hso i (by omega)
          · rw [if_neg z1]
            by_cases z2 : i + 1 = k2
            · rw [if_pos z2, if_pos (by omega)]
              rcases c4 with w | w
              · omega
              · rw [show i = k2 - 1 by omega]
                exact w
            · rw [if_neg z2, if_neg (by omega)]
              by_cases z3 : i = k2
              · rw [if_pos z3, Nat.add_sub_cancel]
                exact Nat.le_of_lt (c3 i (by omega) (by omega))
              · rw [if_neg z3, Nat.add_sub_cancel]
                have := hso (i - 1) (by omega)
                rw [show i - 1 + 1 = i by omega] at this
                exact this
theorem lies_loop {m nd : Nat} {hd hh pl : Nat → Nat} {d1 h1 d2 h2 rp t : Nat → Int32} (hm : m ≤ 6) (hnd : nd ≤ 8) (hhe : ∀ i : Nat, i < m → hd i < nd ∧ hh i ≤ 99 ∧ d1 i = nI (hd i) ∧ d2 i = nI (hd i) ∧ h1 i = nI (hh i) ∧ h2 i = nI (hh i)) (hp : ∀ d, d < nd → pl d ≤ 30 ∧ rp d = nI (pl d) ∧ t (20 + d) = nI (pl d)) :
    ∀ (n k : Nat) (c : Int32), 1 ≤ k → k < 2 ^ 20 → m < k + n → 0 < n → ∃ r, fX0_tooSoon_4 (nI m) d1 h1 rp n (nI k) c = some r ∧ fX11_lies_4 (nI m) t d2 h2 n (nI k) c = some r := by
  intro n
  induction n with
  | zero => intro k c a1 a2 b b0; omega
  | succ n ih =>
    intro k c a1 a2 b b0
    rw [fX0_tooSoon_4, fX11_lies_4]
    by_cases e : m ≤ k
    · rw [if_pos (nI_le e (by omega)), if_pos (nI_le e (by omega))]
      exact ⟨_, rfl, rfl⟩
    · obtain ⟨f1, f2, f3, f4, f5, f6⟩ := hhe k (by omega)
      obtain ⟨g1, g2, g3, g4, g5, g6⟩ := hhe (k - 1) (by omega)
      obtain ⟨u1, u2, u3⟩ := hp (hd k) f1
      obtain ⟨v1, v2, v3⟩ := hp (hd (k - 1)) g1
      have es : nI k - 1 = nI (k - 1) := by rw [show (1 : Int32) = nI 1 from rfl, pk_sub (by omega)]
      rw [if_neg (nI_ge (show k < m by omega) (by omega)), if_neg (nI_ge (show k < m by omega) (by omega)), es]
      simp (disch := omega) only [chk_vin, nI_clamp]
      rw [f3, f4, f5, f6, g3, g4, g5, g6, show (20 : Int32) + nI (hd k) = nI (20 + hd k) from nI_add 20 _, show (20 : Int32) + nI (hd (k - 1)) = nI (20 + hd (k - 1)) from nI_add 20 _]
      simp (disch := omega) only [chk_vin, nI_clamp]
      rw [u2, u3, v2, v3, abs_c (by omega) (by omega), far_m (by omega) (by omega), lt_eq, Option.bind_some]
      by_cases q : nI (dist (pl (hd k)) (pl (hd (k - 1)))) ≤ nI (hh k) - nI (hh (k - 1))
      · rw [if_pos q, if_pos q, lt_eq, lt_eq, lt_eq, Int32.add_zero, nI_1]
        exact ih (k + 1) c (by omega) (by omega) (by omega) (by omega)
      · rw [if_neg q, if_neg q, lt_eq, lt_eq, lt_eq, lt_eq, nI_1]
        exact ih (k + 1) _ (by omega) (by omega) (by omega) (by omega)
theorem P_lies (pg : Nat → Nat → Nat) (h : Inv tr ci ca pr pm mt mi ma) : ∃ o o', fX10_lies (ca 3) (ci 19) (ca 14) (ca 15) = some o ∧ fX11_lies (mi 1) (ma 1) (ma 6) (ma 7) = some o' ∧ o = o' ∧ Inv tr ci ca pr pm mt mi ma := by
  obtain ⟨htr, hT, np, nd, po, fr, hm, wh, pl, fm, tl, wo, a, hPV, hC, hMo, hL, hI0, hI1, hHe, hz, hB⟩ := id h
  obtain ⟨m, hd, hh, hm6, e19, m1, hhe, hso⟩ := id hHe
  obtain ⟨r, r1, r2⟩ := lies_loop (pl := pl) (rp := ca 3) (t := ma 1) hm6 hPV.2.1 hhe (fun d hd => ⟨(hPV.2.2.2.2.2 d hd).2.1, (hC.2.2.2.2.2 d hd).2.1, (hMo.2.2.2.2.2 d hd).2.1⟩) FU 1 0 (by omega) (by omega) (by unfold FU; omega) (by unfold FU; omega)
  unfold fX10_lies fX0_tooSoon fX11_lies
  rw [e19, m1, show (1 : Int32) = nI 1 from rfl, r1, r2]
  exact ⟨_, _, rfl, rfl, rfl, h⟩
/-- how far down a row keeps a property that it keeps downwards -/
theorem split_at (P : Nat → Bool) : ∀ m : Nat, (∀ i, i + 1 < m → P (i + 1) = true → P i = true) → ∃ l, l ≤ m ∧ (∀ i, i < l → P i = true) ∧ ∀ i, l ≤ i → i < m → P i = false := by
  intro m
  induction m with
  | zero => exact fun _ => ⟨0, Nat.le_refl _, fun i hi => by omega, fun i hi hi2 => by omega⟩
  | succ m ih =>
    intro hd
    obtain ⟨l, h1, h2, h3⟩ := ih (fun i hi hP => hd i (by omega) hP)
    by_cases q : P m = true
    · refine ⟨m + 1, Nat.le_refl _, fun i hi => ?_, fun i hi hi2 => by omega⟩
      have down : ∀ j, j ≤ m → P (m - j) = true := by
        intro j
        induction j with
        | zero => exact fun _ => q
        | succ j ihj =>
          intro hj
          have := ihj (by omega)
          rw [show m - j = (m - (j + 1)) + 1 by omega] at this
          exact hd _ (by omega) this
      have := down (m - i) (by omega)
      rw [show m - (m - i) = i by omega] at this
      exact this
    · refine ⟨l, by omega, h2, fun i hi hi2 => ?_⟩
      by_cases e : i = m
      · rw [e]
        exact Bool.not_eq_true _ ▸ q
      · exact h3 i hi (by omega)
def prv (k : Nat) : Option Nat := if k = 0 then none else some (k - 1)
theorem latest_c {m l x : Nat} {hh : Nat → Nat} {h1 : Nat → Int32} (hm : m ≤ 6) (hx : x ≤ 99) (hH : ∀ i, i < m → hh i ≤ 99 ∧ h1 i = nI (hh i)) (hl : l ≤ m) (l1 : ∀ i, i < l → hh i ≤ x) (l2 : ∀ i, l ≤ i → i < m → x < hh i) :
    ∀ (n k : Nat), k ≤ l → m < k + n → ∃ y, fX0_latestBy_5 (nI x) (nI m) h1 n (nI k) (hoI (prv k)) = some (y, hoI (prv l)) := by
  intro n
  induction n with
  | zero => intro k a b; omega
  | succ n ih =>
    intro k a b
    rw [fX0_latestBy_5]
    by_cases e : k = m
    · subst e
      rw [if_pos (nI_le (Nat.le_refl _) (by omega)), show l = k by omega]
      exact ⟨_, rfl⟩
    · have hk := hH k (by omega)
      rw [if_neg (nI_ge (show k < m by omega) (by omega)), chk_vin (by omega) (by omega), nI_clamp (by omega), hk.2]
      by_cases q : k = l
      · subst q
        rw [if_pos (nI_lt (l2 k (Nat.le_refl _) (by omega)) (by omega))]
        exact ⟨_, rfl⟩
      · rw [if_neg (nI_nlt (l1 k (by omega)) (by omega)), lt_eq, nI_1]
        have := ih (k + 1) (by omega) (by omega)
        rw [show hoI (prv (k + 1)) = nI k by unfold prv; rw [if_neg (by omega), Nat.add_sub_cancel]; rfl] at this
        exact this
def nxt (m k : Nat) : Option Nat := if k = m then none else some k
theorem earliest_c {m l x : Nat} {hh : Nat → Nat} {h1 : Nat → Int32} (hm : m ≤ 6) (hx : x ≤ 99) (hH : ∀ i, i < m → hh i ≤ 99 ∧ h1 i = nI (hh i)) (hl : l ≤ m) (l1 : ∀ i, i < l → hh i < x) (l2 : ∀ i, l ≤ i → i < m → x ≤ hh i) :
    ∀ (n k : Nat), l ≤ k → k ≤ m → k < n → ∃ y, fX0_earliestFrom_10 (nI x) h1 n (nI k - 1) (hoI (nxt m k)) = some (y, hoI (nxt m l)) := by
  intro n
  induction n with
  | zero => intro k a b c; omega
  | succ n ih =>
    intro k a b c
    rw [fX0_earliestFrom_10]
    by_cases e : k = 0
    · subst e
      rw [if_pos (show nI 0 - 1 < 0 by decide), show l = 0 by omega]
      exact ⟨_, rfl⟩
    · have es : nI k - 1 = nI (k - 1) := by rw [show (1 : Int32) = nI 1 from rfl, pk_sub (by omega)]
      have hk := hH (k - 1) (by omega)
      rw [es, if_neg (nI_pos (by omega)), chk_vin (by omega) (by omega), nI_clamp (by omega), hk.2]
      by_cases q : k = l
      · subst q
        rw [if_pos (nI_lt (l1 (k - 1) (by omega)) (by omega))]
        exact ⟨_, rfl⟩
      · rw [if_neg (nI_nlt (l2 (k - 1) (by omega) (by omega)) (by omega)), lt_eq, ← Int32.sub_eq_add_neg]
        have := ih (k - 1) (by omega) (by omega) (by omega)
        rw [show hoI (nxt m (k - 1)) = nI (k - 1) by unfold nxt; rw [if_neg (by omega)]; rfl] at this
        exact this
theorem both_m {m l e x : Nat} {hh : Nat → Nat} {h1 : Nat → Int32} (hm : m ≤ 6) (hx : x ≤ 99) (hH : ∀ i, i < m → hh i ≤ 99 ∧ h1 i = nI (hh i)) (hl : l ≤ m) (l1 : ∀ i, i < l → hh i ≤ x) (l2 : ∀ i, l ≤ i → i < m → x < hh i) (he : e ≤ m) (e1 : ∀ i, i < e → hh i < x) (e2 : ∀ i, e ≤ i → i < m → x ≤ hh i) :
    ∀ (n k : Nat), k ≤ m → m < k + n → ∃ y, fX11_had_21 (nI x) (nI m) h1 n (nI k) (hoI (if k ≤ e then none else some e)) (hoI (prv (min k l))) = some (y, hoI (nxt m e), hoI (prv l)) := by
  intro n
  induction n with
  | zero => intro k a b; omega
  | succ n ih =>
    intro k a b
    rw [fX11_had_21]
    by_cases ek : k = m
    · subst ek
      rw [if_pos (nI_le (Nat.le_refl _) (by omega)), show min k l = l by omega]
      refine ⟨nI k, ?_⟩
      unfold nxt
      by_cases z : k ≤ e
      · rw [if_pos z, if_pos (by omega)]
      · rw [if_neg z, if_neg (by omega)]
    · have hk := hH k (by omega)
      rw [if_neg (nI_ge (show k < m by omega) (by omega)), chk_vin (by omega) (by omega), nI_clamp (by omega), hk.2]
      have A : (if nI x < nI (hh k) then hoI (prv (min k l)) else nI k) = hoI (prv (min (k + 1) l)) := by
        by_cases q : k < l
        · rw [if_neg (nI_nlt (l1 k q) (by omega)), show min (k + 1) l = k + 1 by omega]
          unfold prv
          rw [if_neg (by omega), Nat.add_sub_cancel]
          rfl
        · rw [if_pos (nI_lt (l2 k (by omega) (by omega)) (by omega)), show min (k + 1) l = l by omega, show min k l = l by omega]
      have B : (if nI (hh k) < nI x then hoI (if k ≤ e then none else some e) else (if hoI (if k ≤ e then none else some e) = -9 then nI k else hoI (if k ≤ e then none else some e))) = hoI (if k + 1 ≤ e then none else some e) := by
        by_cases q : k < e
        · rw [if_pos (nI_lt (e1 k q) (by omega)), if_pos (show k ≤ e by omega), if_pos (show k + 1 ≤ e by omega)]
        · rw [if_neg (nI_nlt (e2 k (by omega) (by omega)) (by omega)), if_neg (show ¬ k + 1 ≤ e by omega)]
          by_cases z : k = e
          · subst z
            rw [if_pos (Nat.le_refl _), if_pos (show hoI none = -9 from rfl)]
            rfl
          · rw [if_neg (show ¬ k ≤ e by omega), if_neg (show ¬ hoI (some e) = -9 from ne_neg (k := e) (m := 9) (by omega) (by omega) (by omega))]
      rw [A, B, lt_eq, lt_eq, lt_eq, nI_1]
      exact ih (k + 1) (by omega) (by omega)
def nb (hd hh pl : Nat → Nat) (x : Nat) (o : Option Nat) (y : Nat) : Int32 := match o with
  | none => 1
  | some i => if dist (hh i) x < dist (pl (hd i)) y then 0 else 1
theorem okZ_nb {hd hh pl : Nat → Nat} {x : Nat} {o : Option Nat} {y : Nat} : okZ (nb hd hh pl x o y) := by
  unfold nb
  cases o with
  | none => exact okZ_1
  | some i =>
    dsimp only
    split
    · exact okZ_0
    · exact okZ_1
theorem nI_ltd {a b : Nat} (ha : a < 2 ^ 31) (hb : b < 2 ^ 31) : (nI a < nI b) ↔ a < b := by
  constructor
  · intro h
    rcases Nat.lt_or_ge a b with z | z
    · exact z
    · exact absurd h (nI_nlt z (by omega))
  · exact fun h => nI_lt h hb
theorem near_c {m nd x y : Nat} {hd hh pl : Nat → Nat} {d1 h1 rp : Nat → Int32} {o : Option Nat} (hm : m ≤ 6) (hnd : nd ≤ 8) (hx : x ≤ 99) (hy : y ≤ 30) (hhe : ∀ i : Nat, i < m → hd i < nd ∧ hh i ≤ 99 ∧ d1 i = nI (hd i) ∧ h1 i = nI (hh i)) (hp : ∀ d, d < nd → pl d ≤ 30 ∧ rp d = nI (pl d)) (ho : ∀ i, o = some i → i < m) :
    fX0_isNear d1 h1 rp (hoI o) (nI y) (nI x) = some (nb hd hh pl x o y) := by
  unfold fX0_isNear
  cases o with
  | none => rfl
  | some i =>
    have hi := ho i rfl
    obtain ⟨f1, f2, f3, f4⟩ := hhe i hi
    obtain ⟨u1, u2⟩ := hp (hd i) f1
    have dl1 := dist_le (c := 99) f2 hx
    have dl2 := dist_le (c := 30) u1 hy
    rw [show hoI (some i) = nI i from rfl, if_neg (nI_pos (by omega)), chk_vin (by omega) (by omega), nI_clamp (by omega), f3, chk_vin (by omega) (by omega), nI_clamp (by omega), u2, f4, abs_c (by omega) (by omega), abs_c (by omega) (by omega)]
    show (if nI (dist (hh i) x) < nI (dist (pl (hd i)) y) then some 0 else some 1).bind _ = some (if dist (hh i) x < dist (pl (hd i)) y then 0 else 1)
    by_cases q : dist (hh i) x < dist (pl (hd i)) y
    · rw [if_pos ((nI_ltd (by omega) (by omega)).mpr q), if_pos q]
      rfl
    · rw [if_neg (fun z => q ((nI_ltd (by omega) (by omega)).mp z)), if_neg q]
      rfl
theorem had_loop {m np nd x : Nat} {hd hh pl hm : Nat → Nat} {d1 h1 d2 h2 rp rh t : Nat → Int32} {ol oe : Option Nat} (hm6 : m ≤ 6) (hnp : np ≤ 6) (hnd : nd ≤ 8) (hx : x ≤ 99) (hhe : ∀ i : Nat, i < m → hd i < nd ∧ hh i ≤ 99 ∧ d1 i = nI (hd i) ∧ d2 i = nI (hd i) ∧ h1 i = nI (hh i) ∧ h2 i = nI (hh i)) (hp : ∀ d, d < nd → pl d ≤ 30 ∧ rp d = nI (pl d) ∧ t (20 + d) = nI (pl d)) (hh' : ∀ p, p < np → hm p ≤ 30 ∧ rh p = nI (hm p) ∧ t (6 + p) = nI (hm p)) (t0 : t 0 = nI np)
    (hol : ∀ i, ol = some i → i < m ∧ hh i ≤ x) (hoe : ∀ i, oe = some i → i < m ∧ x ≤ hh i) :
    ∀ (n k : Nat) (c : Int32), k ≤ np → np < k + n → ∃ r, fX0_possibleHolders_32 (hoI oe) (hoI ol) (nI x) d1 h1 (nI np) rh rp n (nI k) c = some r ∧ fX11_had_140 (hoI oe) (hoI ol) (nI x) t d2 h2 n (nI k) c = some r := by
  intro n
  induction n with
  | zero => intro k c a b; omega
  | succ n ih =>
    intro k c a b
    rw [fX0_possibleHolders_32, fX11_had_140, t0]
    by_cases e : k = np
    · subst e
      rw [if_pos (nI_le (Nat.le_refl _) (by omega)), if_pos (nI_le (Nat.le_refl _) (by omega))]
      exact ⟨_, rfl, rfl⟩
    · obtain ⟨y1, y2, y3⟩ := hh' k (by omega)
      have nl := near_c (o := ol) hm6 hnd hx y1 (fun i hi => ⟨(hhe i hi).1, (hhe i hi).2.1, (hhe i hi).2.2.1, (hhe i hi).2.2.2.2.1⟩) (fun d hd => ⟨(hp d hd).1, (hp d hd).2.1⟩) (fun i hi => (hol i hi).1)
      have ne := near_c (o := oe) hm6 hnd hx y1 (fun i hi => ⟨(hhe i hi).1, (hhe i hi).2.1, (hhe i hi).2.2.1, (hhe i hi).2.2.2.2.1⟩) (fun d hd => ⟨(hp d hd).1, (hp d hd).2.1⟩) (fun i hi => (hoe i hi).1)
      rw [if_neg (nI_ge (show k < np by omega) (by omega)), if_neg (nI_ge (show k < np by omega) (by omega)), chk_vin (by omega) (by omega), nI_clamp (by omega), y2, lt_eq, nl, Option.bind_some, ne, Option.bind_some, show (6 : Int32) + nI k = nI (6 + k) from nI_add 6 k]
      have ml : (if hoI ol = -9 then some 1 else chk (vin (hoI ol) 6) (chk (vin (20 + (d2 (hoI ol).toNatClampNeg)) 52) (chk (vin (nI (6 + k)) 52) ((fX11_far (t (20 + (d2 (hoI ol).toNatClampNeg)).toNatClampNeg) (t (nI (6 + k)).toNatClampNeg)).bind (fun o27 => (if (nI x - (h2 (hoI ol).toNatClampNeg)) < o27 then some 0 else some 1)))))) = some (nb hd hh pl x ol (hm k)) := by
        cases ol with
        | none => rfl
        | some i =>
          obtain ⟨hi, hi2⟩ := hol i rfl
          obtain ⟨f1, f2, f3, f4, f5, f6⟩ := hhe i hi
          obtain ⟨u1, u2, u3⟩ := hp (hd i) f1
          have dl1 := dist_le (c := 99) f2 hx
          have dl2 := dist_le (c := 30) u1 y1
          rw [show hoI (some i) = nI i from rfl, if_neg (show ¬ nI i = -9 from ne_neg (k := i) (m := 9) (by omega) (by omega) (by omega)), chk_vin (by omega) (by omega), nI_clamp (show i < 2 ^ 31 by omega), f4, f6, show (20 : Int32) + nI (hd i) = nI (20 + hd i) from nI_add 20 _, chk_vin (by omega) (by omega), chk_vin (by omega) (by omega), nI_clamp (by omega), nI_clamp (by omega), u3, y3, far_m (by omega) (by omega), Option.bind_some, pk_sub hi2]
          show _ = some (if dist (hh i) x < dist (pl (hd i)) (hm k) then 0 else 1)
          have ed : dist (hh i) x = x - hh i := by
            unfold dist
            rw [if_pos hi2]
          rw [ed]
          by_cases q : x - hh i < dist (pl (hd i)) (hm k)
          · rw [if_pos ((nI_ltd (by omega) (by omega)).mpr q), if_pos q]
          · rw [if_neg (fun z => q ((nI_ltd (by omega) (by omega)).mp z)), if_neg q]
      have me : (if hoI oe = -9 then some 1 else chk (vin (nI (6 + k)) 52) (chk (vin (hoI oe) 6) (chk (vin (20 + (d2 (hoI oe).toNatClampNeg)) 52) ((fX11_far (t (nI (6 + k)).toNatClampNeg) (t (20 + (d2 (hoI oe).toNatClampNeg)).toNatClampNeg)).bind (fun o34 => (if ((h2 (hoI oe).toNatClampNeg) - nI x) < o34 then some 0 else some 1)))))) = some (nb hd hh pl x oe (hm k)) := by
        cases oe with
        | none => rfl
        | some i =>
          obtain ⟨hi, hi2⟩ := hoe i rfl
          obtain ⟨f1, f2, f3, f4, f5, f6⟩ := hhe i hi
          obtain ⟨u1, u2, u3⟩ := hp (hd i) f1
          have dl1 := dist_le (c := 99) f2 hx
          have dl2 := dist_le (c := 30) u1 y1
          rw [show hoI (some i) = nI i from rfl, if_neg (show ¬ nI i = -9 from ne_neg (k := i) (m := 9) (by omega) (by omega) (by omega)), chk_vin (by omega) (by omega), chk_vin (by omega) (by omega), nI_clamp (show i < 2 ^ 31 by omega), f4, f6, show (20 : Int32) + nI (hd i) = nI (20 + hd i) from nI_add 20 _, chk_vin (by omega) (by omega), nI_clamp (by omega), nI_clamp (by omega), u3, y3, far_m (by omega) (by omega), Option.bind_some, pk_sub hi2, dist_c (hm k)]
          show _ = some (if dist (hh i) x < dist (pl (hd i)) (hm k) then 0 else 1)
          have ed : dist (hh i) x = hh i - x := by
            rw [dist_c]
            unfold dist
            rw [if_pos hi2]
          rw [ed]
          by_cases q : hh i - x < dist (pl (hd i)) (hm k)
          · rw [if_pos ((nI_ltd (by omega) (by omega)).mpr q), if_pos q]
          · rw [if_neg (fun z => q ((nI_ltd (by omega) (by omega)).mp z)), if_neg q]
      rw [ml, me, Option.bind_some, Option.bind_some]
      rcases okZ_two (okZ_nb (hd := hd) (hh := hh) (pl := pl) (x := x) (o := ol) (y := hm k)) with z | z
      · rw [z, if_pos rfl, if_pos rfl, lt_eq, lt_eq, lt_eq, Int32.or_zero, nI_1]
        exact ih (k + 1) c (by omega) (by omega)
      · rw [z, if_neg one_ne, if_neg one_ne]
        rcases okZ_two (okZ_nb (hd := hd) (hh := hh) (pl := pl) (x := x) (o := oe) (y := hm k)) with w | w
        · rw [w, if_pos rfl, if_pos rfl, lt_eq, lt_eq, lt_eq, Int32.or_zero, nI_1]
          exact ih (k + 1) c (by omega) (by omega)
        · rw [w, if_neg one_ne, if_neg one_ne, lt_eq, lt_eq, lt_eq, lt_eq, nI_1]
          exact ih (k + 1) _ (by omega) (by omega)
theorem who_cm {m nd : Nat} {hd : Nat → Nat} {d1 d2 rw' t : Nat → Int32} {o : Option Nat} (hm6 : m ≤ 6) (hnd : nd ≤ 8) (hhe : ∀ i : Nat, i < m → hd i < nd ∧ d1 i = nI (hd i) ∧ d2 i = nI (hd i)) (hw : ∀ d, d < nd → rw' d = t (12 + d)) (ho : ∀ i, o = some i → i < m) :
    ∃ r, fX0_whoDid d1 rw' (hoI o) = some r ∧ (if hoI o = -9 then some 0 else chk (vin (hoI o) 6) (chk (vin (12 + (d2 (hoI o).toNatClampNeg)) 52) (some ((1 : Int32) <<< ((t (12 + (d2 (hoI o).toNatClampNeg)).toNatClampNeg) &&& 31))))) = some r := by
  unfold fX0_whoDid
  cases o with
  | none => exact ⟨0, rfl, rfl⟩
  | some i =>
    have hi := ho i rfl
    obtain ⟨f1, f2, f3⟩ := hhe i hi
    refine ⟨(1 : Int32) <<< (t (12 + hd i) &&& 31), ?_, ?_⟩
    · rw [show hoI (some i) = nI i from rfl, if_pos (show (0 : Int32) ≤ nI i from nI_le (a := 0) (by omega) (by omega)), chk_vin (by omega) (by omega), nI_clamp (by omega), f2, chk_vin (by omega) (by omega), nI_clamp (by omega), hw _ f1]
      rfl
    · rw [show hoI (some i) = nI i from rfl, if_neg (show ¬ nI i = -9 from ne_neg (k := i) (m := 9) (by omega) (by omega) (by omega)), chk_vin (by omega) (by omega), nI_clamp (show i < 2 ^ 31 by omega), f3, show (12 : Int32) + nI (hd i) = nI (12 + hd i) from nI_add 12 _, chk_vin (by omega) (by omega), nI_clamp (by omega)]
theorem P_had (pg : Nat → Nat → Nat) (h : Inv tr ci ca pr pm mt mi ma) (p1 : Int32) : ∃ o o', fX10_had (ci 10) (ca 1) (ca 2) (ca 3) (ci 19) (ca 14) (ca 15) p1 = some o ∧ fX11_had (mi 1) (ma 1) (ma 6) (ma 7) p1 = some o' ∧ o = o' ∧ Inv tr ci ca pr pm mt mi ma := by
  obtain ⟨htr, hT, np, nd, po, fr, hm, wh, pl, fm, tl, wo, a, hPV, hC, hMo, hL, hI0, hI1, hHe, hz, hB⟩ := id h
  obtain ⟨m, hd, hh, hm6, e19, m1, hhe, hso⟩ := id hHe
  unfold fX10_had fX11_had
  rw [in_eq, Option.bind_some]
  rcases in3 p1 0 99 (by omega) (by omega) with q | ⟨q0, q1, q2⟩ | ⟨x, hx1, hx2, hx3, q0, q1, q2⟩
  · rw [if_pos (show p1 < 0 from q), if_pos (show p1 < 0 from q), if_pos rfl]
    exact ⟨_, _, rfl, rfl, rfl, h⟩
  · rw [if_neg (show ¬ p1 < 0 from q0), if_neg (show ¬ p1 ≤ 99 from q1), if_neg (show ¬ p1 < 0 from q0), if_pos (show 99 < p1 from q2), if_pos rfl]
    exact ⟨_, _, rfl, rfl, rfl, h⟩
  · rw [if_neg (show ¬ p1 < 0 from q0), if_pos (show p1 ≤ 99 from q1), if_neg (show ¬ p1 < 0 from q0), if_neg (show ¬ 99 < p1 from q2), if_neg one_ne]
    subst hx3
    obtain ⟨l, hl, l1, l2⟩ := split_at (fun i => decide (hh i ≤ x)) m (fun i hi hP => by
      have y1 := of_decide_eq_true hP
      have y2 := hso i hi
      exact decide_eq_true (by omega))
    obtain ⟨e, he, e1, e2⟩ := split_at (fun i => decide (hh i < x)) m (fun i hi hP => by
      have y1 := of_decide_eq_true hP
      have y2 := hso i hi
      exact decide_eq_true (by omega))
    have l1' : ∀ i, i < l → hh i ≤ x := fun i hi => of_decide_eq_true (l1 i hi)
    have l2' : ∀ i, l ≤ i → i < m → x < hh i := fun i hi hi2 => by
      have := of_decide_eq_false (l2 i hi hi2)
      omega
    have e1' : ∀ i, i < e → hh i < x := fun i hi => of_decide_eq_true (e1 i hi)
    have e2' : ∀ i, e ≤ i → i < m → x ≤ hh i := fun i hi hi2 => by
      have := of_decide_eq_false (e2 i hi hi2)
      omega
    have hH1 : ∀ i, i < m → hh i ≤ 99 ∧ ca 15 i = nI (hh i) := fun i hi => ⟨(hhe i hi).2.1, (hhe i hi).2.2.2.2.1⟩
    have hH2 : ∀ i, i < m → hh i ≤ 99 ∧ ma 7 i = nI (hh i) := fun i hi => ⟨(hhe i hi).2.1, (hhe i hi).2.2.2.2.2⟩
    obtain ⟨y1, r1⟩ := latest_c hm6 hx2 hH1 hl l1' l2' FU 0 (by omega) (by unfold FU; omega)
    obtain ⟨y2, r2⟩ := earliest_c hm6 hx2 hH1 he e1' e2' FU m he (Nat.le_refl _) (by unfold FU; omega)
    obtain ⟨y3, r3⟩ := both_m hm6 hx2 hH2 hl l1' l2' he e1' e2' FU 0 (by omega) (by unfold FU; omega)
    have r1' : fX0_latestBy (nI m) (ca 15) (nI x) = some (hoI (prv l)) := by
      unfold fX0_latestBy
      have r1'' : fX0_latestBy_5 (nI x) (nI m) (ca 15) FU 0 (-9) = some (y1, hoI (prv l)) := r1
      rw [r1'']
      rfl
    have r2' : fX0_earliestFrom (nI m) (ca 15) (nI x) = some (hoI (nxt m e)) := by
      unfold fX0_earliestFrom
      have r2'' : fX0_earliestFrom_10 (nI x) (ca 15) FU (nI m - 1) (-9) = some (y2, hoI (nxt m e)) := by
        have := r2
        rw [show nxt m m = none by unfold nxt; rw [if_pos rfl]] at this
        exact this
      rw [lt_eq, r2'']
      rfl
    have r3' : fX11_had_21 (nI x) (nI m) (ma 7) FU 0 (-9) (-9) = some (y3, hoI (nxt m e), hoI (prv l)) := by
      have := r3
      rw [if_pos (Nat.zero_le _), Nat.zero_min] at this
      exact this
    have hol : ∀ i, prv l = some i → i < m ∧ hh i ≤ x := fun i hi => by
      unfold prv at hi
      split at hi
      · cases hi
      · cases hi
        exact ⟨by omega, l1' _ (by omega)⟩
    have hoe : ∀ i, nxt m e = some i → i < m ∧ x ≤ hh i := fun i hi => by
      unfold nxt at hi
      split at hi
      · cases hi
      · cases hi
        exact ⟨by omega, e2' _ (by omega) (by omega)⟩
    obtain ⟨w1, v1, v1'⟩ := who_cm (d1 := ca 14) (d2 := ma 6) (rw' := ca 2) (t := ma 1) hm6 hPV.2.1 (fun i hi => ⟨(hhe i hi).1, (hhe i hi).2.2.1, (hhe i hi).2.2.2.1⟩) (fun d hd => (hC.2.2.2.2.2 d hd).1.trans (hMo.2.2.2.2.2 d hd).1.symm) (fun i hi => (hol i hi).1)
    obtain ⟨w2, v2, v2'⟩ := who_cm (d1 := ca 14) (d2 := ma 6) (rw' := ca 2) (t := ma 1) hm6 hPV.2.1 (fun i hi => ⟨(hhe i hi).1, (hhe i hi).2.2.1, (hhe i hi).2.2.2.1⟩) (fun d hd => (hC.2.2.2.2.2 d hd).1.trans (hMo.2.2.2.2.2 d hd).1.symm) (fun i hi => (hoe i hi).1)
    obtain ⟨r, u1, u2⟩ := had_loop (rp := ca 3) (rh := ca 1) (t := ma 1) hm6 hPV.1 hPV.2.1 hx2 hhe (fun d hd => ⟨(hPV.2.2.2.2.2 d hd).2.1, (hC.2.2.2.2.2 d hd).2.1, (hMo.2.2.2.2.2 d hd).2.1⟩) (fun p hp => ⟨hPV.2.2.2.2.1 p hp, hC.2.2.2.2.1 p hp, hMo.2.2.2.2.1 p hp⟩) hMo.1 hol hoe FU 0 (w1 ||| w2) (by omega) (by have := hPV.1; unfold FU; omega)
    unfold fX0_possibleHolders
    rw [e19, m1, hC.2.2.1, r1', Option.bind_some, r2', Option.bind_some, v1, Option.bind_some, v2, Option.bind_some, lt_eq, r3', Option.bind_some]
    dsimp only
    rw [v1', Option.bind_some, v2', Option.bind_some, lt_eq]
    have u1' : fX0_possibleHolders_32 (hoI (nxt m e)) (hoI (prv l)) (nI x) (ca 14) (ca 15) (nI np) (ca 1) (ca 3) FU 0 (w1 ||| w2) = some r := u1
    have u2' : fX11_had_140 (hoI (nxt m e)) (hoI (prv l)) (nI x) (ma 1) (ma 6) (ma 7) FU 0 (w1 ||| w2) = some r := u2
    rw [u1', u2']
    exact ⟨_, _, rfl, rfl, rfl, h⟩
end HEARD
