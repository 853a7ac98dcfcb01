/-! THE CLASS'S PAIRS -/
theorem sm_set {f g : Nat → Nat} {w : Nat} : ∀ n, w < n → (∀ k, k < n → ¬ k = w → g k = f k) → sm g n + f w = sm f n + g w
  | 0, h, _ => by omega
  | n + 1, h, h2 => by
    rw [sm, sm]
    by_cases e : w = n
    · subst e
      rw [sm_congr w (fun k hk => h2 k (by omega) (by omega))]
      omega
    · have h3 := sm_set n (by omega) (fun k hk hj => h2 k (by omega) hj)
      have h4 := h2 n (by omega) (by omega)
      omega
def ldS (ld : Nat → Option Nat) (w d : Nat) : Nat → Option Nat := fun j => if j = w then some d else ld j
theorem ldS_s (ld : Nat → Option Nat) (w d : Nat) : ldS ld w d w = some d := if_pos rfl
theorem ldS_n (ld : Nat → Option Nat) {w d j : Nat} (h : ¬ j = w) : ldS ld w d j = ld j := if_neg h
theorem cL_set {ld : Nat → Option Nat} {n w d : Nat} (hw : w < n) (x : Nat) : cL n (ldS ld w d) x + (if ld w = some x then 1 else 0) = cL n ld x + (if x = d then 1 else 0) := by
  have h := sm_set (f := fun j => if ld j = some x then 1 else 0) (g := fun j => if ldS ld w d j = some x then 1 else 0) n hw (fun k _ hj => by
    rw [ldS_n ld hj])
  have e : (if ldS ld w d w = some x then 1 else 0) = if x = d then 1 else 0 := by
    rw [ldS_s]
    by_cases q : x = d
    · rw [if_pos q, if_pos (by rw [q])]
    · rw [if_neg q, if_neg (fun z => q (by cases z; rfl))]
  unfold cL
  rw [← e]
  exact h
theorem cM_set {ld : Nat → Option Nat} {n w d : Nat} (hw : w < n) : cM n (ldS ld w d) + (if (ld w).isSome then 1 else 0) = cM n ld + 1 := by
  have h := sm_set (f := fun j => if (ld j).isSome then 1 else 0) (g := fun j => if (ldS ld w d j).isSome then 1 else 0) n hw (fun k _ hj => by
    rw [ldS_n ld hj])
  have e : (if (ldS ld w d w).isSome then 1 else 0) = 1 := by
    rw [ldS_s]
    rfl
  unfold cM
  have h2 := h
  rw [e] at h2
  exact h2
def DC (np nd : Nat) (hm wh pl fm : Nat → Nat) (rh rw' rp rf : Nat → Int32) : Prop := (∀ p, p < np → rh p = nI (hm p)) ∧ ∀ d, d < nd → rw' d = nI (wh d) ∧ rp d = nI (pl d) ∧ rf d = nI (fm d)
def Cld (fol : Nat → Nat → Bool) (n : Nat) (ld : Nat → Option Nat) (D : Nat → Bool) : Prop := ∀ j, j < n → D j = true → ∃ l, ld j = some l ∧ ∀ k, k < n → fol l k = true → D k = true
def Lds (fol : Nat → Nat → Bool) (n : Nat) (ld : Nat → Option Nat) (r : Nat → Int32) : Prop := (∀ j, j < n → r j = hoI (ld j)) ∧ ∀ j l, j < n → ld j = some l → l < n ∧ fol l j = true
def Fai (fol : Nat → Nat → Bool) (n S S' : Nat) (ld : Nat → Option Nat) (d : Nat) : Prop := (∀ k, k < n → fol d k = true → S'.testBit k = true) ∧ ∀ j, j < n → S'.testBit j = true → S.testBit j = true ∨ ∃ l, ld j = some l ∧ ∀ k, k < n → fol l k = true → S'.testBit k = true
def Goo (fol : Nat → Nat → Bool) (n : Nat) (D : Nat → Bool) (S : Nat) (ld ld' : Nat → Option Nat) (d : Nat) : Prop := (∀ j, j < n → S.testBit j = true → ld' j = ld j) ∧ (∀ j, j < n → D j = true → ld' j = ld j) ∧ (∀ l, cL n ld' l = cL n ld l + if l = d then 1 else 0) ∧ cM n ld' = cM n ld + 1 ∧ ∃ k, k < n ∧ fol d k = true ∧ D k = false
def FF (fol : Nat → Nat → Bool) (n : Nat) (D : Nat → Bool) (res : Option (Int32 × Int32 × (Nat → Int32))) (S : Nat) (ld : Nat → Option Nat) (d : Nat) : Prop := ∃ S' : Nat, S' < 2 ^ n ∧ (∀ k, S.testBit k = true → S'.testBit k = true) ∧ ((∃ r', res = some (0, nI S', r') ∧ Lds fol n ld r' ∧ Fai fol n S S' ld d) ∨ ∃ (r' : Nat → Int32) (ld' : Nat → Option Nat), res = some (1, nI S', r') ∧ Lds fol n ld' r' ∧ Goo fol n D S ld ld' d)
section FOLLOW
variable {np nd po fr : Nat} {hm wh pl fm tl wo : Nat → Nat} {rh rw' rp rf : Nat → Int32}
theorem go_c (hPV : PV np nd po fr hm wh pl fm tl wo) (hD : DC np nd hm wh pl fm rh rw' rp rf) {p h j : Nat} (hp : p ≤ 30) (hh : h ≤ 99) (hj : j < nd) : fX7_canGo rh rw' rp rf (nI h) (nI p) (nI j) = some (if h + dist p (hm (wh j)) + dist (hm (wh j)) (pl j) ≤ fm j then 1 else 0) := by
  obtain ⟨w1, w2, w3, w4, w5, w6⟩ := hPV.2.2.2.2.2 j hj
  obtain ⟨b1, b2, b3⟩ := hD.2 j hj
  have hnp := hPV.1
  have hnd := hPV.2.1
  have hh2 := hPV.2.2.2.2.1 (wh j) w1
  have dl1 := dist_le (c := 30) hp hh2
  have dl2 := dist_le (c := 30) hh2 w2
  unfold fX7_canGo
  simp (disch := omega) only [chk_vin, nI_clamp]
  rw [b1, b2, b3]
  simp (disch := omega) only [chk_vin, nI_clamp]
  rw [hD.1 _ w1, lt_eq, abs_c (by omega) (by omega), abs_c (by omega) (by omega), nI_add, nI_add]
  by_cases q : h + dist p (hm (wh j)) + dist (hm (wh j)) (pl j) ≤ fm j
  · rw [if_pos q, if_neg (nI_nlt q (by omega))]
  · rw [if_neg q, if_pos (nI_lt (by omega) (by omega))]
theorem fol_c (hPV : PV np nd po fr hm wh pl fm tl wo) (hD : DC np nd hm wh pl fm rh rw' rp rf) {i j : Nat} (hi : i < nd) (hj : j < nd) : fX7_canFollow rh rw' rp rf (nI i) (nI j) = some (if folB hm wh pl fm i j = true then 1 else 0) := by
  obtain ⟨w1, w2, w3, w4, w5, w6⟩ := hPV.2.2.2.2.2 j hj
  obtain ⟨v1, v2, v3, v4, v5, v6⟩ := hPV.2.2.2.2.2 i hi
  obtain ⟨b1, b2, b3⟩ := hD.2 j hj
  obtain ⟨c1, c2, c3⟩ := hD.2 i hi
  have hnp := hPV.1
  have hnd := hPV.2.1
  unfold fX7_canFollow
  simp (disch := omega) only [chk_vin, nI_clamp]
  rw [b1, c1, b3, c3, c2, go_c hPV hD v2 (by omega) hj, lt_eq, lt_eq]
  have hz : (if 0 < nI (fm j) - nI (fm i) then (1 : Int32) else (if nI (fm j) - nI (fm i) = 0 then (if nI j ≤ nI i then 0 else 1) else 0)) = if (fm i < fm j ∨ (fm j = fm i ∧ i < j)) then 1 else 0 := by
    have ht := pk_sub_toInt (a := fm j) (b := fm i) (by omega) (by omega)
    by_cases q1 : fm i < fm j
    · rw [if_pos (show 0 < nI (fm j) - nI (fm i) by rw [Int32.lt_iff_toInt_lt, ht, Int32.toInt_zero]; omega), if_pos (Or.inl q1)]
    · rw [if_neg (show ¬ 0 < nI (fm j) - nI (fm i) by rw [Int32.lt_iff_toInt_lt, ht, Int32.toInt_zero]; omega)]
      by_cases q2 : fm j = fm i
      · rw [if_pos (show nI (fm j) - nI (fm i) = 0 by rw [q2, Int32.sub_self])]
        by_cases q3 : i < j
        · rw [if_neg (nI_ge q3 (by omega)), if_pos (Or.inr ⟨q2, q3⟩)]
        · rw [if_pos (nI_le (by omega) (by omega)), if_neg (by omega)]
      · rw [if_neg (fun z => by
          rw [z, Int32.toInt_zero] at ht
          omega), if_neg (by omega)]
  rw [hz]
  unfold folB
  by_cases q1 : fm i < fm j ∨ (fm j = fm i ∧ i < j)
  · rw [if_pos q1, if_neg one_ne]
    by_cases q3 : wh j = wh i
    · rw [if_pos (by rw [q3]), Option.bind_some, chk_tt okZ_0, decide_eq_false (fun z => z.2.1 q3)]
      rfl
    · rw [if_neg (fun z => q3 ((nI_eq (by omega) (by omega)).mp z)), Option.bind_some]
      by_cases q4 : fm i + dist (pl i) (hm (wh j)) + dist (hm (wh j)) (pl j) ≤ fm j
      · rw [if_pos q4, if_neg one_ne, Option.bind_some, chk_tt okZ_1, decide_eq_true ⟨q1, q3, q4⟩]
        rfl
      · rw [if_neg q4, if_pos rfl, Option.bind_some, chk_tt okZ_0, decide_eq_false (fun z => q4 z.2.2)]
        rfl
  · rw [if_neg q1, if_pos rfl, Option.bind_some, chk_tt okZ_0, decide_eq_false (fun z => q1 z.1)]
    rfl
theorem ff15 {D : Nat → Bool} {f d dp S0 : Nat} {ld : Nat → Option Nat} (hPV : PV np nd po fr hm wh pl fm tl wo) (hDC : DC np nd hm wh pl fm rh rw' rp rf) (hd : d < nd) (hC : Cld (folB hm wh pl fm) nd ld D)
    (rec' : ∀ (S l : Nat) (r : Nat → Int32), l < nd → S < 2 ^ nd → dp + 1 + (nd - pc nd S) ≤ 8 → nd - pc nd S < f → Lds (folB hm wh pl fm) nd ld r → FF (folB hm wh pl fm) nd D (fX7_findFollower f (nI S) r (nI nd) rh rw' rp rf (nI l) (nI (dp + 1))) S ld l) :
    ∀ (g w S : Nat) (r : Nat → Int32), w ≤ nd → nd < w + g → S < 2 ^ nd → dp + (nd - pc nd S) ≤ 8 → nd - pc nd S ≤ f → Lds (folB hm wh pl fm) nd ld r → (∀ k, S0.testBit k = true → S.testBit k = true) → (∀ k, k < w → folB hm wh pl fm d k = true → S.testBit k = true) → (∀ j, j < nd → S.testBit j = true → S0.testBit j = true ∨ ∃ l, ld j = some l ∧ ∀ k, k < nd → folB hm wh pl fm l k = true → S.testBit k = true) →
    ∃ S' : Nat, S' < 2 ^ nd ∧ (∀ k, S0.testBit k = true → S'.testBit k = true) ∧ ((∃ (y : Int32) (r' : Nat → Int32), fX7_findFollower_15 (fX7_findFollower f) (nI d) (nI dp) (nI nd) rh rw' rp rf g (nI w) (nI S) r = some (0, y, nI S', r') ∧ Lds (folB hm wh pl fm) nd ld r' ∧ Fai (folB hm wh pl fm) nd S0 S' ld d) ∨ ∃ (w' : Nat) (r' : Nat → Int32) (ld' : Nat → Option Nat), w' < nd ∧ fX7_findFollower_15 (fX7_findFollower f) (nI d) (nI dp) (nI nd) rh rw' rp rf g (nI w) (nI S) r = some (1, nI w', nI S', r') ∧ Lds (folB hm wh pl fm) nd ld' (upd r' w' (nI d)) ∧ Goo (folB hm wh pl fm) nd D S0 ld ld' d) := by
  have hnd := hPV.2.1
  have hp : 2 ^ nd ≤ 2 ^ 8 := Nat.pow_le_pow_right (by omega) hnd
  intro g
  induction g with
  | zero => intro w S r a b; omega
  | succ g ih =>
    intro w S r a b hS hdp hf hL h0 h1 h2
    rw [fX7_findFollower_15]
    by_cases e : w = nd
    · subst e
      rw [if_pos (nI_le (Nat.le_refl _) (by omega))]
      exact ⟨S, hS, h0, Or.inl ⟨_, r, rfl, hL, h1, h2⟩⟩
    · rw [if_neg (nI_ge (show w < nd by omega) (by omega)), bit_v (by omega) (by omega)]
      cases qs : S.testBit w with
      | true =>
        rw [if_pos (show nI (if true = true then 1 else 0) = 1 from rfl), lt_eq, nI_1]
        exact ih (w + 1) S r (by omega) (by omega) hS hdp hf hL h0 (fun k hk hfo => by
          by_cases z : k = w
          · rw [z]; exact qs
          · exact h1 k (by omega) hfo) h2
      | false =>
        rw [if_neg (show ¬ nI (if false = true then 1 else 0) = 1 by decide), fol_c hPV hDC hd (show w < nd by omega), Option.bind_some]
        cases qf : folB hm wh pl fm d w with
        | false =>
          rw [if_pos (show (if false = true then (1 : Int32) else 0) = 0 from rfl), lt_eq, nI_1]
          exact ih (w + 1) S r (by omega) (by omega) hS hdp hf hL h0 (fun k hk hfo => by
            by_cases z : k = w
            · rw [z, qf] at hfo; cases hfo
            · exact h1 k (by omega) hfo) h2
        | true =>
          have hw : w < nd := by omega
          have hS1 : S ||| 2 ^ w < 2 ^ nd := Nat.or_lt_two_pow hS (Nat.pow_lt_pow_right (by omega) hw)
          have hpc := pc_or (n := nd) hw qs
          have hpl := pc_le nd (S ||| 2 ^ w)
          have hsub : ∀ k, S.testBit k = true → (S ||| 2 ^ w).testBit k = true := fun k hk => by rw [tb_or, hk, Bool.true_or]
          have hw1 : (S ||| 2 ^ w).testBit w = true := by rw [tb_or, decide_eq_true rfl, Bool.or_true]
          have hS0w : ∀ j, S0.testBit j = true → ¬ j = w := fun j hj z => by
            have := h0 j hj
            rw [z, qs] at this
            cases this
          rw [if_neg (show ¬ (if true = true then (1 : Int32) else 0) = 0 by decide), or_bit S (by omega) w (by omega), lt_eq, chk_vin (by omega) (by omega), nI_clamp (by omega), hL.1 w hw]
          cases ql : ld w with
          | none =>
            rw [if_pos (show hoI none = -9 from rfl)]
            have hDw : D w = false := by
              cases z : D w with
              | false => rfl
              | true =>
                obtain ⟨l, y, _⟩ := hC w hw z
                rw [ql] at y
                cases y
            refine ⟨S ||| 2 ^ w, hS1, fun k hk => hsub k (h0 k hk), Or.inr ⟨w, r, ldS ld w d, hw, rfl, ⟨fun j hj => ?_, fun j l hj hl => ?_⟩, fun j hj hs => ldS_n ld (hS0w j hs), fun j hj hDj => ?_, fun l => ?_, ?_, w, hw, qf, hDw⟩⟩
            · by_cases z : j = w
              · rw [z, upd_s, ldS_s]
                rfl
              · rw [upd_n _ _ z, ldS_n ld z]
                exact hL.1 j hj
            · by_cases z : j = w
              · rw [z, ldS_s] at hl
                cases hl
                rw [z]
                exact ⟨hd, qf⟩
              · rw [ldS_n ld z] at hl
                exact hL.2 j l hj hl
            · refine ldS_n ld (fun z => ?_)
              rw [z, hDw] at hDj
              cases hDj
            · have := cL_set (ld := ld) (d := d) hw l
              rw [ql, if_neg (fun z => by cases z)] at this
              exact this
            · have := cM_set (ld := ld) (d := d) hw
              rw [ql, if_neg (show ¬ (none : Option Nat).isSome = true from Bool.false_ne_true)] at this
              exact this
          | some l =>
            obtain ⟨hl1, hl2⟩ := hL.2 w l hw ql
            rw [if_neg (show ¬ hoI (some l) = -9 from ne_neg (m := 9) (by omega) (by omega) (by omega)), show nI dp + 1 = nI (dp + 1) from nI_1 dp]
            obtain ⟨S2, t1, t2, t3⟩ := rec' (S ||| 2 ^ w) l r hl1 hS1 (by omega) (by omega) hL
            have hsub2 : ∀ k, S.testBit k = true → S2.testBit k = true := fun k hk => t2 k (hsub k hk)
            rcases t3 with ⟨r', e1, e2, e3, e4⟩ | ⟨r', ld', e1, e2, e3, e4, e5, e6, e7⟩
            · have e1' : fX7_findFollower f (nI (S ||| 2 ^ w)) r (nI nd) rh rw' rp rf (hoI (some l)) (nI (dp + 1)) = some (0, nI S2, r') := e1
              rw [e1', Option.bind_some, if_pos rfl, lt_eq, nI_1]
              have hpm : pc nd S ≤ pc nd S2 := sm_pt nd (fun k _ => by
                cases y : S.testBit k with
                | false => exact Nat.zero_le _
                | true => rw [hsub2 k y]; exact Nat.le_refl _)
              refine ih (w + 1) S2 r' (by omega) (by omega) t1 (by omega) (by omega) e2 (fun k hk => hsub2 k (h0 k hk)) (fun k hk hfo => ?_) (fun j hj hj2 => ?_)
              · by_cases z : k = w
                · rw [z]; exact t2 w hw1
                · exact hsub2 k (h1 k (by omega) hfo)
              · rcases e4 j hj hj2 with y | y
                · rw [tb_or, Bool.or_eq_true, decide_eq_true_iff] at y
                  rcases y with y | y
                  · rcases h2 j hj y with x | ⟨l', x1, x2⟩
                    · exact Or.inl x
                    · exact Or.inr ⟨l', x1, fun k hk hfo => hsub2 k (x2 k hk hfo)⟩
                  · subst y
                    exact Or.inr ⟨l, ql, e3⟩
                · exact Or.inr y
            · have e1' : fX7_findFollower f (nI (S ||| 2 ^ w)) r (nI nd) rh rw' rp rf (hoI (some l)) (nI (dp + 1)) = some (1, nI S2, r') := e1
              rw [e1', Option.bind_some, if_neg one_ne]
              have hlw : ld' w = some l := by rw [e3 w hw hw1, ql]
              have hDw : D w = false := by
                cases z : D w with
                | false => rfl
                | true =>
                  obtain ⟨l', y1, y2⟩ := hC w hw z
                  rw [ql] at y1
                  cases y1
                  obtain ⟨k, k1, k2, k3⟩ := e7
                  rw [y2 k k1 k2] at k3
                  cases k3
              refine ⟨S2, t1, fun k hk => hsub2 k (h0 k hk), Or.inr ⟨w, r', ldS ld' w d, hw, rfl, ⟨fun j hj => ?_, fun j l hj hl => ?_⟩, fun j hj hs => ?_, fun j hj hDj => ?_, fun x => ?_, ?_, w, hw, qf, hDw⟩⟩
              · by_cases z : j = w
                · rw [z, upd_s, ldS_s]
                  rfl
                · rw [upd_n _ _ z, ldS_n ld' z]
                  exact e2.1 j hj
              · by_cases z : j = w
                · rw [z, ldS_s] at hl
                  cases hl
                  rw [z]
                  exact ⟨hd, qf⟩
                · rw [ldS_n ld' z] at hl
                  exact e2.2 j l hj hl
              · rw [ldS_n ld' (hS0w j hs)]
                exact e3 j hj (hsub j (h0 j hs))
              · have z : ¬ j = w := fun z => by
                  rw [z, hDw] at hDj
                  cases hDj
                rw [ldS_n ld' z]
                exact e4 j hj hDj
              · have h3 := cL_set (ld := ld') (d := d) hw x
                have h4 := e5 x
                rw [hlw] at h3
                by_cases z : x = l
                · rw [if_pos (by rw [z])] at h3
                  rw [if_pos z] at h4
                  omega
                · rw [if_neg (fun y => z (by cases y; rfl))] at h3
                  rw [if_neg z] at h4
                  omega
              · have h3 := cM_set (ld := ld') (d := d) hw
                rw [hlw, if_pos (show (some l).isSome = true from rfl)] at h3
                omega
theorem ff {D : Nat → Bool} {ld : Nat → Option Nat} (hPV : PV np nd po fr hm wh pl fm tl wo) (hDC : DC np nd hm wh pl fm rh rw' rp rf) (hC : Cld (folB hm wh pl fm) nd ld D) :
    ∀ (f S dp d : Nat) (r : Nat → Int32), d < nd → S < 2 ^ nd → dp + (nd - pc nd S) ≤ 8 → nd - pc nd S < f → Lds (folB hm wh pl fm) nd ld r → FF (folB hm wh pl fm) nd D (fX7_findFollower f (nI S) r (nI nd) rh rw' rp rf (nI d) (nI dp)) S ld d := by
  have hnd := hPV.2.1
  intro f
  induction f with
  | zero => intro S dp d r a b c e; omega
  | succ f ih =>
    intro S dp d r hd hS hdp hf hL
    rw [fX7_findFollower, if_neg (nI_pos (by omega)), if_pos (show nI dp ≤ 8 from nI_le (b := 8) (by omega) (by omega))]
    obtain ⟨S', t1, t2, t3⟩ := ff15 (S0 := S) (dp := dp) hPV hDC hd hC (fun S l r a b c e g => ih S (dp + 1) l r a b c e g) FU 0 S r (Nat.zero_le _) (by unfold FU; omega) hS hdp (by omega) hL (fun k hk => hk) (fun k hk => by omega) (fun j _ hj => Or.inl hj)
    refine ⟨S', t1, t2, ?_⟩
    rcases t3 with ⟨y, r', e1, e2, e3⟩ | ⟨w', r', ld', e0, e1, e2, e3⟩
    · have e1' : fX7_findFollower_15 (fX7_findFollower f) (nI d) (nI dp) (nI nd) rh rw' rp rf FU 0 (nI S) r = some (0, y, nI S', r') := e1
      rw [e1', Option.bind_some, if_pos rfl]
      exact Or.inl ⟨r', rfl, e2, e3⟩
    · have e1' : fX7_findFollower_15 (fX7_findFollower f) (nI d) (nI dp) (nI nd) rh rw' rp rf FU 0 (nI S) r = some (1, nI w', nI S', r') := e1
      rw [e1', Option.bind_some, if_neg (show ¬ (1 : Nat) = 0 by omega), chk_vin (by omega) (by omega), nI_clamp (by omega)]
      exact Or.inr ⟨_, ld', rfl, e2, e3⟩
theorem few2 {r0 : Nat → Int32} (hPV : PV np nd po fr hm wh pl fm tl wo) (hDC : DC np nd hm wh pl fm rh rw' rp rf) : ∀ (f d : Nat) (r : Nat → Int32), d ≤ nd → nd < d + f → (∀ j, j < d → r j = -9) → (∃ j, d ≤ j ∧ j < nd ∧ goB hm wh pl fm po j = false) ∧ (∃ (y : Int32) (r' : Nat → Int32), fX7_fewest_2 (nI po) (nI nd) rh rw' rp rf f (nI d) r = some (1, y, r')) ∨ (∀ j, d ≤ j → j < nd → goB hm wh pl fm po j = true) ∧ (∃ (y : Int32) (r' : Nat → Int32), fX7_fewest_2 (nI po) (nI nd) rh rw' rp rf f (nI d) r = some (0, y, r') ∧ ∀ j, j < nd → r' j = -9) := by
  have hnd := hPV.2.1
  intro f
  induction f with
  | zero => intro d r a b; omega
  | succ f ih =>
    intro d r a b h
    rw [fX7_fewest_2]
    by_cases e : d = nd
    · subst e
      right
      rw [if_pos (nI_le (Nat.le_refl _) (by omega))]
      exact ⟨fun j h1 h2 => by omega, _, r, rfl, h⟩
    · have hc : fX7_canGo rh rw' rp rf 0 (nI po) (nI d) = some (if 0 + dist po (hm (wh d)) + dist (hm (wh d)) (pl d) ≤ fm d then 1 else 0) := go_c hPV hDC (p := po) (h := 0) (j := d) hPV.2.2.1 (by omega) (by omega)
      rw [if_neg (nI_ge (show d < nd by omega) (by omega)), hc, Option.bind_some]
      by_cases q : 0 + dist po (hm (wh d)) + dist (hm (wh d)) (pl d) ≤ fm d
      · rw [if_pos q, if_neg one_ne, chk_vin (by omega) (by omega), nI_clamp (by omega), lt_eq, nI_1]
        rcases ih (d + 1) (upd r d (-9)) (by omega) (by omega) (fun j hj => by
          by_cases z : j = d
          · rw [z, upd_s]
          · rw [upd_n _ _ z]
            exact h j (by omega)) with ⟨⟨j, j1, j2, j3⟩, h2⟩ | ⟨h1, h2⟩
        · exact Or.inl ⟨⟨j, by omega, j2, j3⟩, h2⟩
        · refine Or.inr ⟨fun j j1 j2 => ?_, h2⟩
          by_cases z : j = d
          · subst z
            exact decide_eq_true q
          · exact h1 j (by omega) j2
      · rw [if_neg q, if_pos rfl]
        exact Or.inl ⟨⟨d, Nat.le_refl _, by omega, decide_eq_false q⟩, _, r, rfl⟩
theorem few47 (hPV : PV np nd po fr hm wh pl fm tl wo) (hDC : DC np nd hm wh pl fm rh rw' rp rf) : ∀ (f i : Nat) (s : Int32) (r : Nat → Int32) (ld : Nat → Option Nat) (ok D : Nat → Bool), i ≤ nd → nd < i + f → Lds (folB hm wh pl fm) nd ld r → Cld (folB hm wh pl fm) nd ld D → (∀ l, l < i → cL nd ld l = if ok l then 1 else 0) → (∀ l, i ≤ l → cL nd ld l = 0) → (∀ l, l < i → ok l = false → ∀ k, k < nd → folB hm wh pl fm l k = true → D k = true) →
    ∃ (y : Int32) (s' : Int32) (r' : Nat → Int32) (c : Nat), fX7_fewest_47 (nI nd) rh rw' rp rf f (nI i) (nI (nd - cM nd ld)) s r = some (y, nI (nd - c), s', r') ∧ (∃ M, Rch (folB hm wh pl fm) nd nd M ∧ pc nd M = c) ∧ ∀ M, Rch (folB hm wh pl fm) nd nd M → pc nd M ≤ c := by
  have hnd := hPV.2.1
  intro f
  induction f with
  | zero => intro i s r ld ok D a b; omega
  | succ f ih =>
    intro i s r ld ok D a b hL hC hok h0 hF
    rw [fX7_fewest_47]
    by_cases e : i = nd
    · subst e
      rw [if_pos (nI_le (Nat.le_refl _) (by omega))]
      exact ⟨_, s, r, cM i ld, rfl, pairs_max hL.2 hok hC hF⟩
    · have hpc0 : pc nd 0 = 0 := by
        have : ∀ m, sm (fun j => if (0 : Nat).testBit j = true then 1 else 0) m = 0 := by
          intro m
          induction m with
          | zero => rfl
          | succ m ih => rw [sm, ih, Nat.zero_testBit]; rfl
        exact this nd
      rw [if_neg (nI_ge (show i < nd by omega) (by omega))]
      obtain ⟨S', t1, t2, t3⟩ := ff hPV hDC hC 20 0 0 i r (by omega) (Nat.two_pow_pos nd) (by omega) (by omega) hL
      rcases t3 with ⟨r', e1, e2, e3, e4⟩ | ⟨r', ld', e1, e2, e3, e4, e5, e6, e7⟩
      · have e1' : fX7_findFollower 20 0 r (nI nd) rh rw' rp rf (nI i) 0 = some (0, nI S', r') := e1
        rw [e1', Option.bind_some, if_pos rfl, lt_eq, nI_1]
        refine ih (i + 1) (nI S') r' ld (fun l => if l = i then false else ok l) (fun j => D j || S'.testBit j) (by omega) (by omega) e2 (fun j hj hDj => ?_) (fun l hl => ?_) (fun l hl => h0 l (by omega)) (fun l hl hno k hk hfo => ?_)
        · rw [Bool.or_eq_true] at hDj
          rcases hDj with y | y
          · obtain ⟨l, y1, y2⟩ := hC j hj y
            exact ⟨l, y1, fun k hk hfo => (Bool.or_eq_true _ _).mpr (Or.inl (y2 k hk hfo))⟩
          · rcases e4 j hj y with x | ⟨l, y1, y2⟩
            · rw [Nat.zero_testBit] at x
              cases x
            · exact ⟨l, y1, fun k hk hfo => (Bool.or_eq_true _ _).mpr (Or.inr (y2 k hk hfo))⟩
        · by_cases z : l = i
          · rw [if_pos z, z]
            exact h0 i (Nat.le_refl _)
          · rw [if_neg z]
            exact hok l (by omega)
        · by_cases z : l = i
          · rw [z] at hfo
            exact (Bool.or_eq_true _ _).mpr (Or.inr (e3 k hk hfo))
          · rw [if_neg z] at hno
            exact (Bool.or_eq_true _ _).mpr (Or.inl (hF l (by omega) hno k hk hfo))
      · have e1' : fX7_findFollower 20 0 r (nI nd) rh rw' rp rf (nI i) 0 = some (1, nI S', r') := e1
        have hcm : cM nd ld' ≤ nd := sm_max (fun k => by split <;> omega) nd
        have hdec : nI (nd - cM nd ld) + -1 = nI (nd - cM nd ld') := by
          rw [← Int32.sub_eq_add_neg, show (1 : Int32) = nI 1 from rfl, pk_sub (by omega)]
          congr 1
          omega
        rw [e1', Option.bind_some, if_neg one_ne, lt_eq, lt_eq, nI_1, hdec]
        refine ih (i + 1) (nI S') r' ld' (fun l => if l = i then true else ok l) D (by omega) (by omega) e2 (fun j hj hDj => ?_) (fun l hl => ?_) (fun l hl => ?_) (fun l hl hno k hk hfo => ?_)
        · rw [e4 j hj hDj]
          exact hC j hj hDj
        · rw [e5 l]
          by_cases z : l = i
          · rw [if_pos z, z, h0 i (Nat.le_refl _), if_pos rfl]
            rfl
          · rw [if_neg z, if_neg z]
            exact hok l (by omega)
        · rw [e5 l, if_neg (by omega)]
          exact h0 l (by omega)
        · by_cases z : l = i
          · rw [if_pos z] at hno
            cases hno
          · rw [if_neg z] at hno
            exact hF l (by omega) hno k hk hfo
end FOLLOW
section SPOONS
variable {tr : Int64} {ci : Nat → Int32} {ca : Nat → Nat → Int32} {pr : Nat → MomS} {pm : Nat → Nat → MomS} {mt : Int64} {mi : Nat → Int32} {ma : Nat → Nat → Int32}
theorem P_spoons (pg : Nat → Nat → Nat) (h : Inv tr ci ca pr pm mt mi ma) : ∃ o o', fX10_spoons (ci 8) (ci 11) (ca 1) (ca 2) (ca 3) (ca 4) (ci 26) (ca 19) = some o ∧ fX11_spoons (ma 1) (ma 11) = some o' ∧ o.1 = o'.1 ∧ Inv tr (upd ci 26 o.2.1) (va_up ca 19 o.2.2) pr pm mt mi (va_up ma 11 o'.2) := by
  obtain ⟨htr, hT, np, nd, po, fr, hm, wh, pl, fm, tl, wo, a, hPV, hC, hMo, hL, hI0, hI1, hHe, hz, hB⟩ := id h
  have hnd := hPV.2.1
  have hp : 2 ^ nd ≤ 2 ^ 8 := Nat.pow_le_pow_right (by omega) hnd
  have hI : ∀ (u : Int32) (r r' : Nat → Int32), Inv tr (upd ci 26 u) (va_up ca 19 r) pr pm mt mi (va_up ma 11 r') := fun u r r' => ⟨htr, hT, np, nd, po, fr, hm, wh, pl, fm, tl, wo, a, hPV, hC, hMo, hL, hI0, hI1, hHe, hz, hB⟩
  have hDC : DC np nd hm wh pl fm (ca 1) (ca 2) (ca 3) (ca 4) := ⟨hC.2.2.2.2.1, fun d hd => ⟨(hC.2.2.2.2.2 d hd).1, (hC.2.2.2.2.2 d hd).2.1, (hC.2.2.2.2.2 d hd).2.2.1⟩⟩
  unfold fX10_spoons fX11_spoons fX7_fewest
  rw [hC.1, hC.2.2.2.1, hMo.2.1, lt_eq]
  rcases few2 (r0 := ca 19) hPV hDC FU 0 (ca 19) (Nat.zero_le _) (by unfold FU; omega) (fun j hj => by omega) with ⟨⟨j, j1, j2, j3⟩, y, r', e1⟩ | ⟨h1, y, r', e1, e2⟩
  · have e1' : fX7_fewest_2 (nI po) (nI nd) (ca 1) (ca 2) (ca 3) (ca 4) FU 0 (ca 19) = some (1, y, r') := e1
    rcases sp9 hPV hMo FU 0 (Nat.zero_le _) (by unfold FU; omega) with ⟨_, y2, f1⟩ | ⟨g1, _⟩
    · have f1' : fX11_spoons_9 (nI nd) (ma 1) FU 0 = some (1, y2) := f1
      rw [e1', f1', Option.bind_some, Option.bind_some, if_neg (show ¬ (1 : Nat) = 0 by omega), if_neg (show ¬ (1 : Nat) = 0 by omega), Option.bind_some]
      exact ⟨_, _, rfl, rfl, rfl, hI _ _ _⟩
    · rw [g1 j j1 j2] at j3
      cases j3
  · have e1' : fX7_fewest_2 (nI po) (nI nd) (ca 1) (ca 2) (ca 3) (ca 4) FU 0 (ca 19) = some (0, y, r') := e1
    rcases sp9 hPV hMo FU 0 (Nat.zero_le _) (by unfold FU; omega) with ⟨⟨j, j1, j2, j3⟩, _⟩ | ⟨_, y2, f1⟩
    · rw [h1 j j1 j2] at j3
      cases j3
    have f1' : fX11_spoons_9 (nI nd) (ma 1) FU 0 = some (0, y2) := f1
    have hs0 : ∀ m, sm (fun _ => 0) m = 0 := by
      intro m
      induction m with
      | zero => rfl
      | succ m ih => rw [sm, ih]
    have hcl0 : ∀ l, cL nd (fun _ => none) l = 0 := fun l => by
      have : cL nd (fun _ => none) l = sm (fun _ => 0) nd := sm_congr nd (fun j _ => if_neg (fun z => by cases z))
      rw [this, hs0]
    have hcm0 : cM nd (fun _ => none) = 0 := by
      have : cM nd (fun _ => none) = sm (fun _ => 0) nd := sm_congr nd (fun j _ => rfl)
      rw [this, hs0]
    have hLd : Lds (folB hm wh pl fm) nd (fun _ => none) r' := ⟨fun j hj => e2 j hj, fun j l hj hl => by cases hl⟩
    have hCl : Cld (folB hm wh pl fm) nd (fun _ => none) (fun _ => false) := fun j hj hD => by cases hD
    obtain ⟨y3, s', r3, c, f3, f4, f5⟩ := few47 hPV hDC FU 0 (ci 26) r' (fun _ => none) (fun _ => false) (fun _ => false) (Nat.zero_le _) (by unfold FU; omega) hLd hCl (fun l hl => by omega) (fun l _ => hcl0 l) (fun l hl => by omega)
    rw [hcm0, Nat.sub_zero] at f3
    have f3' : fX7_fewest_47 (nI nd) (ca 1) (ca 2) (ca 3) (ca 4) FU 0 (nI nd) (ci 26) r' = some (y3, nI (nd - c), s', r3) := f3
    obtain ⟨y4, r4, k1, k2⟩ := sp40 hnd FU 0 (ma 11) (Nat.zero_le _) (by unfold FU; omega) (fun P hP => by omega)
    have k1' : fX11_spoons_40 (nI nd) FU 0 (ma 11) = some (y4, r4) := k1
    have hpc0 : pc nd 0 = 0 := by
      have : pc nd 0 = sm (fun _ => 0) nd := sm_congr nd (fun j _ => by rw [Nat.zero_testBit]; rfl)
      rw [this, hs0]
    have hT0 : TabR nd (Rch (folB hm wh pl fm) nd 0) r4 0 := ⟨fun M hM => ⟨fun z => by
        rw [show M = 0 from z, hpc0, k2 0 (Nat.two_pow_pos nd)]
        rfl, fun z => by
        rw [k2 M hM, if_neg (show ¬ M = 0 from fun y => z y)]⟩, fun M z => by rw [show M = 0 from z, hpc0]; exact Nat.le_refl _, 0, rfl, hpc0⟩
    obtain ⟨y5, B', r5, m1, m2, m3, M0, m4, m5⟩ := sp72 hPV hMo FU 0 0 r4 (Nat.zero_le _) (by unfold FU; omega) hT0
    have m1' : fX11_spoons_72 (nI nd) (ma 1) FU 0 0 r4 = some (y5, nI B', r5) := m1
    obtain ⟨M1, g1, g2⟩ := f4
    have hcB : c = B' := by
      have h3 := f5 M0 m4
      have h4 := m3 M1 g1
      omega
    have hBn : B' ≤ nd := by rw [← m5]; exact pc_le _ _
    rw [e1', f1', Option.bind_some, Option.bind_some, if_pos rfl, if_pos rfl, f3', Option.bind_some, Option.bind_some, k1', Option.bind_some, m1', Option.bind_some]
    exact ⟨_, _, rfl, rfl, by rw [hcB]; exact (pk_sub hBn).symm, hI _ _ _⟩
end SPOONS
