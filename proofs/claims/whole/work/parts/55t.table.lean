/-! THE REFERENCE'S TABLE OF PAIRS -/
/-- who can follow whom -/
def folB (hm wh pl fm : Nat → Nat) (i j : Nat) : Bool := decide ((fm i < fm j ∨ (fm j = fm i ∧ i < j)) ∧ ¬ wh j = wh i ∧ fm i + dist (pl i) (hm (wh j)) + dist (hm (wh j)) (pl j) ≤ fm j)
def goB (hm wh pl fm : Nat → Nat) (po j : Nat) : Bool := decide (0 + dist po (hm (wh j)) + dist (hm (wh j)) (pl j) ≤ fm j)
section TABLE
variable {np nd po fr : Nat} {hm wh pl fm tl wo : Nat → Nat} {t : Nat → Int32}
theorem comes_m (hPV : PV np nd po fr hm wh pl fm tl wo) (hMo : PMo np nd po fr hm wh pl fm tl wo t) {p h j : Nat} (hp : p ≤ 30) (hh : h ≤ 99) (hj : j < nd) : fX11_comes t (nI p) (nI h) (nI j) = some (if h + dist p (hm (wh j)) + dist (hm (wh j)) (pl j) ≤ fm j then 1 else 0) := by
  obtain ⟨m0, m1, m2, m3, m4, m5⟩ := hMo
  obtain ⟨w1, w2, w3, w4, w5, w6⟩ := hPV.2.2.2.2.2 j hj
  obtain ⟨b1, b2, b3, b4, b5⟩ := m5 j hj
  have hnp := hPV.1
  have hnd := hPV.2.1
  have hh2 := hPV.2.2.2.2.1 (wh j) w1
  have dl1 := dist_le (c := 30) hp hh2
  have dl2 := dist_le (c := 30) hh2 w2
  unfold fX11_comes
  rw [show (12 : Int32) + nI j = nI (12 + j) from nI_add 12 j, show (20 : Int32) + nI j = nI (20 + j) from nI_add 20 j, show (28 : Int32) + nI j = nI (28 + j) from nI_add 28 j]
  simp (disch := omega) only [chk_vin, nI_clamp]
  rw [b1, b2, b3, show (6 : Int32) + nI (wh j) = nI (6 + wh j) from nI_add 6 _]
  simp (disch := omega) only [chk_vin, nI_clamp]
  rw [m4 _ w1, lt_eq, far_m (by omega) (by omega), Option.bind_some, far_m (by omega) (by omega), Option.bind_some, nI_add, nI_add]
  by_cases q : h + dist p (hm (wh j)) + dist (hm (wh j)) (pl j) ≤ fm j
  · rw [if_pos q, if_neg (nI_nlt q (by omega))]
  · rw [if_neg q, if_pos (nI_lt (by omega) (by omega))]
theorem sp9 (hPV : PV np nd po fr hm wh pl fm tl wo) (hMo : PMo np nd po fr hm wh pl fm tl wo t) : ∀ (f d : Nat), d ≤ nd → nd < d + f → (∃ j, d ≤ j ∧ j < nd ∧ goB hm wh pl fm po j = false) ∧ (∃ y, fX11_spoons_9 (nI nd) t f (nI d) = some (1, y)) ∨ (∀ j, d ≤ j → j < nd → goB hm wh pl fm po j = true) ∧ (∃ y, fX11_spoons_9 (nI nd) t f (nI d) = some (0, y)) := by
  intro f
  induction f with
  | zero => intro d a b; omega
  | succ f ih =>
    intro d a b
    have hnd := hPV.2.1
    rw [fX11_spoons_9]
    by_cases e : d = nd
    · subst e
      right
      rw [if_pos (nI_le (Nat.le_refl _) (by omega))]
      exact ⟨fun j h1 h2 => by omega, _, rfl⟩
    · have hc := comes_m hPV hMo (p := po) (h := 0) (j := d) hPV.2.2.1 (by omega) (by omega)
      have hc' : fX11_comes t (t 2) 0 (nI d) = some (if 0 + dist po (hm (wh d)) + dist (hm (wh d)) (pl d) ≤ fm d then 1 else 0) := by
        rw [hMo.2.2.1]
        exact hc
      rw [if_neg (nI_ge (show d < nd by omega) (by omega)), hc', Option.bind_some]
      by_cases q : 0 + dist po (hm (wh d)) + dist (hm (wh d)) (pl d) ≤ fm d
      · rw [if_pos q, if_neg one_ne, lt_eq, nI_1]
        rcases ih (d + 1) (by omega) (by omega) with ⟨⟨j, j1, j2, j3⟩, h2⟩ | ⟨h1, h2⟩
        · exact Or.inl ⟨⟨j, by omega, j2, j3⟩, h2⟩
        · refine Or.inr ⟨fun j j1 j2 => ?_, h2⟩
          by_cases z : j = d
          · subst z
            exact decide_eq_true q
          · exact h1 j (by omega) j2
      · rw [if_neg q, if_pos rfl]
        exact Or.inl ⟨⟨d, Nat.le_refl _, by omega, decide_eq_false q⟩, _, rfl⟩
theorem sp40 {n : Nat} (hn : n ≤ 8) : ∀ (f M : Nat) (r : Nat → Int32), M ≤ 2 ^ n → 2 ^ n < M + f → (∀ P, P < M → r P = if P = 0 then 0 else -1) → ∃ (y : Int32) (r' : Nat → Int32), fX11_spoons_40 (nI n) f (nI M) r = some (y, r') ∧ ∀ P, P < 2 ^ n → r' P = if P = 0 then 0 else -1 := by
  have hp : 2 ^ n ≤ 2 ^ 8 := Nat.pow_le_pow_right (by omega) hn
  intro f
  induction f with
  | zero => intro M r a b; omega
  | succ f ih =>
    intro M r a b h
    rw [fX11_spoons_40, pow_sh n (by omega)]
    by_cases e : M = 2 ^ n
    · subst e
      rw [if_pos (nI_le (Nat.le_refl _) (by omega))]
      exact ⟨_, r, rfl, h⟩
    · have ez : (if nI M = 0 then (0 : Int32) else -1) = if M = 0 then 0 else -1 := by
        by_cases z : M = 0
        · rw [if_pos z, if_pos ((nI_z (by omega)).mpr z)]
        · rw [if_neg z, if_neg (fun w => z ((nI_z (by omega)).mp w))]
      rw [if_neg (nI_ge (show M < 2 ^ n by omega) (by omega)), ez, lt_eq, chk_vin (by omega) (by omega), nI_clamp (by omega), lt_eq, nI_1]
      refine ih (M + 1) _ (by omega) (by omega) (fun P hP => ?_)
      by_cases z : P = M
      · subst z
        exact upd_s _ _ _
      · rw [upd_n _ _ z]
        exact h P (by omega)
/-- the table while left i is tried: masks above m are through, of m the rights below k -/
def Tq (fol : Nat → Nat → Bool) (n i m k M : Nat) : Prop := Rch fol n i M ∨ ∃ P j, Rch fol n i P ∧ (m < P ∨ (P = m ∧ j < k)) ∧ j < n ∧ fol i j = true ∧ P.testBit j = false ∧ M = P ||| 2 ^ j
def TabR (n : Nat) (Q : Nat → Prop) (r : Nat → Int32) (B : Nat) : Prop := (∀ M, M < 2 ^ n → (Q M → r M = nI (pc n M)) ∧ (¬ Q M → r M = -1)) ∧ (∀ M, Q M → pc n M ≤ B) ∧ ∃ M, Q M ∧ pc n M = B
theorem TabR_cg {n B : Nat} {Q Q' : Nat → Prop} {r : Nat → Int32} (h : TabR n Q r B) (e : ∀ M, Q M ↔ Q' M) : TabR n Q' r B := by
  have : Q = Q' := funext fun M => propext (e M)
  rw [← this]
  exact h
theorem or_gt {P j : Nat} (h : P.testBit j = false) : P < P ||| 2 ^ j := by
  have h1 : P ≤ P ||| 2 ^ j := Nat.left_le_or
  rcases Nat.lt_or_eq_of_le h1 with z | z
  · exact z
  · have h2 : (P ||| 2 ^ j).testBit j = true := by
      rw [tb_or, decide_eq_true rfl, Bool.or_true]
    rw [← z, h] at h2
    cases h2
theorem pc_le (n M : Nat) : pc n M ≤ n := sm_max (fun k => by split <;> omega) n
theorem sp92 {i m : Nat} (hPV : PV np nd po fr hm wh pl fm tl wo) (hMo : PMo np nd po fr hm wh pl fm tl wo t) (hi : i < nd) (hm' : m < 2 ^ nd) (hR : Rch (folB hm wh pl fm) nd i m) : ∀ (f k B : Nat) (r : Nat → Int32), k ≤ nd → nd < k + f → TabR nd (Tq (folB hm wh pl fm) nd i m k) r B → ∃ (y : Int32) (B' : Nat) (r' : Nat → Int32), fX11_spoons_92 (nI m) (nI i) (nI nd) t f (nI k) (nI B) r = some (y, nI B', r') ∧ TabR nd (Tq (folB hm wh pl fm) nd i m nd) r' B' := by
  have hnd := hPV.2.1
  have hp : 2 ^ nd ≤ 2 ^ 8 := Nat.pow_le_pow_right (by omega) hnd
  intro f
  induction f with
  | zero => intro k B r a b; omega
  | succ f ih =>
    intro k B r a b hT
    rw [fX11_spoons_92]
    by_cases e : k = nd
    · subst e
      rw [if_pos (nI_le (Nat.le_refl _) (by omega))]
      exact ⟨_, B, r, rfl, hT⟩
    · obtain ⟨h1, h2, M0, h3, h4⟩ := hT
      have hB : B ≤ nd := by rw [← h4]; exact pc_le _ _
      have hrm : r m = nI (pc nd m) := (h1 m hm').1 (Or.inl hR)
      have hpm := pc_le nd m
      obtain ⟨b1, b2, b3, b4, b5⟩ := hMo.2.2.2.2.2 k (by omega)
      obtain ⟨c1, c2, c3, c4, c5⟩ := hMo.2.2.2.2.2 i hi
      obtain ⟨w1, w2, w3, w4, w5, w6⟩ := hPV.2.2.2.2.2 k (by omega)
      obtain ⟨v1, v2, v3, v4, v5, v6⟩ := hPV.2.2.2.2.2 i hi
      have hnp := hPV.1
      have hMk : m ||| 2 ^ k < 2 ^ nd := Nat.or_lt_two_pow hm' (Nat.pow_lt_pow_right (by omega) (by omega))
      rw [if_neg (nI_ge (show k < nd by omega) (by omega)), chk_vin (by omega) (by omega), nI_clamp (by omega), hrm, if_neg (nI_pos (by omega)), or_bit m (by omega) k (by omega), show (28 : Int32) + nI k = nI (28 + k) from nI_add 28 k, show (28 : Int32) + nI i = nI (28 + i) from nI_add 28 i, show (12 : Int32) + nI k = nI (12 + k) from nI_add 12 k, show (12 : Int32) + nI i = nI (12 + i) from nI_add 12 i, show (20 : Int32) + nI i = nI (20 + i) from nI_add 20 i, has_eq, isDone_c (by omega) (by omega)]
      simp (disch := omega) only [chk_vin, nI_clamp]
      rw [b3, c3, b1, c1, c2, comes_m hPV hMo v2 (by omega) (by omega), Option.bind_some, Option.bind_some]
      have z24 : (if nI (fm i) < nI (fm k) then (1 : Int32) else (if nI (fm k) = nI (fm i) then (if nI k ≤ nI i then 0 else 1) else 0)) = if (fm i < fm k ∨ (fm k = fm i ∧ i < k)) then 1 else 0 := by
        by_cases q1 : fm i < fm k
        · rw [if_pos (nI_lt q1 (by omega)), if_pos (Or.inl q1)]
        · rw [if_neg (nI_nlt (by omega) (by omega))]
          by_cases q2 : fm k = fm i
          · rw [if_pos (by rw [q2])]
            by_cases q3 : i < k
            · rw [if_neg (nI_ge q3 (by omega)), if_pos (Or.inr ⟨q2, q3⟩)]
            · rw [if_pos (nI_le (by omega) (by omega)), if_neg (by omega)]
          · rw [if_neg (fun z => q2 ((nI_eq (by omega) (by omega)).mp z)), if_neg (by omega)]
      have hj25 : ((if (if nI (fm i) < nI (fm k) then (1 : Int32) else (if nI (fm k) = nI (fm i) then (if nI k ≤ nI i then 0 else 1) else 0)) = 0 then some 0 else (if (if m.testBit k = true then (1 : Int32) else 0) = 0 then (if nI (wh k) = nI (wh i) then some 0 else (if (if fm i + dist (pl i) (hm (wh k)) + dist (hm (wh k)) (pl k) ≤ fm k then (1 : Int32) else 0) = 0 then some 0 else some 1)) else some 0))) = some (if (folB hm wh pl fm i k && !m.testBit k) = true then (1 : Int32) else 0) := by
        rw [z24]
        unfold folB
        by_cases q1 : fm i < fm k ∨ (fm k = fm i ∧ i < k)
        · rw [if_pos q1, if_neg one_ne]
          cases q2 : m.testBit k with
          | true =>
            rw [if_pos rfl, if_neg one_ne, Bool.not_true, Bool.and_false]
            rfl
          | false =>
            rw [if_neg Bool.false_ne_true, if_pos rfl, Bool.not_false, Bool.and_true]
            by_cases q3 : wh k = wh i
            · rw [if_pos (by rw [q3]), decide_eq_false (fun z => z.2.1 q3)]
              rfl
            · rw [if_neg (fun z => q3 ((nI_eq (by omega) (by omega)).mp z))]
              by_cases q4 : fm i + dist (pl i) (hm (wh k)) + dist (hm (wh k)) (pl k) ≤ fm k
              · rw [if_pos q4, if_neg one_ne, decide_eq_true ⟨q1, q3, q4⟩]
                rfl
              · rw [if_neg q4, if_pos rfl, decide_eq_false (fun z => q4 z.2.2)]
                rfl
        · rw [if_neg q1, if_pos rfl, decide_eq_false (fun z => q1 z.1)]
          rfl
      rw [lt_eq, hj25, Option.bind_some]
      cases qf : (folB hm wh pl fm i k && !m.testBit k) with
      | false =>
        rw [if_neg Bool.false_ne_true, if_pos rfl, Option.bind_some, if_pos rfl, lt_eq, lt_eq, nI_1, upd_id]
        refine ih (k + 1) B r (by omega) (by omega) (TabR_cg ⟨h1, h2, M0, h3, h4⟩ (fun M => ?_))
        refine ⟨fun z => ?_, fun z => ?_⟩
        · rcases z with z | ⟨P, j, p1, p2, p3, p4, p5, p6⟩
          · exact Or.inl z
          · exact Or.inr ⟨P, j, p1, by omega, p3, p4, p5, p6⟩
        · rcases z with z | ⟨P, j, p1, p2, p3, p4, p5, p6⟩
          · exact Or.inl z
          · refine Or.inr ⟨P, j, p1, ?_, p3, p4, p5, p6⟩
            rcases p2 with y | ⟨y1, y2⟩
            · exact Or.inl y
            · refine Or.inr ⟨y1, ?_⟩
              rcases Nat.lt_or_ge j k with y3 | y3
              · exact y3
              · rw [show j = k by omega] at p4 p5
                rw [y1] at p5
                rw [p4, p5] at qf
                cases qf
      | true =>
        rw [Bool.and_eq_true, Bool.not_eq_true'] at qf
        have hne : ¬ m = m ||| 2 ^ k := Nat.ne_of_lt (or_gt qf.2)
        have hpk := pc_or (n := nd) (show k < nd by omega) qf.2
        have hj35 : (if nI (pc nd m) + 1 ≤ r (m ||| 2 ^ k) then some (r (m ||| 2 ^ k)) else some (nI (pc nd m) + 1)) = some (nI (pc nd (m ||| 2 ^ k))) := by
          rw [nI_1, hpk]
          by_cases z : Tq (folB hm wh pl fm) nd i m k (m ||| 2 ^ k)
          · rw [(h1 _ hMk).1 z, hpk, if_pos (nI_le (Nat.le_refl _) (by omega))]
          · rw [(h1 _ hMk).2 z, if_neg]
            rw [Int32.le_iff_toInt_le, nI_toInt (by omega)]
            have : (-1 : Int32).toInt = -1 := rfl
            omega
        rw [if_pos rfl, if_neg one_ne, hj35, Option.bind_some, if_neg one_ne, upd_n _ _ hne, hrm, nI_1, lt_eq, lt_eq, nI_1]
        have eB : (if nI (pc nd m + 1) ≤ nI B then nI B else nI (pc nd m + 1)) = nI (max B (pc nd m + 1)) := by
          by_cases z : pc nd m + 1 ≤ B
          · rw [if_pos (nI_le z (by omega)), show max B (pc nd m + 1) = B by omega]
          · rw [if_neg (nI_ge (by omega) (by omega)), show max B (pc nd m + 1) = pc nd m + 1 by omega]
        rw [eB]
        have hq : ∀ M, Tq (folB hm wh pl fm) nd i m (k + 1) M ↔ (Tq (folB hm wh pl fm) nd i m k M ∨ M = m ||| 2 ^ k) := by
          intro M
          refine ⟨fun z => ?_, fun z => ?_⟩
          · rcases z with z | ⟨P, j, p1, p2, p3, p4, p5, p6⟩
            · exact Or.inl (Or.inl z)
            · rcases p2 with y | ⟨y1, y2⟩
              · exact Or.inl (Or.inr ⟨P, j, p1, Or.inl y, p3, p4, p5, p6⟩)
              · rcases Nat.lt_or_ge j k with y3 | y3
                · exact Or.inl (Or.inr ⟨P, j, p1, Or.inr ⟨y1, y3⟩, p3, p4, p5, p6⟩)
                · exact Or.inr (by rw [p6, y1, show j = k by omega])
          · rcases z with z | z
            · rcases z with z | ⟨P, j, p1, p2, p3, p4, p5, p6⟩
              · exact Or.inl z
              · exact Or.inr ⟨P, j, p1, by omega, p3, p4, p5, p6⟩
            · exact Or.inr ⟨m, k, hR, Or.inr ⟨rfl, by omega⟩, by omega, qf.1, qf.2, z⟩
        refine ih (k + 1) _ _ (by omega) (by omega) ⟨fun M hM => ⟨fun z => ?_, fun z => ?_⟩, fun M z => ?_, ?_⟩
        · by_cases y : M = m ||| 2 ^ k
          · rw [y, upd_s]
          · rw [upd_n _ _ y]
            rcases (hq M).mp z with w | w
            · exact (h1 M hM).1 w
            · exact absurd w y
        · have y : ¬ M = m ||| 2 ^ k := fun y => z ((hq M).mpr (Or.inr y))
          rw [upd_n _ _ y]
          exact (h1 M hM).2 (fun w => z ((hq M).mpr (Or.inl w)))
        · rcases (hq M).mp z with w | w
          · have := h2 M w
            omega
          · rw [w, hpk]
            omega
        · by_cases y : pc nd m + 1 ≤ B
          · exact ⟨M0, (hq M0).mpr (Or.inl h3), by omega⟩
          · exact ⟨m ||| 2 ^ k, (hq _).mpr (Or.inr rfl), by rw [hpk]; omega⟩
theorem sp92n {i m : Nat} {fol : Nat → Nat → Bool} (hnd : nd ≤ 8) (hn0 : 0 < nd) (hm' : m < 2 ^ nd) (hR : ¬ Rch fol nd i m) {r : Nat → Int32} {B : Nat} (hT : TabR nd (Tq fol nd i m 0) r B) (f : Nat) (hf : 0 < f) : ∃ (y : Int32), fX11_spoons_92 (nI m) (nI i) (nI nd) t f (nI 0) (nI B) r = some (y, nI B, r) := by
  have hp : 2 ^ nd ≤ 2 ^ 8 := Nat.pow_le_pow_right (by omega) hnd
  obtain ⟨f, rfl⟩ : ∃ g, f = g + 1 := ⟨f - 1, by omega⟩
  have hq : ¬ Tq fol nd i m 0 m := by
    rintro (z | ⟨P, j, p1, p2, p3, p4, p5, p6⟩)
    · exact hR z
    · have := or_gt p5
      omega
  rw [fX11_spoons_92, if_neg (nI_ge hn0 (by omega)), chk_vin (by omega) (by omega), nI_clamp (by omega), (hT.1 m hm').2 hq, if_pos (by decide)]
  exact ⟨_, rfl⟩
theorem sp84 {i : Nat} (hPV : PV np nd po fr hm wh pl fm tl wo) (hMo : PMo np nd po fr hm wh pl fm tl wo t) (hi : i < nd) : ∀ (f m B : Nat) (r : Nat → Int32), m ≤ 2 ^ nd → m < f → TabR nd (fun M => Rch (folB hm wh pl fm) nd i M ∨ ∃ P j, Rch (folB hm wh pl fm) nd i P ∧ m ≤ P ∧ j < nd ∧ folB hm wh pl fm i j = true ∧ P.testBit j = false ∧ M = P ||| 2 ^ j) r B →
    ∃ (y : Int32) (B' : Nat) (r' : Nat → Int32), fX11_spoons_84 (nI i) (nI nd) t f (nI m - 1) (nI B) r = some (y, nI B', r') ∧ TabR nd (Rch (folB hm wh pl fm) nd (i + 1)) r' B' := by
  have hnd := hPV.2.1
  have hp : 2 ^ nd ≤ 2 ^ 8 := Nat.pow_le_pow_right (by omega) hnd
  intro f
  induction f with
  | zero => intro m B r a b; omega
  | succ f ih =>
    intro m B r a b hT
    rw [fX11_spoons_84]
    by_cases e : m = 0
    · subst e
      rw [if_pos (show nI 0 - 1 < 0 by decide)]
      refine ⟨_, B, r, rfl, TabR_cg hT (fun M => ⟨fun z => ?_, fun z => ?_⟩)⟩
      · rcases z with z | ⟨P, j, p1, p2, p3, p4, p5, p6⟩
        · exact Or.inl z
        · exact Or.inr ⟨P, j, p1, p3, p4, p5, p6⟩
      · rcases z with z | ⟨P, j, p1, p3, p4, p5, p6⟩
        · exact Or.inl z
        · exact Or.inr ⟨P, j, p1, Nat.zero_le _, p3, p4, p5, p6⟩
    · obtain ⟨m, rfl⟩ : ∃ g, m = g + 1 := ⟨m - 1, by omega⟩
      have es : nI (m + 1) - 1 = nI m := by rw [show (1 : Int32) = nI 1 from rfl, pk_sub (by omega), Nat.add_sub_cancel]
      rw [es, if_neg (nI_pos (by omega))]
      have hT0 : TabR nd (Tq (folB hm wh pl fm) nd i m 0) r B := TabR_cg hT (fun M => ⟨fun z => by
        rcases z with z | ⟨P, j, p1, p2, p3, p4, p5, p6⟩
        · exact Or.inl z
        · exact Or.inr ⟨P, j, p1, by omega, p3, p4, p5, p6⟩, fun z => by
        rcases z with z | ⟨P, j, p1, p2, p3, p4, p5, p6⟩
        · exact Or.inl z
        · exact Or.inr ⟨P, j, p1, by omega, p3, p4, p5, p6⟩⟩)
      by_cases q : Rch (folB hm wh pl fm) nd i m
      · obtain ⟨y, B', r', r1, r2⟩ := sp92 hPV hMo hi (show m < 2 ^ nd by omega) q FU 0 B r (Nat.zero_le _) (by unfold FU; omega) hT0
        have r1' : fX11_spoons_92 (nI m) (nI i) (nI nd) t FU 0 (nI B) r = some (y, nI B', r') := r1
        rw [r1', Option.bind_some, lt_eq, ← Int32.sub_eq_add_neg]
        refine ih m B' r' (by omega) (by omega) (TabR_cg r2 (fun M => ⟨fun z => ?_, fun z => ?_⟩))
        · rcases z with z | ⟨P, j, p1, p2, p3, p4, p5, p6⟩
          · exact Or.inl z
          · exact Or.inr ⟨P, j, p1, by omega, p3, p4, p5, p6⟩
        · rcases z with z | ⟨P, j, p1, p2, p3, p4, p5, p6⟩
          · exact Or.inl z
          · exact Or.inr ⟨P, j, p1, by omega, p3, p4, p5, p6⟩
      · obtain ⟨y, r1⟩ := sp92n (t := t) hnd (by omega) (show m < 2 ^ nd by omega) q hT0 FU (by unfold FU; omega)
        have r1' : fX11_spoons_92 (nI m) (nI i) (nI nd) t FU 0 (nI B) r = some (y, nI B, r) := r1
        rw [r1', Option.bind_some, lt_eq, ← Int32.sub_eq_add_neg]
        refine ih m B r (by omega) (by omega) (TabR_cg hT (fun M => ⟨fun z => ?_, fun z => ?_⟩))
        · rcases z with z | ⟨P, j, p1, p2, p3, p4, p5, p6⟩
          · exact Or.inl z
          · exact Or.inr ⟨P, j, p1, by omega, p3, p4, p5, p6⟩
        · rcases z with z | ⟨P, j, p1, p2, p3, p4, p5, p6⟩
          · exact Or.inl z
          · refine Or.inr ⟨P, j, p1, ?_, p3, p4, p5, p6⟩
            rcases Nat.lt_or_ge m P with y | y
            · omega
            · rw [show P = m by omega] at p1
              exact absurd p1 q
theorem sp72 (hPV : PV np nd po fr hm wh pl fm tl wo) (hMo : PMo np nd po fr hm wh pl fm tl wo t) : ∀ (f i B : Nat) (r : Nat → Int32), i ≤ nd → nd < i + f → TabR nd (Rch (folB hm wh pl fm) nd i) r B →
    ∃ (y : Int32) (B' : Nat) (r' : Nat → Int32), fX11_spoons_72 (nI nd) t f (nI i) (nI B) r = some (y, nI B', r') ∧ TabR nd (Rch (folB hm wh pl fm) nd nd) r' B' := by
  have hnd := hPV.2.1
  have hp : 2 ^ nd ≤ 2 ^ 8 := Nat.pow_le_pow_right (by omega) hnd
  intro f
  induction f with
  | zero => intro i B r a b; omega
  | succ f ih =>
    intro i B r a b hT
    rw [fX11_spoons_72]
    by_cases e : i = nd
    · subst e
      rw [if_pos (nI_le (Nat.le_refl _) (by omega))]
      exact ⟨_, B, r, rfl, hT⟩
    · rw [if_neg (nI_ge (show i < nd by omega) (by omega)), pow_sh nd (by omega), lt_eq]
      obtain ⟨y, B', r', r1, r2⟩ := sp84 hPV hMo (show i < nd by omega) FU (2 ^ nd) B r (Nat.le_refl _) (by unfold FU; omega) (TabR_cg hT (fun M => ⟨fun z => Or.inl z, fun z => by
        rcases z with z | ⟨P, j, p1, p2, p3, p4, p5, p6⟩
        · exact z
        · have := Rch_lt _ _ p1
          omega⟩))
      rw [r1, Option.bind_some, lt_eq, nI_1]
      exact ih (i + 1) B' r' (by omega) (by omega) r2
end TABLE
