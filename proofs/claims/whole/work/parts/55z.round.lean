/-! ROUND in the class -/
theorem upd_back (f : Nat → Int32) (x : Nat) (v : Int32) : upd (upd f x v) x (f x) = f := by
  funext i
  by_cases z : i = x
  · rw [z, upd_s]
  · rw [upd_n _ _ z, upd_n _ _ z]
section TRY
variable {np nd po fr : Nat} {hm wh pl fm tl wo : Nat → Nat} {rw' rp rf rt ro : Nat → Int32} {a : AM}
theorem bet13 (hPV : PV np nd po fr hm wh pl fm tl wo) (hD : DD nd wh pl fm tl wo rw' rp rf rt ro) {W : Wy} {op w : Nat} (hW : WV np W) (hop : op < 2 ^ nd) (hw : w ≤ 160) : ∀ (f e : Nat), e ≤ nd → nd < e + f → fX6_canBecomeBetter_13 (nI op) (nI nd) rp rf rt ro (nI (yS W)) (nI (yH W)) f (nI e) (nI (mxs pl fm tl W op e)) (nI (w + mst pl fm tl wo W op e)) = some (nI nd, nI (mxs pl fm tl W op nd), nI (w + mst pl fm tl wo W op nd)) := by
  have hnd := hPV.2.1
  have hp : 2 ^ nd ≤ 2 ^ 8 := Nat.pow_le_pow_right (by omega) hnd
  have hsp := hW.2.1
  have hhr := hW.2.2.1
  have hmx : ∀ e, e ≤ nd → mxs pl fm tl W op e ≤ 200 := fun e he => mxs_le hhr e (fun x hx hx2 => by
    unfold feB at hx2
    rw [Bool.and_eq_true, decide_eq_true_iff] at hx2
    have := hPV.2.2.2.2.2 x (by omega)
    omega)
  intro f
  induction f with
  | zero => intro e a b; omega
  | succ f ih =>
    intro e ha hb
    rw [fX6_canBecomeBetter_13]
    by_cases z : e = nd
    · subst z
      rw [if_pos (nI_le (Nat.le_refl _) (by omega))]
    · obtain ⟨w1, w2, w3, w4, w5, w6⟩ := hPV.2.2.2.2.2 e (by omega)
      obtain ⟨b1, b2, b3, b4, b5⟩ := hD e (by omega)
      have dl := dist_le (c := 30) hsp w2
      have hme := hmx e (by omega)
      have nxt := ih (e + 1) (by omega) (by omega)
      have hms : mst pl fm tl wo W op (e + 1) = mst pl fm tl wo W op e + if feB pl fm tl W op e = true then wo e else 0 := rfl
      rw [if_neg (nI_ge (show e < nd by omega) (by omega)), bit_v (by omega) (by omega)]
      rw [mxs, hms] at nxt
      cases qb : op.testBit e with
      | false =>
        have hf : ¬ feB pl fm tl W op e = true := by
          unfold feB
          rw [qb]
          exact Bool.false_ne_true
        rw [if_neg hf, if_neg hf, Nat.add_zero] at nxt
        rw [if_pos (show nI (if false = true then 1 else 0) = 0 from rfl), lt_eq, nI_1]
        exact nxt
      | true =>
        rw [if_neg (show ¬ nI (if true = true then 1 else 0) = 0 by decide), chk_vin (by omega) (by omega), nI_clamp (by omega), b2, b3, b4, b5, abs_c (by omega) (by omega), nI_add, lt_eq, lt_eq]
        have es : (if nI (yH W + dist (yS W) (pl e)) < nI (fm e) then nI (fm e) else nI (yH W + dist (yS W) (pl e))) = nI (sbg pl fm W e) := by
          unfold sbg
          by_cases y : yH W + dist (yS W) (pl e) < fm e
          · rw [if_pos (nI_lt y (by omega)), show max (yH W + dist (yS W) (pl e)) (fm e) = fm e by omega]
          · rw [if_neg (nI_nlt (by omega) (by omega)), show max (yH W + dist (yS W) (pl e)) (fm e) = yH W + dist (yS W) (pl e) by omega]
        have hsb : sbg pl fm W e < 2 ^ 20 := by
          unfold sbg
          omega
        rw [es]
        by_cases q : sbg pl fm W e ≤ tl e
        · have hf : feB pl fm tl W op e = true := by
            unfold feB
            rw [qb, decide_eq_true q]
            rfl
          rw [if_pos hf, if_pos hf] at nxt
          have em : (if nI (mxs pl fm tl W op e) < nI (sbg pl fm W e) then nI (sbg pl fm W e) else nI (mxs pl fm tl W op e)) = nI (max (mxs pl fm tl W op e) (sbg pl fm W e)) := by
            by_cases y : mxs pl fm tl W op e < sbg pl fm W e
            · rw [if_pos (nI_lt y (by omega)), show max (mxs pl fm tl W op e) (sbg pl fm W e) = sbg pl fm W e by omega]
            · rw [if_neg (nI_nlt (by omega) (by omega)), show max (mxs pl fm tl W op e) (sbg pl fm W e) = mxs pl fm tl W op e by omega]
          rw [if_neg (nI_nlt q (by omega)), em, nI_add, lt_eq, lt_eq, lt_eq, nI_1, Nat.add_assoc]
          exact nxt
        · have hf : ¬ feB pl fm tl W op e = true := by
            unfold feB
            rw [qb, decide_eq_false q]
            exact Bool.false_ne_true
          rw [if_neg hf, if_neg hf, Nat.add_zero] at nxt
          rw [if_pos (nI_lt (by omega) (by omega)), lt_eq, nI_1]
          exact nxt
theorem bet_c (hPV : PV np nd po fr hm wh pl fm tl wo) (hD : DD nd wh pl fm tl wo rw' rp rf rt ro) {B : Bs} {W : Wy} {op w : Nat} (hW : WV np W) (hop : op < 2 ^ nd) (hw : w ≤ 160) (hB1 : B.2.1 ≤ 160) (hB2 : B.2.2.1 ≤ 200) : (Prn nd pl fm tl wo B W op w ∧ fX6_canBecomeBetter (nI B.2.1) (nI B.2.2.1) (nI nd) rp rf rt ro (nI (yS W)) (nI (yH W)) (nI op) (nI w) = some 0) ∨ fX6_canBecomeBetter (nI B.2.1) (nI B.2.2.1) (nI nd) rp rf rt ro (nI (yS W)) (nI (yH W)) (nI op) (nI w) = some 1 := by
  have hnd := hPV.2.1
  have h13 : fX6_canBecomeBetter_13 (nI op) (nI nd) rp rf rt ro (nI (yS W)) (nI (yH W)) FU 0 (nI (yH W)) (nI w) = some (nI nd, nI (mxs pl fm tl W op nd), nI (w + mst pl fm tl wo W op nd)) := bet13 hPV hD hW hop hw FU 0 (Nat.zero_le _) (by unfold FU; omega)
  have hmx : mxs pl fm tl W op nd ≤ 200 := mxs_le hW.2.2.1 nd (fun x hx hx2 => by
    unfold feB at hx2
    rw [Bool.and_eq_true, decide_eq_true_iff] at hx2
    have := hPV.2.2.2.2.2 x (by omega)
    omega)
  have hms : mst pl fm tl wo W op nd ≤ nd * 20 := sm_le nd (fun x hx => by
    have := hPV.2.2.2.2.2 x (by omega)
    split <;> omega)
  unfold fX6_canBecomeBetter
  rw [h13, Option.bind_some]
  dsimp only
  by_cases q1 : B.2.1 < w + mst pl fm tl wo W op nd
  · right
    rw [if_pos (nI_lt q1 (by omega))]
  · rw [if_neg (nI_nlt (by omega) (by omega))]
    by_cases q2 : w + mst pl fm tl wo W op nd = B.2.1
    · rw [if_pos (by rw [q2])]
      by_cases q3 : B.2.2.1 ≤ mxs pl fm tl W op nd
      · left
        rw [if_pos (nI_le q3 (by omega))]
        exact ⟨⟨by omega, fun _ => q3⟩, rfl⟩
      · right
        rw [if_neg (nI_ge (by omega) (by omega))]
    · left
      rw [if_neg (fun z => q2 ((nI_eq (by omega) (by omega)).mp z))]
      exact ⟨⟨by omega, fun z => absurd z q2⟩, rfl⟩
theorem visC {B : Bs} {len wor hou : Int32} {row tried : Nat → Int32} (hRC : RC B len wor hou row) {k w h : Nat} {R : Nat → Nat} (hk : k ≤ 8) (hw : w ≤ 160) (hh : h ≤ 200) (htr : ∀ i, i < k → tried i = nI (R i)) : ∃ (len1 wor1 hou1 : Int32) (row1 : Nat → Int32), ((if wor < nI w then (fX6_rememberRow row tried (nI k) (nI w) (nI h)).bind (fun o3 => some (o3.1, o3.2.1, o3.2.2.1, o3.2.2.2)) else (if nI w = wor then (if hou ≤ nI h then some (len, wor, hou, row) else (fX6_rememberRow row tried (nI k) (nI w) (nI h)).bind (fun o6 => some (o6.1, o6.2.1, o6.2.2.1, o6.2.2.2))) else some (len, wor, hou, row))) : Option (Int32 × Int32 × Int32 × (Nat → Int32))) = some (len1, wor1, hou1, row1) ∧ RC (vis B k w h R) len1 wor1 hou1 row1 := by
  obtain ⟨c1, c2, c3, c4, c5, c6, c7⟩ := id hRC
  have hrem : fX6_rememberRow row tried (nI k) (nI w) (nI h) = some (nI k, nI w, nI h, cpn tried row k) := by
    unfold fX6_rememberRow
    rw [nI_clamp (by omega), chk_tt ⟨nI_pos (by omega), hk, hk⟩]
  have hnew : RC (k, w, h, R) (nI k) (nI w) (nI h) (cpn tried row k) := ⟨rfl, rfl, rfl, fun i hi => by rw [cpn_in hi]; exact htr i hi, hk, hw, hh⟩
  rw [hrem, Option.bind_some]
  unfold vis
  by_cases q1 : B.2.1 < w
  · rw [if_pos (Or.inl q1), c2, if_pos (nI_lt q1 (by omega))]
    exact ⟨_, _, _, _, rfl, hnew⟩
  · by_cases q2 : w = B.2.1
    · by_cases q3 : h < B.2.2.1
      · rw [if_pos (Or.inr ⟨q2, q3⟩), c2, c3, if_neg (nI_nlt (by omega) (by omega)), if_pos (by rw [q2]), if_neg (nI_ge q3 (by omega))]
        exact ⟨_, _, _, _, rfl, hnew⟩
      · rw [if_neg (show ¬ (B.2.1 < w ∨ (w = B.2.1 ∧ h < B.2.2.1)) by omega), c2, c3, if_neg (nI_nlt (by omega) (by omega)), if_pos (by rw [q2]), if_pos (nI_le (by omega) (by omega))]
        exact ⟨_, _, _, _, rfl, c1, rfl, rfl, c4, c5, c6, c7⟩
    · rw [if_neg (show ¬ (B.2.1 < w ∨ (w = B.2.1 ∧ h < B.2.2.1)) by omega), c2, if_neg (nI_nlt (by omega) (by omega)), if_neg (fun z => q2 ((nI_eq (by omega) (by omega)).mp z))]
      exact ⟨_, _, _, _, rfl, c1, rfl, c3, c4, c5, c6, c7⟩
/-- what a call of tryRows does -/
def TryS (np nd po : Nat) (wh pl fm tl wo : Nat → Nat) (a : AM) (rw' rp rf rt ro : Nat → Int32) (f m k : Nat) : Prop := ∀ (W : Wy) (op w : Nat) (R : Nat → Nat), NV np nd po wh pl fm tl wo a k W op w R → ∀ (B : Bs) (len wor hou : Int32) (row tried : Nat → Int32) (sp hr ah : Int32) (at' : Nat → Int32), RC B len wor hou row → (∀ i, i < k → tried i = nI (R i)) → WCl np W sp hr ah at' →
  ∃ (len' wor' hou' : Int32) (row' tried' : Nat → Int32), fX6_tryRows f len wor hou row tried (nI nd) rw' rp rf rt ro sp hr ah at' (nI k) (nI op) (nI w) = some (len', wor', hou', row', tried', sp, hr, ah, at') ∧ RC (dfs nd wh pl fm tl wo m W op w k R nd 0 (vis B k w (yH W) R)) len' wor' hou' row' ∧ ∀ i, i < k → tried' i = nI (R i)
theorem try81 (hPV : PV np nd po fr hm wh pl fm tl wo) (hD : DD nd wh pl fm tl wo rw' rp rf rt ro) {f m k : Nat} (hk : k < 8) (rec' : TryS np nd po wh pl fm tl wo a rw' rp rf rt ro f m (k + 1)) {W : Wy} {op w : Nat} {R : Nat → Nat} (hN : NV np nd po wh pl fm tl wo a k W op w R) {sp hr ah : Int32} {at' : Nat → Int32} (hC : WCl np W sp hr ah at') : ∀ (g j e : Nat) (B : Bs) (len wor hou : Int32) (row tried : Nat → Int32), j + e = nd → j < g → RC B len wor hou row → (∀ i, i < k → tried i = nI (R i)) →
    ∃ (len' wor' hou' : Int32) (row' tried' : Nat → Int32), fX6_tryRows_81 (fX6_tryRows f) ah hr sp (nI k) (nI op) (nI w) (nI nd) rw' rp rf rt ro g (nI e) len wor hou row tried sp hr ah at' = some (nI nd, len', wor', hou', row', tried', sp, hr, ah, at') ∧ RC (dfs nd wh pl fm tl wo (m + 1) W op w k R j e B) len' wor' hou' row' ∧ ∀ i, i < k → tried' i = nI (R i) := by
  have hnd := hPV.2.1
  have hnp := hPV.1
  have hp : 2 ^ nd ≤ 2 ^ 8 := Nat.pow_le_pow_right (by omega) hnd
  have hop : op < 2 ^ nd := hN.2.1.1
  intro g
  induction g with
  | zero => intro j e B len wor hou row tried a b; omega
  | succ g ih =>
    intro j e B len wor hou row tried hje hjg hRC htr
    rw [fX6_tryRows_81]
    cases j with
    | zero =>
      rw [Nat.zero_add] at hje
      subst hje
      rw [if_pos (nI_le (Nat.le_refl _) (by omega))]
      exact ⟨_, _, _, _, _, rfl, hRC, htr⟩
    | succ j =>
      have he : e < nd := by omega
      rw [if_neg (nI_ge he (by omega)), bit_v (by omega) (by omega)]
      have skip : (op.testBit e = true → wst wh pl fm tl W e = none) → dfs nd wh pl fm tl wo (m + 1) W op w k R (j + 1) e B = dfs nd wh pl fm tl wo (m + 1) W op w k R j (e + 1) B := fun h => by
        rw [dfs, dfs, kids]
        have hk : ∀ rec', kid wh pl fm tl wo rec' W op w k R e B = B := fun rec' => by
          unfold kid
          by_cases q : op.testBit e = true
          · rw [if_pos q, h q]
            rfl
          · rw [if_neg q]
        rw [hk]
      cases qb : op.testBit e with
      | false =>
        rw [if_neg (show ¬ nI (if false = true then 1 else 0) = 1 by decide), Option.bind_some, if_pos rfl, lt_eq, nI_1, skip (fun z => by rw [qb] at z; cases z)]
        exact ih j (e + 1) B len wor hou row tried (by omega) (by omega) hRC htr
      | true =>
        rw [if_pos (show nI (if true = true then 1 else 0) = 1 from rfl), next_c hPV hD hN.1 hC he, Option.bind_some, Option.bind_some]
        cases q3 : wst wh pl fm tl W e with
        | none =>
          rw [if_pos (show nxI none = -9 from rfl), lt_eq, nI_1, skip (fun _ => q3)]
          exact ih j (e + 1) B len wor hou row tried (by omega) (by omega) hRC htr
        | some W' =>
          obtain ⟨v1, v2, v3, v4, v5⟩ := wst_V hPV hN.1 he q3
          obtain ⟨at2, a1, a2, a3⟩ := add_c hPV hD hC he
          rw [← v2] at a1 a3
          have hH := v1.2.2.1
          have hNk := NV_kid hPV hN he qb q3
          have hj : ¬ nxI (some W') = -9 := nxI_some (by omega)
          have a1' : fX9_add at' rw' rp (nI e) (nxI (some W')) = some (nI (pl e), nI (yH W'), nI (wh e), at2) := a1
          obtain ⟨w1, w2, w3, w4, w5, w6⟩ := hPV.2.2.2.2.2 e he
          obtain ⟨b1, b2, b3, b4, b5⟩ := hD e he
          obtain ⟨len2, wor2, hou2, row2, tried2, r1, r2, r3⟩ := rec' W' (op ^^^ 2 ^ e) (w + wo e) (upR R k e) hNk B len wor hou row (upd tried k (nI e)) (nI (pl e)) (nI (yH W')) (nI (wh e)) at2 hRC (fun i hi => by
            by_cases z : i = k
            · rw [z, upd_s, upR_s]
            · rw [upd_n _ _ z, upR_n R z]
              exact htr i (by omega)) a3
          have hdf : dfs nd wh pl fm tl wo (m + 1) W op w k R (j + 1) e B = dfs nd wh pl fm tl wo (m + 1) W op w k R j (e + 1) (dfs nd wh pl fm tl wo m W' (op ^^^ 2 ^ e) (w + wo e) (k + 1) (upR R k e) nd 0 (vis B (k + 1) (w + wo e) (yH W') (upR R k e))) := by
            rw [dfs, dfs, kids]
            have hk : ∀ rec', kid wh pl fm tl wo rec' W op w k R e B = rec' W' (op ^^^ 2 ^ e) (w + wo e) (k + 1) (upR R k e) B := fun rec' => by
              unfold kid
              rw [if_pos qb, q3]
              rfl
            rw [hk]
          rw [if_neg hj, chk_vin (by omega) (by omega), nI_clamp (by omega), lt_eq, b1, chk_vin (by omega) (by omega), nI_clamp (by omega), lt_eq, chk_vin (by omega) (by omega), a1', Option.bind_some, nI_clamp (by omega), nI_1, clr_bit op (by omega) e (by omega) qb, b5, nI_add, r1, Option.bind_some, lt_eq, nI_1, hdf]
          have hback : upd at2 (wh e) (at' (wh e)) = at' := by rw [a2]; exact upd_back at' (wh e) _
          show ∃ (len' wor' hou' : Int32) (row' tried' : Nat → Int32), fX6_tryRows_81 (fX6_tryRows f) ah hr sp (nI k) (nI op) (nI w) (nI nd) rw' rp rf rt ro g (nI (e + 1)) len2 wor2 hou2 row2 tried2 sp hr ah (upd at2 (wh e) (at' (wh e))) = _ ∧ _
          rw [hback]
          exact ih j (e + 1) _ len2 wor2 hou2 row2 tried2 (by omega) (by omega) r2 (fun i hi => by
            rw [r3 i (by omega), upR_n R (by omega)])
theorem tryc (hPV : PV np nd po fr hm wh pl fm tl wo) (hD : DD nd wh pl fm tl wo rw' rp rf rt ro) : ∀ (m k f : Nat), m + k = 8 → m < f → TryS np nd po wh pl fm tl wo a rw' rp rf rt ro f m k := by
  have hnd := hPV.2.1
  intro m
  induction m with
  | zero =>
    intro k f hmk hf W op w R hN B len wor hou row tried sp hr ah at' hRC htr hC
    obtain ⟨f, rfl⟩ : ∃ g, f = g + 1 := ⟨f - 1, by omega⟩
    have hw := NV_w hPV hN
    obtain ⟨len1, wor1, hou1, row1, v1, v2⟩ := visC (k := k) (w := w) (h := yH W) (R := R) hRC (by omega) (by omega) hN.1.2.2.1 htr
    rw [fX6_tryRows]
    rw [← hC.2.1] at v1
    rw [v1, Option.bind_some, if_pos (show (8 : Int32) ≤ nI k from nI_le (a := 8) (by omega) (by omega))]
    exact ⟨_, _, _, _, _, rfl, v2, htr⟩
  | succ m ih =>
    intro k f hmk hf W op w R hN B len wor hou row tried sp hr ah at' hRC htr hC
    obtain ⟨f, rfl⟩ : ∃ g, f = g + 1 := ⟨f - 1, by omega⟩
    have hw := NV_w hPV hN
    obtain ⟨len1, wor1, hou1, row1, v1, v2⟩ := visC (k := k) (w := w) (h := yH W) (R := R) hRC (by omega) (by omega) hN.1.2.2.1 htr
    rw [fX6_tryRows]
    rw [← hC.2.1] at v1
    rw [v1, Option.bind_some, if_neg (show ¬ (8 : Int32) ≤ nI k from nI_ge (b := 8) (by omega) (by omega))]
    obtain ⟨d1, d2, d3, d4, d5, d6, d7⟩ := id v2
    dsimp only
    rcases bet_c hPV hD (B := vis B k w (yH W) R) hN.1 hN.2.1.1 (show w ≤ 160 by omega) d6 d7 with ⟨q1, q2⟩ | q2
    · rw [← d2, ← d3, ← hC.1, ← hC.2.1] at q2
      rw [q2, Option.bind_some, if_pos rfl, prn_dfs hPV (m + 1) W op w k R hN.1 q1 nd 0 (by omega)]
      exact ⟨_, _, _, _, _, rfl, v2, htr⟩
    · rw [← d2, ← d3, ← hC.1, ← hC.2.1] at q2
      rw [q2, Option.bind_some, if_neg one_ne]
      obtain ⟨len2, wor2, hou2, row2, tried2, r1, r2, r3⟩ := try81 hPV hD (show k < 8 by omega) (ih (k + 1) f (by omega) (by omega)) hN hC FU nd 0 (vis B k w (yH W) R) len1 wor1 hou1 row1 tried (by omega) (by unfold FU; omega) v2 htr
      have r1' : fX6_tryRows_81 (fX6_tryRows f) ah hr sp (nI k) (nI op) (nI w) (nI nd) rw' rp rf rt ro FU 0 len1 wor1 hou1 row1 tried sp hr ah at' = some (nI nd, len2, wor2, hou2, row2, tried2, sp, hr, ah, at') := r1
      rw [r1', Option.bind_some]
      exact ⟨_, _, _, _, _, rfl, r2, r3⟩
theorem find_c (hPV : PV np nd po fr hm wh pl fm tl wo) (hD : DD nd wh pl fm tl wo rw' rp rf rt ro) (hV : MVa np nd a) {u : MomS} (hC : MCl np a u) (row tried r0 : Nat → Int32) : ∃ o, fX6_find row tried (nI po) (nI nd) rw' rp rf rt ro u.1 u.2.1 u.2.2.2.1 u.2.2.2.2.1 u.2.2.2.2.2.1 r0 = some o ∧ RC (bfin nd po wh pl fm tl wo a) o.1 o.2.1 o.2.2.1 o.2.2.2.1 := by
  have hnd := hPV.2.1
  have hdn := pow_nd hnd hV.2.2.1
  obtain ⟨sp, hr, ah, at', b1, b2⟩ := begin_c hPV hV hC r0
  unfold fX6_find
  rw [b1, Option.bind_some, show u.2.2.2.2.1 = nI (aD a) from hC.2.2.2.2.1, open_c nd (by omega) (aD a) hdn hV.2.2.1, Option.bind_some, show u.1 = nI (aH a) from hC.1]
  have hB0 : RC (0, 0, aH a, fun _ => 0) 0 0 (nI (aH a)) row := ⟨rfl, rfl, rfl, fun i hi => by
    have : i < 0 := hi
    omega, Nat.zero_le _, Nat.zero_le _, hV.1⟩
  obtain ⟨len2, wor2, hou2, row2, tried2, r1, r2, r3⟩ := tryc (a := a) hPV hD 8 0 20 rfl (by omega) (w0 po a) _ 0 (fun _ => 0) (NV_0 hPV hV) (0, 0, aH a, fun _ => 0) 0 0 (nI (aH a)) row tried sp hr ah at' hB0 (fun i hi => by omega) b2
  have r1' : fX6_tryRows 20 0 0 (nI (aH a)) row tried (nI nd) rw' rp rf rt ro sp hr ah at' 0 (nI ((2 ^ nd - 1) ^^^ aD a)) 0 = some (len2, wor2, hou2, row2, tried2, sp, hr, ah, at') := r1
  have hv : vis (0, 0, aH a, fun _ => 0) 0 0 (yH (w0 po a)) (fun _ => 0) = (0, 0, aH a, fun _ => 0) := by
    unfold vis
    refine if_neg ?_
    rintro (z | ⟨_, z⟩)
    · exact Nat.lt_irrefl _ z
    · exact Nat.lt_irrefl _ z
  rw [hv] at r2
  rw [r1', Option.bind_some]
  exact ⟨_, rfl, r2⟩
end TRY
section ROUND
variable {tr : Int64} {ci : Nat → Int32} {ca : Nat → Nat → Int32} {pr : Nat → MomS} {pm : Nat → Nat → MomS} {mt : Int64} {mi : Nat → Int32} {ma : Nat → Nat → Int32}
theorem best_R {np nd po fr : Nat} {hm wh pl fm tl wo : Nat → Nat} {t s : Nat → Int32} {a : AM} (hPV : PV np nd po fr hm wh pl fm tl wo) (hMo : PMo np nd po fr hm wh pl fm tl wo t) (hV : MVa np nd a) (hM : MMo np a s 0) {n w h : Int32} {row : Nat → Int32} (hR : RC (bfin nd po wh pl fm tl wo a) n w h row) : BestR t s n w h row := by
  intro r b p
  obtain ⟨o', h1, h2⟩ := rounds_m hPV hMo hV hM r b p
  refine ⟨o', h1, by rw [h2.1, hR.1], by rw [h2.2.1, hR.2.1], by rw [h2.2.2.1, hR.2.2.1], fun k hk hk8 => ?_⟩
  rw [hR.1] at hk
  have h8 := hR.2.2.2.2.1
  have hlt := (nI_ltd (by omega) (by omega)).mp hk
  rw [h2.2.2.2.1 k hlt, hR.2.2.2.1 k hlt]
theorem neg3 {x : Int32} (h1 : ¬ x < -3) (h2 : x < 8) (n1 : ¬ x = -1) (n2 : ¬ x = -2) (n3 : ¬ x = -3) : ∃ j, j < 8 ∧ x = nI j := by
  rcases ix3 x 8 (by omega) with (h | ⟨h, h3⟩) | h
  · exfalso
    rw [Int32.lt_iff_toInt_lt] at h h1
    have e3 : (-3 : Int32).toInt = -3 := rfl
    have e0 : (0 : Int32).toInt = 0 := rfl
    have d1 : ¬ x.toInt = -1 := fun z => n1 (Int32.toInt_inj.mp z)
    have d2 : ¬ x.toInt = -2 := fun z => n2 (Int32.toInt_inj.mp z)
    have d3 : ¬ x.toInt = -3 := fun z => n3 (Int32.toInt_inj.mp z)
    omega
  · exfalso
    have h4 : (8 : Int32) ≤ x := h3
    rw [Int32.lt_iff_toInt_lt] at h2
    rw [Int32.le_iff_toInt_le] at h4
    omega
  · exact h
theorem P_round (pg : Nat → Nat → Nat) (h : Inv tr ci ca pr pm mt mi ma) (p1 : Int32) : ∃ o o', fX10_round (ci 0) (ci 8) (ci 11) (ca 2) (ca 3) (ca 4) (ca 5) (ca 6) ((pr 0).1) ((pr 0).2.1) ((pr 0).2.2.2.1) ((pr 0).2.2.2.2.1) ((pr 0).2.2.2.2.2.1) (ci 20) (ci 21) (ci 22) (ca 16) (ci 23) (ci 24) (ci 25) (ca 17) (ca 18) p1 = some o ∧ fX11_round (mi 6) (mi 7) (mi 8) (ma 1) (ma 3) (ma 8) (ma 9) (ma 10) p1 = some o' ∧ o.1 = o'.1 ∧ Inv tr (upd (upd (upd (upd (upd (upd (upd ci 0 o.2.1) 20 o.2.2.1) 21 o.2.2.2.1) 22 o.2.2.2.2.1) 23 o.2.2.2.2.2.2.1) 24 o.2.2.2.2.2.2.2.1) 25 o.2.2.2.2.2.2.2.2.1) (va_up (va_up (va_up ca 16 o.2.2.2.2.2.1) 17 o.2.2.2.2.2.2.2.2.2.1) 18 o.2.2.2.2.2.2.2.2.2.2) pr pm mt (upd (upd (upd mi 6 o'.2.1) 7 o'.2.2.1) 8 o'.2.2.2.1) (va_up (va_up (va_up ma 8 o'.2.2.2.2.1) 9 o'.2.2.2.2.2.1) 10 o'.2.2.2.2.2.2) := by
  obtain ⟨htr, hT, np, nd, po, fr, hm, wh, pl, fm, tl, wo, a, hPV, hC, hMo, hL, hI0, hI1, hHe, hz, hB⟩ := id h
  have hnd := hPV.2.1
  have hI : ∀ (z u v w n x y : Int32) (r1 r2 r3 : Nat → Int32) (u1 u2 u3 : Int32) (q1 q2 q3 : Nat → Int32), okZ z → (z = 1 → BestR (ma 1) (ma 3) n x y r2) → Inv tr (upd (upd (upd (upd (upd (upd (upd ci 0 z) 20 u) 21 v) 22 w) 23 n) 24 x) 25 y) (va_up (va_up (va_up ca 16 r1) 17 r2) 18 r3) pr pm mt (upd (upd (upd mi 6 u1) 7 u2) 8 u3) (va_up (va_up (va_up ma 8 q1) 9 q2) 10 q3) := fun z u v w n x y r1 r2 r3 u1 u2 u3 q1 q2 q3 hz' hB' => ⟨htr, hT, np, nd, po, fr, hm, wh, pl, fm, tl, wo, a, hPV, hC, hMo, hL, hI0, hI1, hHe, hz', hB'⟩
  obtain ⟨ns, hns, e16, s23, hMV, hMC, hMM, hpast⟩ := hL
  have hDD : DD nd wh pl fm tl wo (ca 2) (ca 3) (ca 4) (ca 5) (ca 6) := hC.2.2.2.2.2
  unfold fX10_round fX11_round
  rw [in_eq, Option.bind_some]
  by_cases q0 : p1 < -3
  · rw [if_pos q0, if_pos q0, if_pos rfl]
    exact ⟨_, _, rfl, rfl, rfl, hI _ _ _ _ _ _ _ _ _ _ _ _ _ _ _ _ hz hB⟩
  rw [if_neg q0, if_neg q0]
  have e78 : (7 < p1) ↔ ¬ p1 < 8 := by
    rw [Int32.lt_iff_toInt_lt, Int32.lt_iff_toInt_lt, show (7 : Int32).toInt = 7 from rfl, show (8 : Int32).toInt = 8 from rfl]
    omega
  by_cases q8 : p1 < 8
  case neg =>
    rw [if_neg q8, if_pos (e78.mpr q8), if_pos rfl]
    exact ⟨_, _, rfl, rfl, rfl, hI _ _ _ _ _ _ _ _ _ _ _ _ _ _ _ _ hz hB⟩
  rw [if_pos q8, if_neg (fun z => e78.mp z q8), if_neg one_ne]
  have hj : ∃ (u v w n x y : Int32) (r1 r2 r3 : Nat → Int32), ((if ci 0 = 0 then (fX6_find (ca 17) (ca 18) (ci 8) (ci 11) (ca 2) (ca 3) (ca 4) (ca 5) (ca 6) ((pr 0).1) ((pr 0).2.1) ((pr 0).2.2.2.1) ((pr 0).2.2.2.2.1) ((pr 0).2.2.2.2.2.1) (ca 16)).bind (fun o5 => some ((1 : Int32), o5.2.2.2.2.2.1, o5.2.2.2.2.2.2.1, o5.2.2.2.2.2.2.2.1, o5.2.2.2.2.2.2.2.2, o5.1, o5.2.1, o5.2.2.1, o5.2.2.2.1, o5.2.2.2.2.1)) else some (ci 0, ci 20, ci 21, ci 22, ca 16, ci 23, ci 24, ci 25, ca 17, ca 18)) : Option (Int32 × Int32 × Int32 × Int32 × (Nat → Int32) × Int32 × Int32 × Int32 × (Nat → Int32) × (Nat → Int32))) = some (1, u, v, w, r1, n, x, y, r2, r3) ∧ BestR (ma 1) (ma 3) n x y r2 := by
    rcases hz with y | y
    · rw [if_pos y, hC.1, hC.2.2.2.1]
      obtain ⟨o, f1, f2⟩ := find_c hPV hDD hMV hMC (ca 17) (ca 18) (ca 16)
      rw [f1, Option.bind_some]
      exact ⟨_, _, _, _, _, _, _, _, _, rfl, best_R hPV hMo hMV hMM f2⟩
    · rw [if_neg (by rw [y]; exact one_ne)]
      refine ⟨ci 20, ci 21, ci 22, ci 23, ci 24, ci 25, ca 16, ca 17, ca 18, by rw [y], hB y⟩
  obtain ⟨u, v, w, n, x, y, r1, r2, r3, g1, g2⟩ := hj
  obtain ⟨o', k1, k2, k3, k4, k5⟩ := g2 (ma 8) (ma 9) (ma 10)
  rw [g1, Option.bind_some, k1, Option.bind_some]
  dsimp only
  by_cases c3 : p1 = -3
  · rw [if_pos c3, if_neg (by rw [c3]; decide), if_neg (by rw [c3]; decide), if_pos c3, Option.bind_some]
    exact ⟨_, _, rfl, rfl, k2.symm, hI _ _ _ _ _ _ _ _ _ _ _ _ _ _ _ _ okZ_1 (fun _ => g2)⟩
  rw [if_neg c3]
  by_cases c2 : p1 = -2
  · rw [if_pos c2, if_neg (by rw [c2]; decide), if_pos c2, Option.bind_some]
    exact ⟨_, _, rfl, rfl, k4.symm, hI _ _ _ _ _ _ _ _ _ _ _ _ _ _ _ _ okZ_1 (fun _ => g2)⟩
  rw [if_neg c2]
  by_cases c1 : p1 = -1
  · rw [if_pos c1, if_pos c1, Option.bind_some]
    exact ⟨_, _, rfl, rfl, k3.symm, hI _ _ _ _ _ _ _ _ _ _ _ _ _ _ _ _ okZ_1 (fun _ => g2)⟩
  rw [if_neg c1, if_neg c1, if_neg c2, if_neg c3, k2]
  obtain ⟨j, hj8, rfl⟩ := neg3 q0 q8 c1 c2 c3
  by_cases ql : n ≤ nI j
  · rw [if_pos ql, if_pos ql, Option.bind_some, Option.bind_some]
    exact ⟨_, _, rfl, rfl, rfl, hI _ _ _ _ _ _ _ _ _ _ _ _ _ _ _ _ okZ_1 (fun _ => g2)⟩
  · have hlt : nI j < n := by
      rw [Int32.le_iff_toInt_le] at ql
      rw [Int32.lt_iff_toInt_lt]
      omega
    rw [if_neg ql, if_neg ql, chk_vin (by omega) (by omega), chk_vin (by omega) (by omega), nI_clamp (by omega), Option.bind_some, Option.bind_some]
    exact ⟨_, _, rfl, rfl, (k5 j hlt hj8).symm, hI _ _ _ _ _ _ _ _ _ _ _ _ _ _ _ _ okZ_1 (fun _ => g2)⟩
end ROUND
