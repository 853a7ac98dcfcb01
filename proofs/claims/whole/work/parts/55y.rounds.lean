/-! ROUND in the reference -/
def RC (B : Bs) (bm bw bh : Int32) (best : Nat → Int32) : Prop := bm = nI B.1 ∧ bw = nI B.2.1 ∧ bh = nI B.2.2.1 ∧ (∀ i, i < B.1 → best i = nI (B.2.2.2 i)) ∧ B.1 ≤ 8 ∧ B.2.1 ≤ 160 ∧ B.2.2.1 ≤ 200
def Cst : Nat → Nat
  | 0 => 1
  | q + 1 => 1 + (q + 1) * (1 + Cst q)
theorem Cst_eq : ∀ q, 1 + q * (1 + Cst (q - 1)) = Cst q
  | 0 => by rw [Nat.zero_mul]; rfl
  | q + 1 => rfl
theorem Cst_le : ∀ q, q < 9 → Cst q < 300000 := by decide
def prvN (R : Nat → Nat) : Nat → Int32
  | 0 => 0
  | k + 1 => nI (R k + 1)
def NV (np nd po : Nat) (wh pl fm tl wo : Nat → Nat) (a : AM) (k : Nat) (W : Wy) (op w : Nat) (R : Nat → Nat) : Prop := WV np W ∧ OpR nd (aD a) R k op ∧ wrun wh pl fm tl (w0 po a) R k = some W ∧ w = wsum wo R k ∧ ∀ i, i < k → R i < nd
section ROUNDS
variable {np nd po fr : Nat} {hm wh pl fm tl wo : Nat → Nat} {t s : Nat → Int32} {a : AM}
theorem NV_kid (hPV : PV np nd po fr hm wh pl fm tl wo) {k op w e : Nat} {W W' : Wy} {R : Nat → Nat} (h : NV np nd po wh pl fm tl wo a k W op w R) (he : e < nd) (hb : op.testBit e = true) (hs : wst wh pl fm tl W e = some W') : NV np nd po wh pl fm tl wo a (k + 1) W' (op ^^^ 2 ^ e) (w + wo e) (upR R k e) := by
  obtain ⟨h1, h2, h3, h4, h5⟩ := h
  refine ⟨(wst_V hPV h1 he hs).1, (OpR_step h2 he hb).1, ?_, ?_, fun i hi => ?_⟩
  · rw [wrun, wrun_cg k (fun j hj => upR_n R (by omega)), upR_s, h3, Option.bind_some, hs]
  · rw [wsum_up, h4]
  · by_cases z : i = k
    · rw [z, upR_s]
      exact he
    · rw [upR_n R z]
      exact h5 i (by omega)
theorem NV_w (hPV : PV np nd po fr hm wh pl fm tl wo) {k op w : Nat} {W : Wy} {R : Nat → Nat} (h : NV np nd po wh pl fm tl wo a k W op w R) : w ≤ k * 20 ∧ k + pc nd op ≤ nd := by
  obtain ⟨h1, h2, h3, h4, h5⟩ := h
  refine ⟨?_, h2.2.2⟩
  rw [h4]
  exact sm_le k (fun i hi => (hPV.2.2.2.2.2 (R i) (h5 i hi)).2.2.2.2.2)
theorem r125 {m : Nat} {row : Nat → Int32} (hm8 : m ≤ 8) : ∀ (f i : Nat) (best : Nat → Int32), i ≤ m → m < i + f → (∀ x, x < i → best x = row x) → ∃ (y : Int32) (best' : Nat → Int32), fX11_rounds_125 (nI m) row f (nI i) best = some (y, best') ∧ ∀ x, x < m → best' x = row x := by
  intro f
  induction f with
  | zero => intro i best a b; omega
  | succ f ih =>
    intro i best ha hb h
    rw [fX11_rounds_125]
    by_cases e : i = m
    · subst e
      rw [if_pos (nI_le (Nat.le_refl _) (by omega))]
      exact ⟨_, best, rfl, h⟩
    · rw [if_neg (nI_ge (show i < m by omega) (by omega)), chk_vin (by omega) (by omega), nI_clamp (by omega), lt_eq, lt_eq, nI_1]
      refine ih (i + 1) _ (by omega) (by omega) (fun x hx => ?_)
      by_cases z : x = i
      · rw [z, upd_s]
      · rw [upd_n _ _ z]
        exact h x (by omega)
theorem r28 (hPV : PV np nd po fr hm wh pl fm tl wo) (hMo : PMo np nd po fr hm wh pl fm tl wo t) (hV : MVa np nd a) (hM : MMo np a s 0) {k op w : Nat} {W : Wy} {R : Nat → Nat} (hN : NV np nd po wh pl fm tl wo a k W op w R) : ∀ (g e : Nat) (row ps : Nat → Int32), e ≤ nd → nd < e + g → (∀ i, i < k → row i = nI (R i)) →
    (∃ (e' : Nat) (W' : Wy) (row' ps' : Nat → Int32), fX11_rounds_28 (nI k) t s g (nI e) row ps = some (nI e', row', ps') ∧ e ≤ e' ∧ e' < nd ∧ op.testBit e' = true ∧ wst wh pl fm tl W e' = some W' ∧ (∀ i, i < k + 1 → row' i = nI (upR R k e' i)) ∧ ∀ x, e ≤ x → x < e' → op.testBit x = true → wst wh pl fm tl W x = none) ∨
    (∃ (row' ps' : Nat → Int32), fX11_rounds_28 (nI k) t s g (nI e) row ps = some (nI nd, row', ps') ∧ (∀ i, i < k → row' i = nI (R i)) ∧ ∀ x, e ≤ x → x < nd → op.testBit x = true → wst wh pl fm tl W x = none) := by
  have hnd := hPV.2.1
  obtain ⟨n1, n2, n3, n4, n5⟩ := id hN
  have hkn := (NV_w hPV hN).2
  intro g
  induction g with
  | zero => intro e row ps a b; omega
  | succ g ih =>
    intro e row ps ha hb hrow
    rw [fX11_rounds_28, hMo.2.1]
    by_cases z : e = nd
    · subst z
      rw [if_pos (nI_le (Nat.le_refl _) (by omega))]
      exact Or.inr ⟨row, ps, rfl, hrow, fun x a b => by omega⟩
    · rw [if_neg (nI_ge (show e < nd by omega) (by omega))]
      have nxt : ∀ (row' ps' : Nat → Int32), (∀ i, i < k → row' i = nI (R i)) → (op.testBit e = true → wst wh pl fm tl W e = none) → _ := fun row' ps' h1 h2 => (ih (e + 1) row' ps' (by omega) (by omega) h1).imp (fun ⟨e', W', r1, p1, a1, a2, a3, a4, a5, a6, a7⟩ => (⟨e', W', r1, p1, a1, by omega, a3, a4, a5, a6, fun x x1 x2 x3 => by
          by_cases y : x = e
          · subst y; exact h2 x3
          · exact a7 x (by omega) x2 x3⟩ : ∃ (e' : Nat) (W' : Wy) (r1 p1 : Nat → Int32), fX11_rounds_28 (nI k) t s g (nI (e + 1)) row' ps' = some (nI e', r1, p1) ∧ e ≤ e' ∧ e' < nd ∧ op.testBit e' = true ∧ wst wh pl fm tl W e' = some W' ∧ (∀ i, i < k + 1 → r1 i = nI (upR R k e' i)) ∧ ∀ x, e ≤ x → x < e' → op.testBit x = true → wst wh pl fm tl W x = none)) (fun ⟨r1, p1, a1, a2, a3⟩ => (⟨r1, p1, a1, a2, fun x x1 x2 x3 => by
          by_cases y : x = e
          · subst y; exact h2 x3
          · exact a3 x (by omega) x2 x3⟩ : ∃ (r1 p1 : Nat → Int32), fX11_rounds_28 (nI k) t s g (nI (e + 1)) row' ps' = some (nI nd, r1, p1) ∧ (∀ i, i < k → r1 i = nI (R i)) ∧ ∀ x, e ≤ x → x < nd → op.testBit x = true → wst wh pl fm tl W x = none))
      have hbit := n2.2.1 e (show e < nd by omega)
      rcases may_m (row := row) (ps := ps) (m := k) (d := e) hPV hMo hV hM (by omega) (by omega) (fun i hi => ⟨n5 i hi, hrow i hi⟩) (fun q => by
        have := (OpR_step n2 (show e < nd by omega) (by rw [hbit]; exact q)).2
        omega) with ⟨q, q1⟩ | ⟨q, ps', q1⟩
      · rw [q1, Option.bind_some, if_pos rfl, lt_eq, nI_1]
        exact nxt row ps hrow (fun y => by rw [hbit, q] at y; cases y)
      · rw [q1, n3, Option.bind_some, Option.bind_some]
        have hru : ∀ i, i < k → upd row k (nI e) i = nI (R i) := fun i hi => by
          rw [upd_n _ _ (by omega)]
          exact hrow i hi
        cases q3 : wst wh pl fm tl W e with
        | none =>
          rw [if_neg (show ¬ (none : Option Wy).isSome = true from Bool.false_ne_true), if_pos rfl, lt_eq, nI_1]
          exact nxt (upd row k (nI e)) ps' hru (fun _ => q3)
        | some W' =>
          rw [if_pos (show (some W').isSome = true from rfl), if_neg one_ne]
          refine Or.inl ⟨e, W', upd row k (nI e), ps', rfl, Nat.le_refl _, by omega, by rw [hbit]; exact q, q3, fun i hi => ?_, fun x x1 x2 => by omega⟩
          by_cases y : i = k
          · rw [y, upd_s, upR_s]
          · rw [upR_n R y]
            exact hru i (by omega)
theorem visI {B : Bs} {bm bw bh : Int32} {best row : Nat → Int32} (hRC : RC B bm bw bh best) {k w h : Nat} {R : Nat → Nat} (hk : k ≤ 8) (hw : w ≤ 160) (hh : h ≤ 200) (hrow : ∀ i, i < k → row i = nI (R i)) : ∃ (bm1 bw1 bh1 : Int32) (best1 : Nat → Int32), RC (vis B k w h R) bm1 bw1 bh1 best1 ∧ ∀ (f : Nat) (ps : Nat → Int32), (if bw < nI w then (fX11_rounds_125 (nI k) row FU (0 : Int32) best).bind (fun y13 => fX11_rounds_24 t s f (0 : Int32) (nI k) (nI k) (nI w) (nI h) row y13.2 ps) else (if nI w = bw then (if bh ≤ nI h then fX11_rounds_24 t s f (0 : Int32) (nI k) bm bw bh row best ps else (fX11_rounds_125 (nI k) row FU (0 : Int32) best).bind (fun y16 => fX11_rounds_24 t s f (0 : Int32) (nI k) (nI k) (nI w) (nI h) row y16.2 ps)) else fX11_rounds_24 t s f (0 : Int32) (nI k) bm bw bh row best ps)) = fX11_rounds_24 t s f 0 (nI k) bm1 bw1 bh1 row best1 ps := by
  obtain ⟨c1, c2, c3, c4, c5, c6, c7⟩ := id hRC
  obtain ⟨y, best', b1, b2⟩ := r125 (row := row) hk FU 0 best (Nat.zero_le _) (by unfold FU; omega) (fun x hx => by omega)
  have b1' : fX11_rounds_125 (nI k) row FU 0 best = some (y, best') := b1
  have hnew : RC (k, w, h, R) (nI k) (nI w) (nI h) best' := ⟨rfl, rfl, rfl, fun i hi => by rw [b2 i hi]; exact hrow i hi, hk, hw, hh⟩
  unfold vis
  by_cases q1 : B.2.1 < w
  · rw [if_pos (Or.inl q1)]
    refine ⟨_, _, _, _, hnew, fun f ps => ?_⟩
    rw [c2, if_pos (nI_lt q1 (by omega)), b1', Option.bind_some]
  · by_cases q2 : w = B.2.1
    · by_cases q3 : h < B.2.2.1
      · rw [if_pos (Or.inr ⟨q2, q3⟩)]
        refine ⟨_, _, _, _, hnew, fun f ps => ?_⟩
        rw [c2, c3, if_neg (nI_nlt (by omega) (by omega)), if_pos (by rw [q2]), if_neg (nI_ge q3 (by omega)), b1', Option.bind_some]
      · rw [if_neg (by omega)]
        refine ⟨_, _, _, _, hRC, fun f ps => ?_⟩
        rw [c2, c3, if_neg (nI_nlt (by omega) (by omega)), if_pos (by rw [q2]), if_pos (nI_le (by omega) (by omega))]
    · rw [if_neg (by omega)]
      refine ⟨_, _, _, _, hRC, fun f ps => ?_⟩
      rw [c2, if_neg (nI_nlt (by omega) (by omega)), if_neg (fun z => q2 ((nI_eq (by omega) (by omega)).mp z))]
theorem m1_m (k : Nat) : nI (k + 1) + -1 = nI k := by
  rw [← Int32.sub_eq_add_neg, nI_pred]
theorem r24 (hPV : PV np nd po fr hm wh pl fm tl wo) (hMo : PMo np nd po fr hm wh pl fm tl wo t) (hV : MVa np nd a) (hM : MMo np a s 0) : ∀ (m k : Nat) (W : Wy) (op w : Nat) (R : Nat → Nat), m + k = 8 → NV np nd po wh pl fm tl wo a k W op w R → ∀ (j e : Nat) (B : Bs) (bm bw bh : Int32) (row best ps : Nat → Int32), j + e = nd → (∀ i, i < k → row i = nI (R i)) → RC B bm bw bh best →
    ∃ (c : Nat) (bm' bw' bh' : Int32) (row' best' ps' : Nat → Int32), c ≤ 1 + (pc nd op - pc e op) * (1 + Cst (pc nd op - 1)) ∧ (∀ f, fX11_rounds_24 t s (f + c) (nI e) (nI k) bm bw bh row best ps = fX11_rounds_24 t s f (prvN R k) (nI k + -1) bm' bw' bh' row' best' ps') ∧ (∀ i, i < k → row' i = nI (R i)) ∧ RC (dfs nd wh pl fm tl wo m W op w k R j e B) bm' bw' bh' best' := by
  have hnd := hPV.2.1
  intro m
  induction m with
  | zero =>
    intro k W op w R hmk hN j e B bm bw bh row best ps hje hrow hRC
    have hkn := (NV_w hPV hN).2
    rcases r28 hPV hMo hV hM hN FU e row ps (by omega) (by unfold FU; omega) hrow with ⟨e', W', row', ps', a1, a2, a3, a4, a5, a6, a7⟩ | ⟨row', ps', a1, a2, a3⟩
    · have := (OpR_step hN.2.1 a3 a4).2
      omega
    · refine ⟨1, bm, bw, bh, row', best, ps', by omega, fun f => ?_, a2, hRC⟩
      obtain ⟨k, rfl⟩ : ∃ q, k = q + 1 := ⟨k - 1, by omega⟩
      rw [fX11_rounds_24, if_neg (nI_pos (by omega)), a1, Option.bind_some, hMo.2.1, if_pos (nI_le (Nat.le_refl _) (by omega)), m1_m, lt_eq, if_neg (nI_pos (by omega)), chk_vin (by omega) (by omega), nI_clamp (by omega), show (nI nd, row', ps').2.1 k = nI (R k) from a2 k (by omega), nI_1, Option.bind_some]
      rfl
  | succ m ih =>
    intro k W op w R hmk hN j
    induction j using Nat.strongRecOn with
    | ind j ihj =>
      intro e B bm bw bh row best ps hje hrow hRC
      have hkn := (NV_w hPV hN).2
      have hw20 := (NV_w hPV hN).1
      rcases r28 hPV hMo hV hM hN FU e row ps (by omega) (by unfold FU; omega) hrow with ⟨e', W', row', ps', a1, a2, a3, a4, a5, a6, a7⟩ | ⟨row', ps', a1, a2, a3⟩
      · have hNk := NV_kid hPV hN a3 a4 a5
        have hwk := NV_w hPV hNk
        have hpc : pc nd op = pc nd (op ^^^ 2 ^ e') + 1 := by
          unfold pc
          refine sm_up nd a3 ?_ (fun x hx hxj => ?_)
          · rw [tb_xor, a4, decide_eq_true rfl]
            rfl
          · rw [tb_xor, decide_eq_false (fun z => hxj z.symm), Bool.bne_false]
        have hp1 : pc (e' + 1) op = pc e' op + 1 := by
          unfold pc
          rw [sm, if_pos a4]
        have hp2 : pc e op ≤ pc e' op := sm_mono e' a2
        have hp3 : pc (e' + 1) op ≤ pc nd op := sm_mono nd (show e' + 1 ≤ nd by omega)
        obtain ⟨ps2, w1⟩ := way_m (R := upR R k e') (m := k + 1) (row := row') (ps := ps') hPV hMo hV hM (by omega) (fun i hi => ⟨hNk.2.2.2.2 i hi, a6 i hi⟩)
        rw [hNk.2.2.1] at w1
        have w1' : fX11_wayOf t s row' ps' (nI (k + 1)) = some (nI (yH W'), ps2) := w1
        have w2 := worthOf_m (R := upR R k e') (m := k + 1) (row := row') hPV hMo (by omega) (fun i hi => ⟨hNk.2.2.2.2 i hi, a6 i hi⟩)
        rw [← hNk.2.2.2.1] at w2
        obtain ⟨bm1, bw1, bh1, best1, v1, v2⟩ := visI (t := t) (s := s) (row := row') (k := k + 1) (w := w + wo e') (h := yH W') (R := upR R k e') hRC (by omega) (by omega) hNk.1.2.2.1 a6
        obtain ⟨c1, bm2, bw2, bh2, row2, best2, ps3, x1, x2, x3, x4⟩ := ih (k + 1) W' (op ^^^ 2 ^ e') (w + wo e') (upR R k e') (by omega) hNk nd 0 (vis B (k + 1) (w + wo e') (yH W') (upR R k e')) bm1 bw1 bh1 row' best1 ps2 (by omega) a6 v1
        obtain ⟨c2, bm3, bw3, bh3, row3, best3, ps4, y1, y2, y3, y4⟩ := ihj (nd - (e' + 1)) (by omega) (e' + 1) _ bm2 bw2 bh2 row2 best2 ps3 (by omega) (fun i hi => by
          rw [x3 i (by omega), upR_n R (by omega)]) x4
        refine ⟨c2 + c1 + 1, bm3, bw3, bh3, row3, best3, ps4, ?_, fun f => ?_, y3, ?_⟩
        · have h0 : pc 0 (op ^^^ 2 ^ e') = 0 := rfl
          rw [h0, Nat.sub_zero, Cst_eq, show pc nd (op ^^^ 2 ^ e') = pc nd op - 1 by omega] at x1
          generalize hq : pc nd op - 1 = q at x1 y1
          have h1 : (pc nd op - pc (e' + 1) op + 1) * (1 + Cst q) ≤ (pc nd op - pc e op) * (1 + Cst q) := Nat.mul_le_mul_right _ (by omega)
          rw [Nat.succ_mul] at h1
          omega
        · have key : fX11_rounds_24 t s (f + c2 + c1 + 1) (nI e) (nI k) bm bw bh row best ps = fX11_rounds_24 t s (f + c2 + c1) (nI 0) (nI (k + 1)) bm1 bw1 bh1 row' best1 ps2 := by
            rw [fX11_rounds_24, if_neg (nI_pos (by omega)), a1, Option.bind_some, hMo.2.1, if_neg (nI_ge a3 (by omega)), nI_1, lt_eq, w2, Option.bind_some, w1', Option.bind_some]
            exact v2 (f + c2 + c1) ps2
          rw [show f + (c2 + c1 + 1) = f + c2 + c1 + 1 by omega, key, x2 (f + c2), m1_m]
          have hp : prvN (upR R k e') (k + 1) = nI (e' + 1) := by rw [prvN, upR_s]
          rw [hp, y2 f]
        · have hd : dfs nd wh pl fm tl wo (m + 1) W op w k R j e B = dfs nd wh pl fm tl wo (m + 1) W op w k R (nd - (e' + 1)) (e' + 1) (dfs nd wh pl fm tl wo m W' (op ^^^ 2 ^ e') (w + wo e') (k + 1) (upR R k e') nd 0 (vis B (k + 1) (w + wo e') (yH W') (upR R k e'))) := by
            rw [dfs, dfs, show j = (nd - (e' + 1) + 1) + (e' - e) by omega, kids_skip (e' - e) _ e B (fun x b1 b2 b3 => a7 x b1 (by omega) b3), show e + (e' - e) = e' by omega, kids]
            have hk : ∀ rec', kid wh pl fm tl wo rec' W op w k R e' B = rec' W' (op ^^^ 2 ^ e') (w + wo e') (k + 1) (upR R k e') B := fun rec' => by
              unfold kid
              rw [if_pos a4, a5]
              rfl
            rw [hk]
          rw [hd]
          exact y4
      · have hd : dfs nd wh pl fm tl wo (m + 1) W op w k R j e B = B := by
          have := kids_skip (wh := wh) (pl := pl) (fm := fm) (tl := tl) (wo := wo) (rec' := fun W' op' w' k' R' B' => dfs nd wh pl fm tl wo m W' op' w' k' R' nd 0 (vis B' k' w' (yH W') R')) (W := W) (op := op) (w := w) (k := k) (R := R) j 0 e B (fun x b1 b2 b3 => a3 x b1 (by omega) b3)
          rw [Nat.zero_add] at this
          rw [dfs, this]
          rfl
        rw [hd]
        refine ⟨1, bm, bw, bh, row', best, ps', by omega, fun f => ?_, a2, hRC⟩
        rw [fX11_rounds_24, if_neg (nI_pos (by omega)), a1, Option.bind_some, hMo.2.1, if_pos (nI_le (Nat.le_refl _) (by omega)), lt_eq]
        cases k with
        | zero =>
          rw [if_pos (show nI 0 + -1 < 0 by decide), Option.bind_some]
          rfl
        | succ k =>
          rw [m1_m, if_neg (nI_pos (by omega)), chk_vin (by omega) (by omega), nI_clamp (by omega), show (nI nd, row', ps').2.1 k = nI (R k) from a2 k (by omega), nI_1, Option.bind_some]
          rfl
/-- what both find -/
def bfin (nd po : Nat) (wh pl fm tl wo : Nat → Nat) (a : AM) : Bs := dfs nd wh pl fm tl wo 8 (w0 po a) ((2 ^ nd - 1) ^^^ aD a) 0 0 (fun _ => 0) nd 0 (0, 0, aH a, fun _ => 0)
theorem NV_0 (hPV : PV np nd po fr hm wh pl fm tl wo) (hV : MVa np nd a) : NV np nd po wh pl fm tl wo a 0 (w0 po a) ((2 ^ nd - 1) ^^^ aD a) 0 (fun _ => 0) := ⟨w0_V hPV hV, OpR_0 _ hV.2.2.1, rfl, rfl, fun i hi => by omega⟩
theorem rounds_m (hPV : PV np nd po fr hm wh pl fm tl wo) (hMo : PMo np nd po fr hm wh pl fm tl wo t) (hV : MVa np nd a) (hM : MMo np a s 0) (r b p : Nat → Int32) : ∃ o', fX11_rounds t s r b p = some o' ∧ RC (bfin nd po wh pl fm tl wo a) o'.1 o'.2.1 o'.2.2.1 o'.2.2.2.2.1 := by
  have hnd := hPV.2.1
  obtain ⟨c, bm, bw, bh, row', best', ps', h1, h2, h3, h4⟩ := r24 hPV hMo hV hM 8 0 (w0 po a) ((2 ^ nd - 1) ^^^ aD a) 0 (fun _ => 0) rfl (NV_0 hPV hV) nd 0 (0, 0, aH a, fun _ => 0) 0 0 (nI (aH a)) r b p (by omega) (fun i hi => by omega) ⟨rfl, rfl, rfl, fun i hi => by
    have : i < 0 := hi
    omega, Nat.zero_le _, Nat.zero_le _, hV.1⟩
  have h0 : pc 0 ((2 ^ nd - 1) ^^^ aD a) = 0 := rfl
  have hq := pc_le nd ((2 ^ nd - 1) ^^^ aD a)
  rw [h0, Nat.sub_zero, Cst_eq] at h1
  have hc := Cst_le (pc nd ((2 ^ nd - 1) ^^^ aD a)) (by omega)
  unfold fX11_rounds
  rw [(mmo_un hM).1, lt_eq]
  have hFU : FU = (FU - c - 1 + 1) + c := by
    unfold FU
    omega
  have h2' : fX11_rounds_24 t s FU 0 0 0 0 (nI (aH a)) r b p = some (0, -1, bm, bw, bh, row', best', ps') := by
    rw [hFU]
    have := h2 (FU - c - 1 + 1)
    rw [show fX11_rounds_24 t s (FU - c - 1 + 1 + c) 0 0 0 0 (nI (aH a)) r b p = fX11_rounds_24 t s (FU - c - 1 + 1) (prvN (fun _ => 0) 0) (nI 0 + -1) bm bw bh row' best' ps' from this, fX11_rounds_24, if_pos (show nI 0 + -1 < 0 by decide)]
    rfl
  rw [h2', Option.bind_some]
  exact ⟨_, rfl, h4⟩
end ROUNDS
