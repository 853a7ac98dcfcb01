/-! A WAY: where all are, the spoon, the hour, who is barred -/
abbrev Wy : Type := (Nat → Nat) × Nat × Nat × Option Nat
abbrev yA (w : Wy) : Nat → Nat := w.1
abbrev yS (w : Wy) : Nat := w.2.1
abbrev yH (w : Wy) : Nat := w.2.2.1
abbrev yO (w : Wy) : Option Nat := w.2.2.2
def wbg (wh pl fm : Nat → Nat) (W : Wy) (d : Nat) : Nat := max (yH W + dist (yS W) (yA W (wh d)) + dist (yA W (wh d)) (pl d)) (fm d)
def wnx (wh pl fm : Nat → Nat) (W : Wy) (d : Nat) : Wy := (fun p => if p = wh d then pl d else yA W p, pl d, wbg wh pl fm W d, some (wh d))
def wst (wh pl fm tl : Nat → Nat) (W : Wy) (d : Nat) : Option Wy := if yO W = some (wh d) then none else if wbg wh pl fm W d ≤ tl d then some (wnx wh pl fm W d) else none
def w0 (po : Nat) (a : AM) : Wy := (aA a, aSp po a, aH a, if aF a = 1 then none else aO a)
def WV (np : Nat) (W : Wy) : Prop := (∀ p, p < np → yA W p ≤ 30) ∧ yS W ≤ 30 ∧ yH W ≤ 200 ∧ ∀ k, yO W = some k → k < np
def WCl (np : Nat) (W : Wy) (sp hr ah : Int32) (at' : Nat → Int32) : Prop := sp = nI (yS W) ∧ hr = nI (yH W) ∧ ah = hoI (yO W) ∧ ∀ p, p < np → at' p = nI (yA W p)
def DD (nd : Nat) (wh pl fm tl wo : Nat → Nat) (rw' rp rf rt ro : Nat → Int32) : Prop := ∀ d, d < nd → rw' d = nI (wh d) ∧ rp d = nI (pl d) ∧ rf d = nI (fm d) ∧ rt d = nI (tl d) ∧ ro d = nI (wo d)
/-- where a run of a row stands -/
def wrun (wh pl fm tl : Nat → Nat) (W0 : Wy) (R : Nat → Nat) : Nat → Option Wy
  | 0 => some W0
  | k + 1 => (wrun wh pl fm tl W0 R k).bind (fun W => wst wh pl fm tl W (R k))
theorem wrun_cg {wh pl fm tl : Nat → Nat} {W0 : Wy} {R R' : Nat → Nat} : ∀ m, (∀ k, k < m → R' k = R k) → wrun wh pl fm tl W0 R' m = wrun wh pl fm tl W0 R m
  | 0, _ => rfl
  | m + 1, h => by rw [wrun, wrun, wrun_cg m (fun k hk => h k (by omega)), h m (by omega)]
theorem wrun_none {wh pl fm tl : Nat → Nat} {W0 : Wy} {R : Nat → Nat} {k : Nat} (h : wrun wh pl fm tl W0 R k = none) : ∀ m, k ≤ m → wrun wh pl fm tl W0 R m = none := by
  intro m
  induction m with
  | zero => intro hk; rw [show (0 : Nat) = k by omega]; exact h
  | succ m ih =>
    intro hk
    by_cases e : k = m + 1
    · rw [← e]; exact h
    · rw [wrun, ih (by omega)]; rfl
section WAY
variable {np nd po fr : Nat} {hm wh pl fm tl wo : Nat → Nat} {rw' rp rf rt ro t s : Nat → Int32} {a : AM}
theorem wst_V (hPV : PV np nd po fr hm wh pl fm tl wo) {W W' : Wy} (hW : WV np W) {d : Nat} (hd : d < nd) (h : wst wh pl fm tl W d = some W') : WV np W' ∧ W' = wnx wh pl fm W d ∧ yH W ≤ yH W' ∧ wbg wh pl fm W d ≤ tl d ∧ ¬ yO W = some (wh d) := by
  obtain ⟨w1, w2, w3, w4, w5, w6⟩ := hPV.2.2.2.2.2 d hd
  unfold wst at h
  by_cases q1 : yO W = some (wh d)
  · rw [if_pos q1] at h
    cases h
  · rw [if_neg q1] at h
    by_cases q2 : wbg wh pl fm W d ≤ tl d
    · rw [if_pos q2] at h
      cases h
      refine ⟨⟨fun p hp => ?_, w2, ?_, fun k hk => ?_⟩, rfl, ?_, q2, q1⟩
      · show (if p = wh d then pl d else yA W p) ≤ 30
        split
        · exact w2
        · exact hW.1 p hp
      · show wbg wh pl fm W d ≤ 200
        omega
      · have : some (wh d) = some k := hk
        cases this
        exact w1
      · show yH W ≤ wbg wh pl fm W d
        unfold wbg
        omega
    · rw [if_neg q2] at h
      cases h
theorem w0_V (hPV : PV np nd po fr hm wh pl fm tl wo) (hV : MVa np nd a) : WV np (w0 po a) := by
  refine ⟨fun p hp => (hV.2.2.2.2.2.1 p hp).1, aSp_le hV hPV.2.2.1, hV.1, fun k hk => ?_⟩
  have : (if aF a = 1 then none else aO a) = some k := hk
  by_cases q : aF a = 1
  · rw [if_pos q] at this
    cases this
  · rw [if_neg q] at this
    exact (hV.2.2.2.1 k this).1
theorem wrun_V (hPV : PV np nd po fr hm wh pl fm tl wo) (hV : MVa np nd a) {R : Nat → Nat} : ∀ m, (∀ k, k < m → R k < nd) → ∀ W, wrun wh pl fm tl (w0 po a) R m = some W → WV np W := by
  intro m
  induction m with
  | zero => intro _ W h; cases h; exact w0_V hPV hV
  | succ m ih =>
    intro hR W h
    rw [wrun] at h
    cases q : wrun wh pl fm tl (w0 po a) R m with
    | none => rw [q] at h; cases h
    | some W1 =>
      rw [q, Option.bind_some] at h
      exact (wst_V hPV (ih (fun k hk => hR k (by omega)) W1 q) (hR m (by omega)) h).1
def nxI : Option Wy → Int32
  | none => -9
  | some W => nI (yH W)
theorem next_c (hPV : PV np nd po fr hm wh pl fm tl wo) (hD : DD nd wh pl fm tl wo rw' rp rf rt ro) {W : Wy} (hW : WV np W) {sp hr ah : Int32} {at' : Nat → Int32} (hC : WCl np W sp hr ah at') {d : Nat} (hd : d < nd) : fX9_hourOfNext sp hr ah at' rw' rp rf rt (nI d) = some (nxI (wst wh pl fm tl W d)) := by
  obtain ⟨w1, w2, w3, w4, w5, w6⟩ := hPV.2.2.2.2.2 d hd
  obtain ⟨b1, b2, b3, b4, b5⟩ := hD d hd
  have hnp := hPV.1
  have hnd := hPV.2.1
  obtain ⟨c1, c2, c3, c4⟩ := hC
  have hho : ∀ k, yO W = some k → k < 2 ^ 31 := fun k hk => by
    have := hW.2.2.2 k hk
    omega
  have hat := hW.1 (wh d) w1
  have hsp := hW.2.1
  have hhr := hW.2.2.1
  have dl1 := dist_le (c := 30) hsp hat
  have dl2 := dist_le (c := 30) hat w2
  unfold fX9_hourOfNext
  rw [chk_vin (by omega) (by omega), nI_clamp (by omega), lt_eq, b1, c3]
  unfold wst
  by_cases q1 : yO W = some (wh d)
  · rw [if_pos ((hoI_ne (by omega) hho).mpr q1), if_pos q1]
    rfl
  · rw [if_neg (fun z => q1 ((hoI_ne (by omega) hho).mp z)), if_neg q1, chk_vin (by omega) (by omega), nI_clamp (by omega), b2, b3, b4, c1, c2, c4 _ w1, abs_c (by omega) (by omega), abs_c (by omega) (by omega), nI_add, nI_add, lt_eq, lt_eq]
    have e : (if nI (yH W + dist (yS W) (yA W (wh d)) + dist (yA W (wh d)) (pl d)) < nI (fm d) then nI (fm d) else nI (yH W + dist (yS W) (yA W (wh d)) + dist (yA W (wh d)) (pl d))) = nI (wbg wh pl fm W d) := by
      unfold wbg
      by_cases z : yH W + dist (yS W) (yA W (wh d)) + dist (yA W (wh d)) (pl d) < fm d
      · rw [if_pos (nI_lt z (by omega)), show max (yH W + dist (yS W) (yA W (wh d)) + dist (yA W (wh d)) (pl d)) (fm d) = fm d by omega]
      · rw [if_neg (nI_nlt (by omega) (by omega)), show max (yH W + dist (yS W) (yA W (wh d)) + dist (yA W (wh d)) (pl d)) (fm d) = yH W + dist (yS W) (yA W (wh d)) + dist (yA W (wh d)) (pl d) by omega]
    have hb : wbg wh pl fm W d < 2 ^ 20 := by
      unfold wbg
      omega
    rw [e]
    by_cases q2 : wbg wh pl fm W d ≤ tl d
    · rw [if_pos q2, if_neg (nI_nlt q2 (by omega))]
      rfl
    · rw [if_neg q2, if_pos (nI_lt (by omega) (by omega))]
      rfl
theorem nxI_some {W : Wy} (h : yH W < 2 ^ 31) : ¬ nxI (some W) = -9 := ne_neg (m := 9) h (by omega) (by omega)
theorem add_c (hPV : PV np nd po fr hm wh pl fm tl wo) (hD : DD nd wh pl fm tl wo rw' rp rf rt ro) {W : Wy} {sp hr ah : Int32} {at' : Nat → Int32} (hC : WCl np W sp hr ah at') {d : Nat} (hd : d < nd) : ∃ at'' : Nat → Int32, fX9_add at' rw' rp (nI d) (nI (yH (wnx wh pl fm W d))) = some (nI (pl d), nI (yH (wnx wh pl fm W d)), nI (wh d), at'') ∧ at'' = upd at' (wh d) (nI (pl d)) ∧ WCl np (wnx wh pl fm W d) (nI (pl d)) (nI (yH (wnx wh pl fm W d))) (nI (wh d)) at'' := by
  obtain ⟨w1, w2, w3, w4, w5, w6⟩ := hPV.2.2.2.2.2 d hd
  obtain ⟨b1, b2, b3, b4, b5⟩ := hD d hd
  have hnp := hPV.1
  have hnd := hPV.2.1
  unfold fX9_add
  rw [chk_vin (by omega) (by omega), nI_clamp (by omega), lt_eq, b1, b2, lt_eq, chk_vin (by omega) (by omega), lt_eq, nI_clamp (by omega)]
  refine ⟨_, rfl, rfl, rfl, rfl, rfl, fun p hp => ?_⟩
  show upd at' (wh d) (nI (pl d)) p = nI (if p = wh d then pl d else yA W p)
  by_cases z : p = wh d
  · rw [z, upd_s, if_pos rfl]
  · rw [upd_n _ _ z, if_neg z]
    exact hC.2.2.2 p hp
theorem begin_c (hPV : PV np nd po fr hm wh pl fm tl wo) (hV : MVa np nd a) {u : MomS} (hC : MCl np a u) (r0 : Nat → Int32) : ∃ (sp hr ah : Int32) (at' : Nat → Int32), fX9_begin r0 (nI po) u.1 u.2.1 u.2.2.2.1 u.2.2.2.2.2.1 = some (sp, hr, ah, at') ∧ WCl np (w0 po a) sp hr ah at' := by
  have hnp := hPV.1
  obtain ⟨c1, c2, c3, c4, c5, c6, c7⟩ := id hC
  unfold fX9_begin
  rw [spoon_c hV hC hnp, Option.bind_some, lt_eq]
  refine ⟨_, _, _, _, rfl, rfl, c1, ?_, fun p hp => ?_⟩
  · have hF := hV.2.1
    show _ = hoI (if aF a = 1 then none else aO a)
    rw [c4, c2]
    by_cases q : aF a = 1
    · rw [if_pos q, if_neg (by rw [q]; exact one_ne)]
      rfl
    · rw [if_neg q, if_pos (by rw [show aF a = 0 by omega]; rfl)]
  · rw [cpn_in (by omega)]
    exact (c6 p hp).1
/-! the reference's way -/
def WMo (np : Nat) (W : Wy) (f5 h4 s3 h2 : Int32) (ps : Nat → Int32) : Prop := s3 = nI (yS W) ∧ h2 = nI (yH W) ∧ (∀ p, p < np → ps p = nI (yA W p)) ∧ ∃ ho : Option Nat, h4 = hoI ho ∧ (∀ k, ho = some k → k < np) ∧ ((f5 = 0 ∧ yO W = ho) ∨ (f5 = 1 ∧ yO W = none ∧ ∀ k, ho = some k → yS W = yA W k))
theorem way2 (hM : MMo np a s 0) (hnp : np ≤ 6) : ∀ (f p : Nat) (ps : Nat → Int32), p ≤ 6 → 6 < p + f → (∀ q, q < p → q < np → ps q = nI (aA a q)) → ∃ (y : Int32) (ps' : Nat → Int32), fX11_wayOf_2 s f (nI p) ps = some (y, ps') ∧ ∀ q, q < np → ps' q = nI (aA a q) := by
  intro f
  induction f with
  | zero => intro p ps a b; omega
  | succ f ih =>
    intro p ps ha hb h
    rw [fX11_wayOf_2]
    by_cases e : p = 6
    · subst e
      rw [if_pos (show (6 : Int32) ≤ nI 6 from nI_le (a := 6) (Nat.le_refl _) (by omega))]
      exact ⟨_, ps, rfl, fun q hq => h q (by omega) hq⟩
    · rw [if_neg (show ¬ (6 : Int32) ≤ nI p from nI_ge (b := 6) (by omega) (by omega)), show (4 : Int32) + nI p = nI (4 + p) from nI_add 4 p, chk_vin (by omega) (by omega), nI_clamp (by omega), lt_eq, chk_vin (by omega) (by omega), nI_clamp (by omega), lt_eq, nI_1]
      refine ih (p + 1) _ (by omega) (by omega) (fun q hq hq2 => ?_)
      by_cases z : q = p
      · subst z
        rw [upd_s]
        exact ((mmo_un hM).2.2.2.2.2.1 q hq2).1
      · rw [upd_n _ _ z]
        exact h q (by omega) hq2
theorem way68 {R : Nat → Nat} {m : Nat} {row : Nat → Int32} (hPV : PV np nd po fr hm wh pl fm tl wo) (hMo : PMo np nd po fr hm wh pl fm tl wo t) (hm8 : m ≤ 8) (hR : ∀ k, k < m → R k < nd ∧ row k = nI (R k)) (W0 : Wy) : ∀ (f k : Nat) (W : Wy) (f5 h4 s3 h2 : Int32) (ps : Nat → Int32), k ≤ m → m < k + f → WV np W → wrun wh pl fm tl W0 R k = some W → WMo np W f5 h4 s3 h2 ps →
    ∃ (c : Nat) (x1 x2 x3 x4 x5 : Int32) (ps' : Nat → Int32), fX11_wayOf_68 (nI m) t row f (nI k) f5 h4 s3 h2 ps = some (c, x1, x2, x3, x4, x5, ps') ∧ ((c = 0 ∧ ∃ W', wrun wh pl fm tl W0 R m = some W' ∧ x5 = nI (yH W')) ∨ (¬ c = 0 ∧ wrun wh pl fm tl W0 R m = none)) := by
  have hnp := hPV.1
  have hnd := hPV.2.1
  intro f
  induction f with
  | zero => intro k W f5 h4 s3 h2 ps a b; omega
  | succ f ih =>
    intro k W f5 h4 s3 h2 ps ha hb hW hr hS
    rw [fX11_wayOf_68]
    by_cases e : k = m
    · subst e
      rw [if_pos (nI_le (Nat.le_refl _) (by omega))]
      exact ⟨_, _, _, _, _, _, _, rfl, Or.inl ⟨rfl, W, hr, hS.2.1⟩⟩
    · obtain ⟨hd, hrow⟩ := hR k (by omega)
      have hnx : wrun wh pl fm tl W0 R (k + 1) = wst wh pl fm tl W (R k) := by rw [wrun, hr, Option.bind_some]
      generalize R k = d at hd hrow hnx
      obtain ⟨w1, w2, w3, w4, w5, w6⟩ := hPV.2.2.2.2.2 d hd
      obtain ⟨b1, b2, b3, b4, b5⟩ := hMo.2.2.2.2.2 d hd
      obtain ⟨c1, c2, c3, ho, c4, c5, c6⟩ := hS
      have hho : ∀ k, ho = some k → k < 2 ^ 31 := fun k hk => by
        have := c5 k hk
        omega
      have hat := hW.1 (wh d) w1
      have hsp := hW.2.1
      have hhr := hW.2.2.1
      have dl1 := dist_le (c := 30) hsp hat
      have dl2 := dist_le (c := 30) hat w2
      have hbg : wbg wh pl fm W d < 2 ^ 20 := by
        unfold wbg
        omega
      have emax : (if nI (fm d) ≤ nI (yH W + dist (yS W) (yA W (wh d)) + dist (yA W (wh d)) (pl d)) then nI (yH W + dist (yS W) (yA W (wh d)) + dist (yA W (wh d)) (pl d)) else nI (fm d)) = nI (wbg wh pl fm W d) := by
        unfold wbg
        by_cases z : yH W + dist (yS W) (yA W (wh d)) + dist (yA W (wh d)) (pl d) < fm d
        · rw [if_neg (nI_ge z (by omega)), show max (yH W + dist (yS W) (yA W (wh d)) + dist (yA W (wh d)) (pl d)) (fm d) = fm d by omega]
        · rw [if_pos (nI_le (by omega) (by omega)), show max (yH W + dist (yS W) (yA W (wh d)) + dist (yA W (wh d)) (pl d)) (fm d) = yH W + dist (yS W) (yA W (wh d)) + dist (yA W (wh d)) (pl d) by omega]
      have go : ∀ (ps2 : Nat → Int32), (∀ p, p < np → ps2 p = nI (yA W p)) → ¬ yO W = some (wh d) → ∃ (c : Nat) (x1 x2 x3 x4 x5 : Int32) (ps' : Nat → Int32), (if nI (wbg wh pl fm W d) ≤ nI (tl d) then fX11_wayOf_68 (nI m) t row f (nI (k + 1)) 0 (nI (wh d)) (nI (pl d)) (nI (wbg wh pl fm W d)) (upd ps2 (wh d) (nI (pl d))) else some (2, (nI k, f5, h4, s3, nI (wbg wh pl fm W d), ps2))) = some (c, x1, x2, x3, x4, x5, ps') ∧ ((c = 0 ∧ ∃ W', wrun wh pl fm tl W0 R m = some W' ∧ x5 = nI (yH W')) ∨ (¬ c = 0 ∧ wrun wh pl fm tl W0 R m = none)) := by
        intro ps2 hps hnb
        by_cases q2 : wbg wh pl fm W d ≤ tl d
        · have hst : wst wh pl fm tl W d = some (wnx wh pl fm W d) := by
            unfold wst
            rw [if_neg hnb, if_pos q2]
          rw [if_pos (nI_le q2 (by omega))]
          refine ih (k + 1) (wnx wh pl fm W d) 0 (nI (wh d)) (nI (pl d)) (nI (wbg wh pl fm W d)) _ (by omega) (by omega) (wst_V hPV hW hd hst).1 (by rw [hnx, hst]) ⟨rfl, rfl, fun p hp => ?_, some (wh d), rfl, fun k hk => by cases hk; exact w1, Or.inl ⟨rfl, rfl⟩⟩
          show upd ps2 (wh d) (nI (pl d)) p = nI (if p = wh d then pl d else yA W p)
          by_cases z : p = wh d
          · rw [z, upd_s, if_pos rfl]
          · rw [upd_n _ _ z, if_neg z]
            exact hps p hp
        · have hst : wst wh pl fm tl W d = none := by
            unfold wst
            rw [if_neg hnb, if_neg q2]
          rw [if_neg (nI_ge (by omega) (by omega))]
          exact ⟨_, _, _, _, _, _, _, rfl, Or.inr ⟨by decide, wrun_none (by rw [hnx, hst]) m (by omega)⟩⟩
      rw [if_neg (nI_ge (show k < m by omega) (by omega)), chk_vin (by omega) (by omega), nI_clamp (by omega), hrow, lt_eq, show (12 : Int32) + nI d = nI (12 + d) from nI_add 12 d, show (20 : Int32) + nI d = nI (20 + d) from nI_add 20 d, show (28 : Int32) + nI d = nI (28 + d) from nI_add 28 d, show (36 : Int32) + nI d = nI (36 + d) from nI_add 36 d, chk_vin (by omega) (by omega), lt_eq]
      simp (disch := omega) only [nI_clamp]
      rw [b1, b2, b3, b4, c1, c2, c4]
      by_cases q1 : ho = some (wh d)
      · rw [if_pos ((hoI_ne (by omega) hho).mpr q1)]
        rcases c6 with ⟨y1, y2⟩ | ⟨y1, y2, y3⟩
        · rw [if_pos y1]
          have hst : wst wh pl fm tl W d = none := by
            unfold wst
            rw [if_pos (by rw [y2, q1])]
          exact ⟨_, _, _, _, _, _, _, rfl, Or.inr ⟨by decide, wrun_none (by rw [hnx, hst]) m (by omega)⟩⟩
        · have hz : dist (yS W) (yA W (wh d)) = 0 := by
            rw [y3 _ q1]
            unfold dist
            rw [if_pos (Nat.le_refl _)]
            omega
          rw [if_neg (by rw [y1]; exact one_ne), if_pos ((hoI_ne (by omega) hho).mpr q1), Option.bind_some, lt_eq]
          simp (disch := omega) only [chk_vin, nI_clamp]
          rw [c3 _ w1, far_m (by omega) (by omega), Option.bind_some, lt_eq]
          have e0 : nI (yH W) + 0 + nI (dist (yA W (wh d)) (pl d)) = nI (yH W + dist (yS W) (yA W (wh d)) + dist (yA W (wh d)) (pl d)) := by
            rw [show (0 : Int32) = nI 0 from rfl, nI_add, nI_add, hz]
          rw [e0, emax, lt_eq, lt_eq, lt_eq, lt_eq, upd_s, nI_1]
          obtain ⟨c, x1, x2, x3, x4, x5, ps', g1, g2⟩ := go ps c3 (by rw [y2]; intro z; cases z)
          rw [c1, c4] at g1
          exact ⟨c, x1, x2, x3, x4, x5, ps', g1, g2⟩
      · rw [if_neg (fun z => q1 ((hoI_ne (by omega) hho).mp z)), if_neg (fun z => q1 ((hoI_ne (by omega) hho).mp z))]
        have hnb : ¬ yO W = some (wh d) := by
          rcases c6 with ⟨y1, y2⟩ | ⟨y1, y2, y3⟩
          · rw [y2]; exact q1
          · rw [y2]; intro z; cases z
        simp (disch := omega) only [chk_vin, nI_clamp]
        rw [c3 _ w1, far_m (by omega) (by omega), Option.bind_some, Option.bind_some, lt_eq, far_m (by omega) (by omega), Option.bind_some, lt_eq, nI_add, nI_add, emax, lt_eq, lt_eq, lt_eq, lt_eq, upd_s, nI_1]
        obtain ⟨c, x1, x2, x3, x4, x5, ps', g1, g2⟩ := go ps c3 hnb
        rw [c1, c4] at g1
        exact ⟨c, x1, x2, x3, x4, x5, ps', g1, g2⟩
def wyI : Option Wy → Int32
  | none => -1
  | some W => nI (yH W)
theorem way_m {R : Nat → Nat} {m : Nat} {row ps : Nat → Int32} (hPV : PV np nd po fr hm wh pl fm tl wo) (hMo : PMo np nd po fr hm wh pl fm tl wo t) (hV : MVa np nd a) (hM : MMo np a s 0) (hm8 : m ≤ 8) (hR : ∀ k, k < m → R k < nd ∧ row k = nI (R k)) : ∃ ps' : Nat → Int32, fX11_wayOf t s row ps (nI m) = some (wyI (wrun wh pl fm tl (w0 po a) R m), ps') := by
  have hnp := hPV.1
  obtain ⟨g0, g1, g2, g3, g4, g5, g6⟩ := mmo_un hM
  unfold fX11_wayOf
  obtain ⟨y, ps2, e1, e2⟩ := way2 hM hnp FU 0 ps (by omega) (by unfold FU; omega) (fun q hq => by omega)
  have e1' : fX11_wayOf_2 s FU 0 ps = some (y, ps2) := e1
  rw [e1', Option.bind_some, lt_eq, spoon_m hV hM hnp hMo.2.2.1, Option.bind_some, lt_eq, lt_eq]
  have hS : WMo np (w0 po a) (if s 3 = 1 then (1 : Int32) else 0) (s 1) (nI (aSp po a)) (s 0) ps2 := by
    refine ⟨rfl, g0, e2, aO a, g1, fun k hk => (hV.2.2.2.1 k hk).1, ?_⟩
    have hF := hV.2.1
    rw [g3]
    by_cases q : aF a = 1
    · right
      refine ⟨by rw [q]; rfl, if_pos q, fun k hk => aSp_some hk⟩
    · left
      refine ⟨by rw [show aF a = 0 by omega]; rfl, if_neg q⟩
  obtain ⟨c, x1, x2, x3, x4, x5, ps', f1, f2⟩ := way68 hPV hMo hm8 hR (w0 po a) FU 0 (w0 po a) _ _ _ _ _ (Nat.zero_le _) (by unfold FU; omega) (w0_V hPV hV) rfl hS
  have f1' : fX11_wayOf_68 (nI m) t row FU 0 (if s 3 = 1 then (1 : Int32) else 0) (s 1) (nI (aSp po a)) (s 0) ps2 = some (c, x1, x2, x3, x4, x5, ps') := f1
  rw [f1', Option.bind_some]
  rcases f2 with ⟨y1, W', y2, y3⟩ | ⟨y1, y2⟩
  · rw [if_pos y1, y2]
    exact ⟨_, by rw [y3]; rfl⟩
  · rw [if_neg y1, y2]
    by_cases z : c = 1
    · rw [if_pos z]
      exact ⟨_, rfl⟩
    · rw [if_neg z]
      exact ⟨_, rfl⟩
/-- may be the next of a row -/
def mb (dn : Nat) (R : Nat → Nat) (d : Nat) : Nat → Bool
  | 0 => !dn.testBit d
  | k + 1 => mb dn R d k && !(decide (R k = d))
theorem mb_cg {dn d : Nat} {R R' : Nat → Nat} : ∀ m, (∀ k, k < m → R' k = R k) → mb dn R' d m = mb dn R d m
  | 0, _ => rfl
  | m + 1, h => by rw [mb, mb, mb_cg m (fun k hk => h k (by omega)), h m (by omega)]
def upR (R : Nat → Nat) (m d : Nat) : Nat → Nat := fun k => if k = m then d else R k
theorem upR_s (R : Nat → Nat) (m d : Nat) : upR R m d m = d := if_pos rfl
theorem upR_n (R : Nat → Nat) {m d k : Nat} (h : ¬ k = m) : upR R m d k = R k := if_neg h
theorem may17 {R : Nat → Nat} {m d dn : Nat} {row : Nat → Int32} (hm8 : m ≤ 8) (hd : d < 8) (hR : ∀ k, k < m → R k < 8 ∧ row k = nI (R k)) : ∀ (f k : Nat), k ≤ m → m < k + f → fX11_mayBe_17 (nI m) (nI d) row f (nI k) (if mb dn R d k = true then 1 else 0) = some (nI m, if mb dn R d m = true then 1 else 0) := by
  intro f
  induction f with
  | zero => intro k a b; omega
  | succ f ih =>
    intro k ha hb
    rw [fX11_mayBe_17]
    by_cases e : k = m
    · subst e
      rw [if_pos (nI_le (Nat.le_refl _) (by omega))]
    · obtain ⟨h1, h2⟩ := hR k (by omega)
      rw [if_neg (nI_ge (show k < m by omega) (by omega)), chk_vin (by omega) (by omega), nI_clamp (by omega), h2]
      have key : ((if (if mb dn R d k = true then (1 : Int32) else 0) = 0 then some 0 else (if nI (R k) = nI d then some 0 else some 1)) : Option Int32) = some (if mb dn R d (k + 1) = true then 1 else 0) := by
        rw [mb]
        cases mb dn R d k with
        | false => rfl
        | true =>
          rw [if_pos rfl, if_neg one_ne, Bool.true_and]
          by_cases z : R k = d
          · rw [if_pos (by rw [z]), decide_eq_true z]
            rfl
          · rw [if_neg (fun y => z ((nI_eq (by omega) (by omega)).mp y)), decide_eq_false z]
            rfl
      rw [key, Option.bind_some, lt_eq, nI_1]
      exact ih (k + 1) (by omega) (by omega)
theorem may_m {R : Nat → Nat} {m d : Nat} {row ps : Nat → Int32} (hPV : PV np nd po fr hm wh pl fm tl wo) (hMo : PMo np nd po fr hm wh pl fm tl wo t) (hV : MVa np nd a) (hM : MMo np a s 0) (hm8 : m ≤ 8) (hd : d < nd) (hR : ∀ k, k < m → R k < nd ∧ row k = nI (R k)) (hroom : mb (aD a) R d m = true → m < 8) :
    (mb (aD a) R d m = false ∧ fX11_mayBe t s row ps (nI m) (nI d) = some (0, row, ps)) ∨ (mb (aD a) R d m = true ∧ ∃ ps' : Nat → Int32, fX11_mayBe t s row ps (nI m) (nI d) = some (if ((wrun wh pl fm tl (w0 po a) R m).bind (fun W => wst wh pl fm tl W d)).isSome = true then 1 else 0, upd row m (nI d), ps')) := by
  have hnd := hPV.2.1
  have hdn := pow_nd hnd hV.2.2.1
  obtain ⟨g0, g1, g2, g3, g4, g5, g6⟩ := mmo_un hM
  unfold fX11_mayBe
  rw [isDone_m g4 (by omega) (by omega), Option.bind_some, lt_eq]
  have e0 : (if (if (aD a).testBit d = true then (1 : Int32) else 0) = 0 then (1 : Int32) else 0) = if mb (aD a) R d 0 = true then 1 else 0 := by
    rw [mb]
    cases (aD a).testBit d <;> rfl
  have h17 : fX11_mayBe_17 (nI m) (nI d) row FU 0 (if mb (aD a) R d 0 = true then 1 else 0) = some (nI m, if mb (aD a) R d m = true then 1 else 0) := may17 (dn := aD a) hm8 (by omega) (fun k hk => ⟨by have := (hR k hk).1; omega, (hR k hk).2⟩) FU 0 (Nat.zero_le _) (by unfold FU; omega)
  rw [e0, h17, Option.bind_some]
  cases q : mb (aD a) R d m with
  | false =>
    left
    refine ⟨rfl, ?_⟩
    rw [if_neg Bool.false_ne_true, if_pos rfl, if_pos rfl, lt_eq, chk_tt (by decide), if_pos rfl, show (0 : Int32).toNatClampNeg = 0 from rfl, upd_id]
  | true =>
    right
    have hm7 := hroom q
    have hR' : ∀ k, k < m + 1 → upR R m d k < nd ∧ upd row m (nI d) k = nI (upR R m d k) := fun k hk => by
      by_cases z : k = m
      · rw [z, upR_s, upd_s]
        exact ⟨hd, rfl⟩
      · rw [upR_n R z, upd_n _ _ z]
        exact hR k (by omega)
    obtain ⟨ps', w1⟩ := way_m (R := upR R m d) (m := m + 1) (row := upd row m (nI d)) (ps := ps) hPV hMo hV hM (by omega) hR'
    have hwr : wrun wh pl fm tl (w0 po a) (upR R m d) (m + 1) = (wrun wh pl fm tl (w0 po a) R m).bind (fun W => wst wh pl fm tl W d) := by
      rw [wrun, wrun_cg m (fun k hk => upR_n R (by omega)), upR_s]
    refine ⟨rfl, ps', ?_⟩
    rw [if_pos rfl, if_neg one_ne, if_neg one_ne, lt_eq, chk_vin (by omega) (by omega), if_neg one_ne, nI_clamp (by omega), nI_1, w1, Option.bind_some, hwr]
    cases q2 : (wrun wh pl fm tl (w0 po a) R m).bind (fun W => wst wh pl fm tl W d) with
    | none => rfl
    | some W' =>
      have hW' : yH W' ≤ 200 := (wrun_V (a := a) (R := upR R m d) hPV hV (m + 1) (fun k hk => (hR' k hk).1) W' (by rw [hwr, q2])).2.2.1
      show some (if nI (yH W') < 0 then (0 : Int32) else 1, _, _) = _
      rw [if_neg (nI_pos (by omega))]
      rfl
def wsum (wo R : Nat → Nat) (m : Nat) : Nat := sm (fun k => wo (R k)) m
theorem worthOf_m {R : Nat → Nat} {m : Nat} {row : Nat → Int32} (hPV : PV np nd po fr hm wh pl fm tl wo) (hMo : PMo np nd po fr hm wh pl fm tl wo t) (hm8 : m ≤ 8) (hR : ∀ k, k < m → R k < nd ∧ row k = nI (R k)) : fX11_worthOf t row (nI m) = some (nI (wsum wo R m)) := by
  have hnd := hPV.2.1
  have hl : ∀ (f k : Nat), k ≤ m → m < k + f → fX11_worthOf_4 (nI m) t row f (nI k) (nI (wsum wo R k)) = some (nI m, nI (wsum wo R m)) := by
    intro f
    induction f with
    | zero => intro k a b; omega
    | succ f ih =>
      intro k ha hb
      rw [fX11_worthOf_4]
      by_cases e : k = m
      · subst e
        rw [if_pos (nI_le (Nat.le_refl _) (by omega))]
      · obtain ⟨h1, h2⟩ := hR k (by omega)
        rw [if_neg (nI_ge (show k < m by omega) (by omega)), chk_vin (by omega) (by omega), nI_clamp (by omega), h2, show (44 : Int32) + nI (R k) = nI (44 + R k) from nI_add 44 _, chk_vin (by omega) (by omega), nI_clamp (by omega), (hMo.2.2.2.2.2 (R k) h1).2.2.2.2, lt_eq, nI_add, lt_eq, nI_1]
        exact ih (k + 1) (by omega) (by omega)
  unfold fX11_worthOf
  have : fX11_worthOf_4 (nI m) t row FU 0 0 = some (nI m, nI (wsum wo R m)) := hl FU 0 (Nat.zero_le _) (by unfold FU; omega)
  rw [this]
  rfl
end WAY
