/-! ODDS -/
def cntw (w : Nat) : Nat → Nat
  | 0 => 0
  | i + 1 => cntw w i + (if w.testBit i then 1 else 0)
def wtw (x w : Nat) : Nat → Nat
  | 0 => 1
  | i + 1 => wtw x w i * (if w.testBit i then x else 10 - x)
def sumw (m x k : Nat) : Nat → Nat
  | 0 => 0
  | w + 1 => sumw m x k w + (if k < cntw w m then 0 else wtw x w m)
def Aw (x : Nat) : Nat → Nat → Nat
  | 0, 0 => 1
  | 0, _ + 1 => 0
  | i + 1, 0 => Aw x i 0 * (10 - x)
  | i + 1, j + 1 => Aw x i (j + 1) * (10 - x) + Aw x i j * x
def Uw (m x : Nat) : Nat → Nat
  | 0 => 0
  | j + 1 => Uw m x j + Aw x m j
set_option maxRecDepth 100000 in
theorem odds_sum : ∀ m, m < 9 → ∀ x, x < 11 → ∀ k, k < 9 → sumw m x k (2 ^ m) = Uw m x (min (k + 1) (m + 1)) := by decide +kernel
theorem cntw_le (w : Nat) : ∀ i, cntw w i ≤ i
  | 0 => Nat.le_refl _
  | i + 1 => by
    have := cntw_le w i
    rw [cntw]
    split <;> omega
theorem Aw_0 (x : Nat) : ∀ i j, i < j → Aw x i j = 0
  | 0, 0, h => by omega
  | 0, j + 1, _ => rfl
  | i + 1, 0, h => by omega
  | i + 1, j + 1, h => by rw [Aw, Aw_0 x i (j + 1) (by omega), Aw_0 x i j (by omega), Nat.zero_mul, Nat.zero_mul]
set_option maxRecDepth 100000 in
theorem open_cnt : ∀ nd, nd < 9 → ∀ dn, dn < 256 → dn < 2 ^ nd → (fX2_openDeeds (nI dn) (nI nd)).bind (fun o => fJ6_bitCount_0f7a4 o) = some (nI (nd - cntw dn nd)) := by decide +kernel
theorem odds40 {nd dn : Nat} {t s : Nat → Int32} (hnd : nd ≤ 8) (hdn : dn < 256) (ht : t 1 = nI nd) (hs : s 22 = nI dn) : ∀ (f d : Nat), d ≤ nd → nd < d + f → fX11_odds_40 t s f (nI d) (nI (10 ^ (d - cntw dn d))) (nI (d - cntw dn d)) = some (nI nd, nI (10 ^ (nd - cntw dn nd)), nI (nd - cntw dn nd)) := by
  intro f
  induction f with
  | zero => intro d a b; omega
  | succ f ih =>
    intro d a b
    rw [fX11_odds_40, ht]
    by_cases e : d = nd
    · subst e
      rw [if_pos (nI_le (Nat.le_refl _) (by omega))]
    · rw [if_neg (nI_ge (show d < nd by omega) (by omega)), isDone_m hs (by omega) (by omega), Option.bind_some, lt_eq, Option.bind_some, lt_eq, lt_eq, nI_1]
      have hc := cntw_le dn d
      have hs := ih (d + 1) (by omega) (by omega)
      rw [cntw] at hs
      cases q : dn.testBit d with
      | true =>
        rw [q, if_pos rfl, show d + 1 - (cntw dn d + 1) = d - cntw dn d by omega] at hs
        rw [if_pos rfl, if_neg one_ne, if_neg one_ne, Int32.add_zero, Int32.mul_one]
        exact hs
      | false =>
        rw [q, if_neg Bool.false_ne_true, show d + 1 - (cntw dn d + 0) = (d - cntw dn d) + 1 by omega, Nat.pow_succ] at hs
        rw [if_neg Bool.false_ne_true, if_pos rfl, if_pos rfl, nI_1, show nI (10 ^ (d - cntw dn d)) * (10 : Int32) = nI (10 ^ (d - cntw dn d) * 10) from pk_mul _ 10]
        exact hs
theorem bit_v {w i : Nat} (hw : w < 2 ^ 31) (hi : i < 32) : (nI w >>> (nI i &&& 31)) &&& 1 = nI (if w.testBit i then 1 else 0) := by
  rw [pk_shrN hw _ i (sl31 i hi), show (1 : Int32) = nI 1 from rfl, pk_andN (n := w / 2 ^ i) (m := nI 1) (by
    have : w / 2 ^ i ≤ w := Nat.div_le_self _ _
    omega) 1 rfl, Nat.testBit_eq_decide_div_mod_eq]
  have h2 : w / 2 ^ i % 2 ^ 1 < 2 := Nat.mod_lt _ (by decide)
  rcases (show w / 2 ^ i % 2 ^ 1 = 0 ∨ w / 2 ^ i % 2 ^ 1 = 1 by omega) with h | h
  · rw [h]
    rfl
  · rw [h]
    rfl
theorem odds120 {m x w : Nat} (hm : m ≤ 8) (hx : x ≤ 10) (hw : w < 256) : ∀ (f i : Nat), i ≤ m → m < i + f → fX11_odds_120 (nI w) (nI m) (nI x) f (nI i) (nI (cntw w i)) (nI (wtw x w i)) = some (nI m, nI (cntw w m), nI (wtw x w m)) := by
  intro f
  induction f with
  | zero => intro d a b; omega
  | succ f ih =>
    intro i a b
    rw [fX11_odds_120]
    by_cases e : i = m
    · subst e
      rw [if_pos (nI_le (Nat.le_refl _) (by omega))]
    · rw [if_neg (nI_ge (show i < m by omega) (by omega)), has_eq, isDone_c (by omega) (by omega), Option.bind_some, bit_v (by omega) (by omega), lt_eq, lt_eq, lt_eq, nI_1, nI_add]
      have hs := ih (i + 1) (by omega) (by omega)
      rw [cntw, wtw] at hs
      cases q : w.testBit i with
      | true =>
        rw [q, if_pos rfl, if_pos rfl] at hs
        rw [if_pos rfl, if_pos rfl, if_neg one_ne, pk_mul]
        exact hs
      | false =>
        rw [q, if_neg Bool.false_ne_true, if_neg Bool.false_ne_true] at hs
        rw [if_neg Bool.false_ne_true, if_neg Bool.false_ne_true, if_pos rfl, show (10 : Int32) - nI x = nI (10 - x) by rw [show (10 : Int32) = nI 10 from rfl, pk_sub hx], pk_mul]
        exact hs
theorem pow_sh : ∀ m, m < 9 → (1 : Int32) <<< (nI m &&& 31) = nI (2 ^ m) := by decide +kernel
theorem odds102 {m x k : Nat} (hm : m ≤ 8) (hx : x ≤ 10) (hk : k ≤ 8) : ∀ (f w : Nat), w ≤ 2 ^ m → 2 ^ m < w + f → fX11_odds_102 (nI m) (nI x) (nI k) f (nI w) (nI (sumw m x k w)) = some (nI (2 ^ m), nI (sumw m x k (2 ^ m))) := by
  have hp : 2 ^ m ≤ 2 ^ 8 := Nat.pow_le_pow_right (by omega) hm
  intro f
  induction f with
  | zero => intro d a b; omega
  | succ f ih =>
    intro w a b
    rw [fX11_odds_102, pow_sh m (by omega)]
    by_cases e : w = 2 ^ m
    · subst e
      rw [if_pos (nI_le (Nat.le_refl _) (by omega))]
    · have h1 : fX11_odds_120 (nI w) (nI m) (nI x) FU 0 0 1 = some (nI m, nI (cntw w m), nI (wtw x w m)) := odds120 hm hx (by omega) FU 0 (by omega) (by unfold FU; omega)
      have hc := cntw_le w m
      rw [if_neg (nI_ge (show w < 2 ^ m by omega) (by omega)), h1, Option.bind_some, lt_eq, lt_eq, nI_1]
      dsimp only
      have hs := ih (w + 1) (by omega) (by omega)
      rw [sumw] at hs
      by_cases q : k < cntw w m
      · rw [if_pos q] at hs
        rw [if_pos ((nI_ltd (by omega) (by omega)).mpr q), show nI (sumw m x k w) + (0 : Int32) = nI (sumw m x k w + 0) from nI_add _ 0]
        exact hs
      · rw [if_neg q] at hs
        rw [if_neg (fun z => q ((nI_ltd (by omega) (by omega)).mp z)), nI_add]
        exact hs
theorem ways35 {x i : Nat} (hx : x ≤ 10) (hi : i ≤ 7) : ∀ (f t : Nat) (r : Nat → Int32), t ≤ i → t < f → (∀ j, j ≤ t → r j = nI (Aw x i j)) → (∀ j, t < j → j ≤ i + 1 → r j = nI (Aw x (i + 1) j)) →
    ∃ (y : Int32) (r' : Nat → Int32), fX3_countWays_35 (nI x) f (nI t) r = some (y, r') ∧ r' 0 = nI (Aw x i 0) ∧ ∀ j, 0 < j → j ≤ i + 1 → r' j = nI (Aw x (i + 1) j) := by
  intro f
  induction f with
  | zero => intro t r a b; omega
  | succ f ih =>
    intro t r a b h1 h2
    rw [fX3_countWays_35]
    by_cases e : t = 0
    · subst e
      rw [if_pos (show nI 0 ≤ 0 by decide)]
      exact ⟨_, r, rfl, h1 0 (Nat.le_refl _), fun j j1 j2 => h2 j j1 j2⟩
    · obtain ⟨t, rfl⟩ : ∃ g, t = g + 1 := ⟨t - 1, by omega⟩
      have es : nI (t + 1) - 1 = nI t := by rw [show (1 : Int32) = nI 1 from rfl, pk_sub (by omega), Nat.add_sub_cancel]
      have es2 : nI (t + 1) + -1 = nI t := by rw [← Int32.sub_eq_add_neg]; exact es
      rw [if_neg (show ¬ nI (t + 1) ≤ 0 from nI_ge (a := 0) (by omega) (by omega)), es, es2]
      simp (disch := omega) only [chk_vin, nI_clamp, lt_eq]
      rw [show (10 : Int32) - nI x = nI (10 - x) by rw [show (10 : Int32) = nI 10 from rfl, pk_sub hx]]
      have ev : r (t + 1) * nI (10 - x) + r t * nI x = nI (Aw x (i + 1) (t + 1)) := by
        rw [h1 (t + 1) (Nat.le_refl _), h1 t (by omega), pk_mul, pk_mul, nI_add, Aw]
      rw [ev]
      refine ih t _ (by omega) (by omega) (fun j hj => ?_) (fun j hj hj2 => ?_)
      · rw [upd_n _ _ (by omega)]
        exact h1 j (by omega)
      · by_cases z : j = t + 1
        · subst z
          exact upd_s _ _ _
        · rw [upd_n _ _ z]
          exact h2 j (by omega) hj2
theorem ways9 {x m : Nat} (hx : x ≤ 10) (hm : m ≤ 8) : ∀ (f i : Nat) (r : Nat → Int32), i ≤ m → m < i + f → (∀ j, j ≤ i → r j = nI (Aw x i j)) →
    ∃ (y : Int32) (r' : Nat → Int32), fX3_countWays_9 (nI m) (nI x) f (nI (i + 1)) r = some (y, r') ∧ ∀ j, j ≤ m → r' j = nI (Aw x m j) := by
  intro f
  induction f with
  | zero => intro i r a b; omega
  | succ f ih =>
    intro i r a b h
    rw [fX3_countWays_9]
    by_cases e : i = m
    · subst e
      rw [if_pos (nI_lt (show i < i + 1 by omega) (by omega))]
      exact ⟨_, r, rfl, h⟩
    · have es : nI (i + 1) - 1 = nI i := by rw [show (1 : Int32) = nI 1 from rfl, pk_sub (by omega), Nat.add_sub_cancel]
      rw [if_neg (nI_nlt (show i + 1 ≤ m by omega) (by omega)), es]
      simp (disch := omega) only [chk_vin, nI_clamp, lt_eq]
      rw [h i (Nat.le_refl _), pk_mul]
      have eA : Aw x (i + 1) (i + 1) = Aw x i i * x := by rw [Aw, Aw_0 x i (i + 1) (by omega), Nat.zero_mul, Nat.zero_add]
      obtain ⟨y, r', r1, r2, r3⟩ := ways35 (x := x) (i := i) hx (by omega) FU i (upd r (i + 1) (nI (Aw x i i * x))) (Nat.le_refl _) (by unfold FU; omega) (fun j hj => by rw [upd_n _ _ (by omega)]; exact h j hj) (fun j hj hj2 => by rw [show j = i + 1 by omega, upd_s, eA])
      rw [r1, Option.bind_some, show (10 : Int32) - nI x = nI (10 - x) by rw [show (10 : Int32) = nI 10 from rfl, pk_sub hx], nI_1]
      dsimp only
      rw [r2, pk_mul]
      refine ih (i + 1) _ (by omega) (by omega) (fun j hj => ?_)
      by_cases z : j = 0
      · subst z
        rw [upd_s, Aw]
      · rw [upd_n _ _ z]
        exact r3 j (by omega) (by omega)
theorem find14 {x m k : Nat} {r : Nat → Int32} (hm : m ≤ 8) (hk : k ≤ 8) (hr : ∀ j, j ≤ m → r j = nI (Aw x m j)) : ∀ (f j : Nat), j ≤ min (k + 1) (m + 1) → min (k + 1) (m + 1) < j + f → ∃ y, fX3_find_14 (nI m) (nI k) r f (nI j) (nI (Uw m x j)) = some (y, nI (Uw m x (min (k + 1) (m + 1)))) := by
  intro f
  induction f with
  | zero => intro j a b; omega
  | succ f ih =>
    intro j a b
    rw [fX3_find_14]
    by_cases q1 : k < j
    · rw [if_pos (nI_lt q1 (by omega)), show min (k + 1) (m + 1) = j by omega]
      exact ⟨_, rfl⟩
    · rw [if_neg (nI_nlt (show j ≤ k by omega) (by omega))]
      by_cases q2 : m < j
      · rw [if_pos (nI_lt q2 (by omega)), show min (k + 1) (m + 1) = j by omega]
        exact ⟨_, rfl⟩
      · rw [if_neg (nI_nlt (show j ≤ m by omega) (by omega)), chk_vin (by omega) (by omega), nI_clamp (by omega), hr j (by omega), nI_add, lt_eq, lt_eq, nI_1]
        have := ih (j + 1) (by omega) (by omega)
        rw [Uw] at this
        exact this
theorem find56 {m : Nat} (hm : m ≤ 8) : ∀ (f j : Nat), j ≤ m → m < j + f → fX3_find_56 (nI m) f (nI j) (nI (10 ^ j)) = some (nI m, nI (10 ^ m)) := by
  intro f
  induction f with
  | zero => intro j a b; omega
  | succ f ih =>
    intro j a b
    rw [fX3_find_56]
    by_cases e : j = m
    · subst e
      rw [if_pos (nI_le (Nat.le_refl _) (by omega))]
    · rw [if_neg (nI_ge (show j < m by omega) (by omega)), show nI (10 ^ j) * (10 : Int32) = nI (10 ^ (j + 1)) from pk_mul _ 10, lt_eq, lt_eq, nI_1]
      exact ih (j + 1) (by omega) (by omega)
/-- the fraction shortened: by the class and by the reference -/
def shortC (m : Nat) (U L : Int32) : Option (Int32 × Int32) := (fX3_takeOut U L 2 (nI m)).bind (fun o => fX3_takeOut o.1 o.2 5 (nI m))
def shortB (m : Nat) (U L : Int32) : Bool := match shortC m U L, fX11_odds_199 FU L U with
  | some c, some y => decide (¬ y.2 = 0 ∧ c.1 = U / y.2 ∧ c.2 = L / y.2)
  | _, _ => false
set_option maxRecDepth 100000 in
theorem short_ok : ∀ m, m < 9 → ∀ x, x < 11 → ∀ k, k < 9 → shortB m (nI (Uw m x (min (k + 1) (m + 1)))) (nI (10 ^ m)) = true := by decide +kernel
theorem short_un {m : Nat} {U L : Int32} (h : shortB m U L = true) : ∃ (c : Int32 × Int32) (y : Int32 × Int32), shortC m U L = some c ∧ fX11_odds_199 FU L U = some y ∧ ¬ y.2 = 0 ∧ c.1 = U / y.2 ∧ c.2 = L / y.2 := by
  unfold shortB at h
  cases h1 : shortC m U L with
  | none => rw [h1] at h; cases h
  | some c =>
    cases h2 : fX11_odds_199 FU L U with
    | none => rw [h1, h2] at h; cases h
    | some y =>
      rw [h1, h2] at h
      have := of_decide_eq_true h
      exact ⟨c, y, rfl, rfl, this⟩
section ODDS
variable {tr : Int64} {ci : Nat → Int32} {ca : Nat → Nat → Int32} {pr : Nat → MomS} {pm : Nat → Nat → MomS} {mt : Int64} {mi : Nat → Int32} {ma : Nat → Nat → Int32}
theorem P_odds (pg : Nat → Nat → Nat) (h : Inv tr ci ca pr pm mt mi ma) (p1 : Int32) (p2 : Int32) (p3 : Int32) : ∃ o o', fX10_odds (ci 11) ((pr 0).2.2.2.2.1) (ci 27) (ci 28) (ca 20) p1 p2 p3 = some o ∧ fX11_odds (ma 1) (ma 3) p1 p2 p3 = some o' ∧ o.1 = o' ∧ Inv tr (upd (upd ci 27 o.2.1) 28 o.2.2.1) (va_up ca 20 o.2.2.2) pr pm mt mi ma := by
  obtain ⟨htr, hT, np, nd, po, fr, hm, wh, pl, fm, tl, wo, a, hPV, hC, hMo, hL, hI0, hI1, hHe, hz, hB⟩ := id h
  have hnd := hPV.2.1
  have hI : ∀ (u v : Int32) (r : Nat → Int32), Inv tr (upd (upd ci 27 u) 28 v) (va_up ca 20 r) pr pm mt mi ma := fun u v r => ⟨htr, hT, np, nd, po, fr, hm, wh, pl, fm, tl, wo, a, hPV, hC, hMo, hL, hI0, hI1, hHe, hz, hB⟩
  obtain ⟨ns, hns, e16, s23, hMV, hMC, hMM, hpast⟩ := hL
  have hdn := pow_nd hnd hMV.2.2.1
  have kd : (pr 0).2.2.2.2.1 = nI (aD a) := hMC.2.2.2.2.1
  have gd : ma 3 22 = nI (aD a) := (mmo_un hMM).2.2.2.2.1
  unfold fX10_odds fX11_odds
  rw [in_eq, in_eq, in_eq, Option.bind_some, Option.bind_some, Option.bind_some]
  rcases in3 p1 0 10 (by omega) (by omega) with q | ⟨q0, q1, q2⟩ | ⟨x, hx1, hx2, hx3, q0, q1, q2⟩
  · rw [if_pos (show p1 < 0 from q), if_pos (show p1 < 0 from q), if_pos rfl]
    exact ⟨_, _, rfl, rfl, rfl, hI _ _ _⟩
  · rw [if_neg (show ¬ p1 < 0 from q0), if_pos (show 10 < p1 from q2), if_neg (show ¬ p1 < 0 from q0), if_pos (show 10 < p1 from q2), if_pos rfl]
    exact ⟨_, _, rfl, rfl, rfl, hI _ _ _⟩
  rw [if_neg (show ¬ p1 < 0 from q0), if_neg (show ¬ 10 < p1 from q2), if_neg (show ¬ p1 < 0 from q0), if_neg (show ¬ 10 < p1 from q2), if_neg one_ne]
  rcases in3 p2 0 8 (by omega) (by omega) with q | ⟨q0, q1, q2⟩ | ⟨k, hk1, hk2, hk3, q0, q1, q2⟩
  · rw [if_pos (show p2 < 0 from q), if_pos (show p2 < 0 from q), if_pos rfl]
    exact ⟨_, _, rfl, rfl, rfl, hI _ _ _⟩
  · rw [if_neg (show ¬ p2 < 0 from q0), if_pos (show 8 < p2 from q2), if_neg (show ¬ p2 < 0 from q0), if_pos (show 8 < p2 from q2), if_pos rfl]
    exact ⟨_, _, rfl, rfl, rfl, hI _ _ _⟩
  rw [if_neg (show ¬ p2 < 0 from q0), if_neg (show ¬ 8 < p2 from q2), if_neg (show ¬ p2 < 0 from q0), if_neg (show ¬ 8 < p2 from q2), if_neg one_ne]
  rcases in3 p3 0 1 (by omega) (by omega) with q | ⟨q0, q1, q2⟩ | ⟨w, hw1, hw2, hw3, q0, q1, q2⟩
  · rw [if_pos (show p3 < 0 from q), if_pos (show p3 < 0 from q), if_pos rfl]
    exact ⟨_, _, rfl, rfl, rfl, hI _ _ _⟩
  · rw [if_neg (show ¬ p3 < 0 from q0), if_neg (show ¬ p3 ≤ 1 from q1), if_neg (show ¬ p3 < 0 from q0), if_pos (show 1 < p3 from q2), if_pos rfl]
    exact ⟨_, _, rfl, rfl, rfl, hI _ _ _⟩
  rw [if_neg (show ¬ p3 < 0 from q0), if_pos (show p3 ≤ 1 from q1), if_neg (show ¬ p3 < 0 from q0), if_neg (show ¬ 1 < p3 from q2), if_neg one_ne]
  subst hx3
  subst hk3
  have h1 := open_cnt nd (by omega) (aD a) hdn hMV.2.2.1
  have h2 : fX11_odds_40 (ma 1) (ma 3) FU 0 1 0 = some (nI nd, nI (10 ^ (nd - cntw (aD a) nd)), nI (nd - cntw (aD a) nd)) := odds40 hnd hdn hMo.2.1 gd FU 0 (by omega) (by unfold FU; omega)
  have hm8 : nd - cntw (aD a) nd ≤ 8 := by omega
  rw [hC.2.2.2.1, kd, h2, Option.bind_some]
  dsimp only
  generalize hm' : nd - cntw (aD a) nd = m at *
  have h3 : fX11_odds_102 (nI m) (nI x) (nI k) FU 0 0 = some (nI (2 ^ m), nI (sumw m x k (2 ^ m))) := odds102 hm8 hx2 hk2 FU 0 (Nat.zero_le _) (by
    have hp : 2 ^ m ≤ 2 ^ 8 := Nat.pow_le_pow_right (by omega) hm8
    unfold FU
    omega)
  rw [h3, Option.bind_some]
  dsimp only
  obtain ⟨c, y, s1, s2, s3, s4, s5⟩ := short_un (short_ok m (by omega) x (by omega) k (by omega))
  rw [odds_sum m (by omega) x (by omega) k (by omega), s2, Option.bind_some, chk_tt s3, chk_tt s3]
  obtain ⟨y1, r', r1, r2⟩ := ways9 (x := x) (m := m) hx2 hm8 FU 0 (upd (ca 20) 0 1) (by omega) (by unfold FU; omega) (fun j hj => by rw [show j = 0 by omega, upd_s]; rfl)
  have r1' : fX3_countWays (ca 20) (nI m) (nI x) = some r' := by
    unfold fX3_countWays
    have : fX3_countWays_9 (nI m) (nI x) FU 1 (upd (ca 20) 0 1) = some (y1, r') := r1
    rw [this]
    rfl
  obtain ⟨y2, u1⟩ := find14 (x := x) (m := m) (k := k) hm8 hk2 r2 FU 0 (by omega) (by unfold FU; omega)
  have u1' : fX3_find_14 (nI m) (nI k) r' FU 0 0 = some (y2, nI (Uw m x (min (k + 1) (m + 1)))) := u1
  have u2 : fX3_find_56 (nI m) FU 0 1 = some (nI m, nI (10 ^ m)) := find56 hm8 FU 0 (by omega) (by unfold FU; omega)
  have hf : fX3_find (ca 20) (nI m) (nI x) (nI k) = some (c.1, c.2, r') := by
    unfold fX3_find
    rw [r1', Option.bind_some, u1', Option.bind_some, u2, Option.bind_some]
    dsimp only
    unfold shortC at s1
    cases g : fX3_takeOut (nI (Uw m x (min (k + 1) (m + 1)))) (nI (10 ^ m)) 2 (nI m) with
    | none => rw [g] at s1; cases s1
    | some v =>
      rw [g, Option.bind_some] at s1
      rw [Option.bind_some, s1]
      rfl
  cases g : fX2_openDeeds (nI (aD a)) (nI nd) with
  | none => rw [g] at h1; cases h1
  | some v =>
    rw [g, Option.bind_some] at h1
    rw [Option.bind_some, h1, Option.bind_some, hf, Option.bind_some]
    refine ⟨_, if p3 = 0 then c.1 else c.2, rfl, ?_, rfl, hI _ _ _⟩
    by_cases z : p3 = 0
    · rw [if_pos z, if_pos z, Option.bind_some, s4]
    · rw [if_neg z, if_neg z, Option.bind_some, s5]
end ODDS
