/-! DRAWN -/
theorem open_c : ∀ nd, nd < 9 → ∀ dn, dn < 256 → dn < 2 ^ nd → fX2_openDeeds (nI dn) (nI nd) = some (nI ((2 ^ nd - 1) ^^^ dn)) := by decide +kernel
theorem clr_bit : ∀ op, op < 256 → ∀ d, d < 8 → op.testBit d = true → nI op &&& (((1 : Int32) <<< (nI d &&& 31)) ^^^ (-1 : Int32)) = nI (op ^^^ 2 ^ d) := by decide +kernel
def OpR (nd dn : Nat) (R : Nat → Nat) (m op : Nat) : Prop := op < 2 ^ nd ∧ (∀ d, d < nd → op.testBit d = mb dn R d m) ∧ m + pc nd op ≤ nd
theorem OpR_0 {nd dn : Nat} (R : Nat → Nat) (h : dn < 2 ^ nd) : OpR nd dn R 0 ((2 ^ nd - 1) ^^^ dn) := by
  refine ⟨Nat.xor_lt_two_pow (by have := Nat.two_pow_pos nd; omega) h, fun d hd => ?_, ?_⟩
  · rw [Nat.testBit_xor, Nat.testBit_two_pow_sub_one, decide_eq_true hd, mb]
    cases dn.testBit d <;> rfl
  · have := pc_le nd ((2 ^ nd - 1) ^^^ dn)
    omega
theorem tb_xor (op d k : Nat) : (op ^^^ 2 ^ d).testBit k = (op.testBit k != decide (d = k)) := by
  rw [Nat.testBit_xor, Nat.testBit_two_pow]
theorem OpR_step {nd dn m op d : Nat} {R : Nat → Nat} (h : OpR nd dn R m op) (hd : d < nd) (hb : op.testBit d = true) : OpR nd dn (upR R m d) (m + 1) (op ^^^ 2 ^ d) ∧ m < nd := by
  obtain ⟨h1, h2, h3⟩ := h
  have hpc : pc nd op = pc nd (op ^^^ 2 ^ d) + 1 := by
    unfold pc
    refine sm_up nd hd ?_ (fun k hk hkj => ?_)
    · rw [tb_xor, hb, decide_eq_true rfl]
      rfl
    · rw [tb_xor, decide_eq_false (fun z => hkj z.symm), Bool.bne_false]
  refine ⟨⟨Nat.xor_lt_two_pow h1 (Nat.pow_lt_pow_right (by omega) hd), fun k hk => ?_, by omega⟩, by omega⟩
  rw [tb_xor, mb, mb_cg m (fun j hj => upR_n R (by omega)), upR_s, ← h2 k hk]
  by_cases z : d = k
  · subst z
    rw [hb, decide_eq_true rfl]
    rfl
  · rw [decide_eq_false z]
    cases op.testBit k <;> rfl
theorem lN_div {a d : Nat} (ha : a < 2 ^ 31) (h0 : 0 < d) (hd : d < 2 ^ 31) : lN a / lN d = lN (a / d) := by
  apply Int64.toInt_inj.mp
  rw [lg_ldiv_nonneg (by rw [lN_toInt ha]; omega) (by rw [lN_toInt hd]; omega), lN_toInt ha, lN_toInt hd, lN_toInt (Nat.lt_of_le_of_lt (Nat.div_le_self a d) ha)]
  first | rfl | exact (Int.natCast_ediv _ _).symm
theorem lN_rem {a d : Nat} (ha : a < 2 ^ 31) (h0 : 0 < d) (hd : d < 2 ^ 31) : lN a - lN a / lN d * lN d = lN (a % d) := by
  rw [lN_div ha h0 hd, lN_mul, lN_sub (Nat.div_mul_le_self a d)]
  exact congrArg lN (by have := Nat.div_add_mod' a d; omega)
theorem wsum_up (wo R : Nat → Nat) (m d : Nat) : wsum wo (upR R m d) (m + 1) = wsum wo R m + wo d := by
  have h : sm (fun k => wo (upR R m d k)) m = sm (fun k => wo (R k)) m := sm_congr m (fun k hk => by
    show wo (upR R m d k) = wo (R k)
    rw [upR_n R (by omega)])
  unfold wsum
  rw [sm, h, upR_s]
section DRAWN
variable {np nd po fr : Nat} {hm wh pl fm tl wo : Nat → Nat} {rw' rp rf rt ro t s : Nat → Int32} {a : AM}
theorem drawn_loop {n : Nat} (hPV : PV np nd po fr hm wh pl fm tl wo) (hD : DD nd wh pl fm tl wo rw' rp rf rt ro) (hMo : PMo np nd po fr hm wh pl fm tl wo t) (hV : MVa np nd a) (hM : MMo np a s 0) (hn : n ≤ 20) (hn0 : 0 < nd) : ∀ (f i m x op : Nat) (R : Nat → Nat) (W : Wy) (sp hr ah : Int32) (at' row ps : Nat → Int32), i ≤ n → n < i + f → x ≤ 99999 → (∀ k, k < m → R k < nd ∧ row k = nI (R k)) → OpR nd (aD a) R m op → wrun wh pl fm tl (w0 po a) R m = some W → WCl np W sp hr ah at' →
    ∃ (m' : Nat) (R' : Nat → Nat) (y1 y2 y3 y4 y5 y6 : Int32) (at'' : Nat → Int32) (z1 : Int32) (z3 : Int64) (row' ps' : Nat → Int32), fX10_drawn_76 (nI n) (nI nd) rw' rp rf rt ro f (nI i) (nI x) (nI (wsum wo R m)) (nI op) sp hr ah at' = some (y1, y2, nI (wsum wo R' m'), y3, y4, y5, y6, at'') ∧ fX11_drawn_31 (nI n) t s f (nI i) (nI m) (lN x) row ps = some (z1, nI m', z3, row', ps') ∧ m' ≤ 8 ∧ ∀ k, k < m' → R' k < nd ∧ row' k = nI (R' k) := by
  have hnd := hPV.2.1
  have hp : 2 ^ nd ≤ 2 ^ 8 := Nat.pow_le_pow_right (by omega) hnd
  intro f
  induction f with
  | zero => intro i m x op R W sp hr ah at' row ps a b; omega
  | succ f ih =>
    intro i m x op R W sp hr ah at' row ps ha hb hx hR hO hr2 hC
    have hmn : m ≤ nd := by
      have := hO.2.2
      omega
    have hop : op < 2 ^ nd := hO.1
    rw [fX10_drawn_76, fX11_drawn_31]
    by_cases e : i = n
    · subst e
      rw [if_pos (nI_le (Nat.le_refl _) (by omega)), if_pos (nI_le (Nat.le_refl _) (by omega))]
      exact ⟨m, R, _, _, _, _, _, _, _, _, _, _, _, rfl, rfl, by omega, hR⟩
    · have e1 : (nI x * 75 + 74) - (nI x * 75 + 74) / 65537 * 65537 = nI ((75 * x + 74) % 65537) := by
        rw [show (75 : Int32) = nI 75 from rfl, show (74 : Int32) = nI 74 from rfl, show (65537 : Int32) = nI 65537 from rfl, pk_mul, nI_add, pk_rem (by omega) (by omega) (by omega), Nat.mul_comm x 75]
      have e2 : ((75 : Int64) * lN x + 74) - ((75 : Int64) * lN x + 74) / 65537 * 65537 = lN ((75 * x + 74) % 65537) := by
        rw [show (75 : Int64) = lN 75 from rfl, show (74 : Int64) = lN 74 from rfl, show (65537 : Int64) = lN 65537 from rfl, lN_mul, lN_add, lN_rem (by omega) (by omega) (by omega)]
      have hy : (75 * x + 74) % 65537 < 65537 := Nat.mod_lt _ (by omega)
      rw [if_neg (nI_ge (show i < n by omega) (by omega)), if_neg (nI_ge (show i < n by omega) (by omega)), e1, e2, hMo.2.1, if_neg (nI_nle hn0 (by omega)), lt_eq]
      generalize (75 * x + 74) % 65537 = y at hy
      have hd : y % nd < nd := Nat.mod_lt _ hn0
      have hl0 : ¬ lN nd = 0 := fun z => by
        have := (lN_eq (a := nd) (b := 0) (by omega) (by omega)).mp z
        omega
      rw [nI_l (show nd < 2 ^ 31 by omega), chk_tt (nI_ne0 hn0 (by omega)), lt_eq (nI y - nI y / nI nd * nI nd), lt_eq (lN y), chk_tt hl0, pk_rem (by omega) hn0 (by omega), lN_rem (by omega) hn0 (by omega), lN_i]
      generalize y % nd = d at hd
      rw [bit_v (by omega) (by omega)]
      have hWV : WV np W := wrun_V hPV hV m (fun k hk => (hR k hk).1) W hr2
      rcases may_m (row := row) (ps := ps) hPV hMo hV hM (show m ≤ 8 by omega) hd hR (fun q => by
        have q2 : op.testBit d = true := by rw [hO.2.1 d hd]; exact q
        have := (OpR_step hO hd q2).2
        omega) with ⟨q, q1⟩ | ⟨q, ps', q1⟩
      · have q2 : op.testBit d = false := by rw [hO.2.1 d hd]; exact q
        rw [q1, q2, if_neg (show ¬ nI (if false = true then 1 else 0) = 1 by decide), Option.bind_some, Option.bind_some, if_pos rfl, if_pos rfl, lt_eq, lt_eq, lt_eq, nI_1, show nI m + 0 = nI m from nI_add m 0]
        exact ih (i + 1) m y op R W sp hr ah at' row ps (by omega) (by omega) (by omega) hR hO hr2 hC
      · have q2 : op.testBit d = true := by rw [hO.2.1 d hd]; exact q
        rw [q1, q2, if_pos (show nI (if true = true then 1 else 0) = 1 from rfl), next_c hPV hD hWV hC hd, Option.bind_some, Option.bind_some, Option.bind_some, hr2, Option.bind_some]
        cases q3 : wst wh pl fm tl W d with
        | none =>
          rw [if_pos (show nxI none = -9 from rfl), if_neg (show ¬ (none : Option Wy).isSome = true from Bool.false_ne_true), if_pos rfl, lt_eq, lt_eq, lt_eq, nI_1, show nI m + 0 = nI m from nI_add m 0]
          exact ih (i + 1) m y op R W sp hr ah at' (upd row m (nI d)) ps' (by omega) (by omega) (by omega) (fun k hk => ⟨(hR k hk).1, by rw [upd_n _ _ (by omega)]; exact (hR k hk).2⟩) hO hr2 hC
        | some W' =>
          obtain ⟨v1, v2, v3, v4, v5⟩ := wst_V hPV hWV hd q3
          obtain ⟨at2, a1, a2, a3⟩ := add_c hPV hD hC hd
          rw [← v2] at a1 a3
          obtain ⟨o1, o2⟩ := OpR_step hO hd q2
          have hH := v1.2.2.1
          have hj : ¬ nxI (some W') = -9 := nxI_some (by omega)
          have a1' : fX9_add at' rw' rp (nI d) (nxI (some W')) = some (nI (pl d), nI (yH W'), nI (wh d), at2) := a1
          have hws : nI (wsum wo R m) + ro d = nI (wsum wo (upR R m d) (m + 1)) := by
            rw [(hD d hd).2.2.2.2, nI_add]
            rw [wsum_up]
          rw [if_neg hj, if_pos (show (some W').isSome = true from rfl), if_neg one_ne, a1', Option.bind_some, clr_bit op (by omega) d (by omega) q2, lt_eq, chk_vin (by omega) (by omega), nI_clamp (by omega), hws, lt_eq, lt_eq, lt_eq, lt_eq, nI_1, nI_1]
          refine ih (i + 1) (m + 1) y (op ^^^ 2 ^ d) (upR R m d) W' (nI (pl d)) (nI (yH W')) (nI (wh d)) at2 (upd row m (nI d)) ps' (by omega) (by omega) (by omega) (fun k hk => ?_) o1 ?_ a3
          · by_cases z : k = m
            · rw [z, upR_s, upd_s]
              exact ⟨hd, rfl⟩
            · rw [upR_n R z, upd_n _ _ z]
              exact hR k (by omega)
          · rw [wrun, wrun_cg m (fun k hk => upR_n R (by omega)), upR_s, hr2, Option.bind_some, q3]
end DRAWN
section DRAWN2
variable {tr : Int64} {ci : Nat → Int32} {ca : Nat → Nat → Int32} {pr : Nat → MomS} {pm : Nat → Nat → MomS} {mt : Int64} {mi : Nat → Int32} {ma : Nat → Nat → Int32}
theorem P_drawn (pg : Nat → Nat → Nat) (h : Inv tr ci ca pr pm mt mi ma) (p1 : Int32) (p2 : Int32) : ∃ o o', fX10_drawn (ci 8) (ci 11) (ca 2) (ca 3) (ca 4) (ca 5) (ca 6) ((pr 0).1) ((pr 0).2.1) ((pr 0).2.2.2.1) ((pr 0).2.2.2.2.1) ((pr 0).2.2.2.2.2.1) (ci 20) (ci 21) (ci 22) (ca 16) p1 p2 = some o ∧ fX11_drawn (ma 1) (ma 3) (ma 8) (ma 10) p1 p2 = some o' ∧ o.1 = o'.1 ∧ Inv tr (upd (upd (upd ci 20 o.2.1) 21 o.2.2.1) 22 o.2.2.2.1) (va_up ca 16 o.2.2.2.2) pr pm mt mi (va_up (va_up ma 8 o'.2.1) 10 o'.2.2) := by
  obtain ⟨htr, hT, np, nd, po, fr, hm, wh, pl, fm, tl, wo, a, hPV, hC, hMo, hL, hI0, hI1, hHe, hz, hB⟩ := id h
  have hnd := hPV.2.1
  have hI : ∀ (u v w : Int32) (r r1 r2 : Nat → Int32), Inv tr (upd (upd (upd ci 20 u) 21 v) 22 w) (va_up ca 16 r) pr pm mt mi (va_up (va_up ma 8 r1) 10 r2) := fun u v w r r1 r2 => ⟨htr, hT, np, nd, po, fr, hm, wh, pl, fm, tl, wo, a, hPV, hC, hMo, hL, hI0, hI1, hHe, hz, hB⟩
  obtain ⟨ns, hns, e16, s23, hMV, hMC, hMM, hpast⟩ := hL
  have hdn := pow_nd hnd hMV.2.2.1
  have kd : (pr 0).2.2.2.2.1 = nI (aD a) := hMC.2.2.2.2.1
  have hDD : DD nd wh pl fm tl wo (ca 2) (ca 3) (ca 4) (ca 5) (ca 6) := hC.2.2.2.2.2
  unfold fX10_drawn fX11_drawn
  rw [in_eq, in_eq, Option.bind_some, Option.bind_some]
  rcases in3 p1 0 99999 (by omega) (by omega) with q | ⟨q0, q1, q2⟩ | ⟨x, hx1, hx2, hx3, q0, q1, q2⟩
  · rw [if_pos (show p1 < 0 from q), if_pos (show p1 < 0 from q), if_pos rfl]
    exact ⟨_, _, rfl, rfl, rfl, hI _ _ _ _ _ _⟩
  · rw [if_neg (show ¬ p1 < 0 from q0), if_pos (show 99999 < p1 from q2), if_neg (show ¬ p1 < 0 from q0), if_pos (show 99999 < p1 from q2), if_pos rfl]
    exact ⟨_, _, rfl, rfl, rfl, hI _ _ _ _ _ _⟩
  rw [if_neg (show ¬ p1 < 0 from q0), if_neg (show ¬ 99999 < p1 from q2), if_neg (show ¬ p1 < 0 from q0), if_neg (show ¬ 99999 < p1 from q2), if_neg one_ne]
  rcases in3 p2 0 20 (by omega) (by omega) with q | ⟨q0, q1, q2⟩ | ⟨n, hn1, hn2, hn3, q0, q1, q2⟩
  · rw [if_pos (show p2 < 0 from q), if_pos (show p2 < 0 from q), if_pos rfl]
    exact ⟨_, _, rfl, rfl, rfl, hI _ _ _ _ _ _⟩
  · rw [if_neg (show ¬ p2 < 0 from q0), if_neg (show ¬ p2 ≤ 20 from q1), if_neg (show ¬ p2 < 0 from q0), if_pos (show 20 < p2 from q2), if_pos rfl]
    exact ⟨_, _, rfl, rfl, rfl, hI _ _ _ _ _ _⟩
  rw [if_neg (show ¬ p2 < 0 from q0), if_pos (show p2 ≤ 20 from q1), if_neg (show ¬ p2 < 0 from q0), if_neg (show ¬ 20 < p2 from q2), if_neg one_ne, lt_eq, hC.2.2.2.1]
  subst hx3
  subst hn3
  rw [nI_l (show x < 2 ^ 31 by omega)]
  by_cases z : nd = 0
  · rw [if_pos ((nI_z (by omega)).mpr z)]
    have hl : ∃ u : Int32, fX11_drawn_31 (nI n) (ma 1) (ma 3) FU 0 0 (lN x) (ma 8) (ma 10) = some (u, 0, lN x, ma 8, ma 10) := by
      unfold FU
      rw [fX11_drawn_31]
      by_cases y : nI n ≤ 0
      · rw [if_pos y]
        exact ⟨_, rfl⟩
      · rw [if_neg y, hMo.2.1, if_pos (show nI nd ≤ 0 by rw [z]; decide)]
        exact ⟨_, rfl⟩
    obtain ⟨u, hl⟩ := hl
    have hw : fX11_worthOf (ma 1) (ma 8) 0 = some 0 := worthOf_m (R := fun _ => 0) (m := 0) (row := ma 8) hPV hMo (by omega) (fun k hk => by omega)
    rw [hl, Option.bind_some, hw, Option.bind_some]
    exact ⟨_, _, rfl, rfl, rfl, hI _ _ _ _ _ _⟩
  · obtain ⟨sp, hr, ah, at', b1, b2⟩ := begin_c hPV hMV hMC (ca 16)
    rw [if_neg (fun y => z ((nI_z (by omega)).mp y)), hC.1, b1, Option.bind_some, kd, open_c nd (by omega) (aD a) hdn hMV.2.2.1, Option.bind_some]
    obtain ⟨m', R', y1, y2, y3, y4, y5, y6, at'', z1, z3, row', ps', c1, c2, c3, c4⟩ := drawn_loop (n := n) hPV hDD hMo hMV hMM hn2 (by omega) FU 0 0 x _ (fun _ => 0) (w0 po a) sp hr ah at' (ma 8) (ma 10) (Nat.zero_le _) (by unfold FU; omega) hx2 (fun k hk => by omega) (OpR_0 _ hMV.2.2.1) rfl b2
    have c1' : fX10_drawn_76 (nI n) (nI nd) (ca 2) (ca 3) (ca 4) (ca 5) (ca 6) FU 0 (nI x) 0 (nI ((2 ^ nd - 1) ^^^ aD a)) sp hr ah at' = some (y1, y2, nI (wsum wo R' m'), y3, y4, y5, y6, at'') := c1
    have c2' : fX11_drawn_31 (nI n) (ma 1) (ma 3) FU 0 0 (lN x) (ma 8) (ma 10) = some (z1, nI m', z3, row', ps') := c2
    rw [c1', c2', Option.bind_some, Option.bind_some, worthOf_m hPV hMo c3 c4, Option.bind_some]
    exact ⟨_, _, rfl, rfl, rfl, hI _ _ _ _ _ _⟩
end DRAWN2
