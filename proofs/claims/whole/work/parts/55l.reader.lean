/-! ITEMS -/
abbrev DS : Type := Int32 × Int32 × Int32 × Int32 × (Nat → Int32) × (Nat → Int32) × (Nat → Int32) × (Nat → Int32) × (Nat → Int32) × (Nat → Int32)
abbrev RI : Type := Int32 × Int32 × Int32 × Int32 × Int32 × Int32 × Int32 × DS
abbrev RM : Type := Int32 × Int32 × Int32 × Int32 × Int32 × (Nat → Int32)
def DrA (np nd po fr : Nat) (hm wh pl fm tl wo : Nat → Nat) (o1 f1 it : Nat) (D : DS) (t : Nat → Int32) : Prop :=
  PV np nd po fr hm wh pl fm tl wo ∧ D.1 = nI po ∧ D.2.1 = nI fr ∧ D.2.2.1 = nI np ∧ D.2.2.2.1 = nI nd ∧ (∀ p, p < np → D.2.2.2.2.1 p = nI (hm p)) ∧ (∀ d, d < nd → D.2.2.2.2.2.1 d = nI (wh d) ∧ D.2.2.2.2.2.2.1 d = nI (pl d) ∧ D.2.2.2.2.2.2.2.1 d = nI (fm d) ∧ D.2.2.2.2.2.2.2.2.1 d = nI (tl d) ∧ D.2.2.2.2.2.2.2.2.2 d = nI (wo d)) ∧ PMo np nd po fr hm wh pl fm tl wo t ∧ t 4 = nI it ∧ t 5 = nI (o1 + 2 * f1) ∧ o1 ≤ 1 ∧ f1 ≤ 1
def DrR (o1 f1 it : Nat) (D : DS) (t : Nat → Int32) : Prop := ∃ (np nd po fr : Nat) (hm wh pl fm tl wo : Nat → Nat), DrA np nd po fr hm wh pl fm tl wo o1 f1 it D t
/-- an item of the class against an item and the stop behind it of the reference -/
def ItemR (n : Nat) (b : Nat → Int32) (k it : Nat) (c : Option RI) (m : Option RM) : Prop :=
  (∃ (o6 : RI) (st : Nat), c = some o6 ∧ o6.1 = 0 ∧ o6.2.2.2.1 = nI st ∧ st ≤ 180 ∧ ((∃ o7 : RM, m = some o7 ∧ o7.1 = 0 ∧ o7.2.2.2.1 = nI st) ∨ ∃ (o7 : RM) (o9 : Int32 × Int32 × Int32 × Int32), m = some o7 ∧ ¬ o7.1 = 0 ∧ fX11_token (nI n) o7.2.1 b = some o9 ∧ ¬ o9.2.1 = 3 ∧ o9.2.2.1 = nI st)) ∨
  ∃ (o6 : RI) (o7 : RM) (o9 : Int32 × Int32 × Int32 × Int32) (nx o1 f1 : Nat), c = some o6 ∧ o6.1 = 1 ∧ o6.2.1 = nI o1 ∧ o6.2.2.1 = nI f1 ∧ o6.2.2.2.2.1 = nI nx ∧ k < nx ∧ nx ≤ n ∧ m = some o7 ∧ o7.1 = 1 ∧ fX11_token (nI n) o7.2.1 b = some o9 ∧ o9.2.1 = 3 ∧ o9.1 = nI nx ∧ DrR o1 f1 it o6.2.2.2.2.2.2.2 o7.2.2.2.2.2
theorem ItemR_fail {n k it : Nat} {b : Nat → Int32} {c : Option RI} {m : Option RM} {st : Nat} (o6 : RI) (o7 : RM) (hc : c = some o6) (hm : m = some o7) (h1 : o6.1 = 0) (h2 : o6.2.2.2.1 = nI st) (h3 : o7.1 = 0) (h4 : o7.2.2.2.1 = nI st) (hst : st ≤ 180) : ItemR n b k it c m :=
  Or.inl ⟨o6, st, hc, h1, h2, hst, Or.inl ⟨o7, hm, h3, h4⟩⟩
theorem ItemR_stop {n k it k' nx st o1 f1 : Nat} {b : Nat → Int32} {c : Option RI} {m : Option RM} {s1 v1 s2 v2 ms mst mv : Int32} {D : DS} {t : Nat → Int32} (hc : c = some (if s1 = 3 then 1 else 0, nI o1, nI f1, nI st, nI nx, s1, v1, D)) (hm : m = some (1, nI k', ms, mst, mv, t)) (ht : fX11_token (nI n) (nI k') b = some (nI nx, s2, nI st, v2)) (hs : s1 = 3 ↔ s2 = 3) (h1 : k < nx) (h2 : nx ≤ n) (hst : st ≤ 180) (hD : DrR o1 f1 it D t) : ItemR n b k it c m := by
  by_cases q : s1 = 3
  · exact Or.inr ⟨_, _, _, nx, o1, f1, hc, if_pos q, rfl, rfl, rfl, h1, h2, hm, rfl, ht, hs.mp q, rfl, hD⟩
  · exact Or.inl ⟨_, st, hc, if_neg q, rfl, hst, Or.inr ⟨_, _, hm, one_ne, ht, fun z => q (hs.mpr z), rfl⟩⟩
section READER
variable {n : Nat} {x : Nat → Nat} {a b : Nat → Int32}
theorem number_cm (hn : n ≤ 180) (hx : ∀ i, i < n → x i < 256 ∧ a i = nI (x i) ∧ b i = nI (x i)) {k idx : Nat} (hk : k ≤ n) (hi : idx < 52) (lo hi' : Int32) (hh : hi'.toInt ≤ 99) (dr : Nat → Int32) :
    ∃ (ok : Int32) (st nx : Nat) (s1 v1 s2 v2 : Int32), fX5_readNumber (nI n) (nI k) a lo hi' = some (ok, nI st, nI nx, s1, v1) ∧ fX11_number (nI n) (nI k) b dr (nI idx) lo hi' = some (ok, nI nx, s2, nI st, v2, upd dr idx v2) ∧ nx ≤ n ∧ st ≤ n ∧ (ok = 0 ∨ (ok = 1 ∧ k < nx ∧ ∃ v, v ≤ 99 ∧ v1 = nI v ∧ v2 = nI v ∧ ¬ nI v < lo ∧ ¬ hi' < nI v)) := by
  obtain ⟨st, nx, s1, v1, s2, v2, r1, r2, hT, h1, h2, h3, h4⟩ := token_cm hn hx hk
  unfold fX5_readNumber fX11_number
  rw [r1, r2, Option.bind_some, Option.bind_some, chk_vin (by omega) (by omega), nI_clamp (by omega)]
  rcases hT with ⟨q1, q2⟩ | ⟨q1, q2, q3⟩ | ⟨q1, q2, v, q3, q4, q5⟩ | ⟨q1, q2⟩ | ⟨q1, q2⟩ | ⟨q1, q2, v, q3, q4, q5⟩
  · exact ⟨0, st, nx, s1, v1, s2, v2, by rw [q1]; rfl, by rw [q2]; rfl, h3, by omega, Or.inl rfl⟩
  · exact ⟨0, st, nx, s1, v1, s2, v2, by rw [q1]; rfl, by rw [q2]; rfl, h3, by omega, Or.inl rfl⟩
  · have h5 := h4 (by rw [q1]; decide)
    subst q1
    subst q2
    subst q4
    subst q5
    dsimp only
    rw [if_pos rfl, if_pos rfl, in_eq, Option.bind_some]
    by_cases z1 : nI v < lo
    · rw [if_pos z1]
      exact ⟨0, st, nx, 2, nI v, 2, nI v, rfl, rfl, h3, by omega, Or.inl rfl⟩
    · rw [if_neg z1]
      by_cases z2 : hi' < nI v
      · rw [if_pos z2]
        exact ⟨0, st, nx, 2, nI v, 2, nI v, rfl, rfl, h3, by omega, Or.inl rfl⟩
      · rw [if_neg z2]
        exact ⟨1, st, nx, 2, nI v, 2, nI v, rfl, rfl, h3, by omega, Or.inr ⟨rfl, by omega, v, q3, rfl, rfl, z1, z2⟩⟩
  · exact ⟨0, st, nx, s1, v1, s2, v2, by rw [q1]; rfl, by rw [q2]; rfl, h3, by omega, Or.inl rfl⟩
  · exact ⟨0, st, nx, s1, v1, s2, v2, by rw [q1]; rfl, by rw [q2]; rfl, h3, by omega, Or.inl rfl⟩
  · refine ⟨0, st, nx, s1, v1, s2, v2, by rw [q1]; rfl, ?_, h3, by omega, Or.inl rfl⟩
    subst q2
    subst q5
    dsimp only
    have z2 : hi' < nI v := by
      rw [Int32.lt_iff_toInt_lt, nI_toInt (by omega)]
      omega
    rw [if_pos rfl, in_eq, Option.bind_some]
    by_cases z1 : nI v < lo
    · rw [if_pos z1]
      rfl
    · rw [if_neg z1, if_pos z2]
      rfl
theorem stop_cm (hn : n ≤ 180) (hx : ∀ i, i < n → x i < 256 ∧ a i = nI (x i) ∧ b i = nI (x i)) {k : Nat} (hk : k ≤ n) :
    ∃ (st nx : Nat) (s1 v1 s2 v2 : Int32), fX5_readStop (nI n) (nI k) a = some (if s1 = 3 then 1 else 0, nI st, nI nx, s1, v1) ∧ fX11_token (nI n) (nI k) b = some (nI nx, s2, nI st, v2) ∧ (s1 = 3 ↔ s2 = 3) ∧ k ≤ nx ∧ nx ≤ n ∧ st ≤ n := by
  obtain ⟨st, nx, s1, v1, s2, v2, r1, r2, hT, h1, h2, h3, h4⟩ := token_cm hn hx hk
  refine ⟨st, nx, s1, v1, s2, v2, ?_, r2, ?_, by omega, h3, by omega⟩
  · unfold fX5_readStop
    rw [r1]
    rfl
  · rcases hT with ⟨q1, q2⟩ | ⟨q1, q2, q3⟩ | ⟨q1, q2, v, q3, q4, q5⟩ | ⟨q1, q2⟩ | ⟨q1, q2⟩ | ⟨q1, q2, v, q3, q4, q5⟩ <;> rw [q1, q2] <;> decide
theorem okZ_stop (s : Int32) : okZ (if s = 3 then 1 else 0) := okZ_ite okZ_1 okZ_0
theorem item_p (hn : n ≤ 180) (hx : ∀ i, i < n → x i < 256 ∧ a i = nI (x i) ∧ b i = nI (x i)) {k st it o1 f1 : Nat} {D : DS} {t : Nat → Int32} (hk : k ≤ n) (hst : st ≤ 180) (hD : DrR o1 f1 it D t) :
    ItemR n b k it (fX5_readItem (nI o1) (nI f1) (nI n) (nI st) (nI k) 1 112 a D.1 D.2.1 D.2.2.1 D.2.2.2.1 D.2.2.2.2.1 D.2.2.2.2.2.1 D.2.2.2.2.2.2.1 D.2.2.2.2.2.2.2.1 D.2.2.2.2.2.2.2.2.1 D.2.2.2.2.2.2.2.2.2) (fX11_readsItem (nI n) (nI k) 1 (nI st) 112 b t) := by
  obtain ⟨np, nd, po, fr, hm, wh, pl, fm, tl, wo, hPV, d1, d2, d3, d4, d5, d6, hMo, t4, t5, ho1, hf1⟩ := hD
  obtain ⟨m0, m1, m2, m3, m4, m5⟩ := id hMo
  unfold fX5_readItem fX11_readsItem
  rw [if_pos rfl, if_pos rfl, if_neg (show ¬ (112 : Int32) = 100 by decide), if_neg (show ¬ (112 : Int32) = 102 by decide), if_neg (show ¬ (112 : Int32) = 111 by decide), if_pos rfl, lt_eq, if_pos rfl, lt_eq, if_neg (show ¬ (112 : Int32) = 100 by decide), if_neg (show ¬ (112 : Int32) = 102 by decide), if_neg (show ¬ (112 : Int32) = 111 by decide), if_pos rfl, m0]
  unfold fX5_readOne
  rw [d3]
  by_cases q : np = 6
  · rw [if_pos (show (6 : Int32) ≤ nI np by rw [q]; decide), if_pos (show nI np = 6 by rw [q]; rfl)]
    exact ItemR_fail (st := st) _ _ rfl rfl rfl rfl rfl rfl hst
  · have hnp := hPV.1
    rw [if_neg (show ¬ (6 : Int32) ≤ nI np from nI_ge (b := 6) (by omega) (by omega)), if_neg (show ¬ nI np = 6 from fun z => q ((nI_eq (b := 6) (by omega) (by omega)).mp z)), show (6 : Int32) + nI np = nI (6 + np) from nI_add 6 np]
    obtain ⟨ok, s, nx, s1, v1, s2, v2, r1, r2, h1, h2, h3⟩ := number_cm hn hx hk (show 6 + np < 52 by omega) 0 30 (by decide) t
    rw [r1, r2, Option.bind_some, Option.bind_some]
    rcases h3 with e | ⟨e, h4, v, h5, h6, h7, h8, h9⟩
    · subst e
      exact ItemR_fail (st := s) _ _ rfl rfl rfl rfl rfl rfl (by omega)
    · subst e
      subst h6
      subst h7
      have hv : v ≤ 30 := by
        rcases Nat.lt_or_ge 30 v with z | z
        · exact absurd (show (30 : Int32) < nI v from nI_lt (a := 30) z (by omega)) h9
        · exact z
      dsimp only
      obtain ⟨st', nx', s1', v1', s2', v2', r3, r4, h10, h11, h12, h13⟩ := stop_cm hn hx h1
      rw [if_neg one_ne, if_neg one_ne, chk_vin (by omega) (by omega), lt_eq, nI_1, r3, Option.bind_some, chk_tt (okZ_stop _), Option.bind_some, chk_tt (okZ_stop _), nI_clamp (by omega), upd_n _ _ (show ¬ 0 = 6 + np by omega), m0, lt_eq, nI_1]
      refine ItemR_stop rfl rfl r4 h10 (by omega) h12 (by omega) ⟨np + 1, nd, po, fr, fun p => if p = np then v else hm p, wh, pl, fm, tl, wo, ⟨by omega, hPV.2.1, hPV.2.2.1, hPV.2.2.2.1, fun p hp => ?_, fun d hd => ⟨Nat.lt_succ_of_lt (hPV.2.2.2.2.2 d hd).1, (hPV.2.2.2.2.2 d hd).2⟩⟩, d1, d2, rfl, d4, fun p hp => ?_, d6, ⟨upd_s _ _ _, ?_, ?_, ?_, fun p hp => ?_, fun d hd => ?_⟩, ?_, ?_, ho1, hf1⟩
      · dsimp only
        by_cases z : p = np
        · rw [if_pos z]; exact hv
        · rw [if_neg z]; exact hPV.2.2.2.2.1 p (by omega)
      · dsimp only
        by_cases z : p = np
        · subst z
          rw [if_pos rfl, upd_s]
        · rw [if_neg z, upd_n _ _ z]; exact d5 p (by omega)
      · rw [upd_n _ _ (by omega), upd_n _ _ (by omega)]; exact m1
      · rw [upd_n _ _ (by omega), upd_n _ _ (by omega)]; exact m2
      · rw [upd_n _ _ (by omega), upd_n _ _ (by omega)]; exact m3
      · dsimp only
        by_cases z : p = np
        · subst z
          rw [if_pos rfl, upd_n _ _ (by omega), upd_s]
        · rw [if_neg z, upd_n _ _ (by omega), upd_n _ _ (by omega)]; exact m4 p (by omega)
      · have hnd := hPV.2.1
        simp (disch := omega) only [upd_n]
        exact m5 d hd
      · rw [upd_n _ _ (by omega), upd_n _ _ (by omega)]; exact t4
      · rw [upd_n _ _ (by omega), upd_n _ _ (by omega)]; exact t5
theorem item_f (hn : n ≤ 180) (hx : ∀ i, i < n → x i < 256 ∧ a i = nI (x i) ∧ b i = nI (x i)) {k st it o1 f1 : Nat} {D : DS} {t : Nat → Int32} (hk : k ≤ n) (hst : st ≤ 180) (hD : DrR o1 f1 it D t) :
    ItemR n b k it (fX5_readItem (nI o1) (nI f1) (nI n) (nI st) (nI k) 1 102 a D.1 D.2.1 D.2.2.1 D.2.2.2.1 D.2.2.2.2.1 D.2.2.2.2.2.1 D.2.2.2.2.2.2.1 D.2.2.2.2.2.2.2.1 D.2.2.2.2.2.2.2.2.1 D.2.2.2.2.2.2.2.2.2) (fX11_readsItem (nI n) (nI k) 1 (nI st) 102 b t) := by
  obtain ⟨np, nd, po, fr, hm, wh, pl, fm, tl, wo, hPV, d1, d2, d3, d4, d5, d6, hMo, t4, t5, ho1, hf1⟩ := hD
  obtain ⟨m0, m1, m2, m3, m4, m5⟩ := id hMo
  unfold fX5_readItem fX11_readsItem
  rw [if_pos rfl, if_pos rfl, if_neg (show ¬ (102 : Int32) = 100 by decide), if_pos rfl, lt_eq, if_neg (show ¬ (102 : Int32) = 112 by decide), lt_eq, if_neg (show ¬ (102 : Int32) = 100 by decide), if_pos rfl]
  unfold fX5_readFree fX11_once
  rw [t5]
  rcases (show f1 = 1 ∨ f1 = 0 by omega) with q | q
  · subst q
    have e1 : ¬ (nI (o1 + 2 * 1) &&& 2) = 0 := by
      rcases (show o1 = 1 ∨ o1 = 0 by omega) with z | z <;> rw [z] <;> decide
    rw [if_neg (show ¬ nI 1 = 0 by decide), if_neg e1]
    exact ItemR_fail (st := st) _ _ rfl rfl rfl rfl rfl rfl hst
  · subst q
    have e1 : (nI (o1 + 2 * 0) &&& 2) = 0 := by
      rcases (show o1 = 1 ∨ o1 = 0 by omega) with z | z <;> rw [z] <;> decide
    have e2 : (nI (o1 + 2 * 0) ||| 2) = nI (o1 + 2 * 1) := by
      rcases (show o1 = 1 ∨ o1 = 0 by omega) with z | z <;> rw [z] <;> decide
    rw [if_pos (show nI 0 = 0 by decide), if_pos e1, e2, lt_eq]
    obtain ⟨ok, s, nx, s1, v1, s2, v2, r1, r2, h1, h2, h3⟩ := number_cm hn hx hk (show 3 < 52 by omega) 0 9 (by decide) (upd t 5 (nI (o1 + 2 * 1)))
    have r2' : fX11_number (nI n) (nI k) b (upd t 5 (nI (o1 + 2 * 1))) 3 0 9 = some (ok, nI nx, s2, nI s, v2, upd (upd t 5 (nI (o1 + 2 * 1))) 3 v2) := r2
    rw [r1, r2', Option.bind_some, Option.bind_some]
    rcases h3 with e | ⟨e, h4, v, h5, h6, h7, h8, h9⟩
    · subst e
      exact ItemR_fail (st := s) _ _ rfl rfl rfl rfl rfl rfl (by omega)
    · subst e
      subst h6
      subst h7
      have hv : v ≤ 9 := by
        rcases Nat.lt_or_ge 9 v with z | z
        · exact absurd (show (9 : Int32) < nI v from nI_lt (a := 9) z (by omega)) h9
        · exact z
      dsimp only
      obtain ⟨st', nx', s1', v1', s2', v2', r3, r4, h10, h11, h12, h13⟩ := stop_cm hn hx h1
      rw [if_neg one_ne, r3, Option.bind_some, chk_tt (okZ_stop _), Option.bind_some, chk_tt (okZ_stop _), chk_tt okZ_1, Option.bind_some, chk_tt okZ_1]
      refine ItemR_stop (f1 := 1) (t := upd (upd t 5 (nI (o1 + 2 * 1))) 3 (nI v)) rfl rfl r4 h10 (by omega) h12 (by omega) ⟨np, nd, po, v, hm, wh, pl, fm, tl, wo, ⟨hPV.1, hPV.2.1, hPV.2.2.1, hv, hPV.2.2.2.2⟩, d1, rfl, d3, d4, d5, d6, ⟨?_, ?_, ?_, upd_s _ _ _, fun p hp => ?_, fun d hd => ?_⟩, ?_, ?_, ho1, Nat.le_refl _⟩
      · rw [upd_n _ _ (by omega), upd_n _ _ (by omega)]; exact m0
      · rw [upd_n _ _ (by omega), upd_n _ _ (by omega)]; exact m1
      · rw [upd_n _ _ (by omega), upd_n _ _ (by omega)]; exact m2
      · rw [upd_n _ _ (by omega), upd_n _ _ (by omega)]; exact m4 p hp
      · simp (disch := omega) only [upd_n]
        exact m5 d hd
      · rw [upd_n _ _ (by omega), upd_n _ _ (by omega)]; exact t4
      · rw [upd_n _ _ (by omega), upd_s]
theorem item_o (hn : n ≤ 180) (hx : ∀ i, i < n → x i < 256 ∧ a i = nI (x i) ∧ b i = nI (x i)) {k st it o1 f1 : Nat} {D : DS} {t : Nat → Int32} (hk : k ≤ n) (hst : st ≤ 180) (hD : DrR o1 f1 it D t) :
    ItemR n b k it (fX5_readItem (nI o1) (nI f1) (nI n) (nI st) (nI k) 1 111 a D.1 D.2.1 D.2.2.1 D.2.2.2.1 D.2.2.2.2.1 D.2.2.2.2.2.1 D.2.2.2.2.2.2.1 D.2.2.2.2.2.2.2.1 D.2.2.2.2.2.2.2.2.1 D.2.2.2.2.2.2.2.2.2) (fX11_readsItem (nI n) (nI k) 1 (nI st) 111 b t) := by
  obtain ⟨np, nd, po, fr, hm, wh, pl, fm, tl, wo, hPV, d1, d2, d3, d4, d5, d6, hMo, t4, t5, ho1, hf1⟩ := hD
  obtain ⟨m0, m1, m2, m3, m4, m5⟩ := id hMo
  unfold fX5_readItem fX11_readsItem
  rw [if_pos rfl, if_pos rfl, if_neg (show ¬ (111 : Int32) = 100 by decide), if_neg (show ¬ (111 : Int32) = 102 by decide), if_pos rfl, lt_eq, if_neg (show ¬ (111 : Int32) = 112 by decide), lt_eq, if_neg (show ¬ (111 : Int32) = 100 by decide), if_neg (show ¬ (111 : Int32) = 102 by decide), if_pos rfl]
  unfold fX5_readOffice fX11_once
  rw [t5]
  rcases (show o1 = 1 ∨ o1 = 0 by omega) with q | q
  · subst q
    have e1 : ¬ (nI (1 + 2 * f1) &&& 1) = 0 := by
      rcases (show f1 = 1 ∨ f1 = 0 by omega) with z | z <;> rw [z] <;> decide
    rw [if_neg (show ¬ nI 1 = 0 by decide), if_neg e1]
    exact ItemR_fail (st := st) _ _ rfl rfl rfl rfl rfl rfl hst
  · subst q
    have e1 : (nI (0 + 2 * f1) &&& 1) = 0 := by
      rcases (show f1 = 1 ∨ f1 = 0 by omega) with z | z <;> rw [z] <;> decide
    have e2 : (nI (0 + 2 * f1) ||| 1) = nI (1 + 2 * f1) := by
      rcases (show f1 = 1 ∨ f1 = 0 by omega) with z | z <;> rw [z] <;> decide
    rw [if_pos (show nI 0 = 0 by decide), if_pos e1, e2, lt_eq]
    obtain ⟨ok, s, nx, s1, v1, s2, v2, r1, r2, h1, h2, h3⟩ := number_cm hn hx hk (show 2 < 52 by omega) 0 30 (by decide) (upd t 5 (nI (1 + 2 * f1)))
    have r2' : fX11_number (nI n) (nI k) b (upd t 5 (nI (1 + 2 * f1))) 2 0 30 = some (ok, nI nx, s2, nI s, v2, upd (upd t 5 (nI (1 + 2 * f1))) 2 v2) := r2
    rw [r1, r2', Option.bind_some, Option.bind_some]
    rcases h3 with e | ⟨e, h4, v, h5, h6, h7, h8, h9⟩
    · subst e
      exact ItemR_fail (st := s) _ _ rfl rfl rfl rfl rfl rfl (by omega)
    · subst e
      subst h6
      subst h7
      have hv : v ≤ 30 := by
        rcases Nat.lt_or_ge 30 v with z | z
        · exact absurd (show (30 : Int32) < nI v from nI_lt (a := 30) z (by omega)) h9
        · exact z
      dsimp only
      obtain ⟨st', nx', s1', v1', s2', v2', r3, r4, h10, h11, h12, h13⟩ := stop_cm hn hx h1
      rw [if_neg one_ne, r3, Option.bind_some, chk_tt (okZ_stop _), Option.bind_some, chk_tt (okZ_stop _), chk_tt okZ_1, Option.bind_some, chk_tt okZ_1]
      refine ItemR_stop (o1 := 1) (t := upd (upd t 5 (nI (1 + 2 * f1))) 2 (nI v)) rfl rfl r4 h10 (by omega) h12 (by omega) ⟨np, nd, v, fr, hm, wh, pl, fm, tl, wo, ⟨hPV.1, hPV.2.1, hv, hPV.2.2.2⟩, rfl, d2, d3, d4, d5, d6, ⟨?_, ?_, upd_s _ _ _, ?_, fun p hp => ?_, fun d hd => ?_⟩, ?_, ?_, Nat.le_refl _, hf1⟩
      · rw [upd_n _ _ (by omega), upd_n _ _ (by omega)]; exact m0
      · rw [upd_n _ _ (by omega), upd_n _ _ (by omega)]; exact m1
      · rw [upd_n _ _ (by omega), upd_n _ _ (by omega)]; exact m3
      · rw [upd_n _ _ (by omega), upd_n _ _ (by omega)]; exact m4 p hp
      · simp (disch := omega) only [upd_n]
        exact m5 d hd
      · rw [upd_n _ _ (by omega), upd_n _ _ (by omega)]; exact t4
      · rw [upd_n _ _ (by omega), upd_s]
theorem nlt_le {v c : Nat} (hc : c < 2 ^ 30) (hv : v ≤ 99) (h : ¬ nI c < nI v) : v ≤ c := by
  rcases Nat.lt_or_ge c v with z | z
  · exact absurd (nI_lt z (by omega)) h
  · exact z
theorem item_d (hn : n ≤ 180) (hx : ∀ i, i < n → x i < 256 ∧ a i = nI (x i) ∧ b i = nI (x i)) {k st it o1 f1 : Nat} {D : DS} {t : Nat → Int32} (hk : k ≤ n) (hst : st ≤ 180) (hD : DrR o1 f1 it D t) :
    ItemR n b k it (fX5_readItem (nI o1) (nI f1) (nI n) (nI st) (nI k) 1 100 a D.1 D.2.1 D.2.2.1 D.2.2.2.1 D.2.2.2.2.1 D.2.2.2.2.2.1 D.2.2.2.2.2.2.1 D.2.2.2.2.2.2.2.1 D.2.2.2.2.2.2.2.2.1 D.2.2.2.2.2.2.2.2.2) (fX11_readsItem (nI n) (nI k) 1 (nI st) 100 b t) := by
  obtain ⟨np, nd, po, fr, hm, wh, pl, fm, tl, wo, hPV, d1, d2, d3, d4, d5, d6, hMo, t4, t5, ho1, hf1⟩ := hD
  obtain ⟨m0, m1, m2, m3, m4, m5⟩ := id hMo
  have hnp := hPV.1
  have hnd := hPV.2.1
  unfold fX5_readItem fX11_readsItem
  rw [if_pos rfl, if_pos rfl, if_pos rfl, lt_eq, if_neg (show ¬ (100 : Int32) = 112 by decide), lt_eq, if_pos rfl, m1, m0]
  unfold fX5_readDeed
  rw [d3, d4]
  by_cases q : nd = 8
  · rw [if_pos (show (8 : Int32) ≤ nI nd by rw [q]; decide), if_pos (show nI nd = 8 by rw [q]; rfl)]
    exact ItemR_fail (st := st) _ _ rfl rfl rfl rfl rfl rfl hst
  · have hpp : (nI np - 1).toInt = (np : Int) - 1 := pk_sub_toInt (a := np) (b := 1) (by omega) (by omega)
    rw [if_neg (show ¬ (8 : Int32) ≤ nI nd from nI_ge (b := 8) (by omega) (by omega)), if_neg (show ¬ nI nd = 8 from fun z => q ((nI_eq (b := 8) (by omega) (by omega)).mp z)), show (12 : Int32) + nI nd = nI (12 + nd) from nI_add 12 nd, show (20 : Int32) + nI nd = nI (20 + nd) from nI_add 20 nd, show (28 : Int32) + nI nd = nI (28 + nd) from nI_add 28 nd, show (36 : Int32) + nI nd = nI (36 + nd) from nI_add 36 nd, show (44 : Int32) + nI nd = nI (44 + nd) from nI_add 44 nd]
    simp (disch := omega) only [chk_vin, nI_clamp]
    obtain ⟨ok, s, nx, s1, v1, s2, v2, r1, r2, h1, h2, h3⟩ := number_cm hn hx hk (show 12 + nd < 52 by omega) 0 (nI np - 1) (by omega) t
    rw [r1, r2, Option.bind_some, Option.bind_some]
    rcases h3 with e | ⟨e, g1, vw, h5, h6, h7, h8, h9⟩
    · subst e
      exact ItemR_fail (st := s) _ _ rfl rfl rfl rfl rfl rfl (by omega)
    subst e
    subst h6
    subst h7
    have hvw : vw < np := by
      rcases Nat.lt_or_ge vw np with z | z
      · exact z
      · refine absurd ?_ h9
        rw [Int32.lt_iff_toInt_lt, hpp, nI_toInt (by omega)]
        omega
    dsimp only
    rw [if_neg one_ne, if_neg one_ne]
    obtain ⟨ok, s, nx2, s1, v1, s2, v2, r1, r2, h1, h2, h3⟩ := number_cm hn hx h1 (show 20 + nd < 52 by omega) 0 30 (by decide) (upd t (12 + nd) (nI vw))
    rw [r1, r2, Option.bind_some, Option.bind_some]
    rcases h3 with e | ⟨e, g2, vp, h5, h6, h7, h8, h9⟩
    · subst e
      exact ItemR_fail (st := s) _ _ rfl rfl rfl rfl rfl rfl (by omega)
    subst e
    subst h6
    subst h7
    have hvp : vp ≤ 30 := nlt_le (c := 30) (by omega) h5 h9
    dsimp only
    rw [if_neg one_ne, if_neg one_ne]
    obtain ⟨ok, s, nx3, s1, v1, s2, v2, r1, r2, h1, h2, h3⟩ := number_cm hn hx h1 (show 28 + nd < 52 by omega) 0 99 (by decide) (upd (upd t (12 + nd) (nI vw)) (20 + nd) (nI vp))
    rw [r1, r2, Option.bind_some, Option.bind_some]
    rcases h3 with e | ⟨e, g3, vf, hvf, h6, h7, h8, h9⟩
    · subst e
      exact ItemR_fail (st := s) _ _ rfl rfl rfl rfl rfl rfl (by omega)
    subst e
    subst h6
    subst h7
    dsimp only
    rw [if_neg one_ne, if_neg one_ne, upd_s, upd_s]
    obtain ⟨ok, s, nx4, s1, v1, s2, v2, r1, r2, h1, h2, h3⟩ := number_cm hn hx h1 (show 36 + nd < 52 by omega) (nI vf) 99 (by decide) (upd (upd (upd t (12 + nd) (nI vw)) (20 + nd) (nI vp)) (28 + nd) (nI vf))
    rw [r1, r2, Option.bind_some, Option.bind_some]
    rcases h3 with e | ⟨e, g4, vt, hvt, h6, h7, h8, h9⟩
    · subst e
      exact ItemR_fail (st := s) _ _ rfl rfl rfl rfl rfl rfl (by omega)
    subst e
    subst h6
    subst h7
    have hft : vf ≤ vt := by
      rcases Nat.lt_or_ge vt vf with z | z
      · exact absurd (nI_lt z (by omega)) h8
      · exact z
    dsimp only
    rw [if_neg one_ne, if_neg one_ne]
    obtain ⟨ok, s, nx5, s1, v1, s2, v2, r1, r2, h1, h2, h3⟩ := number_cm hn hx h1 (show 44 + nd < 52 by omega) 1 20 (by decide) (upd (upd (upd (upd t (12 + nd) (nI vw)) (20 + nd) (nI vp)) (28 + nd) (nI vf)) (36 + nd) (nI vt))
    rw [r1, r2, Option.bind_some, Option.bind_some]
    rcases h3 with e | ⟨e, g5, vv, h5, h6, h7, h8, h9⟩
    · subst e
      exact ItemR_fail (st := s) _ _ rfl rfl rfl rfl rfl rfl (by omega)
    subst e
    subst h6
    subst h7
    have hv1 : vv ≤ 20 := nlt_le (c := 20) (by omega) h5 h9
    have hv2 : 1 ≤ vv := by
      rcases Nat.lt_or_ge vv 1 with z | z
      · exact absurd (show nI vv < 1 from nI_lt (b := 1) z (by omega)) h8
      · exact z
    dsimp only
    obtain ⟨st', nx', s1', v1', s2', v2', r3, r4, h10, h11, h12, h13⟩ := stop_cm hn hx h1
    rw [if_neg one_ne, if_neg one_ne, lt_eq, nI_1, r3, Option.bind_some, chk_tt (okZ_stop _), Option.bind_some, chk_tt (okZ_stop _), lt_eq]
    have e1 : upd (upd (upd (upd (upd t (12 + nd) (nI vw)) (20 + nd) (nI vp)) (28 + nd) (nI vf)) (36 + nd) (nI vt)) (44 + nd) (nI vv) 1 = nI nd := by
      simp (disch := omega) only [upd_n]
      exact m1
    rw [e1, nI_1]
    refine ItemR_stop rfl rfl r4 h10 (by omega) h12 (by omega) ⟨np, nd + 1, po, fr, hm, fun d => if d = nd then vw else wh d, fun d => if d = nd then vp else pl d, fun d => if d = nd then vf else fm d, fun d => if d = nd then vt else tl d, fun d => if d = nd then vv else wo d, ⟨hnp, by omega, hPV.2.2.1, hPV.2.2.2.1, hPV.2.2.2.2.1, fun d hd => ?_⟩, d1, d2, rfl, rfl, d5, fun d hd => ?_, ⟨?_, upd_s _ _ _, ?_, ?_, fun p hp => ?_, fun d hd => ?_⟩, ?_, ?_, ho1, hf1⟩
    · dsimp only
      by_cases z : d = nd
      · rw [if_pos z, if_pos z, if_pos z, if_pos z, if_pos z]
        exact ⟨hvw, hvp, hft, hvt, hv2, hv1⟩
      · rw [if_neg z, if_neg z, if_neg z, if_neg z, if_neg z]
        exact hPV.2.2.2.2.2 d (by omega)
    · dsimp only
      by_cases z : d = nd
      · subst z
        rw [if_pos rfl, if_pos rfl, if_pos rfl, if_pos rfl, if_pos rfl, upd_s, upd_s, upd_s, upd_s, upd_s]
        exact ⟨rfl, rfl, rfl, rfl, rfl⟩
      · rw [if_neg z, if_neg z, if_neg z, if_neg z, if_neg z, upd_n _ _ z, upd_n _ _ z, upd_n _ _ z, upd_n _ _ z, upd_n _ _ z]
        exact d6 d (by omega)
    · simp (disch := omega) only [upd_n]
      exact m0
    · simp (disch := omega) only [upd_n]
      exact m2
    · simp (disch := omega) only [upd_n]
      exact m3
    · simp (disch := omega) only [upd_n]
      exact m4 p hp
    · dsimp only
      by_cases z : d = nd
      · subst z
        rw [if_pos rfl, if_pos rfl, if_pos rfl, if_pos rfl, if_pos rfl]
        refine ⟨?_, ?_, ?_, ?_, ?_⟩ <;> simp (disch := omega) only [upd_n, upd_s]
      · rw [if_neg z, if_neg z, if_neg z, if_neg z, if_neg z]
        simp (disch := omega) only [upd_n]
        exact m5 d (by omega)
    · simp (disch := omega) only [upd_n]
      exact t4
    · simp (disch := omega) only [upd_n]
      exact t5
end READER
