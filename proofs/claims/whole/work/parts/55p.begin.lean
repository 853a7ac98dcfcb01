/-! a port begun -/
theorem beg2 {dr : Nat → Int32} : ∀ (f k : Nat) (t : Nat → Int32), k ≤ 52 → 52 < k + f → (∀ i, i < k → t i = dr i) → ∃ z, fX11_begins_2 dr f (nI k) t = some (nI 52, z) ∧ ∀ i, i < 52 → z i = dr i := by
  intro f
  induction f with
  | zero => intro k t a b; omega
  | succ f ih =>
    intro k t a b h
    rw [fX11_begins_2]
    by_cases e : k = 52
    · subst e
      rw [if_pos (show (52 : Int32) ≤ nI 52 by decide)]
      exact ⟨t, rfl, h⟩
    · rw [if_neg (show ¬ (52 : Int32) ≤ nI k from nI_ge (b := 52) (by omega) (by omega)), chk_vin (by omega) (by omega), nI_clamp (by omega), lt_eq, lt_eq, nI_1]
      refine ih (k + 1) _ (by omega) (by omega) (fun i hi => ?_)
      by_cases z : i = k
      · subst z
        exact upd_s _ _ _
      · rw [upd_n _ _ z]
        exact h i (by omega)
theorem beg28 {t : Nat → Int32} : ∀ (f k : Nat) (s : Nat → Int32), k ≤ 24 → 24 < k + f → (∀ i, i < k → s i = if 4 ≤ i ∧ i ≤ 9 then t (i + 2) else 0) → ∃ z, fX11_begins_28 t f (nI k) s = some (nI 24, z) ∧ ∀ i, i < 24 → z i = if 4 ≤ i ∧ i ≤ 9 then t (i + 2) else 0 := by
  intro f
  induction f with
  | zero => intro k s a b; omega
  | succ f ih =>
    intro k s a b h
    rw [fX11_begins_28]
    by_cases e : k = 24
    · subst e
      rw [if_pos (show (23 : Int32) < nI 24 by decide)]
      exact ⟨s, rfl, h⟩
    · have em : (6 : Int32) + nI k - 4 = nI (k + 2) := by
        rw [show (6 : Int32) + nI k = nI (6 + k) from nI_add 6 k, show (4 : Int32) = nI 4 from rfl, pk_sub (by omega)]
        congr 1
        omega
      rw [if_neg (show ¬ (23 : Int32) < nI k from nI_nlt (a := 23) (by omega) (by omega)), in_eq, Option.bind_some, em]
      have ej : (if (if nI k < 4 then (0 : Int32) else if 9 < nI k then 0 else 1) = 0 then some 0 else chk (vin (nI (k + 2)) 52) (some (t (nI (k + 2)).toNatClampNeg))) = some (if 4 ≤ k ∧ k ≤ 9 then t (k + 2) else 0) := by
        by_cases q1 : k < 4
        · rw [if_pos (show nI k < 4 from nI_lt (b := 4) q1 (by omega)), if_pos rfl, if_neg (by omega)]
        · rw [if_neg (show ¬ nI k < 4 from nI_nlt (b := 4) (by omega) (by omega))]
          by_cases q2 : 9 < k
          · rw [if_pos (show (9 : Int32) < nI k from nI_lt (a := 9) q2 (by omega)), if_pos rfl, if_neg (by omega)]
          · rw [if_neg (show ¬ (9 : Int32) < nI k from nI_nlt (a := 9) (by omega) (by omega)), if_neg one_ne, if_pos (by omega), chk_vin (by omega) (by omega), nI_clamp (by omega)]
      rw [ej, Option.bind_some, chk_vin (by omega) (by omega), nI_clamp (by omega), lt_eq, nI_1]
      refine ih (k + 1) _ (by omega) (by omega) (fun i hi => ?_)
      by_cases z : i = k
      · subst z
        exact upd_s _ _ _
      · rw [upd_n _ _ z]
        exact h i (by omega)
theorem begins_m (told dr s kept : Nat → Int32) : ∃ (told' s' : Nat → Int32), fX11_begins told dr s kept = some (0, told', s', upd (upd kept 0 0) 1 0) ∧ (∀ i, i < 52 → told' i = dr i) ∧ s' 1 = -9 ∧ ∀ i, i < 24 → ¬ i = 1 → s' i = if 4 ≤ i ∧ i ≤ 9 then dr (i + 2) else 0 := by
  obtain ⟨t, t1, t2⟩ := beg2 (dr := dr) FU 0 told (by omega) (by unfold FU; omega) (fun i hi => by omega)
  obtain ⟨z, z1, z2⟩ := beg28 (t := t) FU 0 s (by omega) (by unfold FU; omega) (fun i hi => by omega)
  have t1' : fX11_begins_2 dr FU 0 told = some (nI 52, t) := t1
  have z1' : fX11_begins_28 t FU 0 s = some (nI 24, z) := z1
  refine ⟨t, upd z 1 (-9), ?_, t2, upd_s _ _ _, fun i hi h1 => ?_⟩
  · unfold fX11_begins
    rw [t1', Option.bind_some]
    dsimp only
    rw [z1', Option.bind_some]
  · rw [upd_n _ _ h1, z2 i hi]
    by_cases q : 4 ≤ i ∧ i ≤ 9
    · rw [if_pos q, if_pos q, t2 _ (by omega)]
    · rw [if_neg q, if_neg q]
theorem mom28 {h : Nat → Int32} : ∀ (f k : Nat) (at' lh ow : Nat → Int32), k ≤ 6 → 6 < k + f → (∀ i, i < k → at' i = h i ∧ lh i = 0 ∧ ow i = 0) → ∃ at'' lh' ow', fX2_begin_28 h f (nI k) at' lh ow = some (nI 6, at'', lh', ow') ∧ ∀ i, i < 6 → at'' i = h i ∧ lh' i = 0 ∧ ow' i = 0 := by
  intro f
  induction f with
  | zero => intro k a1 a2 a3 a b; omega
  | succ f ih =>
    intro k a1 a2 a3 a b hh
    rw [fX2_begin_28]
    by_cases e : k = 6
    · subst e
      rw [if_pos (show (6 : Int32) ≤ nI 6 by decide)]
      exact ⟨a1, a2, a3, rfl, hh⟩
    · rw [if_neg (show ¬ (6 : Int32) ≤ nI k from nI_ge (b := 6) (by omega) (by omega)), chk_vin (by omega) (by omega), nI_clamp (by omega), lt_eq, lt_eq, nI_1]
      refine ih (k + 1) _ _ _ (by omega) (by omega) (fun i hi => ?_)
      by_cases z : i = k
      · subst z
        exact ⟨upd_s _ _ _, upd_s _ _ _, upd_s _ _ _⟩
      · rw [upd_n _ _ z, upd_n _ _ z, upd_n _ _ z]
        exact hh i (by omega)
theorem port62 : ∀ (f k : Nat) (s : Nat → Int32), k ≤ 2 → 2 < k + f → (∀ i, i < k → s i = 0) → ∃ z, fX10_port_62 f (nI k) s = some (nI 2, z) ∧ ∀ i, i < 2 → z i = 0 := by
  intro f
  induction f with
  | zero => intro k t a b; omega
  | succ f ih =>
    intro k t a b h
    rw [fX10_port_62]
    by_cases e : k = 2
    · subst e
      rw [if_pos (show (2 : Int32) ≤ nI 2 by decide)]
      exact ⟨t, rfl, h⟩
    · rw [if_neg (show ¬ (2 : Int32) ≤ nI k from nI_ge (b := 2) (by omega) (by omega)), chk_vin (by omega) (by omega), nI_clamp (by omega), lt_eq, nI_1]
      refine ih (k + 1) _ (by omega) (by omega) (fun i hi => ?_)
      by_cases z : i = k
      · subst z
        exact upd_s _ _ _
      · rw [upd_n _ _ z]
        exact h i (by omega)
/-- the first moment of a port -/
theorem MVa_0 {np nd : Nat} {hm : Nat → Nat} (hh : ∀ p, p < np → hm p ≤ 30) : MVa np nd (0, 0, 0, 0, none, hm, fun _ => 0, fun _ => 0) :=
  ⟨Nat.zero_le _, Nat.zero_le _, Nat.two_pow_pos nd, fun k hk => (by cases hk), fun _ => rfl, fun p hp => ⟨hh p hp, Nat.le_refl _⟩, fun _ _ => Nat.zero_le _⟩
theorem MMo_0 {np : Nat} {hm : Nat → Nat} {dr s : Nat → Int32} (hnp : np ≤ 6) (hd : ∀ p, p < np → dr (6 + p) = nI (hm p)) (s1 : s 1 = -9) (hs : ∀ i, i < 24 → ¬ i = 1 → s i = if 4 ≤ i ∧ i ≤ 9 then dr (i + 2) else 0) : MMo np (0, 0, 0, 0, none, hm, fun _ => 0, fun _ => 0) s 0 := by
  refine mmo_mk ?_ s1 (fun k hk => (by cases hk)) ?_ ?_ (fun p hp => ⟨?_, ?_⟩) (fun p hp => ?_)
  · rw [hs 0 (by omega) (by omega), if_neg (by omega)]; rfl
  · rw [hs 3 (by omega) (by omega), if_neg (by omega)]; rfl
  · rw [hs 22 (by omega) (by omega), if_neg (by omega)]; rfl
  · rw [hs (4 + p) (by omega) (by omega), if_pos (by omega), show 4 + p + 2 = 6 + p by omega]; exact hd p hp
  · rw [hs (10 + p) (by omega) (by omega), if_neg (by omega)]; rfl
  · rw [hs (16 + p) (by omega) (by omega), if_neg (by omega)]; rfl
