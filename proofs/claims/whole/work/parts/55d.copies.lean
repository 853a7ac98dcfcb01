/-! COPIES: moments remembered and brought back -/
theorem cpy_s {f g : Nat → Int32} {sp dp k : Nat} : upd (va_cpy f g sp dp k) (dp + k) (f (sp + k)) = va_cpy f g sp dp (k + 1) := by
  funext i
  by_cases h : i = dp + k
  · subst h
    rw [upd_s]
    unfold va_cpy
    rw [if_pos ⟨by omega, by omega⟩, Nat.add_sub_cancel_left]
  · rw [upd_n _ _ h]
    unfold va_cpy
    by_cases q : dp ≤ i ∧ i < dp + k
    · rw [if_pos q, if_pos ⟨q.1, by omega⟩]
    · rw [if_neg q, if_neg (fun z => q ⟨z.1, by omega⟩)]
theorem cpy_0 {f g : Nat → Int32} {sp dp : Nat} : va_cpy f g sp dp 0 = g := by
  funext i
  unfold va_cpy
  rw [if_neg (by omega)]
theorem cpy_in {f g : Nat → Int32} {sp dp n i : Nat} (h : i < n) : va_cpy f g sp dp n (dp + i) = f (sp + i) := by
  unfold va_cpy
  rw [if_pos ⟨by omega, by omega⟩, Nat.add_sub_cancel_left]
theorem cpy_out {f g : Nat → Int32} {sp dp n i : Nat} (h : i < dp ∨ dp + n ≤ i) : va_cpy f g sp dp n i = g i := by
  unfold va_cpy
  rw [if_neg (by omega)]
theorem rem70 {s : Nat → Int32} {dp : Nat} (h1 : 24 ≤ dp) (h2 : dp + 23 ≤ 254) : ∀ (n k : Nat), k ≤ 23 → 23 < k + n → fX11_remembers_70 (nI dp) n (nI k) (va_cpy s s 0 dp k) = some (nI 23, va_cpy s s 0 dp 23) := by
  intro n
  induction n with
  | zero => intro k a b; omega
  | succ n ih =>
    intro k a b
    rw [fX11_remembers_70, show (23 : Int32) = nI 23 from rfl]
    by_cases e : k = 23
    · subst e
      rw [if_pos (nI_le (Nat.le_refl _) (by omega))]
    · rw [if_neg (nI_ge (show k < 23 by omega) (by omega)), chk_vin (by omega) (by omega), nI_clamp (by omega), lt_eq, nI_add, chk_vin (by omega) (by omega), nI_clamp (by omega), lt_eq, nI_1, cpy_out (by omega)]
      have h := cpy_s (f := s) (g := s) (sp := 0) (dp := dp) (k := k)
      rw [Nat.zero_add] at h
      rw [h]
      exact ih (k + 1) (by omega) (by omega)
theorem rem15 {s : Nat → Int32} : ∀ (n j : Nat), j ≤ 207 → 207 < j + n → fX11_remembers_15 n (nI (24 + j)) (va_cpy s s 47 24 j) = some (nI 231, va_cpy s s 47 24 207) := by
  intro n
  induction n with
  | zero => intro k a b; omega
  | succ n ih =>
    intro j a b
    rw [fX11_remembers_15, show (231 : Int32) = nI 231 from rfl]
    by_cases e : j = 207
    · subst e
      rw [if_pos (nI_le (Nat.le_refl _) (by omega))]
    · rw [if_neg (nI_ge (show 24 + j < 231 by omega) (by omega)), show nI (24 + j) + (23 : Int32) = nI (24 + j + 23) from nI_add _ 23]
      simp (disch := omega) only [chk_vin, nI_clamp, lt_eq, nI_1]
      rw [cpy_out (by omega)]
      have h := cpy_s (f := s) (g := s) (sp := 47) (dp := 24) (k := j)
      rw [show 24 + j + 23 = 47 + j by omega, h]
      exact ih (j + 1) (by omega) (by omega)
theorem und40 {s : Nat → Int32} {sp : Nat} (h1 : 24 ≤ sp) (h2 : sp + 23 ≤ 254) : ∀ (n k : Nat), k ≤ 23 → 23 < k + n → fX11_undo_40 (nI sp) n (nI k) (va_cpy s s sp 0 k) = some (nI 23, va_cpy s s sp 0 23) := by
  intro n
  induction n with
  | zero => intro k a b; omega
  | succ n ih =>
    intro k a b
    rw [fX11_undo_40, show (23 : Int32) = nI 23 from rfl]
    by_cases e : k = 23
    · subst e
      rw [if_pos (nI_le (Nat.le_refl _) (by omega))]
    · rw [if_neg (nI_ge (show k < 23 by omega) (by omega)), nI_add]
      simp (disch := omega) only [chk_vin, nI_clamp, lt_eq, nI_1]
      rw [cpy_out (i := sp + k) (by omega)]
      have h := cpy_s (f := s) (g := s) (sp := sp) (dp := 0) (k := k)
      rw [Nat.zero_add] at h
      rw [h]
      exact ih (k + 1) (by omega) (by omega)
theorem kee13 {s im : Nat → Int32} {i : Nat} (hi : i < 2) : ∀ (n k : Nat), k ≤ 254 → 254 < k + n → fX11_keep_13 (nI i) s n (nI k) (va_cpy s im 0 (254 * i) k) = some (nI 254, va_cpy s im 0 (254 * i) 254) := by
  intro n
  induction n with
  | zero => intro k a b; omega
  | succ n ih =>
    intro k a b
    rw [fX11_keep_13, show (254 : Int32) = nI 254 from rfl]
    by_cases e : k = 254
    · subst e
      rw [if_pos (nI_le (Nat.le_refl _) (by omega))]
    · rw [if_neg (nI_ge (show k < 254 by omega) (by omega)), pk_mul, nI_add]
      simp (disch := omega) only [chk_vin, nI_clamp, lt_eq, nI_1]
      have h := cpy_s (f := s) (g := im) (sp := 0) (dp := 254 * i) (k := k)
      rw [Nat.zero_add] at h
      rw [h]
      exact ih (k + 1) (by omega) (by omega)
theorem bac25 {s im : Nat → Int32} {i : Nat} (hi : i < 2) : ∀ (n k : Nat), k ≤ 254 → 254 < k + n → fX11_back_25 (nI i) im n (nI k) (va_cpy im s (254 * i) 0 k) = some (nI 254, va_cpy im s (254 * i) 0 254) := by
  intro n
  induction n with
  | zero => intro k a b; omega
  | succ n ih =>
    intro k a b
    rw [fX11_back_25, show (254 : Int32) = nI 254 from rfl]
    by_cases e : k = 254
    · subst e
      rw [if_pos (nI_le (Nat.le_refl _) (by omega))]
    · rw [if_neg (nI_ge (show k < 254 by omega) (by omega)), pk_mul, nI_add]
      simp (disch := omega) only [chk_vin, nI_clamp, lt_eq, nI_1]
      have h := cpy_s (f := im) (g := s) (sp := 254 * i) (dp := 0) (k := k)
      rw [Nat.zero_add] at h
      rw [h]
      exact ih (k + 1) (by omega) (by omega)
theorem MMo_cg {np : Nat} {a : AM} {s s' : Nat → Int32} {o o' : Nat} (hn : np ≤ 6) (h : MMo np a s o) (e : ∀ i, i < 23 → s' (o' + i) = s (o + i)) : MMo np a s' o' := by
  obtain ⟨g1, g2, g3, g4, g5, g6, g7⟩ := h
  refine ⟨(e 0 (by omega)).trans g1, (e 1 (by omega)).trans g2, fun k hk => (e 2 (by omega)).trans (g3 k hk), (e 3 (by omega)).trans g4, (e 22 (by omega)).trans g5, fun p hp => ⟨(e (4 + p) (by omega)).trans (g6 p hp).1, (e (10 + p) (by omega)).trans (g6 p hp).2⟩, fun p hp => (e (16 + p) (by omega)).trans (g7 p hp)⟩
theorem cpn_in {f g : Nat → Int32} {k p : Nat} (h : p < k) : cpn f g k p = f p := by
  unfold cpn
  rw [if_pos h]
theorem okZ_F {np nd : Nat} {a : AM} (h : MVa np nd a) : okZ (nI (aF a)) := by
  rcases (show aF a = 0 ∨ aF a = 1 by have := h.2.1; omega) with q | q <;> rw [q]
  · exact okZ_0
  · exact okZ_1
/-- a moment copied over another -/
theorem copy_c {np nd : Nat} {a : AM} {u v : MomS} (hn : np ≤ 6) (hV : MVa np nd a) (h : MCl np a u) : ∃ w : MomS, fX2_copyFrom v.2.2.2.2.2.1 v.2.2.2.2.2.2.1 v.2.2.2.2.2.2.2 u.1 u.2.1 u.2.2.1 u.2.2.2.1 u.2.2.2.2.1 u.2.2.2.2.2.1 u.2.2.2.2.2.2.1 u.2.2.2.2.2.2.2 = some w ∧ MCl np a w := by
  obtain ⟨g1, g2, g3, g4, g5, g6, g7⟩ := h
  refine ⟨(u.1, u.2.1, u.2.2.1, u.2.2.2.1, u.2.2.2.2.1, cpn u.2.2.2.2.2.1 v.2.2.2.2.2.1 6, cpn u.2.2.2.2.2.2.1 v.2.2.2.2.2.2.1 6, cpn u.2.2.2.2.2.2.2 v.2.2.2.2.2.2.2 6), ?_, ?_⟩
  · unfold fX2_copyFrom
    rw [chk_tt (by rw [g4]; exact okZ_F hV)]
  · exact ⟨g1, g2, g3, g4, g5, fun p hp => ⟨(cpn_in (by omega)).trans (g6 p hp).1, (cpn_in (by omega)).trans (g6 p hp).2⟩, fun p hp => (cpn_in (by omega)).trans (g7 p hp)⟩
/-- what is remembered -/
def PastR (np nd n : Nat) (P : Nat → MomS) (s : Nat → Int32) (o : Nat) : Prop := ∀ k : Nat, k < n → ∃ b : AM, MVa np nd b ∧ MCl np b (P k) ∧ MMo np b s (o + (24 + 23 * k))
theorem remember {np nd n : Nat} {a : AM} {u : MomS} {P : Nat → MomS} {g : Nat → Nat} {s : Nat → Int32} (hn : np ≤ 6) (hns : n ≤ 10) (h23 : s 23 = nI n) (hV : MVa np nd a) (hC : MCl np a u) (hM : MMo np a s 0) (hP : PastR np nd n P s 0) :
    ∃ (n' : Nat) (P' : Nat → MomS) (g' : Nat → Nat) (s' : Nat → Int32), fX1_rememberStep (nI n) u.1 u.2.1 u.2.2.1 u.2.2.2.1 u.2.2.2.2.1 u.2.2.2.2.2.1 u.2.2.2.2.2.2.1 u.2.2.2.2.2.2.2 P g = some (nI n', P', g') ∧ fX11_remembers s = some s' ∧ n' ≤ 10 ∧ 0 < n' ∧ s' 23 = nI n' ∧ (∀ i, i < 23 → s' i = s i) ∧ PastR np nd n' P' s' 0 := by
  by_cases h10 : n = 10
  · subst h10
    obtain ⟨w, hw, hwC⟩ := copy_c (v := rotP P 9) hn hV hC
    refine ⟨10, va_up (rotP P) 9 w, rotP g, upd (va_cpy (upd (va_cpy s s 47 24 207) 23 (nI 9)) (upd (va_cpy s s 47 24 207) 23 (nI 9)) 0 231 23) 23 (nI 10), ?_, ?_, by omega, by omega, upd_s _ _ _, ?_, ?_⟩
    · unfold fX1_rememberStep fX1_loseOldest
      rw [if_neg (show ¬ nI 10 < (10 : Int32) by decide), Option.bind_some, Option.bind_some, chk_tt (show vin (9 : Int32) 10 by decide)]
      have hw' := hw
      rw [show (9 : Int32).toNatClampNeg = 9 by decide, hw']
      rfl
    · unfold fX11_remembers
      rw [h23, if_pos (show nI 10 = (10 : Int32) from rfl)]
      have r1 := rem15 (s := s) FU 0 (by omega) (by unfold FU; omega)
      rw [cpy_0] at r1
      rw [show (24 : Int32) = nI (24 + 0) from rfl, r1, Option.bind_some, lt_eq, lt_eq]
      dsimp only
      rw [cpy_out (i := 23) (by omega), h23, show nI 10 - (1 : Int32) = nI 9 from rfl, upd_s, show nI (24 + 0) + ((23 : Int32) * nI 9) = nI 231 from rfl]
      have r2 := rem70 (s := upd (va_cpy s s 47 24 207) 23 (nI 9)) (dp := 231) (by omega) (by omega) FU 0 (by omega) (by unfold FU; omega)
      rw [cpy_0] at r2
      rw [show (0 : Int32) = nI 0 from rfl, r2, Option.bind_some, lt_eq]
      dsimp only
      rw [cpy_out (i := 23) (by omega), upd_s, show nI 9 + (1 : Int32) = nI 10 from rfl]
    · intro i hi
      rw [upd_n _ _ (by omega), cpy_out (by omega), upd_n _ _ (by omega), cpy_out (by omega)]
    · intro k hk
      by_cases hk9 : k = 9
      · subst hk9
        refine ⟨a, hV, by rw [va_up_self]; exact hwC, MMo_cg hn hM (fun i hi => ?_)⟩
        rw [upd_n _ _ (by omega), show 0 + (24 + 23 * 9) + i = 231 + i by omega, cpy_in hi, upd_n _ _ (by omega), cpy_out (by omega)]
      · obtain ⟨b, b1, b2, b3⟩ := hP (k + 1) (by omega)
        refine ⟨b, b1, ?_, MMo_cg hn b3 (fun i hi => ?_)⟩
        · rw [va_up_ne _ _ hk9]
          unfold rotP
          rw [if_neg hk9]
          exact b2
        · rw [upd_n _ _ (by omega), cpy_out (by omega), upd_n _ _ (by omega), show 0 + (24 + 23 * k) + i = 24 + (23 * k + i) by omega, cpy_in (by omega)]
          congr 1
          omega
  · obtain ⟨w, hw, hwC⟩ := copy_c (v := P n) hn hV hC
    refine ⟨n + 1, va_up P n w, g, upd (va_cpy s s 0 (24 + 23 * n) 23) 23 (nI (n + 1)), ?_, ?_, by omega, by omega, upd_s _ _ _, ?_, ?_⟩
    · unfold fX1_rememberStep
      rw [if_pos (show nI n < (10 : Int32) from nI_lt (b := 10) (by omega) (by omega)), Option.bind_some, chk_vin (by omega) (by omega), nI_clamp (by omega), hw]
      rw [Option.bind_some, lt_eq, nI_1]
    · unfold fX11_remembers
      rw [h23, if_neg (show ¬ nI n = (10 : Int32) from fun q => h10 ((nI_eq (b := 10) (by omega) (by omega)).mp q)), lt_eq, show (23 : Int32) * nI n = nI (23 * n) from pk_mul 23 n, show (24 : Int32) + nI (23 * n) = nI (24 + 23 * n) from nI_add 24 _]
      have r2 := rem70 (s := s) (dp := 24 + 23 * n) (by omega) (by omega) FU 0 (by omega) (by unfold FU; omega)
      rw [cpy_0] at r2
      rw [show (0 : Int32) = nI 0 from rfl, r2, Option.bind_some, lt_eq]
      dsimp only
      rw [cpy_out (i := 23) (by omega), h23, nI_1]
    · intro i hi
      rw [upd_n _ _ (by omega), cpy_out (by omega)]
    · intro k hk
      by_cases hkn : k = n
      · subst hkn
        refine ⟨a, hV, by rw [va_up_self]; exact hwC, MMo_cg hn hM (fun i hi => ?_)⟩
        rw [upd_n _ _ (by omega), show 0 + (24 + 23 * k) + i = (24 + 23 * k) + i by omega, cpy_in hi]
      · obtain ⟨b, b1, b2, b3⟩ := hP k (by omega)
        refine ⟨b, b1, by rw [va_up_ne _ _ hkn]; exact b2, MMo_cg hn b3 (fun i hi => ?_)⟩
        rw [upd_n _ _ (by omega), cpy_out]
        rcases (show k < n by omega) with _
        left
        have : 23 * k + 23 ≤ 23 * n := by
          have h1 : k + 1 ≤ n := by omega
          have h2 := Nat.mul_le_mul_left 23 h1
          omega
        omega
