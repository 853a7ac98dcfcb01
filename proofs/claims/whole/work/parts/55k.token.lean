/-! TOKENS of the class and of the reference -/
theorem run_ex (P : Nat → Bool) (n : Nat) : ∀ (d i : Nat), i + d = n → ∃ e, i ≤ e ∧ e ≤ n ∧ (∀ t, i ≤ t → t < e → P t = true) ∧ (e = n ∨ P e = false) := by
  intro d
  induction d with
  | zero => exact fun i h => ⟨i, Nat.le_refl _, by omega, fun t h1 h2 => by omega, Or.inl (by omega)⟩
  | succ d ih =>
    intro i h
    cases q : P i with
    | false => exact ⟨i, Nat.le_refl _, by omega, fun t h1 h2 => by omega, Or.inr q⟩
    | true =>
      obtain ⟨e, h1, h2, h3, h4⟩ := ih (i + 1) (by omega)
      refine ⟨e, by omega, h2, fun t t1 t2 => ?_, h4⟩
      by_cases z : t = i
      · rw [z]; exact q
      · exact h3 t (by omega) t2
/-- the letter at a place, as the reference has it -/
theorem letterAt_in {n k : Nat} {b : Nat → Int32} (hk : k < n) (hn : n ≤ 180) : fX11_letterAt (nI n) b (nI k) = some (b k) := by
  unfold fX11_letterAt
  rw [if_neg (nI_ge hk (by omega)), chk_vin (by omega) (by omega), nI_clamp (by omega)]
  rfl
theorem letterAt_end {n : Nat} {b : Nat → Int32} (hn : n ≤ 180) : fX11_letterAt (nI n) b (nI n) = some (-1) := by
  unfold fX11_letterAt
  rw [if_pos (nI_le (Nat.le_refl _) (by omega))]
  rfl
def isLet (c : Nat) : Bool := decide (97 ≤ c ∧ c ≤ 122)
def isDig (c : Nat) : Bool := decide (48 ≤ c ∧ c ≤ 57)
theorem let_c : ∀ c, c < 256 → fX8_isLetter (nI c) = some (if isLet c then 1 else 0) := by decide +kernel
theorem dig_c : ∀ c, c < 256 → fX8_isDigit (nI c) = some (if isDig c then 1 else 0) := by decide +kernel
theorem let_m (v : Int32) : fX11_isLetter v = fX8_isLetter v := by
  unfold fX11_isLetter fX8_isLetter
  rw [in_eq, Option.bind_some, chk_tt (okZ_in _ _ _)]
theorem dig_m (v : Int32) : fX11_isDigit v = fX8_isDigit v := by
  unfold fX11_isDigit fX8_isDigit
  rw [in_eq, Option.bind_some, chk_tt (okZ_in _ _ _)]
section TOKEN
variable {n : Nat} {x : Nat → Nat} {a b : Nat → Int32}
theorem skip_loop (hn : n ≤ 180) (hx : ∀ i, i < n → x i < 256 ∧ a i = nI (x i) ∧ b i = nI (x i)) {e : Nat} (he : e ≤ n) (h1 : e = n ∨ decide (x e = 32) = false) :
    ∀ (d t f1 f2 : Nat), t + d = e → d < f1 → d < f2 → (∀ i, t ≤ i → i < e → decide (x i = 32) = true) → fX8_readToken_0 (nI n) a f1 (nI t) = some (nI e) ∧ fX11_token_0 (nI n) b f2 (nI t) = some (nI e) := by
  intro d
  induction d with
  | zero =>
    intro t f1 f2 ht hf1 hf2 hi
    obtain ⟨f1, rfl⟩ : ∃ g, f1 = g + 1 := ⟨f1 - 1, by omega⟩
    obtain ⟨f2, rfl⟩ : ∃ g, f2 = g + 1 := ⟨f2 - 1, by omega⟩
    rw [Nat.add_zero] at ht
    subst ht
    rw [fX8_readToken_0, fX11_token_0]
    by_cases z : t = n
    · subst z
      rw [if_pos (nI_le (Nat.le_refl _) (by omega)), letterAt_end hn]
      exact ⟨rfl, rfl⟩
    · obtain ⟨x1, x2, x3⟩ := hx t (by omega)
      have h2 : ¬ x t = 32 := by
        rcases h1 with w | w
        · exact absurd w z
        · exact of_decide_eq_false w
      have h3 : ¬ nI (x t) = 32 := fun w => h2 ((nI_eq (b := 32) (by omega) (by omega)).mp w)
      rw [if_neg (nI_ge (show t < n by omega) (by omega)), chk_vin (by omega) (by omega), nI_clamp (by omega), x2, if_neg h3, letterAt_in (by omega) hn, x3, Option.bind_some, if_neg h3]
      exact ⟨rfl, rfl⟩
  | succ d ih =>
    intro t f1 f2 ht hf1 hf2 hi
    obtain ⟨f1, rfl⟩ : ∃ g, f1 = g + 1 := ⟨f1 - 1, by omega⟩
    obtain ⟨f2, rfl⟩ : ∃ g, f2 = g + 1 := ⟨f2 - 1, by omega⟩
    obtain ⟨x1, x2, x3⟩ := hx t (by omega)
    have h3 : nI (x t) = 32 := by
      rw [of_decide_eq_true (hi t (Nat.le_refl _) (by omega))]
      rfl
    rw [fX8_readToken_0, fX11_token_0, if_neg (nI_ge (show t < n by omega) (by omega)), chk_vin (by omega) (by omega), nI_clamp (by omega), x2, if_pos h3, letterAt_in (by omega) hn, x3, Option.bind_some, if_pos h3, lt_eq, lt_eq, nI_1]
    exact ih (t + 1) f1 f2 (by omega) (by omega) (by omega) (fun i i1 i2 => hi i (by omega) i2)
theorem let_loop_c (hn : n ≤ 180) (hx : ∀ i, i < n → x i < 256 ∧ a i = nI (x i) ∧ b i = nI (x i)) {e : Nat} (he : e ≤ n) (h1 : e = n ∨ isLet (x e) = false) :
    ∀ (d t f1 : Nat), t + d = e → d < f1 → (∀ i, t ≤ i → i < e → isLet (x i) = true) → fX8_readLetters_10 (nI n) a f1 (nI t) = some (nI e) := by
  intro d
  induction d with
  | zero =>
    intro t f1 ht hf1 hi
    obtain ⟨f1, rfl⟩ : ∃ g, f1 = g + 1 := ⟨f1 - 1, by omega⟩
    rw [Nat.add_zero] at ht
    subst ht
    rw [fX8_readLetters_10]
    by_cases z : t = n
    · subst z
      rw [if_pos (nI_le (Nat.le_refl _) (by omega))]
    · obtain ⟨x1, x2, x3⟩ := hx t (by omega)
      have h2 : isLet (x t) = false := by
        rcases h1 with w | w
        · exact absurd w z
        · exact w
      rw [if_neg (nI_ge (show t < n by omega) (by omega)), chk_vin (by omega) (by omega), nI_clamp (by omega), x2, let_c _ x1, h2]
      rfl
  | succ d ih =>
    intro t f1 ht hf1 hi
    obtain ⟨f1, rfl⟩ : ∃ g, f1 = g + 1 := ⟨f1 - 1, by omega⟩
    obtain ⟨x1, x2, x3⟩ := hx t (by omega)
    rw [fX8_readLetters_10, if_neg (nI_ge (show t < n by omega) (by omega)), chk_vin (by omega) (by omega), nI_clamp (by omega), x2, let_c _ x1, hi t (Nat.le_refl _) (by omega), Option.bind_some, if_pos rfl, if_neg one_ne, lt_eq, nI_1]
    exact ih (t + 1) f1 (by omega) (by omega) (fun i i1 i2 => hi i (by omega) i2)
theorem let_loop_m (hn : n ≤ 180) (hx : ∀ i, i < n → x i < 256 ∧ a i = nI (x i) ∧ b i = nI (x i)) {e : Nat} (he : e ≤ n) (h1 : e = n ∨ isLet (x e) = false) :
    ∀ (d t f1 : Nat) (v : Int32), t + d = e → d < f1 → (∀ i, t ≤ i → i < e → isLet (x i) = true) → fX11_token_114 (nI n) 1 b f1 (nI t) v = some (nI e, if d = 0 then v else 0) := by
  intro d
  induction d with
  | zero =>
    intro t f1 v ht hf1 hi
    obtain ⟨f1, rfl⟩ : ∃ g, f1 = g + 1 := ⟨f1 - 1, by omega⟩
    rw [Nat.add_zero] at ht
    subst ht
    rw [fX11_token_114, if_pos rfl, if_pos rfl]
    by_cases z : t = n
    · subst z
      rw [letterAt_end hn]
      rfl
    · obtain ⟨x1, x2, x3⟩ := hx t (by omega)
      have h2 : isLet (x t) = false := by
        rcases h1 with w | w
        · exact absurd w z
        · exact w
      rw [letterAt_in (by omega) hn, x3, Option.bind_some, let_m, let_c _ x1, h2]
      rfl
  | succ d ih =>
    intro t f1 v ht hf1 hi
    obtain ⟨f1, rfl⟩ : ∃ g, f1 = g + 1 := ⟨f1 - 1, by omega⟩
    obtain ⟨x1, x2, x3⟩ := hx t (by omega)
    rw [fX11_token_114, if_pos rfl, letterAt_in (by omega) hn, x3, Option.bind_some, let_m, let_c _ x1, hi t (Nat.le_refl _) (by omega), Option.bind_some, if_pos rfl, if_neg one_ne, lt_eq, nI_1, ih (t + 1) f1 0 (by omega) (by omega) (fun i i1 i2 => hi i (by omega) i2), if_neg (show ¬ d + 1 = 0 by omega)]
    by_cases z : d = 0
    · rw [if_pos z]
    · rw [if_neg z]
/-- the two values of a number that is being read; j: where it begins -/
def NumR (c j t V M : Nat) : Prop := V ≤ 999 ∧ M ≤ 1000 ∧ (¬ c = 48 → (V ≤ 99 ∧ M = V) ∨ (99 < V ∧ 99 < M)) ∧ (c = 48 → (t = j + 1 ∧ V = 0 ∧ M = 0) ∨ (j + 1 < t ∧ M = 1000))
theorem dg_val {V c : Nat} (h1 : 48 ≤ c) (h2 : c ≤ 57) : (nI V * 10 + nI c) - 48 = nI (V * 10 + (c - 48)) := by
  rw [show nI V * (10 : Int32) = nI (V * 10) from pk_mul V 10, nI_add, show (48 : Int32) = nI 48 from rfl, pk_sub (by omega)]
  congr 1
  omega
theorem dg_val' {V c : Nat} (h1 : 48 ≤ c) (h2 : c ≤ 57) : ((10 : Int32) * nI V + nI c) - 48 = nI (V * 10 + (c - 48)) := by
  rw [Int32.mul_comm]
  exact dg_val h1 h2
theorem dig_loop (hn : n ≤ 180) (hx : ∀ i, i < n → x i < 256 ∧ a i = nI (x i) ∧ b i = nI (x i)) {e j c : Nat} (hc : c < 256) (he : e ≤ n) (h1 : e = n ∨ isDig (x e) = false) :
    ∀ (d t f1 f2 V M : Nat), t + d = e → d < f1 → d < f2 → j < t → (∀ i, t ≤ i → i < e → isDig (x i) = true) → NumR c j t V M → ∃ V' M', NumR c j e V' M' ∧ fX8_readNumber_20 (nI n) a f1 (nI t) (nI V) = some (nI e, nI V') ∧ fX11_token_170 (nI c) (nI n) b f2 (nI t) (nI M) = some (nI e, nI M') := by
  intro d
  induction d with
  | zero =>
    intro t f1 f2 V M ht hf1 hf2 hj hi hR
    obtain ⟨f1, rfl⟩ : ∃ g, f1 = g + 1 := ⟨f1 - 1, by omega⟩
    obtain ⟨f2, rfl⟩ : ∃ g, f2 = g + 1 := ⟨f2 - 1, by omega⟩
    rw [Nat.add_zero] at ht
    subst ht
    refine ⟨V, M, hR, ?_, ?_⟩
    · rw [fX8_readNumber_20]
      by_cases z : t = n
      · subst z
        rw [if_pos (nI_le (Nat.le_refl _) (by omega))]
      · obtain ⟨x1, x2, x3⟩ := hx t (by omega)
        have h2 : isDig (x t) = false := by
          rcases h1 with w | w
          · exact absurd w z
          · exact w
        rw [if_neg (nI_ge (show t < n by omega) (by omega)), chk_vin (by omega) (by omega), nI_clamp (by omega), x2, dig_c _ x1, h2]
        rfl
    · rw [fX11_token_170]
      by_cases z : t = n
      · subst z
        rw [letterAt_end hn]
        rfl
      · obtain ⟨x1, x2, x3⟩ := hx t (by omega)
        have h2 : isDig (x t) = false := by
          rcases h1 with w | w
          · exact absurd w z
          · exact w
        rw [letterAt_in (by omega) hn, x3, Option.bind_some, dig_m, dig_c _ x1, h2]
        rfl
  | succ d ih =>
    intro t f1 f2 V M ht hf1 hf2 hj hi hR
    obtain ⟨f1, rfl⟩ : ∃ g, f1 = g + 1 := ⟨f1 - 1, by omega⟩
    obtain ⟨f2, rfl⟩ : ∃ g, f2 = g + 1 := ⟨f2 - 1, by omega⟩
    obtain ⟨x1, x2, x3⟩ := hx t (by omega)
    have hdig := hi t (Nat.le_refl _) (by omega)
    have hd2 : 48 ≤ x t ∧ x t ≤ 57 := of_decide_eq_true hdig
    obtain ⟨r1, r2, r3, r4⟩ := hR
    rw [fX8_readNumber_20, fX11_token_170, if_neg (nI_ge (show t < n by omega) (by omega))]
    simp (disch := omega) only [chk_vin, nI_clamp]
    rw [letterAt_in (by omega) hn, Option.bind_some, dig_m, x2, x3, dig_c _ x1, hdig, Option.bind_some, Option.bind_some, if_pos rfl, if_neg one_ne, if_neg one_ne, dg_val hd2.1 hd2.2]
    have cl : ∀ (α : Type) (p q : α), (if (99 : Int32) < nI V then p else q) = if 99 < V then p else q := by
      intro α p q
      by_cases w : 99 < V
      · rw [if_pos w, if_pos (show (99 : Int32) < nI V from nI_lt (a := 99) w (by omega))]
      · rw [if_neg w, if_neg (show ¬ (99 : Int32) < nI V from nI_nlt (a := 99) (by omega) (by omega))]
    have mo : (if nI c = 48 then some 1000 else (if nI M ≤ 99 then (some (((10 * nI M) + nI (x t)) - 48)) else some 1000)) = some (nI (if c = 48 then 1000 else if M ≤ 99 then M * 10 + (x t - 48) else 1000)) := by
      by_cases w : c = 48
      · rw [if_pos w, if_pos (show nI c = 48 by rw [w]; rfl)]
        rfl
      · rw [if_neg w, if_neg (show ¬ nI c = 48 from fun z => w ((nI_eq (b := 48) (by omega) (by omega)).mp z))]
        by_cases w2 : M ≤ 99
        · rw [if_pos w2, if_pos (show nI M ≤ 99 from nI_le (b := 99) w2 (by omega)), dg_val' hd2.1 hd2.2]
        · rw [if_neg w2, if_neg (show ¬ nI M ≤ 99 from nI_ge (a := 99) (by omega) (by omega))]
          rfl
    rw [cl, mo, Option.bind_some, lt_eq, lt_eq, lt_eq, lt_eq, nI_1]
    by_cases w : 99 < V
    · rw [if_pos w]
      refine ih (t + 1) f1 f2 _ _ (by omega) (by omega) (by omega) (by omega) (fun i i1 i2 => hi i (by omega) i2) ⟨r1, ?_, fun hc => ?_, fun hc => ?_⟩
      · split
        · omega
        · split <;> omega
      · rw [if_neg hc]
        rcases r3 hc with z | z
        · omega
        · rw [if_neg (by omega)]
          exact Or.inr ⟨w, by omega⟩
      · rw [if_pos hc]
        exact Or.inr ⟨by omega, rfl⟩
    · rw [if_neg w]
      refine ih (t + 1) f1 f2 _ _ (by omega) (by omega) (by omega) (by omega) (fun i i1 i2 => hi i (by omega) i2) ⟨by omega, ?_, fun hc => ?_, fun hc => ?_⟩
      · split
        · omega
        · split <;> omega
      · rw [if_neg hc]
        rcases r3 hc with z | z
        · rw [z.2, if_pos z.1]
          rcases Nat.lt_or_ge 99 (V * 10 + (x t - 48)) with y | y
          · exact Or.inr ⟨y, y⟩
          · exact Or.inl ⟨y, rfl⟩
        · omega
      · rw [if_pos hc]
        exact Or.inr ⟨by omega, rfl⟩
/-- what a token is in the class and in the reference -/
def TokR (s1 v1 s2 v2 : Int32) : Prop := (s1 = 0 ∧ s2 = 0) ∨ (s1 = 1 ∧ s2 = 1 ∧ v1 = v2) ∨ (s1 = 2 ∧ s2 = 2 ∧ ∃ v, v ≤ 99 ∧ v1 = nI v ∧ v2 = nI v) ∨ (s1 = 3 ∧ s2 = 3) ∨ (s1 = 4 ∧ s2 = 4) ∨ (s1 = 4 ∧ s2 = 2 ∧ ∃ v, 99 < v ∧ v ≤ 1000 ∧ v2 = nI v)
theorem token_cm (hn : n ≤ 180) (hx : ∀ i, i < n → x i < 256 ∧ a i = nI (x i) ∧ b i = nI (x i)) {k : Nat} (hk : k ≤ n) :
    ∃ (st nx : Nat) (s1 v1 s2 v2 : Int32), fX8_readToken (nI n) (nI k) a = some (nI st, nI nx, s1, v1) ∧ fX11_token (nI n) (nI k) b = some (nI nx, s2, nI st, v2) ∧ TokR s1 v1 s2 v2 ∧ k ≤ st ∧ st ≤ nx ∧ nx ≤ n ∧ (¬ s1 = 0 → st < nx) := by
  obtain ⟨j, j1, j2, j3, j4⟩ := run_ex (fun i => decide (x i = 32)) n (n - k) k (by omega)
  obtain ⟨sc, sm'⟩ := skip_loop hn hx j2 j4 (j - k) k FU FU (by omega) (by unfold FU; omega) (by unfold FU; omega) (fun i i1 i2 => j3 i i1 i2)
  unfold fX8_readToken fX11_token
  rw [sc, sm', Option.bind_some, Option.bind_some]
  by_cases z : j = n
  · subst z
    rw [if_neg (nI_nlt (Nat.le_refl _) (by omega)), letterAt_end hn, Option.bind_some, if_neg (show ¬ (0 : Int32) ≤ -1 by decide), Option.bind_some, if_pos rfl, lt_eq, Int32.add_zero]
    refine ⟨j, j, 0, 0, 0, -1, rfl, ?_, Or.inl ⟨rfl, rfl⟩, j1, Nat.le_refl _, Nat.le_refl _, fun w => absurd rfl w⟩
    rw [show FU = 999999 + 1 from rfl, fX11_token_114, if_neg (show ¬ (0 : Int32) = 1 by decide), Option.bind_some, if_neg (show ¬ (0 : Int32) = 2 by decide)]
  · have hj : j < n := by omega
    obtain ⟨x1, x2, x3⟩ := hx j hj
    rw [if_pos (nI_lt hj (by omega)), chk_vin (by omega) (by omega), nI_clamp (by omega), x2, let_c _ x1, letterAt_in hj hn, x3, Option.bind_some, Option.bind_some, if_pos (show (0 : Int32) ≤ nI (x j) from nI_le (a := 0) (by omega) (by omega)), let_m, let_c _ x1, dig_m, dig_c _ x1, Option.bind_some]
    cases ql : isLet (x j) with
    | true =>
      rw [if_pos rfl, if_neg one_ne, Option.bind_some, if_neg one_ne, Option.bind_some, if_neg one_ne, lt_eq, nI_1]
      obtain ⟨e, e1, e2, e3, e4⟩ := run_ex (fun i => isLet (x i)) n (n - (j + 1)) (j + 1) (by omega)
      have rm := let_loop_m hn hx e2 e4 (e - (j + 1)) (j + 1) FU (nI (x j)) (by omega) (by unfold FU; omega) (fun i i1 i2 => e3 i i1 i2)
      have rc := let_loop_c hn hx e2 e4 (e - j) j FU (by omega) (by unfold FU; omega) (fun i i1 i2 => by
        by_cases w : i = j
        · rw [w]; exact ql
        · exact e3 i (by omega) i2)
      unfold fX8_readLetters
      rw [chk_vin (by omega) (by omega), nI_clamp (by omega), x2, lt_eq, rc, rm, Option.bind_some, Option.bind_some, pk_sub (by omega), if_neg (show ¬ (1 : Int32) = 2 by decide), lt_eq, Option.bind_some]
      refine ⟨j, e, 1, if nI (e - j) = 1 then nI (x j) else 0, 1, if e - (j + 1) = 0 then nI (x j) else 0, rfl, rfl, Or.inr (Or.inl ⟨rfl, rfl, ?_⟩), j1, by omega, e2, fun _ => by omega⟩
      by_cases w : e = j + 1
      · rw [if_pos (show nI (e - j) = 1 by rw [w, Nat.add_sub_cancel_left]; rfl), if_pos (by omega)]
      · rw [if_neg (show ¬ nI (e - j) = 1 from fun y => by have := (nI_eq (b := 1) (show e - j < 2 ^ 31 by omega) (by omega)).mp y; omega), if_neg (by omega)]
    | false =>
      rw [if_neg Bool.false_ne_true, if_pos rfl, Option.bind_some, if_pos rfl, Option.bind_some]
      cases qd : isDig (x j) with
      | true =>
        have hd2 : 48 ≤ x j ∧ x j ≤ 57 := of_decide_eq_true qd
        rw [if_pos rfl, if_neg one_ne, if_neg one_ne, Option.bind_some, if_neg (show ¬ (2 : Int32) = 0 by decide), lt_eq, nI_1, show FU = 999999 + 1 from rfl, fX11_token_114, if_neg (show ¬ (2 : Int32) = 1 by decide), Option.bind_some, if_pos rfl, show nI (x j) - 48 = nI (x j - 48) by rw [show (48 : Int32) = nI 48 from rfl, pk_sub hd2.1], lt_eq]
        obtain ⟨e, e1, e2, e3, e4⟩ := run_ex (fun i => isDig (x i)) n (n - (j + 1)) (j + 1) (by omega)
        obtain ⟨V, M, hR, rc, rm⟩ := dig_loop (c := x j) (j := j) hn hx x1 e2 e4 (e - (j + 1)) (j + 1) 999999 (999999 + 1) (x j - 48) (x j - 48) (by omega) (by omega) (by omega) (by omega) (fun i i1 i2 => e3 i i1 i2) ⟨by omega, by omega, fun hc => Or.inl ⟨by omega, rfl⟩, fun hc => Or.inl ⟨rfl, by omega, by omega⟩⟩
        obtain ⟨r1, r2, r3, r4⟩ := hR
        unfold fX8_readNumber
        have rc0 : fX8_readNumber_20 (nI n) a (999999 + 1) (nI j) 0 = some (nI e, nI V) := by
          rw [fX8_readNumber_20, if_neg (nI_ge hj (by omega)), chk_vin (by omega) (by omega), nI_clamp (by omega), x2, dig_c _ x1, qd, Option.bind_some, if_pos rfl, if_neg one_ne, if_neg (show ¬ (99 : Int32) < 0 by decide), show (0 : Int32) = nI 0 from rfl, dg_val hd2.1 hd2.2, lt_eq, lt_eq, nI_1, Nat.zero_mul, Nat.zero_add]
          exact rc
        rw [chk_vin (by omega) (by omega), nI_clamp (by omega), x2, lt_eq, show FU = 999999 + 1 from rfl, rc0, rm, Option.bind_some, Option.bind_some, lt_eq, lt_eq, pk_sub (by omega), Option.bind_some]
        dsimp only
        refine ⟨j, e, _, _, 2, nI M, rfl, rfl, ?_, j1, by omega, e2, fun _ => by omega⟩
        by_cases w : 99 < V
        · rw [if_pos (show (99 : Int32) < nI V from nI_lt (a := 99) w (by omega))]
          refine Or.inr (Or.inr (Or.inr (Or.inr (Or.inr ⟨rfl, rfl, M, ?_, r2, rfl⟩))))
          by_cases hc : x j = 48
          · rcases r4 hc with y | y <;> omega
          · rcases r3 hc with y | y <;> omega
        · rw [if_neg (show ¬ (99 : Int32) < nI V from nI_nlt (a := 99) (by omega) (by omega))]
          by_cases hc : x j = 48
          · rw [if_pos (show nI (x j) = 48 by rw [hc]; rfl), if_neg one_ne]
            rcases r4 hc with y | y
            · rw [if_pos (show nI (e - j) ≤ 1 from nI_le (b := 1) (by omega) (by omega)), if_pos rfl]
              exact Or.inr (Or.inr (Or.inl ⟨rfl, rfl, 0, by omega, by rw [y.2.1], by rw [y.2.2]⟩))
            · rw [if_neg (show ¬ nI (e - j) ≤ 1 from nI_ge (a := 1) (by omega) (by omega)), if_neg one_ne]
              exact Or.inr (Or.inr (Or.inr (Or.inr (Or.inr ⟨rfl, rfl, M, by omega, r2, rfl⟩))))
          · rw [if_neg (show ¬ nI (x j) = 48 from fun y => hc ((nI_eq (b := 48) (by omega) (by omega)).mp y)), if_pos rfl, if_pos rfl]
            rcases r3 hc with y | y
            · exact Or.inr (Or.inr (Or.inl ⟨rfl, rfl, V, y.1, rfl, by rw [y.2]⟩))
            · omega
      | false =>
        rw [if_neg Bool.false_ne_true, if_pos rfl, if_pos rfl]
        by_cases w : x j = 59
        · have w2 : nI (x j) = 59 := by rw [w]; rfl
          rw [if_pos w2, if_pos w2, Option.bind_some, lt_eq, lt_eq, if_neg (show ¬ (3 : Int32) = 0 by decide), lt_eq, nI_1, show FU = 999999 + 1 from rfl, fX11_token_114, if_neg (show ¬ (3 : Int32) = 1 by decide), Option.bind_some, if_neg (show ¬ (3 : Int32) = 2 by decide)]
          exact ⟨j, j + 1, 3, 0, 3, _, rfl, rfl, Or.inr (Or.inr (Or.inr (Or.inl ⟨rfl, rfl⟩))), j1, by omega, by omega, fun _ => by omega⟩
        · have w2 : ¬ nI (x j) = 59 := fun y => w ((nI_eq (b := 59) (by omega) (by omega)).mp y)
          rw [if_neg w2, if_neg w2, Option.bind_some, lt_eq, lt_eq, if_neg (show ¬ (4 : Int32) = 0 by decide), lt_eq, nI_1, show FU = 999999 + 1 from rfl, fX11_token_114, if_neg (show ¬ (4 : Int32) = 1 by decide), Option.bind_some, if_neg (show ¬ (4 : Int32) = 2 by decide)]
          exact ⟨j, j + 1, 4, 0, 4, _, rfl, rfl, Or.inr (Or.inr (Or.inr (Or.inr (Or.inl ⟨rfl, rfl⟩)))), j1, by omega, by omega, fun _ => by omega⟩
end TOKEN
