/-! PAIRS: how many -/
theorem sm_pt {f g : Nat → Nat} : ∀ n, (∀ k, k < n → f k ≤ g k) → sm f n ≤ sm g n
  | 0, _ => Nat.le_refl _
  | n + 1, h => by
    have h1 := sm_pt n (fun k hk => h k (by omega))
    have h2 := h n (by omega)
    rw [sm, sm]
    omega
theorem sm_add {f g : Nat → Nat} : ∀ n, sm (fun k => f k + g k) n = sm f n + sm g n
  | 0 => rfl
  | n + 1 => by
    rw [sm, sm, sm, sm_add n]
    omega
theorem sm_up {f g : Nat → Nat} {j : Nat} : ∀ n, j < n → g j = f j + 1 → (∀ k, k < n → ¬ k = j → g k = f k) → sm g n = sm f n + 1
  | 0, h, _, _ => by omega
  | n + 1, h, h1, h2 => by
    rw [sm, sm]
    by_cases e : j = n
    · subst e
      rw [h1, sm_congr j (fun k hk => h2 k (by omega) (by omega))]
      omega
    · rw [sm_up n (by omega) h1 (fun k hk hj => h2 k (by omega) hj), h2 n (by omega) (by omega)]
      omega
theorem sm_lt {f g : Nat → Nat} {j : Nat} : ∀ n, j < n → f j + 1 ≤ g j → (∀ k, k < n → f k ≤ g k) → sm f n + 1 ≤ sm g n
  | 0, h, _, _ => by omega
  | n + 1, h, h1, h2 => by
    rw [sm, sm]
    by_cases e : j = n
    · subst e
      have := sm_pt j (fun k hk => h2 k (by omega))
      omega
    · have h3 := sm_lt n (by omega) h1 (fun k hk => h2 k (by omega))
      have h4 := h2 n (by omega)
      omega
theorem sm_at {f : Nat → Nat} {j : Nat} : ∀ n, j < n → f j ≤ sm f n
  | 0, h => by omega
  | n + 1, h => by
    rw [sm]
    by_cases e : j = n
    · subst e; omega
    · have := sm_at (f := f) n (show j < n by omega)
      omega
theorem sm_two {f : Nat → Nat} {j k : Nat} : ∀ n, j < n → k < n → ¬ j = k → f j + f k ≤ sm f n
  | 0, h, _, _ => by omega
  | n + 1, h1, h2, h3 => by
    rw [sm]
    by_cases e : j = n
    · subst e
      have := sm_at (f := f) j (show k < j by omega)
      omega
    · by_cases e2 : k = n
      · subst e2
        have := sm_at (f := f) k (show j < k by omega)
        omega
      · have := sm_two (f := f) n (show j < n by omega) (show k < n by omega) h3
        omega
theorem sm_pos {f : Nat → Nat} : ∀ n, 0 < sm f n → ∃ j, j < n ∧ 0 < f j
  | 0, h => by rw [sm] at h; omega
  | n + 1, h => by
    rw [sm] at h
    by_cases e : 0 < f n
    · exact ⟨n, by omega, e⟩
    · obtain ⟨j, h1, h2⟩ := sm_pos (f := f) n (by omega)
      exact ⟨j, by omega, h2⟩
theorem sm_max {f : Nat → Nat} (h : ∀ k, f k ≤ 1) : ∀ n, sm f n ≤ n
  | 0 => Nat.le_refl _
  | n + 1 => by
    have h1 := sm_max h n
    have h2 := h n
    rw [sm]
    omega
def Rch (fol : Nat → Nat → Bool) (n : Nat) : Nat → Nat → Prop
  | 0, M => M = 0
  | i + 1, M => Rch fol n i M ∨ ∃ P j, Rch fol n i P ∧ j < n ∧ fol i j = true ∧ P.testBit j = false ∧ M = P ||| 2 ^ j
def pc (n M : Nat) : Nat := sm (fun j => if M.testBit j then 1 else 0) n
theorem tb_or (P j k : Nat) : (P ||| 2 ^ j).testBit k = (P.testBit k || decide (j = k)) := by
  rw [Nat.testBit_or, Nat.testBit_two_pow]
theorem pc_or {n P j : Nat} (hj : j < n) (h : P.testBit j = false) : pc n (P ||| 2 ^ j) = pc n P + 1 := by
  unfold pc
  refine sm_up n hj ?_ (fun k hk hkj => ?_)
  · rw [tb_or, h, decide_eq_true rfl]
    rfl
  · rw [tb_or, decide_eq_false (fun z => hkj z.symm), Bool.or_false]
theorem Rch_lt {fol : Nat → Nat → Bool} {n : Nat} : ∀ i M, Rch fol n i M → M < 2 ^ n
  | 0, M, h => by
    rw [show M = 0 from h]
    exact Nat.two_pow_pos n
  | i + 1, M, h => by
    rcases h with h | ⟨P, j, h1, h2, h3, h4, h5⟩
    · exact Rch_lt i M h
    · rw [h5]
      exact Nat.or_lt_two_pow (Rch_lt i P h1) (Nat.pow_lt_pow_right (by omega) h2)
theorem Rch_le {fol : Nat → Nat → Bool} {n : Nat} {bad D : Nat → Bool} (hb : ∀ i j, j < n → bad i = true → fol i j = true → D j = true) : ∀ i M, Rch fol n i M → pc n M ≤ sm (fun l => if bad l then 0 else 1) i + sm (fun j => if M.testBit j && D j then 1 else 0) n
  | 0, M, h => by
    rw [show M = 0 from h]
    have : pc n 0 = sm (fun j => if (0 : Nat).testBit j && D j then 1 else 0) n := sm_congr n (fun k _ => by rw [Nat.zero_testBit]; rfl)
    rw [this]
    omega
  | i + 1, M, h => by
    rw [sm]
    rcases h with h | ⟨P, j, h1, h2, h3, h4, h5⟩
    · have := Rch_le hb i M h
      omega
    · have ih := Rch_le hb i P h1
      rw [h5, pc_or h2 h4]
      by_cases q : bad i = true
      · have hD := hb i j h2 q h3
        have : sm (fun k => if (P ||| 2 ^ j).testBit k && D k then 1 else 0) n = sm (fun k => if P.testBit k && D k then 1 else 0) n + 1 := by
          refine sm_up n h2 ?_ (fun k hk hkj => ?_)
          · rw [tb_or, h4, hD, decide_eq_true rfl]
            rfl
          · rw [tb_or, decide_eq_false (fun z => hkj z.symm), Bool.or_false]
        rw [this]
        omega
      · have : sm (fun k => if P.testBit k && D k then 1 else 0) n ≤ sm (fun k => if (P ||| 2 ^ j).testBit k && D k then 1 else 0) n := by
          refine sm_pt n (fun k hk => ?_)
          rw [tb_or]
          cases P.testBit k <;> cases D k <;> cases (decide (j = k)) <;> decide
        rw [if_neg q]
        omega
/-- a row of leaders: who has j -/
def cM (n : Nat) (ld : Nat → Option Nat) : Nat := sm (fun j => if (ld j).isSome then 1 else 0) n
def cL (n : Nat) (ld : Nat → Option Nat) (l : Nat) : Nat := sm (fun j => if ld j = some l then 1 else 0) n
theorem Rch_ld {fol : Nat → Nat → Bool} {n : Nat} {ld : Nat → Option Nat} (hf : ∀ j l, j < n → ld j = some l → fol l j = true) (hc : ∀ l, cL n ld l ≤ 1) : ∀ i, ∃ M, Rch fol n i M ∧ ∀ j, j < n → (M.testBit j = true ↔ ∃ l, l < i ∧ ld j = some l) := by
  intro i
  induction i with
  | zero => exact ⟨0, rfl, fun j hj => ⟨fun h => (by rw [Nat.zero_testBit] at h; cases h), fun ⟨l, h, _⟩ => (by omega)⟩⟩
  | succ i ih =>
    obtain ⟨M, h1, h2⟩ := ih
    by_cases q : ∃ j, j < n ∧ ld j = some i
    · obtain ⟨j, hj, hl⟩ := q
      have hb : M.testBit j = false := by
        cases z : M.testBit j with
        | false => rfl
        | true =>
          obtain ⟨l, h3, h4⟩ := (h2 j hj).mp z
          rw [hl] at h4
          cases h4
          omega
      refine ⟨M ||| 2 ^ j, Or.inr ⟨M, j, h1, hj, hf j i hj hl, hb, rfl⟩, fun k hk => ?_⟩
      rw [tb_or, Bool.or_eq_true, h2 k hk, decide_eq_true_iff]
      constructor
      · rintro (⟨l, h3, h4⟩ | h3)
        · exact ⟨l, by omega, h4⟩
        · subst h3
          exact ⟨i, by omega, hl⟩
      · rintro ⟨l, h3, h4⟩
        by_cases e : l = i
        · subst e
          right
          refine Classical.byContradiction (fun hne => ?_)
          have := sm_two (f := fun j => if ld j = some l then 1 else 0) n hj hk hne
          rw [if_pos hl, if_pos h4] at this
          have h5 := hc l
          unfold cL at h5
          omega
        · exact Or.inl ⟨l, by omega, h4⟩
    · refine ⟨M, Or.inl h1, fun k hk => ?_⟩
      rw [h2 k hk]
      constructor
      · rintro ⟨l, h3, h4⟩
        exact ⟨l, by omega, h4⟩
      · rintro ⟨l, h3, h4⟩
        by_cases e : l = i
        · subst e
          exact absurd ⟨k, hk, h4⟩ q
        · exact ⟨l, by omega, h4⟩
def ltO (o : Option Nat) (m : Nat) : Bool := match o with
  | none => false
  | some l => decide (l < m)
/-- all that is known when all have been tried: as many pairs as there can be -/
theorem pairs_max {fol : Nat → Nat → Bool} {n : Nat} {ld : Nat → Option Nat} {ok D : Nat → Bool} (hf : ∀ j l, j < n → ld j = some l → l < n ∧ fol l j = true) (hok : ∀ l, l < n → cL n ld l = if ok l then 1 else 0) (hD : ∀ j, j < n → D j = true → ∃ l, ld j = some l ∧ ∀ k, k < n → fol l k = true → D k = true) (hF : ∀ l, l < n → ok l = false → ∀ k, k < n → fol l k = true → D k = true) :
    (∃ M, Rch fol n n M ∧ pc n M = cM n ld) ∧ ∀ M, Rch fol n n M → pc n M ≤ cM n ld := by
  have hc : ∀ l, cL n ld l ≤ 1 := by
    intro l
    by_cases hl : l < n
    · rw [hok l hl]
      split <;> omega
    · have : cL n ld l = sm (fun _ => 0) n := sm_congr n (fun j hj => if_neg (fun z => hl (hf j l hj z).1))
      rw [this]
      have := sm_max (f := fun _ => 0) (fun _ => Nat.zero_le _) n
      have h0 : ∀ m, sm (fun _ => 0) m = 0 := by
        intro m
        induction m with
        | zero => rfl
        | succ m ih => rw [sm, ih]
      rw [h0]
      omega
  refine ⟨?_, ?_⟩
  · obtain ⟨M, h1, h2⟩ := Rch_ld (fun j l hj h => (hf j l hj h).2) hc n
    refine ⟨M, h1, sm_congr n (fun j hj => ?_)⟩
    cases q : ld j with
    | none =>
      have : M.testBit j = false := by
        cases z : M.testBit j with
        | false => rfl
        | true =>
          obtain ⟨l, h3, h4⟩ := (h2 j hj).mp z
          rw [q] at h4
          cases h4
      rw [this]
      rfl
    | some l =>
      rw [(h2 j hj).mpr ⟨l, (hf j l hj q).1, q⟩]
      rfl
  · intro M hM
    have h1 := Rch_le (fol := fol) (n := n) (bad := fun l => !(ok l && (List.range n).all (fun j => !(D j && decide (ld j = some l)))) && decide (l < n)) (D := D) (fun i j hj hb hfo => by
      rw [Bool.and_eq_true, Bool.not_eq_true', decide_eq_true_iff] at hb
      obtain ⟨hb, hi⟩ := hb
      cases qo : ok i with
      | false => exact hF i hi qo j hj hfo
      | true =>
        rw [qo, Bool.true_and] at hb
        obtain ⟨k, hk, hk2⟩ : ∃ k, k < n ∧ (D k && decide (ld k = some i)) = true := by
          refine Classical.byContradiction (fun hne => ?_)
          have : (List.range n).all (fun j => !(D j && decide (ld j = some i))) = true := by
            rw [List.all_eq_true]
            intro k hk
            rw [List.mem_range] at hk
            cases z : (D k && decide (ld k = some i)) with
            | false => rfl
            | true => exact absurd ⟨k, hk, z⟩ hne
          rw [this] at hb
          cases hb
        rw [Bool.and_eq_true, decide_eq_true_iff] at hk2
        obtain ⟨l, h3, h4⟩ := hD k hk hk2.1
        rw [hk2.2] at h3
        cases h3
        exact h4 j hj hfo) n M hM
    have h2 : sm (fun j => if M.testBit j && D j then 1 else 0) n ≤ sm (fun j => if D j then 1 else 0) n := sm_pt n (fun k _ => by
      cases M.testBit k <;> cases D k <;> decide)
    have h3 : ∀ m, m ≤ n → sm (fun l => if (!(ok l && (List.range n).all (fun j => !(D j && decide (ld j = some l)))) && decide (l < n)) then 0 else 1) m ≤ sm (fun j => (!D j && ltO (ld j) m).toNat) n := by
      intro m
      induction m with
      | zero => exact fun _ => Nat.zero_le _
      | succ m ih =>
        intro hm
        have ih := ih (by omega)
        rw [sm]
        have mono : ∀ k, k < n → (!D k && ltO (ld k) m).toNat ≤ (!D k && ltO (ld k) (m + 1)).toNat := by
          intro k _
          cases D k with
          | true => exact Nat.le_refl _
          | false =>
            cases ld k with
            | none => exact Nat.le_refl _
            | some l =>
              by_cases z : l < m
              · rw [show ltO (some l) m = true from decide_eq_true z, show ltO (some l) (m + 1) = true from decide_eq_true (show l < m + 1 by omega)]
                exact Nat.le_refl _
              · rw [show ltO (some l) m = false from decide_eq_false z]
                exact Nat.zero_le _
        by_cases q : (!(ok m && (List.range n).all (fun j => !(D j && decide (ld j = some m)))) && decide (m < n)) = true
        · rw [if_pos q]
          have := sm_pt n mono
          omega
        · rw [if_neg q]
          rw [decide_eq_true (show m < n by omega), Bool.and_true, Bool.not_eq_true', Bool.not_eq_false, Bool.and_eq_true] at q
          obtain ⟨q1, q2⟩ := q
          have hcm := hok m (by omega)
          rw [q1] at hcm
          obtain ⟨j, hj, hj2⟩ := sm_pos (f := fun j => if ld j = some m then 1 else 0) n (by
            have : sm (fun j => if ld j = some m then 1 else 0) n = 1 := hcm
            omega)
          have hlj : ld j = some m := by
            by_cases z : ld j = some m
            · exact z
            · rw [if_neg z] at hj2
              omega
          rw [List.all_eq_true] at q2
          have h4 := q2 j (List.mem_range.mpr hj)
          rw [hlj, decide_eq_true rfl, Bool.and_true, Bool.not_eq_true'] at h4
          have := sm_lt (f := fun j => (!D j && ltO (ld j) m).toNat) (g := fun j => (!D j && ltO (ld j) (m + 1)).toNat) (j := j) n hj (by
            rw [hlj, h4, show ltO (some m) m = false from decide_eq_false (Nat.lt_irrefl m), show ltO (some m) (m + 1) = true from decide_eq_true (Nat.lt_succ_self m)]
            decide) mono
          omega
    have h4 := h3 n (Nat.le_refl _)
    have h5 : sm (fun j => (!D j && ltO (ld j) n).toNat) n + sm (fun j => if D j then 1 else 0) n ≤ cM n ld := by
      rw [← sm_add]
      refine sm_pt n (fun j hj => ?_)
      cases qd : D j with
      | true =>
        obtain ⟨l, h6, _⟩ := hD j hj qd
        rw [h6]
        exact Nat.le_refl _
      | false =>
        cases ld j with
        | none => exact Nat.le_refl _
        | some l =>
          rw [Option.isSome_some]
          cases ltO (some l) n <;> decide
    omega
