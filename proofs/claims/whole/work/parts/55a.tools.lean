/-! TOOLS for the pure functions: numbers as nI of naturals, partial functions that don't fail -/
theorem li (n : Nat) : (OfNat.ofNat n : Int32) = nI n := rfl
theorem chk_vin {α : Type} {a n : Nat} {k : Option α} (h : a < n) (hn : n < 2 ^ 31) : chk (vin (nI a) n) k = k := by
  unfold chk
  rw [if_pos]
  exact vp_in_nI h hn
theorem chk_tt {α : Type} {c : Prop} [Decidable c] {k : Option α} (h : c) : chk c k = k := by
  unfold chk
  rw [if_pos h]
theorem lt_eq {α β : Type} (v : α) (k : α → Option β) : lt_ v k = k v := rfl
theorem ne_neg {k m : Nat} (hk : k < 2 ^ 31) (h0 : 0 < m) (hm : m < 2 ^ 31) : ¬ nI k = -nI m := by
  intro h
  have h1 := congrArg Int32.toInt h
  rw [nI_toInt hk, sb_negT hm] at h1
  omega
theorem upd_s (f : Nat → Int32) (k : Nat) (x : Int32) : upd f k x k = x := pk_us
theorem upd_n (f : Nat → Int32) {k j : Nat} (x : Int32) (h : ¬ j = k) : upd f k x j = f j := pk_un h
theorem vup_s {α : Type} (f : Nat → α) (k : Nat) (x : α) : va_up f k x k = x := va_up_self f k x
theorem vup_n {α : Type} (f : Nat → α) {k j : Nat} (x : α) (h : ¬ j = k) : va_up f k x j = f j := va_up_ne f x h
/-- a number is below 0, or beyond n, or one of the first n -/
theorem ix3 (x : Int32) (n : Nat) (hn : n < 2 ^ 30) : (x < 0 ∨ (¬ x < 0 ∧ nI n ≤ x)) ∨ ∃ j : Nat, j < n ∧ x = nI j := by
  rcases pk_ix x (n := n) (by omega) with h | h | h
  · exact Or.inl (Or.inl h)
  · refine Or.inl (Or.inr ⟨fun h0 => ?_, h⟩)
    have h1 : (nI n).toInt = (n : Int) := nI_toInt (by omega)
    rw [Int32.le_iff_toInt_le] at h
    rw [Int32.lt_iff_toInt_lt, Int32.toInt_zero] at h0
    omega
  · exact Or.inr h
theorem in_eq (x lo hi : Int32) : fX11_in x lo hi = some (if x < lo then 0 else if hi < x then 0 else 1) := rfl
/-- the reference's test of a number below n: as the class's -/
theorem in_n {x : Int32} {n : Nat} (hn : n < 2 ^ 30) : (if x < 0 then (0 : Int32) else if nI n - 1 < x then 0 else 1) = if x < 0 then 0 else if nI n ≤ x then 0 else 1 := by
  by_cases h0 : x < 0
  · rw [if_pos h0, if_pos h0]
  · rw [if_neg h0, if_neg h0]
    have h1 : (nI n).toInt = (n : Int) := nI_toInt (by omega)
    have h2 : (nI n - 1).toInt = (n : Int) - 1 := pk_sub_toInt (a := n) (b := 1) (by omega) (by omega)
    have e : (nI n - 1 < x) ↔ nI n ≤ x := by
      rw [Int32.lt_iff_toInt_lt, Int32.le_iff_toInt_le, h1, h2]
      omega
    by_cases h : nI n ≤ x
    · rw [if_pos h, if_pos (e.mpr h)]
    · rw [if_neg h, if_neg (fun q => h (e.mp q))]
theorem okZ_in (x lo hi : Int32) : okZ (if x < lo then 0 else if hi < x then 0 else 1) := okZ_ite okZ_0 (okZ_ite okZ_0 okZ_1)
theorem isOne_eq {told : Nat → Int32} {np : Nat} (h : told 0 = nI np) (hn : np < 2 ^ 30) (x : Int32) : fX11_isOne told x = some (if x < 0 then 0 else if nI np ≤ x then 0 else 1) := by
  unfold fX11_isOne
  rw [h, in_eq, Option.bind_some, chk_tt (okZ_in _ _ _)]
  exact congrArg some (in_n hn)
theorem isDeed_eq {told : Nat → Int32} {nd : Nat} (h : told 1 = nI nd) (hn : nd < 2 ^ 30) (x : Int32) : fX11_isDeed told x = some (if x < 0 then 0 else if nI nd ≤ x then 0 else 1) := by
  unfold fX11_isDeed
  rw [h, in_eq, Option.bind_some, chk_tt (okZ_in _ _ _)]
  exact congrArg some (in_n hn)
theorem hasOne_eq (np : Nat) (x : Int32) : fX4_hasOne (nI np) x = some (if x < 0 then 0 else if nI np ≤ x then 0 else 1) := rfl
theorem hasDeed_eq (nd : Nat) (x : Int32) : fX4_hasDeed (nI nd) x = some (if x < 0 then 0 else if nI nd ≤ x then 0 else 1) := rfl
theorem no_out {x : Int32} {n : Nat} (h : x < 0 ∨ (¬ x < 0 ∧ nI n ≤ x)) : (if x < 0 then (0 : Int32) else if nI n ≤ x then 0 else 1) = 0 := by
  rcases h with h | ⟨h0, h⟩
  · rw [if_pos h]
  · rw [if_neg h0, if_pos h]
theorem no_in {n j : Nat} (hj : j < n) (hn : n < 2 ^ 30) : (if nI j < 0 then (0 : Int32) else if nI n ≤ nI j then 0 else 1) = 1 := by
  rw [if_neg (nI_pos (by omega)), if_neg (nI_ge hj (by omega))]
theorem one_ne : ¬ (1 : Int32) = 0 := by decide
theorem hoI_ne {ho : Option Nat} {j : Nat} (hj : j < 2 ^ 31) (h : ∀ k, ho = some k → k < 2 ^ 31) : (nI j = hoI ho ↔ ho = some j) := by
  cases ho with
  | none => exact ⟨fun q => absurd q (ne_neg (m := 9) hj (by omega) (by omega)), fun q => by cases q⟩
  | some k =>
    have hk := h k rfl
    constructor
    · intro q
      rw [(nI_eq hj hk).mp q]
    · intro q
      cases q
      rfl
theorem hoI_neg (ho : Option Nat) (h : ∀ k, ho = some k → k < 2 ^ 31) : hoI ho < 0 ↔ ho = none := by
  cases ho with
  | none => exact ⟨fun _ => rfl, fun _ => by decide⟩
  | some k => exact ⟨fun q => absurd q (nI_pos (h k rfl)), fun q => by cases q⟩
theorem hoI_9 (ho : Option Nat) (h : ∀ k, ho = some k → k < 2 ^ 31) : hoI ho = -9 ↔ ho = none := by
  cases ho with
  | none => exact ⟨fun _ => rfl, fun _ => rfl⟩
  | some k => exact ⟨fun q => absurd q (ne_neg (m := 9) (h k rfl) (by omega) (by omega)), fun q => by cases q⟩
theorem MVa.ho {np nd : Nat} {a : AM} (h : MVa np nd a) (hn : np ≤ 6) : ∀ k, aO a = some k → k < 2 ^ 31 := fun k hk => by
  have := (h.2.2.2.1 k hk).1
  omega
theorem held_c {a : AM} (h : ∀ k, aO a = some k → k < 2 ^ 31) : fX2_isHeld (hoI (aO a)) = some (if aO a = none then 0 else 1) := by
  unfold fX2_isHeld
  by_cases q : aO a = none
  · rw [if_pos ((hoI_neg _ h).mpr q), if_pos q]
  · rw [if_neg (fun z => q ((hoI_neg _ h).mp z)), if_neg q]
