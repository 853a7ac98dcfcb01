/-! BITS OF WHAT IS DONE; sums; the calls that only read -/
theorem sl31 : ∀ n, n < 32 → ((nI n &&& 31).toBitVec.smod 32).toNat = n := by decide +kernel
theorem isDone_c {dn d : Nat} (hdn : dn < 2 ^ 31) (hd : d < 32) : fX2_isDone (nI dn) (nI d) = some (if dn.testBit d then 1 else 0) := by
  unfold fX2_isDone
  rw [pk_shrN hdn _ d (sl31 d hd), show (1 : Int32) = nI 1 from rfl, pk_andN (n := dn / 2 ^ d) (m := nI 1) (by
    have : dn / 2 ^ d ≤ dn := Nat.div_le_self _ _
    omega) 1 rfl, Nat.testBit_eq_decide_div_mod_eq]
  have h2 : dn / 2 ^ d % 2 ^ 1 < 2 := Nat.mod_lt _ (by decide)
  rcases (show dn / 2 ^ d % 2 ^ 1 = 0 ∨ dn / 2 ^ d % 2 ^ 1 = 1 by omega) with h | h
  · rw [h]
    rfl
  · rw [h]
    rfl
theorem has_eq (v x : Int32) : fX11_has v x = fX2_isDone v x := rfl
theorem isDone_m {s : Nat → Int32} {dn d : Nat} (h : s 22 = nI dn) (hdn : dn < 2 ^ 31) (hd : d < 32) : fX11_isDone s (nI d) = some (if dn.testBit d then 1 else 0) := by
  unfold fX11_isDone
  rw [has_eq, h, isDone_c hdn hd, Option.bind_some, chk_tt]
  cases dn.testBit d
  · exact okZ_0
  · exact okZ_1
def sm (f : Nat → Nat) : Nat → Nat
  | 0 => 0
  | n + 1 => sm f n + f n
theorem sm_le {f : Nat → Nat} {c : Nat} : ∀ n, (∀ k, k < n → f k ≤ c) → sm f n ≤ n * c
  | 0, _ => by simp [sm]
  | n + 1, h => by
    have h1 := sm_le n (fun k hk => h k (by omega))
    have h2 := h n (by omega)
    rw [sm, Nat.succ_mul]
    omega
theorem sm_mono {f : Nat → Nat} {m : Nat} : ∀ n, m ≤ n → sm f m ≤ sm f n
  | 0, h => by rw [show m = 0 by omega]; exact Nat.le_refl _
  | n + 1, h => by
    by_cases e : m = n + 1
    · rw [e]; exact Nat.le_refl _
    · have := sm_mono (m := m) (f := f) n (by omega)
      rw [sm]
      omega
theorem sm_congr {f g : Nat → Nat} : ∀ n, (∀ k, k < n → f k = g k) → sm f n = sm g n
  | 0, _ => rfl
  | n + 1, h => by rw [sm, sm, sm_congr n (fun k hk => h k (by omega)), h n (by omega)]
def aWorth (nd dn : Nat) (wo : Nat → Nat) : Nat := sm (fun d => if dn.testBit d then wo d else 0) nd
theorem aWorth_le {nd dn : Nat} {wo : Nat → Nat} (hnd : nd ≤ 8) (h : ∀ d, d < nd → wo d ≤ 20) : aWorth nd dn wo ≤ 160 := by
  have := sm_le (f := fun d => if dn.testBit d then wo d else 0) (c := 20) nd (fun k hk => by
    have := h k hk
    split <;> omega)
  unfold aWorth
  omega
theorem worth_cL {nd dn : Nat} {wo : Nat → Nat} {r : Nat → Int32} (hnd : nd ≤ 8) (hdn : dn < 2 ^ 31) (hr : ∀ d, d < nd → r d = nI (wo d)) : ∀ (n d : Nat), d ≤ nd → nd < d + n →
    fX2_worthDone_4 (nI dn) (nI nd) r n (nI d) (nI (sm (fun d => if dn.testBit d then wo d else 0) d)) = some (nI nd, nI (aWorth nd dn wo)) := by
  intro n
  induction n with
  | zero =>
    intro d h1 h2
    omega
  | succ n ih =>
    intro d h1 h2
    rw [fX2_worthDone_4]
    by_cases e : d = nd
    · subst e
      rw [if_pos (nI_le (Nat.le_refl _) (by omega))]
      rfl
    · rw [if_neg (nI_ge (show d < nd by omega) (by omega)), isDone_c hdn (by omega), Option.bind_some]
      have hs := ih (d + 1) (by omega) (by omega)
      rw [sm] at hs
      by_cases b : dn.testBit d
      · rw [b, if_pos rfl] at hs
        rw [b, if_pos (rfl : true = true), if_neg one_ne, chk_vin (by omega) (by omega), nI_clamp (by omega), hr d (by omega), lt_eq, lt_eq, nI_add, nI_1]
        exact hs
      · rw [Bool.not_eq_true] at b
        rw [b, if_neg Bool.false_ne_true] at hs
        rw [b, if_neg Bool.false_ne_true, if_pos rfl, lt_eq, nI_1]
        exact hs
theorem worth_c {nd dn : Nat} {wo : Nat → Nat} {r : Nat → Int32} (hnd : nd ≤ 8) (hdn : dn < 2 ^ 31) (hr : ∀ d, d < nd → r d = nI (wo d)) : fX2_worthDone (nI dn) (nI nd) r = some (nI (aWorth nd dn wo)) := by
  unfold fX2_worthDone
  have h := worth_cL hnd hdn hr FU 0 (by omega) (by unfold FU; omega)
  rw [show (0 : Int32) = nI 0 from rfl]
  rw [show sm (fun d => if dn.testBit d then wo d else 0) 0 = 0 from rfl] at h
  rw [h]
  rfl
theorem worth_mL {nd dn : Nat} {wo : Nat → Nat} {t s : Nat → Int32} (hnd : nd ≤ 8) (hdn : dn < 2 ^ 31) (ht : t 1 = nI nd) (hs22 : s 22 = nI dn) (hr : ∀ d, d < nd → t (44 + d) = nI (wo d)) : ∀ (n d : Nat), d ≤ nd → nd < d + n →
    fX11_worthDone_4 t s n (nI d) (nI (sm (fun d => if dn.testBit d then wo d else 0) d)) = some (nI nd, nI (aWorth nd dn wo)) := by
  intro n
  induction n with
  | zero =>
    intro d h1 h2
    omega
  | succ n ih =>
    intro d h1 h2
    rw [fX11_worthDone_4, ht]
    by_cases e : d = nd
    · subst e
      rw [if_pos (nI_le (Nat.le_refl _) (by omega))]
      rfl
    · rw [if_neg (nI_ge (show d < nd by omega) (by omega)), isDone_m hs22 hdn (by omega), Option.bind_some]
      have hs := ih (d + 1) (by omega) (by omega)
      rw [sm] at hs
      by_cases b : dn.testBit d
      · rw [b, if_pos rfl] at hs
        rw [b, if_pos (rfl : true = true), if_neg one_ne, show (44 : Int32) + nI d = nI (44 + d) from nI_add 44 d, chk_vin (by omega) (by omega), nI_clamp (by omega), hr d (by omega), Option.bind_some, lt_eq, lt_eq, nI_add, nI_1]
        exact hs
      · rw [Bool.not_eq_true] at b
        rw [b, if_neg Bool.false_ne_true] at hs
        rw [b, if_neg Bool.false_ne_true, if_pos rfl, Option.bind_some, lt_eq, lt_eq, show nI (sm (fun d => if dn.testBit d then wo d else 0) d) + 0 = nI (sm (fun d => if dn.testBit d then wo d else 0) d + 0) from nI_add _ 0, nI_1]
        exact hs
theorem worth_m {nd dn : Nat} {wo : Nat → Nat} {t s : Nat → Int32} (hnd : nd ≤ 8) (hdn : dn < 2 ^ 31) (ht : t 1 = nI nd) (hs22 : s 22 = nI dn) (hr : ∀ d, d < nd → t (44 + d) = nI (wo d)) : fX11_worthDone t s = some (nI (aWorth nd dn wo)) := by
  unfold fX11_worthDone
  have h := worth_mL hnd hdn ht hs22 hr FU 0 (by omega) (by unfold FU; omega)
  rw [show (0 : Int32) = nI 0 from rfl]
  rw [show sm (fun d => if dn.testBit d then wo d else 0) 0 = 0 from rfl] at h
  rw [h]
  rfl
theorem owed_cL {ow : Nat → Nat} {r : Nat → Int32} (hr : ∀ p, p < 6 → r p = nI (ow p)) : ∀ (n p : Nat), p ≤ 6 → 6 < p + n → fX2_owedByAll_4 r n (nI p) (nI (sm ow p)) = some (nI 6, nI (sm ow 6)) := by
  intro n
  induction n with
  | zero =>
    intro d h1 h2
    omega
  | succ n ih =>
    intro p h1 h2
    rw [fX2_owedByAll_4, show (6 : Int32) = nI 6 from rfl]
    by_cases e : p = 6
    · subst e
      rw [if_pos (nI_le (Nat.le_refl _) (by omega))]
    · rw [if_neg (nI_ge (show p < 6 by omega) (by omega)), chk_vin (by omega) (by omega), nI_clamp (by omega), hr p (by omega), lt_eq, lt_eq, nI_add, nI_1]
      exact ih (p + 1) (by omega) (by omega)
theorem owed_mL {ow : Nat → Nat} {s : Nat → Int32} (hr : ∀ p, p < 6 → s (16 + p) = nI (ow p)) : ∀ (n p : Nat), p ≤ 6 → 6 < p + n → fX11_now_4 s n (nI p) (nI (sm ow p)) = some (nI 6, nI (sm ow 6)) := by
  intro n
  induction n with
  | zero =>
    intro d h1 h2
    omega
  | succ n ih =>
    intro p h1 h2
    rw [fX11_now_4, show (6 : Int32) = nI 6 from rfl]
    by_cases e : p = 6
    · subst e
      rw [if_pos (nI_le (Nat.le_refl _) (by omega))]
    · rw [if_neg (nI_ge (show p < 6 by omega) (by omega)), show (16 : Int32) + nI p = nI (16 + p) from nI_add 16 p, chk_vin (by omega) (by omega), nI_clamp (by omega), hr p (by omega), lt_eq, lt_eq, nI_add, nI_1]
      exact ih (p + 1) (by omega) (by omega)
theorem held_m {np nd : Nat} {a : AM} {s : Nat → Int32} (hV : MVa np nd a) (hnp : np ≤ 6) (h : s 1 = hoI (aO a)) : fX11_isHeld s = some (if aO a = none then 0 else 1) := by
  unfold fX11_isHeld
  rw [h]
  by_cases q : aO a = none
  · rw [if_pos ((hoI_9 _ (hV.ho hnp)).mpr q), if_pos q]
  · rw [if_neg (fun z => q ((hoI_9 _ (hV.ho hnp)).mp z)), if_neg q]
theorem pow_nd {nd dn : Nat} (hnd : nd ≤ 8) (h : dn < 2 ^ nd) : dn < 256 := by
  have : 2 ^ nd ≤ 2 ^ 8 := Nat.pow_le_pow_right (by omega) hnd
  omega
section READS
variable {tr : Int64} {ci : Nat → Int32} {ca : Nat → Nat → Int32} {pr : Nat → MomS} {pm : Nat → Nat → MomS} {mt : Int64} {mi : Nat → Int32} {ma : Nat → Nat → Int32}
theorem P_deed (pg : Nat → Nat → Nat) (h : Inv tr ci ca pr pm mt mi ma) (p1 : Int32) (p2 : Int32) : ∃ o o', fX10_deed (ci 11) (ca 2) (ca 3) (ca 4) (ca 5) (ca 6) ((pr 0).2.2.2.2.1) p1 p2 = some o ∧ fX11_deed (ma 1) (ma 3) p1 p2 = some o' ∧ o = o' ∧ Inv tr ci ca pr pm mt mi ma := by
  obtain ⟨htr, hT, np, nd, po, fr, hm, wh, pl, fm, tl, wo, a, ⟨hnp, hnd, hPV⟩, ⟨e8, e9, e10, e11, eh, ed⟩, ⟨t0, t1, t2, t3, th, td⟩, ⟨ns, hns, e16, s23, hMV, ⟨k1, k2, k3, k4, k5, k6, k7⟩, ⟨g1, g2, g3, g4, g5, g6, g7⟩, hpast⟩, hrest⟩ := id h
  simp only [Nat.zero_add] at g5
  have hdn := pow_nd hnd hMV.2.2.1
  rw [e11]
  rcases ix3 p1 nd (by omega) with hout | ⟨j, hj, rfl⟩
  · refine two' (c := -1) ?_ ?_ h
    · unfold fX10_deed
      rw [hasDeed_eq, no_out hout]
      rfl
    · unfold fX11_deed
      rw [isDeed_eq t1 (by omega), no_out hout]
      rfl
  · obtain ⟨a1, a2, a3, a4, a5⟩ := ed j hj
    obtain ⟨b1, b2, b3, b4, b5⟩ := td j hj
    unfold fX10_deed fX11_deed
    rw [hasDeed_eq, isDeed_eq t1 (by omega), no_in hj (by omega), Option.bind_some, Option.bind_some, if_neg one_ne, if_neg one_ne, k5, isDone_c (by omega) (by omega), isDone_m g5 (by omega) (by omega)]
    rw [show (12 : Int32) + nI j = nI (12 + j) from nI_add 12 j, show (20 : Int32) + nI j = nI (20 + j) from nI_add 20 j, show (28 : Int32) + nI j = nI (28 + j) from nI_add 28 j, show (36 : Int32) + nI j = nI (36 + j) from nI_add 36 j, show (44 : Int32) + nI j = nI (44 + j) from nI_add 44 j]
    simp (disch := omega) only [chk_vin, nI_clamp, a1, b1, a2, b2, a3, b3, a4, b4, a5, b5, Option.bind_some]
    refine keyI ?_ h
    repeat (first | exact ⟨_, rfl⟩ | split)
theorem P_now (pg : Nat → Nat → Nat) (h : Inv tr ci ca pr pm mt mi ma) (p1 : Int32) : ∃ o o', fX10_now (ci 11) (ca 6) ((pr 0).1) ((pr 0).2.1) ((pr 0).2.2.1) ((pr 0).2.2.2.1) ((pr 0).2.2.2.2.1) ((pr 0).2.2.2.2.2.2.2) p1 = some o ∧ fX11_now (ma 1) (ma 3) p1 = some o' ∧ o = o' ∧ Inv tr ci ca pr pm mt mi ma := by
  obtain ⟨htr, hT, np, nd, po, fr, hm, wh, pl, fm, tl, wo, a, ⟨hnp, hnd, hPV⟩, ⟨e8, e9, e10, e11, eh, ed⟩, ⟨t0, t1, t2, t3, th, td⟩, ⟨ns, hns, e16, s23, hMV, ⟨k1, k2, k3, k4, k5, k6, k7⟩, ⟨g1, g2, g3, g4, g5, g6, g7⟩, hpast⟩, hrest⟩ := id h
  simp only [Nat.zero_add] at g1 g2 g3 g4 g5 g6 g7
  have hdn := pow_nd hnd hMV.2.2.1
  have w1 := worth_c (wo := wo) (r := ca 6) hnd (show aD a < 2 ^ 31 by omega) (fun d hd => (ed d hd).2.2.2.2)
  have w2 := worth_m (wo := wo) (t := ma 1) (s := ma 3) hnd (show aD a < 2 ^ 31 by omega) t1 g5 (fun d hd => (td d hd).2.2.2.2)
  have o1 := owed_cL k7 FU 0 (by omega) (by unfold FU; omega)
  have o2 := owed_mL g7 FU 0 (by omega) (by unfold FU; omega)
  have o1' : fX2_owedByAll (pr 0).2.2.2.2.2.2.2 = some (nI (sm (aW a) 6)) := by
    unfold fX2_owedByAll
    rw [show (0 : Int32) = nI 0 from rfl]
    rw [show sm (aW a) 0 = 0 from rfl] at o1
    rw [o1]
    rfl
  have hheld : fX2_heldFor (pr 0).1 (pr 0).2.1 (pr 0).2.2.1 = some (if aO a = none then 0 else nI (aH a) - nI (aS a)) := by
    unfold fX2_heldFor
    rw [k1, k2, held_c (hMV.ho hnp), Option.bind_some]
    cases q : aO a with
    | none => rfl
    | some k =>
      rw [k3 k q]
      rfl
  have hm3 : (fX11_isHeld (ma 3)).bind (fun o10 => some (if o10 = 0 then (0 : Int32) else ((ma 3 0) - (ma 3 2)))) = some (if aO a = none then 0 else nI (aH a) - nI (aS a)) := by
    rw [held_m hMV hnp g2, Option.bind_some, g1]
    cases q : aO a with
    | none => rfl
    | some k =>
      rw [g3 k q]
      rfl
  unfold fX10_now fX11_now
  rw [show (fX11_now_4 (ma 3) FU (0 : Int32) (0 : Int32)) = some (nI 6, nI (sm (aW a) 6)) from o2, Option.bind_some, e11, hm3, hheld, o1', g1, g2, g4, g5, k1, k2, k4, k5, w1, w2]
  have hf : (if nI (aF a) = 0 then (0 : Int32) else 1) = nI (aF a) := by
    rcases (show aF a = 0 ∨ aF a = 1 by have := hMV.2.1; omega) with q | q <;> rw [q] <;> rfl
  rw [hf]
  simp only [Option.bind_some]
  refine keyI ?_ h
  repeat (first | exact ⟨_, rfl⟩ | split)
end READS
