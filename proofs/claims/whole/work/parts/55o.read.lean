/-! READ -/
section READER2
variable {n : Nat} {x : Nat → Nat} {a b : Nat → Int32}
theorem zero52 : ∀ (f k : Nat) (t : Nat → Int32), k ≤ 52 → 52 < k + f → (∀ i, i < k → t i = 0) → ∃ z, fX11_reads_2 f (nI k) t = some (nI 52, z) ∧ ∀ i, i < 52 → z i = 0 := by
  intro f
  induction f with
  | zero => intro k t a b; omega
  | succ f ih =>
    intro k t a b h
    rw [fX11_reads_2]
    by_cases e : k = 52
    · subst e
      rw [if_pos (show (52 : Int32) ≤ nI 52 by decide)]
      exact ⟨t, rfl, h⟩
    · rw [if_neg (show ¬ (52 : Int32) ≤ nI k from nI_ge (b := 52) (by omega) (by omega)), chk_vin (by omega) (by omega), nI_clamp (by omega), lt_eq, nI_1]
      refine ih (k + 1) _ (by omega) (by omega) (fun i hi => ?_)
      by_cases z : i = k
      · subst z
        exact upd_s _ _ _
      · rw [upd_n _ _ z]
        exact h i (by omega)
theorem DrR_0 {z : Nat → Int32} (hz : ∀ i, i < 52 → z i = 0) (h w p f t wo : Nat → Int32) : DrR 0 0 0 (15, 3, 0, 0, h, w, p, f, t, wo) (upd (upd z 2 15) 3 3) := by
  refine ⟨0, 0, 15, 3, fun _ => 0, fun _ => 0, fun _ => 0, fun _ => 0, fun _ => 0, fun _ => 0, ⟨by omega, by omega, by omega, by omega, fun p hp => by omega, fun d hd => by omega⟩, rfl, rfl, rfl, rfl, fun p hp => by omega, fun d hd => by omega, ⟨?_, ?_, ?_, upd_s _ _ _, fun p hp => by omega, fun d hd => by omega⟩, ?_, ?_, by omega, by omega⟩
  · rw [upd_n _ _ (by omega), upd_n _ _ (by omega)]; exact hz 0 (by omega)
  · rw [upd_n _ _ (by omega), upd_n _ _ (by omega)]; exact hz 1 (by omega)
  · rw [upd_n _ _ (by omega), upd_s]; rfl
  · rw [upd_n _ _ (by omega), upd_n _ _ (by omega)]; exact hz 4 (by omega)
  · rw [upd_n _ _ (by omega), upd_n _ _ (by omega)]; exact hz 5 (by omega)
theorem read_cm (hn : n ≤ 180) (hx : ∀ i, i < n → x i < 256 ∧ a i = nI (x i) ∧ b i = nI (x i)) (start sort value : Int32) (h w p f t wo dr : Nat → Int32) :
    ∃ o o', fX5_read (nI n) start sort value a h w p f t wo = some o ∧ fX11_reads (nI n) b dr = some o' ∧ ((∃ st, st ≤ 180 ∧ o.1 = -10 - nI st ∧ o'.1 = 0 ∧ o'.2.2.2.1 = nI st) ∨ ∃ it o1 f1, it ≤ 180 ∧ o.1 = nI it ∧ o'.1 = 1 ∧ DrR o1 f1 it o.2.2.2.2.2.2.2 o'.2.2.2.2.2) := by
  obtain ⟨z, z1, z2⟩ := zero52 FU 0 dr (by omega) (by unfold FU; omega) (fun i hi => by omega)
  have z1' : fX11_reads_2 FU 0 dr = some (nI 52, z) := z1
  obtain ⟨st', nx', s1, v1, s2, v2, r1, r2, _⟩ := token_cm hn hx (Nat.zero_le n)
  have r2' : fX11_token (nI n) 0 b = some (nI nx', s2, nI st', v2) := r2
  obtain ⟨y, y', l1, l2, l3⟩ := read_loop hn hx (n + 1) 0 0 0 0 FU FU start sort value (15, 3, 0, 0, h, w, p, f, t, wo) _ _ _ _ _ (Nat.zero_le n) (by omega) (Nat.le_refl _) (by unfold FU; omega) (by unfold FU; omega) (DrR_0 z2 h w p f t wo) r2
  have l1' : fX5_read_23 (nI n) a FU 0 0 0 0 start 0 sort value 15 3 0 0 h w p f t wo = some y := l1
  unfold fX5_read fX11_reads fX8_goToStart fX4_empty
  rw [z1', Option.bind_some, Option.bind_some, Option.bind_some, l1', Option.bind_some, r2', Option.bind_some]
  dsimp only
  rw [l2, Option.bind_some]
  rcases l3 with ⟨e1, e2, st, e3, e4, e5⟩ | ⟨e1, e2, it, o1, f1, e3, e4, e5⟩
  · rw [if_neg (show ¬ y.1 = 0 by rw [e1]; decide), if_neg (show ¬ y.1 = 1 by rw [e1]; decide), if_neg e2]
    by_cases q : y'.1 = 1
    · rw [if_pos q]
      exact ⟨_, _, rfl, rfl, Or.inl ⟨st, e3, by rw [e4], rfl, e5⟩⟩
    · rw [if_neg q]
      exact ⟨_, _, rfl, rfl, Or.inl ⟨st, e3, by rw [e4], rfl, e5⟩⟩
  · rw [if_neg (show ¬ y.1 = 0 by rw [e1]; decide), if_pos e1, if_pos e2]
    exact ⟨_, _, rfl, rfl, Or.inr ⟨it, o1, f1, e3, e4, rfl, e5⟩⟩
theorem token_end {b : Nat → Int32} (hn : n ≤ 180) : fX11_token (nI n) (nI n) b = some (nI n, 0, nI n, -1) := by
  unfold fX11_token
  rw [show FU = 999999 + 1 from rfl, fX11_token_0, letterAt_end hn, Option.bind_some, if_neg (show ¬ (-1 : Int32) = 32 by decide), Option.bind_some, letterAt_end hn, Option.bind_some, if_neg (show ¬ (0 : Int32) ≤ -1 by decide), Option.bind_some, if_pos rfl, lt_eq, Int32.add_zero, fX11_token_114, if_neg (show ¬ (0 : Int32) = 1 by decide), Option.bind_some, if_neg (show ¬ (0 : Int32) = 2 by decide)]
end READER2
