/-! THE LOOP -/
section READER2
variable {n : Nat} {x : Nat → Nat} {a b : Nat → Int32}
theorem DrR_it {o1 f1 it it' : Nat} {D : DS} {t : Nat → Int32} (h : DrR o1 f1 it D t) : DrR o1 f1 it' D (upd t 4 (nI it')) := by
  obtain ⟨np, nd, po, fr, hm, wh, pl, fm, tl, wo, hPV, d1, d2, d3, d4, d5, d6, ⟨m0, m1, m2, m3, m4, m5⟩, t4, t5, ho1, hf1⟩ := h
  refine ⟨np, nd, po, fr, hm, wh, pl, fm, tl, wo, hPV, d1, d2, d3, d4, d5, d6, ⟨?_, ?_, ?_, ?_, fun p hp => ?_, fun d hd => ?_⟩, upd_s _ _ _, ?_, ho1, hf1⟩
  · rw [upd_n _ _ (by omega)]; exact m0
  · rw [upd_n _ _ (by omega)]; exact m1
  · rw [upd_n _ _ (by omega)]; exact m2
  · rw [upd_n _ _ (by omega)]; exact m3
  · rw [upd_n _ _ (by omega)]; exact m4 p hp
  · simp (disch := omega) only [upd_n]
    exact m5 d hd
  · rw [upd_n _ _ (by omega)]; exact t5
def LoopR (y : Nat × Int32 × Int32 × Int32 × Int32 × Int32 × Int32 × Int32 × Int32 × DS) (z : Nat × Int32 × Int32 × Int32 × Int32 × (Nat → Int32)) : Prop :=
  (y.1 = 2 ∧ ¬ z.1 = 0 ∧ ∃ st, st ≤ 180 ∧ y.2.2.2.2.2.1 = nI st ∧ z.2.2.2.1 = nI st) ∨ (y.1 = 1 ∧ z.1 = 0 ∧ ∃ it o1 f1, it ≤ 180 ∧ y.2.2.1 = nI it ∧ DrR o1 f1 it y.2.2.2.2.2.2.2.2.2 z.2.2.2.2.2)
theorem read_loop (hn : n ≤ 180) (hx : ∀ i, i < n → x i < 256 ∧ a i = nI (x i) ∧ b i = nI (x i)) : ∀ (d k it o1 f1 fc fm : Nat) (start sort value : Int32) (D : DS) (t : Nat → Int32) (nx s2 st v2 : Int32), k ≤ n → n < k + d → it ≤ k → d ≤ fc → d ≤ fm → DrR o1 f1 it D t → fX11_token (nI n) (nI k) b = some (nx, s2, st, v2) →
    ∃ y z, fX5_read_23 (nI n) a fc (nI it) (nI it) (nI o1) (nI f1) start (nI k) sort value D.1 D.2.1 D.2.2.1 D.2.2.2.1 D.2.2.2.2.1 D.2.2.2.2.2.1 D.2.2.2.2.2.2.1 D.2.2.2.2.2.2.2.1 D.2.2.2.2.2.2.2.2.1 D.2.2.2.2.2.2.2.2.2 = some y ∧ fX11_reads_45 (nI n) b fm nx s2 st v2 t = some z ∧ LoopR y z := by
  intro d
  induction d with
  | zero => intro k it o1 f1 fc fm start sort value D t nx s2 st v2 h1 h2; omega
  | succ d ih =>
    intro k it o1 f1 fc fm start sort value D t nx s2 st v2 h1 h2 h3 h4 h5 hD ht
    obtain ⟨fc, rfl⟩ : ∃ g, fc = g + 1 := ⟨fc - 1, by omega⟩
    obtain ⟨fm, rfl⟩ : ∃ g, fm = g + 1 := ⟨fm - 1, by omega⟩
    obtain ⟨st', nx', s1, v1, s2', v2', r1, r2, hT, j1, j2, j3, j4⟩ := token_cm hn hx h1
    rw [r2] at ht
    cases ht
    rw [fX5_read_23, fX11_reads_45, if_neg (show ¬ (180 : Int32) < nI it from nI_nlt (a := 180) (by omega) (by omega)), r1, Option.bind_some]
    dsimp only
    by_cases e : s1 = 0
    · have e2 : s2 = 0 := by
        rcases hT with ⟨q1, q2⟩ | ⟨q1, q2, q3⟩ | ⟨q1, q2, v, q3, q4, q5⟩ | ⟨q1, q2⟩ | ⟨q1, q2⟩ | ⟨q1, q2, v, q3, q4, q5⟩
        · exact q2
        all_goals (rw [q1] at e; exact absurd e (by decide))
      rw [if_pos e, if_pos e2]
      exact ⟨_, _, rfl, rfl, Or.inr ⟨rfl, rfl, it, o1, f1, by omega, rfl, hD⟩⟩
    · have e2 : ¬ s2 = 0 := by
        rcases hT with ⟨q1, q2⟩ | ⟨q1, q2, q3⟩ | ⟨q1, q2, v, q3, q4, q5⟩ | ⟨q1, q2⟩ | ⟨q1, q2⟩ | ⟨q1, q2, v, q3, q4, q5⟩
        · exact absurd q1 e
        all_goals (rw [q2]; decide)
      rw [if_neg e, if_neg e2]
      have j5 := j4 e
      have hI := item_cm hn hx (k := nx') (st := st') j3 (by omega) hD hT
      rcases hI with ⟨o6, st2, c1, c2, c3, c4, ⟨o7, g1, g2, g3⟩ | ⟨o7, o9, g1, g2, g3, g4, g5⟩⟩ | ⟨o6, o7, o9, nx2, o1', f1', c1, c2, c3, c4, c5, c6, c7, g1, g2, g3, g4, g5, hD'⟩
      · rw [c1, g1, Option.bind_some, Option.bind_some, if_pos c2, if_pos g2]
        exact ⟨_, _, rfl, rfl, Or.inl ⟨rfl, show ¬ (1 : Nat) = 0 by decide, st2, c4, c3, g3⟩⟩
      · rw [c1, g1, Option.bind_some, Option.bind_some, if_pos c2, if_neg g2, g3, Option.bind_some, if_neg g4]
        exact ⟨_, _, rfl, rfl, Or.inl ⟨rfl, show ¬ (2 : Nat) = 0 by decide, st2, c4, c3, g5⟩⟩
      · have t4 : o7.2.2.2.2.2 4 = nI it := by
          obtain ⟨np, nd, po, fr, hm, wh, pl, fm, tl, wo, hA⟩ := hD'
          exact hA.2.2.2.2.2.2.2.2.1
        obtain ⟨st3, nx3, s3, v3, s3', v3', u1, u2, _⟩ := token_cm hn hx c7
        rw [c1, g1, Option.bind_some, Option.bind_some, if_neg (show ¬ o6.1 = 0 by rw [c2]; exact one_ne), if_neg (show ¬ o7.1 = 0 by rw [g2]; exact one_ne), g3, Option.bind_some, if_pos g4, t4, nI_1, lt_eq, lt_eq, lt_eq, g5, u2, Option.bind_some, c3, c4, c5]
        exact ih nx2 (it + 1) o1' f1' fc fm _ _ _ o6.2.2.2.2.2.2.2 (upd o7.2.2.2.2.2 4 (nI (it + 1))) _ _ _ _ c7 (by omega) (by omega) (by omega) (by omega) (DrR_it hD') u2
end READER2
