/-! PORT, INIT -/
theorem neg_st : ∀ st, st < 181 → ¬ (0 : Int32) ≤ -10 - nI st := by decide +kernel
section PORT
variable {tr : Int64} {ci : Nat → Int32} {ca : Nat → Nat → Int32} {pr : Nat → MomS} {pm : Nat → Nat → MomS} {mt : Int64} {mi : Nat → Int32} {ma : Nat → Nat → Int32}
theorem P_port (pg : Nat → Nat → Nat) (h : Inv tr ci ca pr pm mt mi ma) : ∃ o o', fX10_port (ci 0) (ci 1) (ci 2) (ci 4) (ci 5) (ca 0) (ci 8) (ci 9) (ci 10) (ci 11) (ca 1) (ca 2) (ca 3) (ca 4) (ca 5) (ca 6) (ca 7) (ca 8) (ca 9) (ca 10) (ca 11) (ca 12) (ci 16) ((pr 0).1) ((pr 0).2.1) ((pr 0).2.2.1) ((pr 0).2.2.2.1) ((pr 0).2.2.2.2.1) ((pr 0).2.2.2.2.2.1) ((pr 0).2.2.2.2.2.2.1) ((pr 0).2.2.2.2.2.2.2) (ca 13) (ci 19) = some o ∧ fX11_port (mi 0) (mi 1) (ma 0) (ma 1) (ma 2) (ma 3) (ma 5) = some o' ∧ o.1 = o'.1 ∧ Inv tr (upd (upd (upd (upd (upd (upd (upd (upd (upd (upd (upd (upd (upd (upd (upd (upd (upd (upd ci 0 o.2.1) 1 o.2.2.1) 2 o.2.2.2.1) 3 o.2.2.2.2.1) 4 o.2.2.2.2.2.1) 5 o.2.2.2.2.2.2.1) 6 o.2.2.2.2.2.2.2.1) 7 o.2.2.2.2.2.2.2.2.1) 8 o.2.2.2.2.2.2.2.2.2.1) 9 o.2.2.2.2.2.2.2.2.2.2.1) 10 o.2.2.2.2.2.2.2.2.2.2.2.1) 11 o.2.2.2.2.2.2.2.2.2.2.2.2.1) 12 o.2.2.2.2.2.2.2.2.2.2.2.2.2.2.2.2.2.2.2.1) 13 o.2.2.2.2.2.2.2.2.2.2.2.2.2.2.2.2.2.2.2.2.1) 14 o.2.2.2.2.2.2.2.2.2.2.2.2.2.2.2.2.2.2.2.2.2.1) 15 o.2.2.2.2.2.2.2.2.2.2.2.2.2.2.2.2.2.2.2.2.2.2.1) 16 o.2.2.2.2.2.2.2.2.2.2.2.2.2.2.2.2.2.2.2.2.2.2.2.2.2.2.2.2.2.1) 19 o.2.2.2.2.2.2.2.2.2.2.2.2.2.2.2.2.2.2.2.2.2.2.2.2.2.2.2.2.2.2.2.2.2.2.2.2.2.2.2) (va_up (va_up (va_up (va_up (va_up (va_up (va_up (va_up (va_up (va_up (va_up (va_up (va_up ca 1 o.2.2.2.2.2.2.2.2.2.2.2.2.2.1) 2 o.2.2.2.2.2.2.2.2.2.2.2.2.2.2.1) 3 o.2.2.2.2.2.2.2.2.2.2.2.2.2.2.2.1) 4 o.2.2.2.2.2.2.2.2.2.2.2.2.2.2.2.2.1) 5 o.2.2.2.2.2.2.2.2.2.2.2.2.2.2.2.2.2.1) 6 o.2.2.2.2.2.2.2.2.2.2.2.2.2.2.2.2.2.2.1) 7 o.2.2.2.2.2.2.2.2.2.2.2.2.2.2.2.2.2.2.2.2.2.2.2.1) 8 o.2.2.2.2.2.2.2.2.2.2.2.2.2.2.2.2.2.2.2.2.2.2.2.2.1) 9 o.2.2.2.2.2.2.2.2.2.2.2.2.2.2.2.2.2.2.2.2.2.2.2.2.2.1) 10 o.2.2.2.2.2.2.2.2.2.2.2.2.2.2.2.2.2.2.2.2.2.2.2.2.2.2.1) 11 o.2.2.2.2.2.2.2.2.2.2.2.2.2.2.2.2.2.2.2.2.2.2.2.2.2.2.2.1) 12 o.2.2.2.2.2.2.2.2.2.2.2.2.2.2.2.2.2.2.2.2.2.2.2.2.2.2.2.2.1) 13 o.2.2.2.2.2.2.2.2.2.2.2.2.2.2.2.2.2.2.2.2.2.2.2.2.2.2.2.2.2.2.2.2.2.2.2.2.2.2.1) (va_up pr 0 (o.2.2.2.2.2.2.2.2.2.2.2.2.2.2.2.2.2.2.2.2.2.2.2.2.2.2.2.2.2.2.1, o.2.2.2.2.2.2.2.2.2.2.2.2.2.2.2.2.2.2.2.2.2.2.2.2.2.2.2.2.2.2.2.1, o.2.2.2.2.2.2.2.2.2.2.2.2.2.2.2.2.2.2.2.2.2.2.2.2.2.2.2.2.2.2.2.2.1, o.2.2.2.2.2.2.2.2.2.2.2.2.2.2.2.2.2.2.2.2.2.2.2.2.2.2.2.2.2.2.2.2.2.1, o.2.2.2.2.2.2.2.2.2.2.2.2.2.2.2.2.2.2.2.2.2.2.2.2.2.2.2.2.2.2.2.2.2.2.1, o.2.2.2.2.2.2.2.2.2.2.2.2.2.2.2.2.2.2.2.2.2.2.2.2.2.2.2.2.2.2.2.2.2.2.2.1, o.2.2.2.2.2.2.2.2.2.2.2.2.2.2.2.2.2.2.2.2.2.2.2.2.2.2.2.2.2.2.2.2.2.2.2.2.1, o.2.2.2.2.2.2.2.2.2.2.2.2.2.2.2.2.2.2.2.2.2.2.2.2.2.2.2.2.2.2.2.2.2.2.2.2.2.1)) pm mt (upd (upd (upd (upd (upd (upd mi 0 o'.2.1) 1 o'.2.2.1) 2 o'.2.2.2.1) 3 o'.2.2.2.2.1) 4 o'.2.2.2.2.2.1) 5 o'.2.2.2.2.2.2.1) (va_up (va_up (va_up (va_up ma 1 o'.2.2.2.2.2.2.2.1) 2 o'.2.2.2.2.2.2.2.2.1) 3 o'.2.2.2.2.2.2.2.2.2.1) 5 o'.2.2.2.2.2.2.2.2.2.2) := by
  obtain ⟨htr, ⟨nt, hnt, e1, m0, htx⟩, np, nd, po, fr, hm, wh, pl, fm, tl, wo, a, hPV, hC, hMo, hL, hI0, hI1, hHe, hz, hB⟩ := id h
  have hx : ∀ i, i < nt → (ca 0 i).toNatClampNeg < 256 ∧ ca 0 i = nI (ca 0 i).toNatClampNeg ∧ ma 0 i = nI (ca 0 i).toNatClampNeg := fun i hi => by
    obtain ⟨y, hy, h1, h2⟩ := htx i hi
    rw [h1, h2, nI_clamp (by omega)]
    exact ⟨hy, rfl, rfl⟩
  obtain ⟨o, o', r1, r2, hres⟩ := read_cm hnt hx (ci 2) (ci 4) (ci 5) (ca 7) (ca 8) (ca 9) (ca 10) (ca 11) (ca 12) (ma 2)
  unfold fX10_port fX11_port
  rw [e1, m0, r1, r2, Option.bind_some, Option.bind_some]
  rcases hres with ⟨st, f1, f2, f3, f4⟩ | ⟨it, o1, f1, h1, h2, h3, np', nd', po', fr', hm', wh', pl', fm', tl', wo', hPV', d1, d2, d3, d4, d5, d6, hMo', t4, t5, _, _⟩
  · rw [if_neg (show ¬ 0 ≤ o.1 by rw [f2]; exact neg_st st (by omega)), if_pos f3]
    refine ⟨_, _, rfl, rfl, by dsimp only; rw [f2, f4], htr, ⟨nt, hnt, rfl, rfl, htx⟩, np, nd, po, fr, hm, wh, pl, fm, tl, wo, a, hPV, hC, hMo, hL, hI0, hI1, hHe, hz, hB⟩
  · have hnp' := hPV'.1
    have hnd' := hPV'.2.1
    obtain ⟨told', s', b1, b2, b3, b4⟩ := begins_m (ma 1) o'.2.2.2.2.2 (ma 3) (ma 5)
    obtain ⟨at', lh', ow', q1, q2⟩ := mom28 (h := cpn o.2.2.2.2.2.2.2.2.2.2.2.1 (ca 1) 6) FU 0 ((pr 0).2.2.2.2.2.1) ((pr 0).2.2.2.2.2.2.1) ((pr 0).2.2.2.2.2.2.2) (by omega) (by unfold FU; omega) (fun i hi => by omega)
    obtain ⟨kp, k1, k2⟩ := port62 FU 0 (ca 13) (by omega) (by unfold FU; omega) (fun i hi => by omega)
    have q1' : fX2_begin_28 (cpn o.2.2.2.2.2.2.2.2.2.2.2.1 (ca 1) 6) FU 0 ((pr 0).2.2.2.2.2.1) ((pr 0).2.2.2.2.2.2.1) ((pr 0).2.2.2.2.2.2.2) = some (nI 6, at', lh', ow') := q1
    have k1' : fX10_port_62 FU 0 (ca 13) = some (nI 2, kp) := k1
    unfold fX4_copyFrom fX1_begin fX2_begin
    rw [if_pos (show 0 ≤ o.1 by rw [h2]; exact nI_le (a := 0) (by omega) (by omega)), if_neg (show ¬ o'.1 = 0 by rw [h3]; exact one_ne), b1, Option.bind_some, Option.bind_some]
    dsimp only
    rw [q1', Option.bind_some, Option.bind_some, Option.bind_some, k1', Option.bind_some]
    dsimp only
    refine ⟨_, _, rfl, rfl, ?_, htr, ⟨0, by omega, rfl, rfl, fun i hi => by omega⟩, np', nd', po', fr', hm', wh', pl', fm', tl', wo', (0, 0, 0, 0, none, hm', fun _ => 0, fun _ => 0), hPV', ⟨d1, d2, d3, d4, fun p hp => ?_, fun d hd => ?_⟩, ?_, ?_, ?_, ?_, ⟨0, fun _ => 0, fun _ => 0, by omega, rfl, rfl, fun i hi => by omega, fun i hi => by omega⟩, okZ_0, fun z => absurd (show (0 : Int32) = 1 from z) (by decide)⟩
    · show o.1 = told' 4
      rw [h2, b2 4 (by omega), t4]
    · show cpn o.2.2.2.2.2.2.2.2.2.2.2.1 (ca 1) 6 p = nI (hm' p)
      rw [cpn_in (by omega)]
      exact d5 p hp
    · show cpn o.2.2.2.2.2.2.2.2.2.2.2.2.1 (ca 2) 8 d = nI (wh' d) ∧ cpn o.2.2.2.2.2.2.2.2.2.2.2.2.2.1 (ca 3) 8 d = nI (pl' d) ∧ cpn o.2.2.2.2.2.2.2.2.2.2.2.2.2.2.1 (ca 4) 8 d = nI (fm' d) ∧ cpn o.2.2.2.2.2.2.2.2.2.2.2.2.2.2.2.1 (ca 5) 8 d = nI (tl' d) ∧ cpn o.2.2.2.2.2.2.2.2.2.2.2.2.2.2.2.2 (ca 6) 8 d = nI (wo' d)
      rw [cpn_in (by omega), cpn_in (by omega), cpn_in (by omega), cpn_in (by omega), cpn_in (by omega)]
      exact d6 d hd
    · show PMo np' nd' po' fr' hm' wh' pl' fm' tl' wo' told'
      obtain ⟨u0, u1, u2, u3, u4, u5⟩ := hMo'
      exact ⟨(b2 0 (by omega)).trans u0, (b2 1 (by omega)).trans u1, (b2 2 (by omega)).trans u2, (b2 3 (by omega)).trans u3, fun p hp => (b2 _ (by omega)).trans (u4 p hp), fun d hd => ⟨(b2 _ (by omega)).trans (u5 d hd).1, (b2 _ (by omega)).trans (u5 d hd).2.1, (b2 _ (by omega)).trans (u5 d hd).2.2.1, (b2 _ (by omega)).trans (u5 d hd).2.2.2.1, (b2 _ (by omega)).trans (u5 d hd).2.2.2.2⟩⟩
    · show LedR np' nd' 0 (0, -9, 0, 0, 0, at', lh', ow') (pm 0) s' 0 (0, 0, 0, 0, none, hm', fun _ => 0, fun _ => 0)
      refine ⟨0, by omega, rfl, ?_, MVa_0 hPV'.2.2.2.2.1, ⟨rfl, rfl, fun k hk => (by cases hk), rfl, rfl, fun p hp => ⟨?_, (q2 p (by omega)).2.1⟩, fun p hp => (q2 p hp).2.2⟩, MMo_0 hnp' (fun p hp => hMo'.2.2.2.2.1 p hp) b3 b4, fun k hk => by omega⟩
      · rw [Nat.zero_add, b4 23 (by omega) (by omega), if_neg (by omega)]
        rfl
      · show at' p = nI (hm' p)
        rw [(q2 p (by omega)).1, cpn_in (by omega)]
        exact d5 p hp
    · show ImgR np' nd' (kp 0) (upd (upd (ma 5) 0 0) 1 0 0) (ci 17) (pr 1) (pm 1) (ma 4) 0
      refine ⟨?_, ?_, fun z => ?_⟩
      · rw [k2 0 (by omega)]; exact okZ_0
      · rw [k2 0 (by omega), upd_n _ _ (by omega), upd_s]
      · rw [k2 0 (by omega)] at z
        exact absurd z (by decide)
    · show ImgR np' nd' (kp 1) (upd (upd (ma 5) 0 0) 1 0 1) (ci 18) (pr 2) (pm 2) (ma 4) 254
      refine ⟨?_, ?_, fun z => ?_⟩
      · rw [k2 1 (by omega)]; exact okZ_0
      · rw [k2 1 (by omega), upd_s]
      · rw [k2 1 (by omega)] at z
        exact absurd z (by decide)
end PORT
def ci0 : Nat → Int32 := fun i => if i = 8 then 15 else if i = 9 then 3 else if i = 12 then 15 else if i = 13 then 3 else 0
def mi0 (out : Int32 × Int32 × Int32 × Int32 × Int32 × (Nat → Int32) × (Nat → Int32) × (Nat → Int32) × (Nat → Int32)) : Nat → Int32 := fun i => if i = 1 then out.1 else if i = 2 then out.2.1 else if i = 3 then out.2.2.1 else if i = 4 then out.2.2.2.1 else if i = 5 then out.2.2.2.2.1 else 0
def ma0 (out : Int32 × Int32 × Int32 × Int32 × Int32 × (Nat → Int32) × (Nat → Int32) × (Nat → Int32) × (Nat → Int32)) : Nat → Nat → Int32 := fun i => if i = 1 then out.2.2.2.2.2.1 else if i = 2 then out.2.2.2.2.2.2.1 else if i = 3 then out.2.2.2.2.2.2.2.1 else if i = 5 then out.2.2.2.2.2.2.2.2 else fun _ => 0
theorem P_init : ∃ out, fX11_init = some out ∧ Inv 0 ci0 (fun _ _ => 0) (fun _ => mom0) (fun _ _ => mom0) 0 (mi0 out) (ma0 out) := by
  obtain ⟨z, z1, z2⟩ := zero52 FU 0 (fun _ => 0) (by omega) (by unfold FU; omega) (fun i hi => by omega)
  have z1' : fX11_reads_2 FU 0 (fun _ => 0) = some (nI 52, z) := z1
  have r2 : fX11_token 0 0 (fun _ => 0) = some (nI 0, 0, nI 0, -1) := token_end (n := 0) (by omega)
  have hr : fX11_reads 0 (fun _ => 0) (fun _ => 0) = some (1, nI 0, 0, nI 0, -1, upd (upd z 2 15) 3 3) := by
    unfold fX11_reads
    rw [z1', Option.bind_some, r2, Option.bind_some]
    dsimp only
    rw [show FU = 999999 + 1 from rfl, fX11_reads_45, if_pos rfl, Option.bind_some, if_pos rfl]
  obtain ⟨told', s', b1, b2, b3, b4⟩ := begins_m (fun _ => 0) (upd (upd z 2 15) 3 3) (fun _ => 0) (fun _ => 0)
  obtain ⟨np, nd, po, fr, hm, wh, pl, fm, tl, wo, hA⟩ := DrR_0 z2 (fun _ => 0) (fun _ => 0) (fun _ => 0) (fun _ => 0) (fun _ => 0) (fun _ => 0)
  have w0 : upd (upd z 2 15) 3 3 0 = 0 := by rw [upd_n _ _ (by omega), upd_n _ _ (by omega)]; exact z2 0 (by omega)
  have w1 : upd (upd z 2 15) 3 3 1 = 0 := by rw [upd_n _ _ (by omega), upd_n _ _ (by omega)]; exact z2 1 (by omega)
  have w2 : upd (upd z 2 15) 3 3 2 = 15 := by rw [upd_n _ _ (by omega), upd_s]
  have w3 : upd (upd z 2 15) 3 3 3 = 3 := upd_s _ _ _
  refine ⟨(0, nI 0, 0, nI 0, -1, told', upd (upd z 2 15) 3 3, s', upd (upd (fun _ => 0) 0 0) 1 0), ?_, rfl, ⟨0, by omega, rfl, rfl, fun i hi => by omega⟩, 0, 0, 15, 3, fun _ => 0, fun _ => 0, fun _ => 0, fun _ => 0, fun _ => 0, fun _ => 0, (0, 0, 0, 0, none, fun _ => 0, fun _ => 0, fun _ => 0), ⟨by omega, by omega, by omega, by omega, fun p hp => by omega, fun d hd => by omega⟩, ⟨rfl, rfl, rfl, rfl, fun p hp => by omega, fun d hd => by omega⟩, ?_, ?_, ⟨okZ_0, rfl, fun z => absurd (show (0 : Int32) = 1 from z) (by decide)⟩, ⟨okZ_0, rfl, fun z => absurd (show (0 : Int32) = 1 from z) (by decide)⟩, ⟨0, fun _ => 0, fun _ => 0, by omega, rfl, rfl, fun i hi => by omega, fun i hi => by omega⟩, okZ_0, fun z => absurd (show (0 : Int32) = 1 from z) (by decide)⟩
  · unfold fX11_init
    rw [hr, Option.bind_some]
    dsimp only
    rw [b1, Option.bind_some]
  · show PMo 0 0 15 3 (fun _ => 0) (fun _ => 0) (fun _ => 0) (fun _ => 0) (fun _ => 0) (fun _ => 0) told'
    exact ⟨(b2 0 (by omega)).trans w0, (b2 1 (by omega)).trans w1, (b2 2 (by omega)).trans w2, (b2 3 (by omega)).trans w3, fun p hp => by omega, fun d hd => by omega⟩
  · show LedR 0 0 0 mom0 (fun _ => mom0) s' 0 (0, 0, 0, 0, none, fun _ => 0, fun _ => 0, fun _ => 0)
    refine ⟨0, by omega, rfl, ?_, MVa_0 (fun p hp => by omega), ⟨rfl, rfl, fun k hk => (by cases hk), rfl, rfl, fun p hp => by omega, fun p hp => rfl⟩, MMo_0 (by omega) (fun p hp => by omega) b3 b4, fun k hk => by omega⟩
    rw [Nat.zero_add, b4 23 (by omega) (by omega), if_neg (by omega)]
    rfl
