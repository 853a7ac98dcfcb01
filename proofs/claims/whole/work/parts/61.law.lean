/-! THE LAW'S LOOP AND ITS START, by genlaw2.py -/
theorem law_cmp {L k : Nat} (hL : L ≤ 2048) (hk : k ≤ L) (h : ¬ Int32.ofNat L - 4 < nI k) : k + 4 ≤ L := by
  have e : (Int32.ofNat L - 4).toInt = (L : Int) - 4 := pk_sub_toInt (a := L) (b := 4) (by omega) (by omega)
  have e2 : (nI k).toInt = (k : Int) := nI_toInt (by omega)
  rw [Int32.lt_iff_toInt_lt, e, e2] at h
  omega
theorem law_in {L k j : Nat} (hL : L ≤ 2048) (h : k + j < L) : vp_in (nI k + nI j) L := by
  rw [nI_add]
  exact vp_in_nI h (by omega)
set_option maxHeartbeats 8000000 in
set_option maxRecDepth 100000 in
theorem law_loop {p : Program} {l : Launch} {e : Env} {s : State} {m : MethodId} {below : List Frame} {meth : Method} {c : Code} {b L : Nat} {xs : Nat → Int32} {D : va_G} {C : Nat → ClassId} {A : Nat → Prop} {U : Nat → Nat → Nat} {V : Nat → Nat} (hL : L ≤ 2048) (X : LCtx p s m c b L xs D C A) (hA' : ∀ q, A q → s.heap.size ≤ q) (hr : meth.sig.returnType = ret) (hlocks : meth.locks = false) :
    ∀ (n k : Nat) (x3 : Int32), k ≤ L → L + 1 ≤ k + n → x3 = nI k → ∀ (tr : Int64) (ci : Nat → Int32) (ca : Nat → Nat → Int32) (pr : Nat → MomS) (pm : Nat → Nat → MomS) (pg : Nat → Nat → Nat) (mt : Int64) (mi : Nat → Int32) (ma : Nat → Nat → Int32), Inv tr ci ca pr pm mt mi ma → ∀ (H : Heap) (locs : List Loc) (ls : Array Slot), va_P D vwCl (wLaw C U V tr ci ca pr pm pg mt mi ma) H → va_D A (wLaw C U V tr ci ca pr pm pg mt mi ma) → va_S A s.heap H locs → lv_has ls 4 [(0, .ref b), (1, .ref (U 0 0)), (2, .ref (V 0)), (3, .int x3)] → W p l e room_1 s m #[Value.ref b] below meth c H locs 183 2643 (lw_Z below #[Value.ref b] s) (F0 m 18 ls []) := by
  intro n
  induction n with
  | zero =>
    intro k x3 h1 h2
    exact absurd h2 (by omega)
  | succ n ih =>
    intro k x3 hk hn ex3 tr ci ca pr pm pg mt mi ma h H locs ls hP hD hS hl
    obtain ⟨hx, hb, hml, hown, hts, hX, hbl, hbA, hA, hK⟩ := id X
    refine lv_iload_n hx hb dL_law_18 rfl (lv_at hl 3 rfl) ?_
    refine lv_aload_n hx hb dL_law_19 rfl (lv_at hl 0 rfl) ?_
    refine va_slen hx hb hX hbl hbA hS dL_law_20 ?_
    refine lv_iconst (v := (4 : Int32)) hx hb dL_law_21 (by decide) ?_
    refine lv_isub hx hb dL_law_22 ?_
    refine lv_icmp_gt (tgt := 720) hx hb dL_law_23 (by decide) (fun c1 => ?_) (fun c1 => ?_)
    · refine lv_iconst (v := (1 : Int32)) hx hb dL_law_720 (by decide) ?_
      refine va_forget (fun q hq => hA' _ (hS.2.2 q hq)) ?_
      refine W.widen (k := 600000) (n := 7302250) (by decide) (by decide) ?_
      exact lw_ret hx hb hr hlocks dL_law_721
    · rw [ex3] at c1
      have hk4 := law_cmp hL hk c1
      have hin : vp_in x3 L := by rw [ex3]; exact vp_in_nI (by omega) (by omega)
      have hi : vp_in (x3 + 1) L ∧ vp_in (x3 + 2) L ∧ vp_in (x3 + 3) L := by
        rw [ex3]
        exact ⟨law_in (j := 1) hL (by omega), law_in (j := 2) hL (by omega), law_in (j := 3) hL (by omega)⟩
      have K : LCont p l e s m below meth c b D C A U V x3 (lw_Z below #[Value.ref b] s) := by
        intro tr ci ca pr pm pg mt mi ma h H locs ls hP hD hS hl
        obtain ⟨x4, ex4⟩ : ∃ y : Int32, y = x3 + 4 := ⟨_, rfl⟩
        refine lv_iinc (v := x4) (lv' := [(3, .int x4), (0, .ref b), (1, .ref (U 0 0)), (2, .ref (V 0))]) hx hb dL_law_714 hl (k := 3) rfl (by rw [ex4]; rfl) (by decide) rfl (fun ls hl => ?_)
        refine lv_goto (tgt := 18) hx hb dL_law_717 (by decide) ?_
        exact ih (k + 4) x4 hk4 (by omega) (by rw [ex4, ex3]; exact nI_add k 4) tr ci ca pr pm pg mt mi ma h H locs ls hP hD hS (lv_sub hl [1, 2, 3, 0] rfl)
      refine lv_aload_n hx hb dL_law_26 rfl (lv_at hl 0 rfl) ?_
      refine lv_iload_n hx hb dL_law_27 rfl (lv_at hl 3 rfl) ?_
      refine va_sld hx hb hX hbl hbA hS hin dL_law_28 ?_
      refine lv_bipush (v := (31 : Int32)) hx hb dL_law_29 (by decide) ?_
      refine lv_iand hx hb dL_law_31 ?_
      refine lv_topi (fun tg etg => ?_)
      by_cases t0 : tg = (0 : Int32)
      · refine lv_tableIn (off := 116) (tgt := 148) hx hb dL_law_32 (by rw [t0]; decide) (by rw [t0]; decide) (by rw [t0]; rfl) (by decide) ?_
        exact lc_type X K tr ci ca pr pm pg mt mi ma h hi H locs ls hP hD hS hl
      by_cases t1 : tg = (1 : Int32)
      · refine lv_tableIn (off := 139) (tgt := 171) hx hb dL_law_32 (by rw [t1]; decide) (by rw [t1]; decide) (by rw [t1]; rfl) (by decide) ?_
        exact lc_clear X K tr ci ca pr pm pg mt mi ma h hi H locs ls hP hD hS hl
      by_cases t2 : tg = (2 : Int32)
      · refine lv_tableIn (off := 152) (tgt := 184) hx hb dL_law_32 (by rw [t2]; decide) (by rw [t2]; decide) (by rw [t2]; rfl) (by decide) ?_
        exact lc_port X K tr ci ca pr pm pg mt mi ma h hi H locs ls hP hD hS hl
      by_cases t3 : tg = (3 : Int32)
      · refine lv_tableIn (off := 165) (tgt := 197) hx hb dL_law_32 (by rw [t3]; decide) (by rw [t3]; decide) (by rw [t3]; rfl) (by decide) ?_
        exact lc_one X K tr ci ca pr pm pg mt mi ma h hi H locs ls hP hD hS hl
      by_cases t4 : tg = (4 : Int32)
      · refine lv_tableIn (off := 198) (tgt := 230) hx hb dL_law_32 (by rw [t4]; decide) (by rw [t4]; decide) (by rw [t4]; rfl) (by decide) ?_
        exact lc_deed X K tr ci ca pr pm pg mt mi ma h hi H locs ls hP hD hS hl
      by_cases t5 : tg = (5 : Int32)
      · refine lv_tableIn (off := 231) (tgt := 263) hx hb dL_law_32 (by rw [t5]; decide) (by rw [t5]; decide) (by rw [t5]; rfl) (by decide) ?_
        exact lc_lends X K tr ci ca pr pm pg mt mi ma h hi H locs ls hP hD hS hl
      by_cases t6 : tg = (6 : Int32)
      · refine lv_tableIn (off := 254) (tgt := 286) hx hb dL_law_32 (by rw [t6]; decide) (by rw [t6]; decide) (by rw [t6]; rfl) (by decide) ?_
        exact lc_brings X K tr ci ca pr pm pg mt mi ma h hi H locs ls hP hD hS hl
      by_cases t7 : tg = (7 : Int32)
      · refine lv_tableIn (off := 267) (tgt := 299) hx hb dL_law_32 (by rw [t7]; decide) (by rw [t7]; decide) (by rw [t7]; rfl) (by decide) ?_
        exact lc_walks X K tr ci ca pr pm pg mt mi ma h hi H locs ls hP hD hS hl
      by_cases t8 : tg = (8 : Int32)
      · refine lv_tableIn (off := 290) (tgt := 322) hx hb dL_law_32 (by rw [t8]; decide) (by rw [t8]; decide) (by rw [t8]; rfl) (by decide) ?_
        exact lc_keeps X K tr ci ca pr pm pg mt mi ma h hi H locs ls hP hD hS hl
      by_cases t9 : tg = (9 : Int32)
      · refine lv_tableIn (off := 313) (tgt := 345) hx hb dL_law_32 (by rw [t9]; decide) (by rw [t9]; decide) (by rw [t9]; rfl) (by decide) ?_
        exact lc_does X K tr ci ca pr pm pg mt mi ma h hi H locs ls hP hD hS hl
      by_cases t10 : tg = (10 : Int32)
      · refine lv_tableIn (off := 336) (tgt := 368) hx hb dL_law_32 (by rw [t10]; decide) (by rw [t10]; decide) (by rw [t10]; rfl) (by decide) ?_
        exact lc_undo X K tr ci ca pr pm pg mt mi ma h hi H locs ls hP hD hS hl
      by_cases t11 : tg = (11 : Int32)
      · refine lv_tableIn (off := 349) (tgt := 381) hx hb dL_law_32 (by rw [t11]; decide) (by rw [t11]; decide) (by rw [t11]; rfl) (by decide) ?_
        exact lc_now X K tr ci ca pr pm pg mt mi ma h hi H locs ls hP hD hS hl
      by_cases t12 : tg = (12 : Int32)
      · refine lv_tableIn (off := 372) (tgt := 404) hx hb dL_law_32 (by rw [t12]; decide) (by rw [t12]; decide) (by rw [t12]; rfl) (by decide) ?_
        exact lc_round X K tr ci ca pr pm pg mt mi ma h hi H locs ls hP hD hS hl
      by_cases t13 : tg = (13 : Int32)
      · refine lv_tableIn (off := 395) (tgt := 427) hx hb dL_law_32 (by rw [t13]; decide) (by rw [t13]; decide) (by rw [t13]; rfl) (by decide) ?_
        exact lc_spoons X K tr ci ca pr pm pg mt mi ma h hi H locs ls hP hD hS hl
      by_cases t14 : tg = (14 : Int32)
      · refine lv_tableIn (off := 408) (tgt := 440) hx hb dL_law_32 (by rw [t14]; decide) (by rw [t14]; decide) (by rw [t14]; rfl) (by decide) ?_
        exact lc_drawn X K tr ci ca pr pm pg mt mi ma h hi H locs ls hP hD hS hl
      by_cases t15 : tg = (15 : Int32)
      · refine lv_tableIn (off := 441) (tgt := 473) hx hb dL_law_32 (by rw [t15]; decide) (by rw [t15]; decide) (by rw [t15]; rfl) (by decide) ?_
        exact lc_odds X K tr ci ca pr pm pg mt mi ma h hi H locs ls hP hD hS hl
      by_cases t16 : tg = (16 : Int32)
      · refine lv_tableIn (off := 484) (tgt := 516) hx hb dL_law_32 (by rw [t16]; decide) (by rw [t16]; decide) (by rw [t16]; rfl) (by decide) ?_
        exact lc_hears X K tr ci ca pr pm pg mt mi ma h hi H locs ls hP hD hS hl
      by_cases t17 : tg = (17 : Int32)
      · refine lv_tableIn (off := 517) (tgt := 549) hx hb dL_law_32 (by rw [t17]; decide) (by rw [t17]; decide) (by rw [t17]; rfl) (by decide) ?_
        exact lc_forget X K tr ci ca pr pm pg mt mi ma h hi H locs ls hP hD hS hl
      by_cases t18 : tg = (18 : Int32)
      · refine lv_tableIn (off := 530) (tgt := 562) hx hb dL_law_32 (by rw [t18]; decide) (by rw [t18]; decide) (by rw [t18]; rfl) (by decide) ?_
        exact lc_lies X K tr ci ca pr pm pg mt mi ma h hi H locs ls hP hD hS hl
      by_cases t19 : tg = (19 : Int32)
      · refine lv_tableIn (off := 543) (tgt := 575) hx hb dL_law_32 (by rw [t19]; decide) (by rw [t19]; decide) (by rw [t19]; rfl) (by decide) ?_
        exact lc_had X K tr ci ca pr pm pg mt mi ma h hi H locs ls hP hD hS hl
      by_cases t20 : tg = (20 : Int32)
      · refine lv_tableIn (off := 566) (tgt := 598) hx hb dL_law_32 (by rw [t20]; decide) (by rw [t20]; decide) (by rw [t20]; rfl) (by decide) ?_
        exact lc_mark X K tr ci ca pr pm pg mt mi ma h hi H locs ls hP hD hS hl
      by_cases t21 : tg = (21 : Int32)
      · refine lv_tableIn (off := 599) (tgt := 631) hx hb dL_law_32 (by rw [t21]; decide) (by rw [t21]; decide) (by rw [t21]; rfl) (by decide) ?_
        exact lc_keep X K tr ci ca pr pm pg mt mi ma h hi H locs ls hP hD hS hl
      by_cases t22 : tg = (22 : Int32)
      · refine lv_tableIn (off := 622) (tgt := 654) hx hb dL_law_32 (by rw [t22]; decide) (by rw [t22]; decide) (by rw [t22]; rfl) (by decide) ?_
        exact lc_back X K tr ci ca pr pm pg mt mi ma h hi H locs ls hP hD hS hl
      by_cases t23 : tg = (23 : Int32)
      · refine lv_tableIn (off := 645) (tgt := 677) hx hb dL_law_32 (by rw [t23]; decide) (by rw [t23]; decide) (by rw [t23]; rfl) (by decide) ?_
        exact lc_count X K tr ci ca pr pm pg mt mi ma h hi H locs ls hP hD hS hl
      by_cases t24 : tg = (24 : Int32)
      · refine lv_tableIn (off := 668) (tgt := 700) hx hb dL_law_32 (by rw [t24]; decide) (by rw [t24]; decide) (by rw [t24]; rfl) (by decide) ?_
        exact lc_trace X K tr ci ca pr pm pg mt mi ma h hi H locs ls hP hD hS hl
      refine lv_tableOut (tgt := 714) hx hb dL_law_32 (tOut (fun k h1 h2 => by
          intro hk
          have := lv_neT (a := 0) t0 (by decide)
          have := lv_neT (a := 1) t1 (by decide)
          have := lv_neT (a := 2) t2 (by decide)
          have := lv_neT (a := 3) t3 (by decide)
          have := lv_neT (a := 4) t4 (by decide)
          have := lv_neT (a := 5) t5 (by decide)
          have := lv_neT (a := 6) t6 (by decide)
          have := lv_neT (a := 7) t7 (by decide)
          have := lv_neT (a := 8) t8 (by decide)
          have := lv_neT (a := 9) t9 (by decide)
          have := lv_neT (a := 10) t10 (by decide)
          have := lv_neT (a := 11) t11 (by decide)
          have := lv_neT (a := 12) t12 (by decide)
          have := lv_neT (a := 13) t13 (by decide)
          have := lv_neT (a := 14) t14 (by decide)
          have := lv_neT (a := 15) t15 (by decide)
          have := lv_neT (a := 16) t16 (by decide)
          have := lv_neT (a := 17) t17 (by decide)
          have := lv_neT (a := 18) t18 (by decide)
          have := lv_neT (a := 19) t19 (by decide)
          have := lv_neT (a := 20) t20 (by decide)
          have := lv_neT (a := 21) t21 (by decide)
          have := lv_neT (a := 22) t22 (by decide)
          have := lv_neT (a := 23) t23 (by decide)
          have := lv_neT (a := 24) t24 (by decide)
          omega)) (by decide) ?_
      exact K tr ci ca pr pm pg mt mi ma h H locs ls hP hD hS hl
theorem startP {α : Type} {a e5 t0 b e11 t1 e12 t2 m : List α} : ((((((a ++ (e5 ++ t0)) ++ b) ++ (e11 ++ t1)) ++ (e12 ++ t2))) ++ m).Perm ((a ++ (e5 ++ (b ++ (e11 ++ e12)))) ++ (t0 ++ (t1 ++ (t2 ++ m)))) := by
  simp only [List.append_assoc]
  refine List.Perm.append_left a (List.Perm.append_left e5 ?_)
  -- t0 ++ (b ++ (e11 ++ (t1 ++ (e12 ++ (t2 ++ m)))))
  refine (List.perm_append_comm_assoc t0 b _).trans (List.Perm.append_left b ?_)
  refine (List.perm_append_comm_assoc t0 e11 _).trans (List.Perm.append_left e11 ?_)
  -- t0 ++ (t1 ++ (e12 ++ (t2 ++ m)))
  refine (List.Perm.append_left t0 (List.perm_append_comm_assoc t1 e12 _)).trans ?_
  exact List.perm_append_comm_assoc t0 e12 _
set_option maxHeartbeats 8000000 in
set_option maxRecDepth 100000 in
theorem startW (C : Nat → ClassId) (U : Nat → Nat → Nat) (V : Nat → Nat) (out : Int32 × Int32 × Int32 × Int32 × Int32 × (Nat → Int32) × (Nat → Int32) × (Nat → Int32) × (Nat → Int32)) : (wX10 C U ++ wX11 out C V).Perm (wLaw C U V 0 ci0 (fun _ _ => 0) (fun _ => mom0) (fun _ _ => mom0) (fun _ k => k) 0 (mi0 out) (ma0 out)) := by
  have h1 := startP (a := ((((([ob (U 0 0) 10 [.ref (U 1 0), .ref (U 2 0), .ref (U 3 0), .ref (U 4 0), .ref (U 5 0), .ref (U 0 1), .ref (U 0 2), .ref (U 6 0), .ref (U 7 0), .ref (U 8 0), .ref (U 9 0), .ref (U 10 0), .long 0, .int 0]] ++ [im_ C (U 0 1) (U 11 0) (U 12 0)]) ++ wX8 C (U 1)) ++ wX5 C (U 2)) ++ wX4 C (U 3)) ++ wX4 C (U 4))) (e5 := [ob (U 5 0) 1 [.ref (U 5 1), .ref (U 5 5), .int 0], ob (U 5 1) 2 [.int 0, .int (-9 : Int32), .int 0, .int 0, .int 0, .ref (U 5 2), .ref (U 5 3), .ref (U 5 4)], ia C (U 5 2) 6 (fun _ => 0), ia C (U 5 3) 6 (fun _ => 0), ia C (U 5 4) 6 (fun _ => 0), pa_ C (U 5 5) (adL (U 5)) (fun k => k)]) (t0 := pm_ C (adL (U 5)) (fun k => k) (fun _ => mom0)) (b := ([za C (U 0 2) 2 (fun _ => 0)] ++ (wX0 C (U 6) ++ (wX9 C (U 7) ++ (wX6 C (U 8) ++ (wX7 C (U 9) ++ wX3 C (U 10))))))) (e11 := [ob (U 11 0) 1 [.ref (U 11 1), .ref (U 11 5), .int 0], ob (U 11 1) 2 [.int 0, .int (-9 : Int32), .int 0, .int 0, .int 0, .ref (U 11 2), .ref (U 11 3), .ref (U 11 4)], ia C (U 11 2) 6 (fun _ => 0), ia C (U 11 3) 6 (fun _ => 0), ia C (U 11 4) 6 (fun _ => 0), pa_ C (U 11 5) (adL (U 11)) (fun k => k)]) (t1 := pm_ C (adL (U 11)) (fun k => k) (fun _ => mom0)) (e12 := [ob (U 12 0) 1 [.ref (U 12 1), .ref (U 12 5), .int 0], ob (U 12 1) 2 [.int 0, .int (-9 : Int32), .int 0, .int 0, .int 0, .ref (U 12 2), .ref (U 12 3), .ref (U 12 4)], ia C (U 12 2) 6 (fun _ => 0), ia C (U 12 3) 6 (fun _ => 0), ia C (U 12 4) 6 (fun _ => 0), pa_ C (U 12 5) (adL (U 12)) (fun k => k)]) (t2 := pm_ C (adL (U 12)) (fun k => k) (fun _ => mom0)) (m := wX11 out C V)
  have h2 : wX10 C U = ((((((((([ob (U 0 0) 10 [.ref (U 1 0), .ref (U 2 0), .ref (U 3 0), .ref (U 4 0), .ref (U 5 0), .ref (U 0 1), .ref (U 0 2), .ref (U 6 0), .ref (U 7 0), .ref (U 8 0), .ref (U 9 0), .ref (U 10 0), .long 0, .int 0]] ++ [im_ C (U 0 1) (U 11 0) (U 12 0)]) ++ wX8 C (U 1)) ++ wX5 C (U 2)) ++ wX4 C (U 3)) ++ wX4 C (U 4)) ++ ([ob (U 5 0) 1 [.ref (U 5 1), .ref (U 5 5), .int 0], ob (U 5 1) 2 [.int 0, .int (-9 : Int32), .int 0, .int 0, .int 0, .ref (U 5 2), .ref (U 5 3), .ref (U 5 4)], ia C (U 5 2) 6 (fun _ => 0), ia C (U 5 3) 6 (fun _ => 0), ia C (U 5 4) 6 (fun _ => 0), pa_ C (U 5 5) (adL (U 5)) (fun k => k)] ++ pm_ C (adL (U 5)) (fun k => k) (fun _ => mom0))) ++ ([za C (U 0 2) 2 (fun _ => 0)] ++ (wX0 C (U 6) ++ (wX9 C (U 7) ++ (wX6 C (U 8) ++ (wX7 C (U 9) ++ wX3 C (U 10))))))) ++ ([ob (U 11 0) 1 [.ref (U 11 1), .ref (U 11 5), .int 0], ob (U 11 1) 2 [.int 0, .int (-9 : Int32), .int 0, .int 0, .int 0, .ref (U 11 2), .ref (U 11 3), .ref (U 11 4)], ia C (U 11 2) 6 (fun _ => 0), ia C (U 11 3) 6 (fun _ => 0), ia C (U 11 4) 6 (fun _ => 0), pa_ C (U 11 5) (adL (U 11)) (fun k => k)] ++ pm_ C (adL (U 11)) (fun k => k) (fun _ => mom0))) ++ ([ob (U 12 0) 1 [.ref (U 12 1), .ref (U 12 5), .int 0], ob (U 12 1) 2 [.int 0, .int (-9 : Int32), .int 0, .int 0, .int 0, .ref (U 12 2), .ref (U 12 3), .ref (U 12 4)], ia C (U 12 2) 6 (fun _ => 0), ia C (U 12 3) 6 (fun _ => 0), ia C (U 12 4) 6 (fun _ => 0), pa_ C (U 12 5) (adL (U 12)) (fun k => k)] ++ pm_ C (adL (U 12)) (fun k => k) (fun _ => mom0))) := rfl
  rw [h2]
  refine h1.trans ?_
  exact (perm_pl (n := 50) [0, 1, 25, 2, 3, 4, 5, 6, 7, 8, 9, 10, 11, 12, 13, 14, 15, 16, 17, 18, 19, 20, 21, 22, 23, 24, 38, 39, 40, 41, 42, 43, 44, 45, 46, 47, 48, 49, 26, 27, 28, 29, 30, 31, 32, 33, 34, 35, 36, 37] _ _ (by decide +kernel) rfl rfl).append_right _
theorem df_X10 : ∀ j, j < 14 → defaultValue (tyX10 j) = vp_V [.null, .null, .null, .null, .null, .null, .null, .null, .null, .null, .null, .null, .long 0, .int 0] j := by
  intro j hj
  rcases (show j = 0 ∨ j = 1 ∨ j = 2 ∨ j = 3 ∨ j = 4 ∨ j = 5 ∨ j = 6 ∨ j = 7 ∨ j = 8 ∨ j = 9 ∨ j = 10 ∨ j = 11 ∨ j = 12 ∨ j = 13 by omega) with rfl | rfl | rfl | rfl | rfl | rfl | rfl | rfl | rfl | rfl | rfl | rfl | rfl | rfl <;> rfl
theorem df_X11 : ∀ j, j < 22 → defaultValue (tyX11 j) = vp_V [.long 0, .null, .int 0, .null, .null, .null, .null, .null, .null, .null, .int 0, .int 0, .int 0, .int 0, .int 0, .null, .null, .int 0, .int 0, .int 0, .null, .null] j := by
  intro j hj
  rcases (show j = 0 ∨ j = 1 ∨ j = 2 ∨ j = 3 ∨ j = 4 ∨ j = 5 ∨ j = 6 ∨ j = 7 ∨ j = 8 ∨ j = 9 ∨ j = 10 ∨ j = 11 ∨ j = 12 ∨ j = 13 ∨ j = 14 ∨ j = 15 ∨ j = 16 ∨ j = 17 ∨ j = 18 ∨ j = 19 ∨ j = 20 ∨ j = 21 by omega) with rfl | rfl | rfl | rfl | rfl | rfl | rfl | rfl | rfl | rfl | rfl | rfl | rfl | rfl | rfl | rfl | rfl | rfl | rfl | rfl | rfl | rfl <;> rfl
set_option maxHeartbeats 8000000 in
set_option maxRecDepth 100000 in
theorem whole_start {p : Program} {e : Env} {s : State} {m : MethodId} {below : List Frame} {meth : Method} {c : Code} (l : Launch) {b L : Nat} {xs : Nat → Int32} (hL : L ≤ 2048) (C0 : lw_At p s m meth c b L xs) : W p l e room_1 s m #[Value.ref b] below meth c s.heap [] 0 0 (lw_Z below #[Value.ref b] s) (entryFrame m ([Value.ref b] : List Value).toArray 4) := by
  obtain ⟨hx, hb, hr, hml, hown, hts0, hX, hbl, hlocks, hgv⟩ := id C0
  have hts : ∀ w ∈ wsL_law, w.before #[Value.ref b] s = true := fun w h => hts0 w (wsL_law_in w h)
  obtain ⟨A, hAe⟩ : ∃ A : Nat → Prop, A = fun q => s.heap.size ≤ q := ⟨_, rfl⟩
  have hA : ∀ q : Nat, s.heap.size ≤ q → A q := fun q h => by rw [hAe]; exact h
  have hA' : ∀ q : Nat, A q → s.heap.size ≤ q := fun q h => by rw [hAe] at h; exact h
  have hbA : ¬ A b := fun h => absurd (hA' b h) (Nat.not_le.mpr hbl)
  have hNK : NK s := ⟨va_Nw.of rfl (hts0 (.methodLinkNest RX1 11 yX2_init RX10) (by decide +kernel)), va_Nw.of rfl (hts0 (.methodLinkNest RX10 9 yX8_init RX10) (by decide +kernel)), va_Nw.of rfl (hts0 (.methodLinkNest RX10 18 yX5_init RX10) (by decide +kernel)), va_Nw.of rfl (hts0 (.methodLinkNest RX10 25 yX4_init RX10) (by decide +kernel)), va_Nw.of rfl (hts0 (.methodLinkNest RX10 50 yX0_init RX10) (by decide +kernel)), va_Nw.of rfl (hts0 (.methodLinkNest RX10 57 yX9_init RX10) (by decide +kernel)), va_Nw.of rfl (hts0 (.methodLinkNest RX10 64 yX6_init RX10) (by decide +kernel)), va_Nw.of rfl (hts0 (.methodLinkNest RX10 71 yX7_init RX10) (by decide +kernel)), va_Nw.of rfl (hts0 (.methodLinkNest RX10 78 yX3_init RX10) (by decide +kernel)), va_AO.of (hts0 (.arrayOver (.object RX2)) (by decide +kernel)), va_AO.of (hts0 (.arrayOver (.object RX1)) (by decide +kernel))⟩
  obtain ⟨k0, i0, hKn0⟩ := u_known (C := RX0) (T := TX0) (N := 3) (n := 3) hts inlX0 (hts (.instantiable RX0 3) (List.mem_of_getElem? (i := 33) rfl))
  obtain ⟨k1, i1, hKn1⟩ := u_known (C := RX1) (T := TX1) (N := 3) (n := 3) hts inlX1 (hts (.instantiable RX1 3) (List.mem_of_getElem? (i := 26) rfl))
  obtain ⟨k2, i2, hKn2⟩ := u_known (C := RX2) (T := TX2) (N := 8) (n := 8) hts inlX2 (hts (.instantiable RX2 8) (List.mem_of_getElem? (i := 76) rfl))
  obtain ⟨k3, i3, hKn3⟩ := u_known (C := RX3) (T := TX3) (N := 3) (n := 3) hts inlX3 (hts (.instantiable RX3 3) (List.mem_of_getElem? (i := 49) rfl))
  obtain ⟨k4, i4, hKn4⟩ := u_known (C := RX4) (T := TX4) (N := 10) (n := 10) hts inlX4 (hts (.instantiable RX4 10) (List.mem_of_getElem? (i := 21) rfl))
  obtain ⟨k5, i5, hKn5⟩ := u_known (C := RX5) (T := TX5) (N := 2) (n := 2) hts inlX5 (hts (.instantiable RX5 2) (List.mem_of_getElem? (i := 17) rfl))
  obtain ⟨k6, i6, hKn6⟩ := u_known (C := RX6) (T := TX6) (N := 5) (n := 5) hts inlX6 (hts (.instantiable RX6 5) (List.mem_of_getElem? (i := 41) rfl))
  obtain ⟨k7, i7, hKn7⟩ := u_known (C := RX7) (T := TX7) (N := 2) (n := 2) hts inlX7 (hts (.instantiable RX7 2) (List.mem_of_getElem? (i := 45) rfl))
  obtain ⟨k8, i8, hKn8⟩ := u_known (C := RX8) (T := TX8) (N := 6) (n := 6) hts inlX8 (hts (.instantiable RX8 6) (List.mem_of_getElem? (i := 13) rfl))
  obtain ⟨k9, i9, hKn9⟩ := u_known (C := RX9) (T := TX9) (N := 4) (n := 4) hts inlX9 (hts (.instantiable RX9 4) (List.mem_of_getElem? (i := 37) rfl))
  obtain ⟨k10, i10, hKn10⟩ := u_known (C := RX10) (T := TX10) (N := 14) (n := 14) hts inlX10 (hts (.instantiable RX10 14) (List.mem_of_getElem? (i := 1) rfl))
  obtain ⟨k11, i11, hKn11⟩ := u_known (C := RX11) (T := TX11) (N := 22) (n := 22) hts inlX11 (hts (.instantiable RX11 22) (List.mem_of_getElem? (i := 4) rfl))
  obtain ⟨D, hKc⟩ : ∃ D : va_G, ∀ (k : Nat) (q : vw_C), vwCl[k]? = some q → u_Kn s q.1 q.2.1 q.2.2 (D.1 k) (D.2 k) := by
    refine ⟨(fun k => if k = 0 then k0 else if k = 1 then k1 else if k = 2 then k2 else if k = 3 then k3 else if k = 4 then k4 else if k = 5 then k5 else if k = 6 then k6 else if k = 7 then k7 else if k = 8 then k8 else if k = 9 then k9 else if k = 10 then k10 else k11, fun k => if k = 0 then i0 else if k = 1 then i1 else if k = 2 then i2 else if k = 3 then i3 else if k = 4 then i4 else if k = 5 then i5 else if k = 6 then i6 else if k = 7 then i7 else if k = 8 then i8 else if k = 9 then i9 else if k = 10 then i10 else i11), ?_⟩
    intro k q hq
    match k, hq with
    | 0, hq => cases hq; exact hKn0
    | 1, hq => cases hq; exact hKn1
    | 2, hq => cases hq; exact hKn2
    | 3, hq => cases hq; exact hKn3
    | 4, hq => cases hq; exact hKn4
    | 5, hq => cases hq; exact hKn5
    | 6, hq => cases hq; exact hKn6
    | 7, hq => cases hq; exact hKn7
    | 8, hq => cases hq; exact hKn8
    | 9, hq => cases hq; exact hKn9
    | 10, hq => cases hq; exact hKn10
    | 11, hq => cases hq; exact hKn11
    | k + 12, hq => simp [vwCl] at hq
  obtain ⟨cI, kI, compI, hI1, hI2, hI3⟩ := Cond.arrayClass_spec (hts0 (.arrayClass .int) (by decide +kernel))
  obtain ⟨cZ, kZ, compZ, hZ1, hZ2, hZ3⟩ := Cond.arrayClass_spec (hts0 (.arrayClass .boolean) (by decide +kernel))
  obtain ⟨compM, cM, kM, hM1, hM2, hM3, hM4, hM5⟩ := Cond.arrayOver_spec (hts0 (.arrayOver (.object "LentCourage$Moment")) (by decide +kernel))
  obtain ⟨compQ, cQ, kQ, hQ1, hQ2, hQ3, hQ4, hQ5⟩ := Cond.arrayOver_spec (hts0 (.arrayOver (.object "LentCourage$Ledger")) (by decide +kernel))
  obtain ⟨C, hC⟩ : ∃ C : Nat → ClassId, C = fun k => if k = 0 then cI else if k = 1 then cZ else if k = 2 then cM else cQ := ⟨_, rfl⟩
  have hK : va_K D vwCl (TY C) s := by
    refine ⟨hKc, fun k q hq => ?_⟩
    subst hC
    match k, hq with
    | 0, hq => cases hq; exact ⟨fun n z => ⟨fun k h => (by cases h), kI, hI2, compI, hI3⟩, hI1⟩
    | 1, hq => cases hq; exact ⟨fun n z => ⟨fun k h => (by cases h), kZ, hZ2, compZ, hZ3⟩, hZ1⟩
    | 2, hq => cases hq; exact ⟨fun n z => ⟨fun k h => (by cases h), kM, hM3, compM, hM4⟩, kM, compM, hM3, hM4, hM1, hM5⟩
    | 3, hq => cases hq; exact ⟨fun n z => ⟨fun k h => (by cases h), kQ, hQ3, compQ, hQ4⟩, kQ, compQ, hQ3, hQ4, hQ1, hQ5⟩
    | k + 4, hq => simp [TY] at hq
  clear hC
  have hS : va_S A s.heap s.heap [] := va_S.rf
  have hP : va_P D vwCl [] s.heap := fun k q h => by simp at h
  have hD : va_D A [] := ⟨fun i j p q h => by simp at h, fun k q h => by simp at h⟩
  generalize hH : s.heap = H at hP hS ⊢
  rw [← hH] at hS
  have hS : va_S A s.heap H [] := by rw [hH] at hS ⊢; exact hS
  have hl := lv_entry ([.ref b]) (n := 4) (Nat.le_of_ble_eq_true rfl)
  rw [lg_entry_eq]
  generalize (lg_sl ([.ref b]) ++ List.replicate (4 - (lg_sl ([.ref b])).length) Slot.unset).toArray = ls at hl ⊢
  have hl : lv_has ls 4 [(0, .ref b)] := hl
  refine va_new (ci := 10) (fs := [.null, .null, .null, .null, .null, .null, .null, .null, .null, .null, .null, .null, .long 0, .int 0]) (C := RX10) (T := TX10) (N := 14) hx hb hts inlX10 tyX10 tyX10_ok hown (hts (.classLink RL 7 RX10) (List.mem_of_getElem? (i := 0) rfl)) (hts (.instantiable RX10 14) (List.mem_of_getElem? (i := 1) rfl)) (hts (.initialized RX10) (List.mem_of_getElem? (i := 2) rfl)) hK hP hD hS hA rfl df_X10 (Nat.le_of_ble_eq_true rfl) (Nat.le_of_ble_eq_true rfl) dL_law_0 (fun qx H hP hD hS => ?_)
  refine lv_dup hx hb dL_law_3 rfl ?_
  refine c_New (xs := []) (wc := [ob qx 10 [.null, .null, .null, .null, .null, .null, .null, .null, .null, .null, .null, .null, .long 0, .int 0]]) (rest := [.ref qx]) (cI_run ⟨hx, hb, hml, hown, hts⟩ (k_X10_init l D C qx H.size) gL_law_X10_init rfl ⟨rfl, rfl⟩ (hts (.initialized RX10) (List.mem_of_getElem? (i := 2) rfl)) (hts (.methodLink RL 9 yX10_init) (List.mem_of_getElem? (i := 6) rfl)) (hts (.instanceMethod yX10_init) (List.mem_of_getElem? (i := 7) rfl)) rfl hd_X10_init ⟨Nat.le_of_ble_eq_true rfl, Nat.le_of_ble_eq_true rfl⟩ (fun _ _ h k => NK.same h k) (fun _ hW => NK.warm hW hNK) hK (tailC (xs := []) hP hD) hl.1 (Nat.le_of_ble_eq_true rfl) dL_law_4 ⟨Nat.le_of_ble_eq_true rfl, Nat.le_of_ble_eq_true rfl⟩) hP hD hS hA (fun U H locs hu hPn hDn hS => ?_)
  subst hu
  have hP : va_P D vwCl (wX10 C U) H := hPn
  have hD : va_D A (wX10 C U) := hDn
  refine lv_astore_n (lv' := [(1, .ref (U 0 0)), (0, .ref b)]) hx hb dL_law_7 rfl hl (by decide) rfl (fun ls hl => ?_)
  obtain ⟨out, hout, hInv⟩ := P_init
  refine va_new (ci := 11) (fs := [.long 0, .null, .int 0, .null, .null, .null, .null, .null, .null, .null, .int 0, .int 0, .int 0, .int 0, .int 0, .null, .null, .int 0, .int 0, .int 0, .null, .null]) (C := RX11) (T := TX11) (N := 22) hx hb hts inlX11 tyX11 tyX11_ok hown (hts (.classLink RL 10 RX11) (List.mem_of_getElem? (i := 3) rfl)) (hts (.instantiable RX11 22) (List.mem_of_getElem? (i := 4) rfl)) (hts (.initialized RX11) (List.mem_of_getElem? (i := 5) rfl)) hK hP hD hS hA rfl df_X11 (Nat.le_of_ble_eq_true rfl) (Nat.le_of_ble_eq_true rfl) dL_law_8 (fun qm H hP hD hS => ?_)
  refine lv_dup hx hb dL_law_11 rfl ?_
  refine c_New (xs := wX10 C U) (wc := [ob qm 11 [.long 0, .null, .int 0, .null, .null, .null, .null, .null, .null, .null, .int 0, .int 0, .int 0, .int 0, .int 0, .null, .null, .int 0, .int 0, .int 0, .null, .null]]) (rest := [.ref qm]) (cI_run ⟨hx, hb, hml, hown, hts⟩ (k_X11_init l D C qm H.size out hout) gL_law_X11_init rfl ⟨rfl, rfl⟩ (hts (.initialized RX11) (List.mem_of_getElem? (i := 5) rfl)) (hts (.methodLink RL 12 yX11_init) (List.mem_of_getElem? (i := 109) rfl)) (hts (.instanceMethod yX11_init) (List.mem_of_getElem? (i := 110) rfl)) rfl hd_X11_init ⟨Nat.le_of_ble_eq_true rfl, Nat.le_of_ble_eq_true rfl⟩ (fun _ _ _ _ => trivial) (fun _ _ => trivial) hK (tailC hP hD) hl.1 (Nat.le_of_ble_eq_true rfl) dL_law_12 ⟨Nat.le_of_ble_eq_true rfl, Nat.le_of_ble_eq_true rfl⟩) hP hD hS hA (fun V H locs hu hPn hDn hS => ?_)
  subst hu
  have hP := vaP_perm hPn (startW C U V out)
  have hD := vaD_perm hDn (startW C U V out)
  refine lv_astore_n (lv' := [(2, .ref (V 0)), (1, .ref (U 0 0)), (0, .ref b)]) hx hb dL_law_15 rfl hl (by decide) rfl (fun ls hl => ?_)
  refine lv_iconst (v := (0 : Int32)) hx hb dL_law_16 (by decide) ?_
  refine lv_istore_n (lv' := [(3, .int 0), (2, .ref (V 0)), (1, .ref (U 0 0)), (0, .ref b)]) hx hb dL_law_17 rfl hl (by decide) rfl (fun ls hl => ?_)
  refine W.widen (k := 183) (n := 2643) (by decide) (by decide) ?_
  exact law_loop hL ⟨hx, hb, hml, hown, hts, hX, hbl, hbA, hA, hK⟩ hA' hr hlocks (L + 1) 0 0 (Nat.zero_le L) (by omega) nI_0.symm 0 ci0 (fun _ _ => 0) (fun _ => mom0) (fun _ _ => mom0) (fun _ k => k) 0 (mi0 out) (ma0 out) hInv H locs ls hP hD hS (lv_sub hl [3, 2, 1, 0] rfl)
