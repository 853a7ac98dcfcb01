/-! written by gen.py: 16.odds -/
def fX3_takeOut_2 (w1_2 : Int32) (w2_2 : Int32) : Nat → Int32 → Int32 → Int32 → Option (Int32 × Int32 × Int32)
  | 0, _, _, _ => none
  | n + 1, w3_2, v_t_upper_2, v_t_lower_2 => (if w2_2 ≤ w3_2 then some (w3_2, v_t_upper_2, v_t_lower_2) else (if w1_2 ≤ 0 then some (w3_2, v_t_upper_2, v_t_lower_2) else chk (¬ w1_2 = 0) ((if (v_t_upper_2 - v_t_upper_2 / w1_2 * w1_2) = 0 then lt_ (v_t_upper_2 / w1_2) (fun z5 => lt_ (v_t_lower_2 / w1_2) (fun z6 => lt_ (w3_2 + (1 : Int32)) (fun z7 => fX3_takeOut_2 w1_2 w2_2 n z7 z5 z6))) else some (w3_2, v_t_upper_2, v_t_lower_2)))))
def fX3_takeOut (v_t_upper : Int32) (v_t_lower : Int32) (p1 : Int32) (p2 : Int32) : Option (Int32 × Int32) :=
  (fX3_takeOut_2 p1 p2 FU (0 : Int32) v_t_upper v_t_lower).bind (fun y8 => some (y8.2.1, y8.2.2))
theorem hd_X3_takeOut : yX3_takeOut.cls = RX3 ∧ yX3_takeOut.cls ≠ "java/lang/invoke/MethodHandle" ∧ yX3_takeOut.cls ≠ "java/lang/invoke/VarHandle" ∧ (parseMethodDescriptor yX3_takeOut.desc).map (fun d => d.parameters.length) = some 2 := by decide +kernel
set_option maxHeartbeats 4000000 in
set_option maxRecDepth 100000 in
theorem k_X3_takeOut (l : Launch) (D : va_G) (C : Nat → ClassId) (q_t : Nat) (q_t_ways : Nat) (v_t_upper : Int32) (v_t_lower : Int32) (p1 : Int32) (p2 : Int32) (sz : Nat) (out : Int32 × Int32) (hf : fX3_takeOut v_t_upper v_t_lower p1 p2 = some out) : MV l yX3_takeOut wsX3_takeOut ({ frames := 0, cells := 0, slots := 0, locals := 0 }) D C [.ref q_t, .int p1, .int p2] [ob q_t 3 [.int v_t_upper, .int v_t_lower, .ref q_t_ways]] [ob q_t 3 [.int out.1, .int out.2, .ref q_t_ways]] sz := by
  unfold fX3_takeOut at hf
  refine en_V (by decide) rfl (Nat.le_of_ble_eq_true rfl) ?_
  intro p e s m below meth c A ls H locs hx hb hr hlocks hml hts hown hK hP hD hS hA hl
  have hl : lv_has ls 4 [(0, .ref q_t), (1, .int p1), (2, .int p2)] := hl
  have inX3 : ∀ w ∈ u_ws RX3 TX3 3, w ∈ wsX3_takeOut := fun w h => List.mem_cons_of_mem _ (List.mem_append_right _ h)
  have LP2 : ∀ (Q : State → Prop) (n : Nat) (w3_2 : Int32) (w1_2 : Int32) (w2_2 : Int32) (v_t_upper_2 : Int32) (v_t_lower_2 : Int32) (y_2 : Int32 × Int32 × Int32), fX3_takeOut_2 w1_2 w2_2 n w3_2 v_t_upper_2 v_t_lower_2 = some y_2 → ∀ (H : Heap) (locs : List Loc) (ls : Array Slot), va_P D vwCl [ob q_t 3 [.int v_t_upper_2, .int v_t_lower_2, .ref q_t_ways]] H → va_D A [ob q_t 3 [.int v_t_upper_2, .int v_t_lower_2, .ref q_t_ways]] → va_S A s.heap H locs → lv_has ls 4 [(3, .int w3_2), (0, .ref q_t), (1, .int w1_2), (2, .int w2_2)] → (∀ (H : Heap) (locs : List Loc) (ls : Array Slot), va_P D vwCl [ob q_t 3 [.int y_2.2.1, .int y_2.2.2, .ref q_t_ways]] H → va_D A [ob q_t 3 [.int y_2.2.1, .int y_2.2.2, .ref q_t_ways]] → va_S A s.heap H locs → lv_has ls 4 [(3, .int y_2.1), (0, .ref q_t), (1, .int w1_2), (2, .int w2_2)] → W p l e ({ frames := 0, cells := 0, slots := 0, locals := 0 } : Room) s m ([.ref q_t, .int p1, .int p2] : List Value).toArray below meth c H locs 0 0 Q (F0 m 46 ls [])) → W p l e ({ frames := 0, cells := 0, slots := 0, locals := 0 } : Room) s m ([.ref q_t, .int p1, .int p2] : List Value).toArray below meth c H locs 0 0 Q (F0 m 2 ls []) := by
    intro Q n
    induction n with
    | zero =>
      intro w3_2 w1_2 w2_2 v_t_upper_2 v_t_lower_2 y_2 hf
      rw [fX3_takeOut_2] at hf
      cases hf
    | succ n ih =>
      intro w3_2 w1_2 w2_2 v_t_upper_2 v_t_lower_2 y_2 hf H locs ls hP hD hS hl KX0
      rw [fX3_takeOut_2] at hf
      refine lv_iload_n hx hb dX3_takeOut_2 rfl (lv_at hl 0 rfl) ?_
      refine lv_iload_n hx hb dX3_takeOut_3 rfl (lv_at hl 3 rfl) ?_
      refine lv_icmp_ge (tgt := 46) hx hb dX3_takeOut_4 (by decide) (fun c1 => ?_) (fun c1 => ?_)
      · have hf := of_pos hf c1
        obtain rfl := Option.some.inj hf
        exact KX0 _ _ _ hP hD hS (lv_sub hl [0, 1, 2, 3] rfl)
      · have hf := of_neg hf c1
        refine lv_iload_n hx hb dX3_takeOut_7 rfl (lv_at hl 2 rfl) ?_
        refine lv_if_le (tgt := 46) hx hb dX3_takeOut_8 (by decide) (fun c2 => ?_) (fun c2 => ?_)
        · have hf := of_pos hf c2
          obtain rfl := Option.some.inj hf
          exact KX0 _ _ _ hP hD hS (lv_sub hl [0, 1, 2, 3] rfl)
        · have hf := of_neg hf c2
          refine lv_aload_n hx hb dX3_takeOut_11 rfl (lv_at hl 1 rfl) ?_
          refine va_get (D := D) (ci := 3) (v := .int v_t_upper_2) (C := RX3) (T := TX3) (N := 3) hx hb hts inX3 hown hK hP 0 rfl rfl 0 (by decide) (hts (.fieldLink RX3 19 "LentCourage$Odds" "upper" "I") (List.mem_of_getElem? (i := 1) rfl)) (fun _ h9 => h9) rfl dX3_takeOut_12 ?_
          refine lv_iload_n hx hb dX3_takeOut_15 rfl (lv_at hl 2 rfl) ?_
          obtain ⟨h3, hf⟩ := of_chk hf
          refine lv_irem hx hb dX3_takeOut_16 h3 ?_
          refine lv_if_ne (tgt := 46) hx hb dX3_takeOut_17 (by decide) (fun c4 => ?_) (fun c4 => ?_)
          · have hf := of_neg hf c4
            obtain rfl := Option.some.inj hf
            exact KX0 _ _ _ hP hD hS (lv_sub hl [0, 1, 2, 3] rfl)
          · have hf := of_pos hf c4
            refine lv_aload_n hx hb dX3_takeOut_20 rfl (lv_at hl 1 rfl) ?_
            refine lv_dup hx hb dX3_takeOut_21 rfl ?_
            refine va_get (D := D) (ci := 3) (v := .int v_t_upper_2) (C := RX3) (T := TX3) (N := 3) hx hb hts inX3 hown hK hP 0 rfl rfl 0 (by decide) (hts (.fieldLink RX3 19 "LentCourage$Odds" "upper" "I") (List.mem_of_getElem? (i := 1) rfl)) (fun _ h9 => h9) rfl dX3_takeOut_22 ?_
            refine lv_iload_n hx hb dX3_takeOut_25 rfl (lv_at hl 2 rfl) ?_
            refine lv_idiv hx hb dX3_takeOut_26 h3 ?_
            refine lv_topi (fun z5 ez5 => ?_)
            have hf := of_lt hf ez5
            refine va_put (D := D) (ci := 3) (v := .int z5) (ty := .int) (C := RX3) (T := TX3) (N := 3) hx hb hts inX3 tyX3 tyX3_ok nmX3 hown hK hP hD hS 0 rfl rfl 0 (by decide) (hts (.fieldLink RX3 19 "LentCourage$Odds" "upper" "I") (List.mem_of_getElem? (i := 1) rfl)) (fun _ h9 => h9) rfl (tyX3_ok 0 (by decide)) rfl rfl (Nat.le_of_ble_eq_true rfl) dX3_takeOut_27 (fun H locs hP hD hS => ?_)
            have hP : va_P D vwCl [ob q_t 3 [.int z5, .int v_t_lower_2, .ref q_t_ways]] H := hP
            have hD : va_D A [ob q_t 3 [.int z5, .int v_t_lower_2, .ref q_t_ways]] := hD
            refine lv_aload_n hx hb dX3_takeOut_30 rfl (lv_at hl 1 rfl) ?_
            refine lv_dup hx hb dX3_takeOut_31 rfl ?_
            refine va_get (D := D) (ci := 3) (v := .int v_t_lower_2) (C := RX3) (T := TX3) (N := 3) hx hb hts inX3 hown hK hP 0 rfl rfl 1 (by decide) (hts (.fieldLink RX3 23 "LentCourage$Odds" "lower" "I") (List.mem_of_getElem? (i := 2) rfl)) (fun _ h9 => h9) rfl dX3_takeOut_32 ?_
            refine lv_iload_n hx hb dX3_takeOut_35 rfl (lv_at hl 2 rfl) ?_
            refine lv_idiv hx hb dX3_takeOut_36 h3 ?_
            refine lv_topi (fun z6 ez6 => ?_)
            have hf := of_lt hf ez6
            refine va_put (D := D) (ci := 3) (v := .int z6) (ty := .int) (C := RX3) (T := TX3) (N := 3) hx hb hts inX3 tyX3 tyX3_ok nmX3 hown hK hP hD hS 0 rfl rfl 1 (by decide) (hts (.fieldLink RX3 23 "LentCourage$Odds" "lower" "I") (List.mem_of_getElem? (i := 2) rfl)) (fun _ h9 => h9) rfl (tyX3_ok 1 (by decide)) rfl rfl (Nat.le_of_ble_eq_true rfl) dX3_takeOut_37 (fun H locs hP hD hS => ?_)
            have hP : va_P D vwCl [ob q_t 3 [.int z5, .int z6, .ref q_t_ways]] H := hP
            have hD : va_D A [ob q_t 3 [.int z5, .int z6, .ref q_t_ways]] := hD
            obtain ⟨z7, ez7⟩ : ∃ y : Int32, y = (w3_2 + (1 : Int32)) := ⟨_, rfl⟩
            have hf := of_lt hf ez7
            refine lv_iinc (v := z7) (lv' := [(3, .int z7), (0, .ref q_t), (1, .int w1_2), (2, .int w2_2)]) hx hb dX3_takeOut_40 hl (k := 0) rfl (by rw [ez7]; rfl) (by decide) rfl (fun ls hl => ?_)
            refine lv_goto (tgt := 2) hx hb dX3_takeOut_43 (by decide) ?_
            exact ih _ _ _ _ _ _ hf H locs ls hP hD hS (lv_sub hl [0, 1, 2, 3] rfl) KX0
  refine lv_iconst (v := (0 : Int32)) hx hb dX3_takeOut_0 (by decide) ?_
  refine lv_istore_n (lv' := [(3, .int (0 : Int32)), (0, .ref q_t), (1, .int p1), (2, .int p2)]) hx hb dX3_takeOut_1 rfl hl (by decide) rfl (fun ls hl => ?_)
  obtain ⟨y8, hy8, hf⟩ := of_bind hf
  refine LP2 _ FU _ _ _ _ _ y8 hy8 H locs ls hP hD hS (lv_sub hl [0, 1, 2, 3] rfl) (fun H locs ls hP hD hS hl => ?_)
  obtain rfl := Option.some.inj hf
  exact ret_V hx hb hr hlocks hK hP hD hS dX3_takeOut_46

def fX3_countWays_35 (w2_35 : Int32) : Nat → Int32 → (Nat → Int32) → Option (Int32 × (Nat → Int32))
  | 0, _, _ => none
  | n + 1, w4_35, r_t_ways_35 => (if w4_35 ≤ 0 then some (w4_35, r_t_ways_35) else chk (vin w4_35 9) (chk (vin (w4_35 - (1 : Int32)) 9) (lt_ (((r_t_ways_35 w4_35.toNatClampNeg) * ((10 : Int32) - w2_35)) + ((r_t_ways_35 (w4_35 - (1 : Int32)).toNatClampNeg) * w2_35)) (fun z9 => lt_ (w4_35 + (-1 : Int32)) (fun z10 => fX3_countWays_35 w2_35 n z10 (upd r_t_ways_35 w4_35.toNatClampNeg z9))))))
def fX3_countWays_9 (w1_9 : Int32) (w2_9 : Int32) : Nat → Int32 → (Nat → Int32) → Option (Int32 × (Nat → Int32))
  | 0, _, _ => none
  | n + 1, w3_9, r_t_ways_9 => (if w1_9 < w3_9 then some (w3_9, r_t_ways_9) else chk (vin (w3_9 - (1 : Int32)) 9) (lt_ ((r_t_ways_9 (w3_9 - (1 : Int32)).toNatClampNeg) * w2_9) (fun z3 => chk (vin w3_9 9) (lt_ (w3_9 - (1 : Int32)) (fun z5 => (fX3_countWays_35 w2_9 FU z5 (upd r_t_ways_9 w3_9.toNatClampNeg z3)).bind (fun y6 => lt_ ((y6.2 0) * ((10 : Int32) - w2_9)) (fun z7 => lt_ (w3_9 + (1 : Int32)) (fun z8 => fX3_countWays_9 w1_9 w2_9 n z8 (upd y6.2 0 z7)))))))))
def fX3_countWays (r_t_ways : Nat → Int32) (p1 : Int32) (p2 : Int32) : Option ((Nat → Int32)) :=
  (fX3_countWays_9 p1 p2 FU (1 : Int32) (upd r_t_ways 0 (1 : Int32))).bind (fun y9 => some y9.2)
theorem hd_X3_countWays : yX3_countWays.cls = RX3 ∧ yX3_countWays.cls ≠ "java/lang/invoke/MethodHandle" ∧ yX3_countWays.cls ≠ "java/lang/invoke/VarHandle" ∧ (parseMethodDescriptor yX3_countWays.desc).map (fun d => d.parameters.length) = some 2 := by decide +kernel
set_option maxHeartbeats 4000000 in
set_option maxRecDepth 100000 in
theorem k_X3_countWays (l : Launch) (D : va_G) (C : Nat → ClassId) (q_t : Nat) (q_t_ways : Nat) (v_t_upper : Int32) (v_t_lower : Int32) (r_t_ways : Nat → Int32) (p1 : Int32) (p2 : Int32) (sz : Nat) (out : (Nat → Int32)) (hf : fX3_countWays r_t_ways p1 p2 = some out) : MV l yX3_countWays wsX3_countWays ({ frames := 0, cells := 0, slots := 0, locals := 0 }) D C [.ref q_t, .int p1, .int p2] [ob q_t 3 [.int v_t_upper, .int v_t_lower, .ref q_t_ways], ia C q_t_ways 9 r_t_ways] [ob q_t 3 [.int v_t_upper, .int v_t_lower, .ref q_t_ways], ia C q_t_ways 9 out] sz := by
  unfold fX3_countWays at hf
  refine en_V (by decide) rfl (Nat.le_of_ble_eq_true rfl) ?_
  intro p e s m below meth c A ls H locs hx hb hr hlocks hml hts hown hK hP hD hS hA hl
  have hl : lv_has ls 5 [(0, .ref q_t), (1, .int p1), (2, .int p2)] := hl
  have inX3 : ∀ w ∈ u_ws RX3 TX3 3, w ∈ wsX3_countWays := fun w h => List.mem_cons_of_mem _ (List.mem_append_right _ h)
  have LP35 : ∀ (Q : State → Prop) (n : Nat) (w4_35 : Int32) (w3_35 : Int32) (w1_35 : Int32) (w2_35 : Int32) (v_t_upper_35 : Int32) (v_t_lower_35 : Int32) (r_t_ways_35 : Nat → Int32) (y_35 : Int32 × (Nat → Int32)), fX3_countWays_35 w2_35 n w4_35 r_t_ways_35 = some y_35 → ∀ (H : Heap) (locs : List Loc) (ls : Array Slot), va_P D vwCl [ob q_t 3 [.int v_t_upper_35, .int v_t_lower_35, .ref q_t_ways], ia C q_t_ways 9 r_t_ways_35] H → va_D A [ob q_t 3 [.int v_t_upper_35, .int v_t_lower_35, .ref q_t_ways], ia C q_t_ways 9 r_t_ways_35] → va_S A s.heap H locs → lv_has ls 5 [(4, .int w4_35), (3, .int w3_35), (0, .ref q_t), (1, .int w1_35), (2, .int w2_35)] → (∀ (H : Heap) (locs : List Loc) (ls : Array Slot), va_P D vwCl [ob q_t 3 [.int v_t_upper_35, .int v_t_lower_35, .ref q_t_ways], ia C q_t_ways 9 y_35.2] H → va_D A [ob q_t 3 [.int v_t_upper_35, .int v_t_lower_35, .ref q_t_ways], ia C q_t_ways 9 y_35.2] → va_S A s.heap H locs → lv_has ls 5 [(4, .int y_35.1), (3, .int w3_35), (0, .ref q_t), (1, .int w1_35), (2, .int w2_35)] → W p l e ({ frames := 0, cells := 0, slots := 0, locals := 0 } : Room) s m ([.ref q_t, .int p1, .int p2] : List Value).toArray below meth c H locs 0 0 Q (F0 m 77 ls [])) → W p l e ({ frames := 0, cells := 0, slots := 0, locals := 0 } : Room) s m ([.ref q_t, .int p1, .int p2] : List Value).toArray below meth c H locs 0 0 Q (F0 m 35 ls []) := by
    intro Q n
    induction n with
    | zero =>
      intro w4_35 w3_35 w1_35 w2_35 v_t_upper_35 v_t_lower_35 r_t_ways_35 y_35 hf
      rw [fX3_countWays_35] at hf
      cases hf
    | succ n ih =>
      intro w4_35 w3_35 w1_35 w2_35 v_t_upper_35 v_t_lower_35 r_t_ways_35 y_35 hf H locs ls hP hD hS hl KX0
      rw [fX3_countWays_35] at hf
      refine lv_iload hx hb dX3_countWays_35 (lv_at hl 0 rfl) ?_
      refine lv_if_le (tgt := 77) hx hb dX3_countWays_37 (by decide) (fun c6 => ?_) (fun c6 => ?_)
      · have hf := of_pos hf c6
        obtain rfl := Option.some.inj hf
        exact KX0 _ _ _ hP hD hS (lv_sub hl [0, 1, 2, 3, 4] rfl)
      · have hf := of_neg hf c6
        refine lv_aload_n hx hb dX3_countWays_40 rfl (lv_at hl 2 rfl) ?_
        refine va_get (D := D) (ci := 3) (v := .ref q_t_ways) (C := RX3) (T := TX3) (N := 3) hx hb hts inX3 hown hK hP 0 rfl rfl 2 (by decide) (hts (.fieldLink RX3 9 "LentCourage$Odds" "ways" "[I") (List.mem_of_getElem? (i := 1) rfl)) (fun _ h9 => h9) rfl dX3_countWays_41 ?_
        refine lv_iload hx hb dX3_countWays_44 (lv_at hl 0 rfl) ?_
        refine lv_aload_n hx hb dX3_countWays_46 rfl (lv_at hl 2 rfl) ?_
        refine va_get (D := D) (ci := 3) (v := .ref q_t_ways) (C := RX3) (T := TX3) (N := 3) hx hb hts inX3 hown hK hP 0 rfl rfl 2 (by decide) (hts (.fieldLink RX3 9 "LentCourage$Odds" "ways" "[I") (List.mem_of_getElem? (i := 1) rfl)) (fun _ h9 => h9) rfl dX3_countWays_47 ?_
        refine lv_iload hx hb dX3_countWays_50 (lv_at hl 0 rfl) ?_
        obtain ⟨h7, hf⟩ := of_chk hf
        refine va_iald hx hb hK hP 1 0 rfl rfl h7 dX3_countWays_52 ?_
        refine lv_bipush (v := (10 : Int32)) hx hb dX3_countWays_53 (by decide) ?_
        refine lv_iload_n hx hb dX3_countWays_55 rfl (lv_at hl 4 rfl) ?_
        refine lv_isub hx hb dX3_countWays_56 ?_
        refine lv_imul hx hb dX3_countWays_57 ?_
        refine lv_aload_n hx hb dX3_countWays_58 rfl (lv_at hl 2 rfl) ?_
        refine va_get (D := D) (ci := 3) (v := .ref q_t_ways) (C := RX3) (T := TX3) (N := 3) hx hb hts inX3 hown hK hP 0 rfl rfl 2 (by decide) (hts (.fieldLink RX3 9 "LentCourage$Odds" "ways" "[I") (List.mem_of_getElem? (i := 1) rfl)) (fun _ h9 => h9) rfl dX3_countWays_59 ?_
        refine lv_iload hx hb dX3_countWays_62 (lv_at hl 0 rfl) ?_
        refine lv_iconst (v := (1 : Int32)) hx hb dX3_countWays_64 (by decide) ?_
        refine lv_isub hx hb dX3_countWays_65 ?_
        obtain ⟨h8, hf⟩ := of_chk hf
        refine va_iald hx hb hK hP 1 0 rfl rfl h8 dX3_countWays_66 ?_
        refine lv_iload_n hx hb dX3_countWays_67 rfl (lv_at hl 4 rfl) ?_
        refine lv_imul hx hb dX3_countWays_68 ?_
        refine lv_iadd hx hb dX3_countWays_69 ?_
        refine lv_topi (fun z9 ez9 => ?_)
        have hf := of_lt hf ez9
        refine va_iast hx hb hK hP hD hS 1 0 rfl rfl h7 dX3_countWays_70 (fun H locs hP hD hS => ?_)
        have hP : va_P D vwCl [ob q_t 3 [.int v_t_upper_35, .int v_t_lower_35, .ref q_t_ways], ia C q_t_ways 9 (upd r_t_ways_35 w4_35.toNatClampNeg z9)] H := hP
        have hD : va_D A [ob q_t 3 [.int v_t_upper_35, .int v_t_lower_35, .ref q_t_ways], ia C q_t_ways 9 (upd r_t_ways_35 w4_35.toNatClampNeg z9)] := hD
        obtain ⟨z10, ez10⟩ : ∃ y : Int32, y = (w4_35 + (-1 : Int32)) := ⟨_, rfl⟩
        have hf := of_lt hf ez10
        refine lv_iinc (v := z10) (lv' := [(4, .int z10), (3, .int w3_35), (0, .ref q_t), (1, .int w1_35), (2, .int w2_35)]) hx hb dX3_countWays_71 hl (k := 0) rfl (by rw [ez10]; rfl) (by decide) rfl (fun ls hl => ?_)
        refine lv_goto (tgt := 35) hx hb dX3_countWays_74 (by decide) ?_
        exact ih _ _ _ _ _ _ _ _ hf H locs ls hP hD hS (lv_sub hl [0, 1, 2, 3, 4] rfl) KX0
  have LP9 : ∀ (Q : State → Prop) (n : Nat) (w3_9 : Int32) (w1_9 : Int32) (w2_9 : Int32) (v_t_upper_9 : Int32) (v_t_lower_9 : Int32) (r_t_ways_9 : Nat → Int32) (y_9 : Int32 × (Nat → Int32)), fX3_countWays_9 w1_9 w2_9 n w3_9 r_t_ways_9 = some y_9 → ∀ (H : Heap) (locs : List Loc) (ls : Array Slot), va_P D vwCl [ob q_t 3 [.int v_t_upper_9, .int v_t_lower_9, .ref q_t_ways], ia C q_t_ways 9 r_t_ways_9] H → va_D A [ob q_t 3 [.int v_t_upper_9, .int v_t_lower_9, .ref q_t_ways], ia C q_t_ways 9 r_t_ways_9] → va_S A s.heap H locs → lv_has ls 5 [(3, .int w3_9), (0, .ref q_t), (1, .int w1_9), (2, .int w2_9)] → (∀ (H : Heap) (locs : List Loc) (ls : Array Slot), va_P D vwCl [ob q_t 3 [.int v_t_upper_9, .int v_t_lower_9, .ref q_t_ways], ia C q_t_ways 9 y_9.2] H → va_D A [ob q_t 3 [.int v_t_upper_9, .int v_t_lower_9, .ref q_t_ways], ia C q_t_ways 9 y_9.2] → va_S A s.heap H locs → lv_has ls 5 [(3, .int y_9.1), (0, .ref q_t), (1, .int w1_9), (2, .int w2_9)] → W p l e ({ frames := 0, cells := 0, slots := 0, locals := 0 } : Room) s m ([.ref q_t, .int p1, .int p2] : List Value).toArray below meth c H locs 0 0 Q (F0 m 96 ls [])) → W p l e ({ frames := 0, cells := 0, slots := 0, locals := 0 } : Room) s m ([.ref q_t, .int p1, .int p2] : List Value).toArray below meth c H locs 0 0 Q (F0 m 9 ls []) := by
    intro Q n
    induction n with
    | zero =>
      intro w3_9 w1_9 w2_9 v_t_upper_9 v_t_lower_9 r_t_ways_9 y_9 hf
      rw [fX3_countWays_9] at hf
      cases hf
    | succ n ih =>
      intro w3_9 w1_9 w2_9 v_t_upper_9 v_t_lower_9 r_t_ways_9 y_9 hf H locs ls hP hD hS hl KX0
      rw [fX3_countWays_9] at hf
      refine lv_iload_n hx hb dX3_countWays_9 rfl (lv_at hl 0 rfl) ?_
      refine lv_iload_n hx hb dX3_countWays_10 rfl (lv_at hl 2 rfl) ?_
      refine lv_icmp_gt (tgt := 96) hx hb dX3_countWays_11 (by decide) (fun c1 => ?_) (fun c1 => ?_)
      · have hf := of_pos hf c1
        obtain rfl := Option.some.inj hf
        exact KX0 _ _ _ hP hD hS (lv_sub hl [0, 1, 2, 3] rfl)
      · have hf := of_neg hf c1
        refine lv_aload_n hx hb dX3_countWays_14 rfl (lv_at hl 1 rfl) ?_
        refine va_get (D := D) (ci := 3) (v := .ref q_t_ways) (C := RX3) (T := TX3) (N := 3) hx hb hts inX3 hown hK hP 0 rfl rfl 2 (by decide) (hts (.fieldLink RX3 9 "LentCourage$Odds" "ways" "[I") (List.mem_of_getElem? (i := 1) rfl)) (fun _ h9 => h9) rfl dX3_countWays_15 ?_
        refine lv_iload_n hx hb dX3_countWays_18 rfl (lv_at hl 0 rfl) ?_
        refine lv_aload_n hx hb dX3_countWays_19 rfl (lv_at hl 1 rfl) ?_
        refine va_get (D := D) (ci := 3) (v := .ref q_t_ways) (C := RX3) (T := TX3) (N := 3) hx hb hts inX3 hown hK hP 0 rfl rfl 2 (by decide) (hts (.fieldLink RX3 9 "LentCourage$Odds" "ways" "[I") (List.mem_of_getElem? (i := 1) rfl)) (fun _ h9 => h9) rfl dX3_countWays_20 ?_
        refine lv_iload_n hx hb dX3_countWays_23 rfl (lv_at hl 0 rfl) ?_
        refine lv_iconst (v := (1 : Int32)) hx hb dX3_countWays_24 (by decide) ?_
        refine lv_isub hx hb dX3_countWays_25 ?_
        obtain ⟨h2, hf⟩ := of_chk hf
        refine va_iald hx hb hK hP 1 0 rfl rfl h2 dX3_countWays_26 ?_
        refine lv_iload_n hx hb dX3_countWays_27 rfl (lv_at hl 3 rfl) ?_
        refine lv_imul hx hb dX3_countWays_28 ?_
        refine lv_topi (fun z3 ez3 => ?_)
        have hf := of_lt hf ez3
        obtain ⟨h4, hf⟩ := of_chk hf
        refine va_iast hx hb hK hP hD hS 1 0 rfl rfl h4 dX3_countWays_29 (fun H locs hP hD hS => ?_)
        have hP : va_P D vwCl [ob q_t 3 [.int v_t_upper_9, .int v_t_lower_9, .ref q_t_ways], ia C q_t_ways 9 (upd r_t_ways_9 w3_9.toNatClampNeg z3)] H := hP
        have hD : va_D A [ob q_t 3 [.int v_t_upper_9, .int v_t_lower_9, .ref q_t_ways], ia C q_t_ways 9 (upd r_t_ways_9 w3_9.toNatClampNeg z3)] := hD
        refine lv_iload_n hx hb dX3_countWays_30 rfl (lv_at hl 0 rfl) ?_
        refine lv_iconst (v := (1 : Int32)) hx hb dX3_countWays_31 (by decide) ?_
        refine lv_isub hx hb dX3_countWays_32 ?_
        refine lv_topi (fun z5 ez5 => ?_)
        have hf := of_lt hf ez5
        refine lv_istore (lv' := [(4, .int z5), (3, .int w3_9), (0, .ref q_t), (1, .int w1_9), (2, .int w2_9)]) hx hb dX3_countWays_33 hl (by decide) rfl (fun ls hl => ?_)
        obtain ⟨y6, hy6, hf⟩ := of_bind hf
        refine LP35 _ FU _ _ _ _ _ _ _ y6 hy6 H locs ls hP hD hS (lv_sub hl [0, 1, 2, 3, 4] rfl) (fun H locs ls hP hD hS hl => ?_)
        refine lv_aload_n hx hb dX3_countWays_77 rfl (lv_at hl 2 rfl) ?_
        refine va_get (D := D) (ci := 3) (v := .ref q_t_ways) (C := RX3) (T := TX3) (N := 3) hx hb hts inX3 hown hK hP 0 rfl rfl 2 (by decide) (hts (.fieldLink RX3 9 "LentCourage$Odds" "ways" "[I") (List.mem_of_getElem? (i := 1) rfl)) (fun _ h9 => h9) rfl dX3_countWays_78 ?_
        refine lv_iconst (v := (0 : Int32)) hx hb dX3_countWays_81 (by decide) ?_
        refine lv_dup2_11 hx hb dX3_countWays_82 rfl rfl ?_
        refine ld_ialdK hx hb hK hP 1 0 rfl rfl (k := 0) (by decide) (by decide) (by decide) dX3_countWays_83 ?_
        refine lv_bipush (v := (10 : Int32)) hx hb dX3_countWays_84 (by decide) ?_
        refine lv_iload_n hx hb dX3_countWays_86 rfl (lv_at hl 4 rfl) ?_
        refine lv_isub hx hb dX3_countWays_87 ?_
        refine lv_imul hx hb dX3_countWays_88 ?_
        refine lv_topi (fun z7 ez7 => ?_)
        have hf := of_lt hf ez7
        refine st_IK hx hb hK hP hD hS 1 0 rfl rfl (k := 0) (by decide) (by decide) (by decide) dX3_countWays_89 (fun H locs hP hD hS => ?_)
        have hP : va_P D vwCl [ob q_t 3 [.int v_t_upper_9, .int v_t_lower_9, .ref q_t_ways], ia C q_t_ways 9 (upd y6.2 0 z7)] H := hP
        have hD : va_D A [ob q_t 3 [.int v_t_upper_9, .int v_t_lower_9, .ref q_t_ways], ia C q_t_ways 9 (upd y6.2 0 z7)] := hD
        obtain ⟨z8, ez8⟩ : ∃ y : Int32, y = (w3_9 + (1 : Int32)) := ⟨_, rfl⟩
        have hf := of_lt hf ez8
        refine lv_iinc (v := z8) (lv' := [(3, .int z8), (4, .int y6.1), (0, .ref q_t), (1, .int w1_9), (2, .int w2_9)]) hx hb dX3_countWays_90 hl (k := 1) rfl (by rw [ez8]; rfl) (by decide) rfl (fun ls hl => ?_)
        refine lv_goto (tgt := 9) hx hb dX3_countWays_93 (by decide) ?_
        exact ih _ _ _ _ _ _ _ hf H locs ls hP hD hS (lv_sub hl [0, 2, 3, 4] rfl) KX0
  refine lv_aload_n hx hb dX3_countWays_0 rfl (lv_at hl 0 rfl) ?_
  refine va_get (D := D) (ci := 3) (v := .ref q_t_ways) (C := RX3) (T := TX3) (N := 3) hx hb hts inX3 hown hK hP 0 rfl rfl 2 (by decide) (hts (.fieldLink RX3 9 "LentCourage$Odds" "ways" "[I") (List.mem_of_getElem? (i := 1) rfl)) (fun _ h9 => h9) rfl dX3_countWays_1 ?_
  refine lv_iconst (v := (0 : Int32)) hx hb dX3_countWays_4 (by decide) ?_
  refine lv_iconst (v := (1 : Int32)) hx hb dX3_countWays_5 (by decide) ?_
  refine st_IK hx hb hK hP hD hS 1 0 rfl rfl (k := 0) (by decide) (by decide) (by decide) dX3_countWays_6 (fun H locs hP hD hS => ?_)
  have hP : va_P D vwCl [ob q_t 3 [.int v_t_upper, .int v_t_lower, .ref q_t_ways], ia C q_t_ways 9 (upd r_t_ways 0 (1 : Int32))] H := hP
  have hD : va_D A [ob q_t 3 [.int v_t_upper, .int v_t_lower, .ref q_t_ways], ia C q_t_ways 9 (upd r_t_ways 0 (1 : Int32))] := hD
  refine lv_iconst (v := (1 : Int32)) hx hb dX3_countWays_7 (by decide) ?_
  refine lv_istore_n (lv' := [(3, .int (1 : Int32)), (0, .ref q_t), (1, .int p1), (2, .int p2)]) hx hb dX3_countWays_8 rfl hl (by decide) rfl (fun ls hl => ?_)
  obtain ⟨y9, hy9, hf⟩ := of_bind hf
  refine LP9 _ FU _ _ _ _ _ _ y9 hy9 H locs ls hP hD hS (lv_sub hl [0, 1, 2, 3] rfl) (fun H locs ls hP hD hS hl => ?_)
  obtain rfl := Option.some.inj hf
  exact ret_V hx hb hr hlocks hK hP hD hS dX3_countWays_96

def fX3_find_14 (w1_14 : Int32) (w3_14 : Int32) (r_t_ways_14 : Nat → Int32) : Nat → Int32 → Int32 → Option (Int32 × Int32)
  | 0, _, _ => none
  | n + 1, w4_14, v_t_upper_14 => (if w3_14 < w4_14 then some (w4_14, v_t_upper_14) else (if w1_14 < w4_14 then some (w4_14, v_t_upper_14) else chk (vin w4_14 9) (lt_ (v_t_upper_14 + (r_t_ways_14 w4_14.toNatClampNeg)) (fun z5 => lt_ (w4_14 + (1 : Int32)) (fun z6 => fX3_find_14 w1_14 w3_14 r_t_ways_14 n z6 z5)))))
def fX3_find_56 (w1_56 : Int32) : Nat → Int32 → Int32 → Option (Int32 × Int32)
  | 0, _, _ => none
  | n + 1, w4_56, v_t_lower_56 => (if w1_56 ≤ w4_56 then some (w4_56, v_t_lower_56) else lt_ (v_t_lower_56 * (10 : Int32)) (fun z9 => lt_ (w4_56 + (1 : Int32)) (fun z10 => fX3_find_56 w1_56 n z10 z9)))
def fX3_find (r_t_ways : Nat → Int32) (p1 : Int32) (p2 : Int32) (p3 : Int32) : Option (Int32 × Int32 × (Nat → Int32)) :=
  (fX3_countWays r_t_ways p1 p2).bind (fun o1 => (fX3_find_14 p1 p3 o1 FU (0 : Int32) (0 : Int32)).bind (fun y7 => (fX3_find_56 p1 FU (0 : Int32) (1 : Int32)).bind (fun y11 => (fX3_takeOut y7.2 y11.2 (2 : Int32) p1).bind (fun o12 => (fX3_takeOut o12.1 o12.2 (5 : Int32) p1).bind (fun o13 => some (o13.1, o13.2, o1))))))
theorem hd_X3_find : yX3_find.cls = RX3 ∧ yX3_find.cls ≠ "java/lang/invoke/MethodHandle" ∧ yX3_find.cls ≠ "java/lang/invoke/VarHandle" ∧ (parseMethodDescriptor yX3_find.desc).map (fun d => d.parameters.length) = some 3 := by decide +kernel
set_option maxHeartbeats 4000000 in
set_option maxRecDepth 100000 in
theorem k_X3_find (l : Launch) (D : va_G) (C : Nat → ClassId) (q_t : Nat) (q_t_ways : Nat) (v_t_upper : Int32) (v_t_lower : Int32) (r_t_ways : Nat → Int32) (p1 : Int32) (p2 : Int32) (p3 : Int32) (sz : Nat) (out : Int32 × Int32 × (Nat → Int32)) (hf : fX3_find r_t_ways p1 p2 p3 = some out) : MV l yX3_find wsX3_find ({ frames := 1, cells := 0, slots := 0, locals := 24 }) D C [.ref q_t, .int p1, .int p2, .int p3] [ob q_t 3 [.int v_t_upper, .int v_t_lower, .ref q_t_ways], ia C q_t_ways 9 r_t_ways] [ob q_t 3 [.int out.1, .int out.2.1, .ref q_t_ways], ia C q_t_ways 9 out.2.2] sz := by
  unfold fX3_find at hf
  refine en_V (by decide) rfl (Nat.le_of_ble_eq_true rfl) ?_
  intro p e s m below meth c A ls H locs hx hb hr hlocks hml hts hown hK hP hD hS hA hl
  have hl : lv_has ls 5 [(0, .ref q_t), (1, .int p1), (2, .int p2), (3, .int p3)] := hl
  have inX3 : ∀ w ∈ u_ws RX3 TX3 3, w ∈ wsX3_find := fun w h => List.mem_cons_of_mem _ (List.mem_append_right _ h)
  have LP14 : ∀ (Q : State → Prop) (n : Nat) (w4_14 : Int32) (w1_14 : Int32) (w2_14 : Int32) (w3_14 : Int32) (v_t_upper_14 : Int32) (v_t_lower_14 : Int32) (r_t_ways_14 : Nat → Int32) (y_14 : Int32 × Int32), fX3_find_14 w1_14 w3_14 r_t_ways_14 n w4_14 v_t_upper_14 = some y_14 → ∀ (H : Heap) (locs : List Loc) (ls : Array Slot), va_P D vwCl [ob q_t 3 [.int v_t_upper_14, .int v_t_lower_14, .ref q_t_ways], ia C q_t_ways 9 r_t_ways_14] H → va_D A [ob q_t 3 [.int v_t_upper_14, .int v_t_lower_14, .ref q_t_ways], ia C q_t_ways 9 r_t_ways_14] → va_S A s.heap H locs → lv_has ls 5 [(4, .int w4_14), (0, .ref q_t), (1, .int w1_14), (2, .int w2_14), (3, .int w3_14)] → (∀ (H : Heap) (locs : List Loc) (ls : Array Slot), va_P D vwCl [ob q_t 3 [.int y_14.2, .int v_t_lower_14, .ref q_t_ways], ia C q_t_ways 9 r_t_ways_14] H → va_D A [ob q_t 3 [.int y_14.2, .int v_t_lower_14, .ref q_t_ways], ia C q_t_ways 9 r_t_ways_14] → va_S A s.heap H locs → lv_has ls 5 [(4, .int y_14.1), (0, .ref q_t), (1, .int w1_14), (2, .int w2_14), (3, .int w3_14)] → W p l e ({ frames := 1, cells := 0, slots := 0, locals := 24 } : Room) s m ([.ref q_t, .int p1, .int p2, .int p3] : List Value).toArray below meth c H locs 0 0 Q (F0 m 48 ls [])) → W p l e ({ frames := 1, cells := 0, slots := 0, locals := 24 } : Room) s m ([.ref q_t, .int p1, .int p2, .int p3] : List Value).toArray below meth c H locs 0 0 Q (F0 m 14 ls []) := by
    intro Q n
    induction n with
    | zero =>
      intro w4_14 w1_14 w2_14 w3_14 v_t_upper_14 v_t_lower_14 r_t_ways_14 y_14 hf
      rw [fX3_find_14] at hf
      cases hf
    | succ n ih =>
      intro w4_14 w1_14 w2_14 w3_14 v_t_upper_14 v_t_lower_14 r_t_ways_14 y_14 hf H locs ls hP hD hS hl KX0
      rw [fX3_find_14] at hf
      refine lv_iload hx hb dX3_find_14 (lv_at hl 0 rfl) ?_
      refine lv_iload_n hx hb dX3_find_16 rfl (lv_at hl 4 rfl) ?_
      refine lv_icmp_gt (tgt := 48) hx hb dX3_find_17 (by decide) (fun c2 => ?_) (fun c2 => ?_)
      · have hf := of_pos hf c2
        obtain rfl := Option.some.inj hf
        exact KX0 _ _ _ hP hD hS (lv_sub hl [0, 1, 2, 3, 4] rfl)
      · have hf := of_neg hf c2
        refine lv_iload hx hb dX3_find_20 (lv_at hl 0 rfl) ?_
        refine lv_iload_n hx hb dX3_find_22 rfl (lv_at hl 2 rfl) ?_
        refine lv_icmp_gt (tgt := 48) hx hb dX3_find_23 (by decide) (fun c3 => ?_) (fun c3 => ?_)
        · have hf := of_pos hf c3
          obtain rfl := Option.some.inj hf
          exact KX0 _ _ _ hP hD hS (lv_sub hl [0, 1, 2, 3, 4] rfl)
        · have hf := of_neg hf c3
          refine lv_aload_n hx hb dX3_find_26 rfl (lv_at hl 1 rfl) ?_
          refine lv_dup hx hb dX3_find_27 rfl ?_
          refine va_get (D := D) (ci := 3) (v := .int v_t_upper_14) (C := RX3) (T := TX3) (N := 3) hx hb hts inX3 hown hK hP 0 rfl rfl 0 (by decide) (hts (.fieldLink RX3 19 "LentCourage$Odds" "upper" "I") (List.mem_of_getElem? (i := 1) rfl)) (fun _ h9 => h9) rfl dX3_find_28 ?_
          refine lv_aload_n hx hb dX3_find_31 rfl (lv_at hl 1 rfl) ?_
          refine va_get (D := D) (ci := 3) (v := .ref q_t_ways) (C := RX3) (T := TX3) (N := 3) hx hb hts inX3 hown hK hP 0 rfl rfl 2 (by decide) (hts (.fieldLink RX3 9 "LentCourage$Odds" "ways" "[I") (List.mem_of_getElem? (i := 2) rfl)) (fun _ h9 => h9) rfl dX3_find_32 ?_
          refine lv_iload hx hb dX3_find_35 (lv_at hl 0 rfl) ?_
          obtain ⟨h4, hf⟩ := of_chk hf
          refine va_iald hx hb hK hP 1 0 rfl rfl h4 dX3_find_37 ?_
          refine lv_iadd hx hb dX3_find_38 ?_
          refine lv_topi (fun z5 ez5 => ?_)
          have hf := of_lt hf ez5
          refine va_put (D := D) (ci := 3) (v := .int z5) (ty := .int) (C := RX3) (T := TX3) (N := 3) hx hb hts inX3 tyX3 tyX3_ok nmX3 hown hK hP hD hS 0 rfl rfl 0 (by decide) (hts (.fieldLink RX3 19 "LentCourage$Odds" "upper" "I") (List.mem_of_getElem? (i := 1) rfl)) (fun _ h9 => h9) rfl (tyX3_ok 0 (by decide)) rfl rfl (Nat.le_of_ble_eq_true rfl) dX3_find_39 (fun H locs hP hD hS => ?_)
          have hP : va_P D vwCl [ob q_t 3 [.int z5, .int v_t_lower_14, .ref q_t_ways], ia C q_t_ways 9 r_t_ways_14] H := hP
          have hD : va_D A [ob q_t 3 [.int z5, .int v_t_lower_14, .ref q_t_ways], ia C q_t_ways 9 r_t_ways_14] := hD
          obtain ⟨z6, ez6⟩ : ∃ y : Int32, y = (w4_14 + (1 : Int32)) := ⟨_, rfl⟩
          have hf := of_lt hf ez6
          refine lv_iinc (v := z6) (lv' := [(4, .int z6), (0, .ref q_t), (1, .int w1_14), (2, .int w2_14), (3, .int w3_14)]) hx hb dX3_find_42 hl (k := 0) rfl (by rw [ez6]; rfl) (by decide) rfl (fun ls hl => ?_)
          refine lv_goto (tgt := 14) hx hb dX3_find_45 (by decide) ?_
          exact ih _ _ _ _ _ _ _ _ hf H locs ls hP hD hS (lv_sub hl [0, 1, 2, 3, 4] rfl) KX0
  have LP56 : ∀ (Q : State → Prop) (n : Nat) (w4_56 : Int32) (w1_56 : Int32) (w2_56 : Int32) (w3_56 : Int32) (v_t_upper_56 : Int32) (v_t_lower_56 : Int32) (r_t_ways_56 : Nat → Int32) (y_56 : Int32 × Int32), fX3_find_56 w1_56 n w4_56 v_t_lower_56 = some y_56 → ∀ (H : Heap) (locs : List Loc) (ls : Array Slot), va_P D vwCl [ob q_t 3 [.int v_t_upper_56, .int v_t_lower_56, .ref q_t_ways], ia C q_t_ways 9 r_t_ways_56] H → va_D A [ob q_t 3 [.int v_t_upper_56, .int v_t_lower_56, .ref q_t_ways], ia C q_t_ways 9 r_t_ways_56] → va_S A s.heap H locs → lv_has ls 5 [(4, .int w4_56), (0, .ref q_t), (1, .int w1_56), (2, .int w2_56), (3, .int w3_56)] → (∀ (H : Heap) (locs : List Loc) (ls : Array Slot), va_P D vwCl [ob q_t 3 [.int v_t_upper_56, .int y_56.2, .ref q_t_ways], ia C q_t_ways 9 r_t_ways_56] H → va_D A [ob q_t 3 [.int v_t_upper_56, .int y_56.2, .ref q_t_ways], ia C q_t_ways 9 r_t_ways_56] → va_S A s.heap H locs → lv_has ls 5 [(4, .int y_56.1), (0, .ref q_t), (1, .int w1_56), (2, .int w2_56), (3, .int w3_56)] → W p l e ({ frames := 1, cells := 0, slots := 0, locals := 24 } : Room) s m ([.ref q_t, .int p1, .int p2, .int p3] : List Value).toArray below meth c H locs 0 0 Q (F0 m 79 ls [])) → W p l e ({ frames := 1, cells := 0, slots := 0, locals := 24 } : Room) s m ([.ref q_t, .int p1, .int p2, .int p3] : List Value).toArray below meth c H locs 0 0 Q (F0 m 56 ls []) := by
    intro Q n
    induction n with
    | zero =>
      intro w4_56 w1_56 w2_56 w3_56 v_t_upper_56 v_t_lower_56 r_t_ways_56 y_56 hf
      rw [fX3_find_56] at hf
      cases hf
    | succ n ih =>
      intro w4_56 w1_56 w2_56 w3_56 v_t_upper_56 v_t_lower_56 r_t_ways_56 y_56 hf H locs ls hP hD hS hl KX0
      rw [fX3_find_56] at hf
      refine lv_iload hx hb dX3_find_56 (lv_at hl 0 rfl) ?_
      refine lv_iload_n hx hb dX3_find_58 rfl (lv_at hl 2 rfl) ?_
      refine lv_icmp_ge (tgt := 79) hx hb dX3_find_59 (by decide) (fun c8 => ?_) (fun c8 => ?_)
      · have hf := of_pos hf c8
        obtain rfl := Option.some.inj hf
        exact KX0 _ _ _ hP hD hS (lv_sub hl [0, 1, 2, 3, 4] rfl)
      · have hf := of_neg hf c8
        refine lv_aload_n hx hb dX3_find_62 rfl (lv_at hl 1 rfl) ?_
        refine lv_dup hx hb dX3_find_63 rfl ?_
        refine va_get (D := D) (ci := 3) (v := .int v_t_lower_56) (C := RX3) (T := TX3) (N := 3) hx hb hts inX3 hown hK hP 0 rfl rfl 1 (by decide) (hts (.fieldLink RX3 23 "LentCourage$Odds" "lower" "I") (List.mem_of_getElem? (i := 3) rfl)) (fun _ h9 => h9) rfl dX3_find_64 ?_
        refine lv_bipush (v := (10 : Int32)) hx hb dX3_find_67 (by decide) ?_
        refine lv_imul hx hb dX3_find_69 ?_
        refine lv_topi (fun z9 ez9 => ?_)
        have hf := of_lt hf ez9
        refine va_put (D := D) (ci := 3) (v := .int z9) (ty := .int) (C := RX3) (T := TX3) (N := 3) hx hb hts inX3 tyX3 tyX3_ok nmX3 hown hK hP hD hS 0 rfl rfl 1 (by decide) (hts (.fieldLink RX3 23 "LentCourage$Odds" "lower" "I") (List.mem_of_getElem? (i := 3) rfl)) (fun _ h9 => h9) rfl (tyX3_ok 1 (by decide)) rfl rfl (Nat.le_of_ble_eq_true rfl) dX3_find_70 (fun H locs hP hD hS => ?_)
        have hP : va_P D vwCl [ob q_t 3 [.int v_t_upper_56, .int z9, .ref q_t_ways], ia C q_t_ways 9 r_t_ways_56] H := hP
        have hD : va_D A [ob q_t 3 [.int v_t_upper_56, .int z9, .ref q_t_ways], ia C q_t_ways 9 r_t_ways_56] := hD
        obtain ⟨z10, ez10⟩ : ∃ y : Int32, y = (w4_56 + (1 : Int32)) := ⟨_, rfl⟩
        have hf := of_lt hf ez10
        refine lv_iinc (v := z10) (lv' := [(4, .int z10), (0, .ref q_t), (1, .int w1_56), (2, .int w2_56), (3, .int w3_56)]) hx hb dX3_find_73 hl (k := 0) rfl (by rw [ez10]; rfl) (by decide) rfl (fun ls hl => ?_)
        refine lv_goto (tgt := 56) hx hb dX3_find_76 (by decide) ?_
        exact ih _ _ _ _ _ _ _ _ hf H locs ls hP hD hS (lv_sub hl [0, 1, 2, 3, 4] rfl) KX0
  refine lv_aload_n hx hb dX3_find_0 rfl (lv_at hl 0 rfl) ?_
  refine lv_iload_n hx hb dX3_find_1 rfl (lv_at hl 1 rfl) ?_
  refine lv_iload_n hx hb dX3_find_2 rfl (lv_at hl 2 rfl) ?_
  obtain ⟨o1, ho1, hf⟩ := of_bind hf
  refine c_V (wr := []) (W2 := [ob q_t 3 [.int v_t_upper, .int v_t_lower, .ref q_t_ways], ia C q_t_ways 9 o1]) (cV_run ⟨hx, hb, hml, hown, hts⟩ (k_X3_countWays l D C q_t q_t_ways v_t_upper v_t_lower r_t_ways p1 p2 H.size o1 ho1) gX3_find_X3_countWays rfl ⟨rfl, rfl⟩ hd_X3_countWays ⟨(Nat.le_of_ble_eq_true rfl), (Nat.le_of_ble_eq_true rfl)⟩ rfl hK (cut_in hK hP hD [0, 1] rfl (by decide)) (ci := 3) rfl rfl rfl hl.1 rfl (Nat.le_of_ble_eq_true rfl) dX3_find_3 ⟨Nat.zero_le _, Nat.zero_le _⟩) hP hD hS hA [0, 1] [] [0, 1] rfl rfl (by decide) (by decide) rfl (by decide) (fun H locs hP hD hS => ?_)
  have hP : va_P D vwCl [ob q_t 3 [.int v_t_upper, .int v_t_lower, .ref q_t_ways], ia C q_t_ways 9 o1] H := hP
  have hD : va_D A [ob q_t 3 [.int v_t_upper, .int v_t_lower, .ref q_t_ways], ia C q_t_ways 9 o1] := hD
  refine lv_aload_n hx hb dX3_find_6 rfl (lv_at hl 0 rfl) ?_
  refine lv_iconst (v := (0 : Int32)) hx hb dX3_find_7 (by decide) ?_
  refine va_put (D := D) (ci := 3) (v := .int (0 : Int32)) (ty := .int) (C := RX3) (T := TX3) (N := 3) hx hb hts inX3 tyX3 tyX3_ok nmX3 hown hK hP hD hS 0 rfl rfl 0 (by decide) (hts (.fieldLink RX3 19 "LentCourage$Odds" "upper" "I") (List.mem_of_getElem? (i := 1) rfl)) (fun _ h9 => h9) rfl (tyX3_ok 0 (by decide)) rfl rfl (Nat.le_of_ble_eq_true rfl) dX3_find_8 (fun H locs hP hD hS => ?_)
  have hP : va_P D vwCl [ob q_t 3 [.int (0 : Int32), .int v_t_lower, .ref q_t_ways], ia C q_t_ways 9 o1] H := hP
  have hD : va_D A [ob q_t 3 [.int (0 : Int32), .int v_t_lower, .ref q_t_ways], ia C q_t_ways 9 o1] := hD
  refine lv_iconst (v := (0 : Int32)) hx hb dX3_find_11 (by decide) ?_
  refine lv_istore (lv' := [(4, .int (0 : Int32)), (0, .ref q_t), (1, .int p1), (2, .int p2), (3, .int p3)]) hx hb dX3_find_12 hl (by decide) rfl (fun ls hl => ?_)
  obtain ⟨y7, hy7, hf⟩ := of_bind hf
  refine LP14 _ FU _ _ _ _ _ _ _ y7 hy7 H locs ls hP hD hS (lv_sub hl [0, 1, 2, 3, 4] rfl) (fun H locs ls hP hD hS hl => ?_)
  refine lv_aload_n hx hb dX3_find_48 rfl (lv_at hl 1 rfl) ?_
  refine lv_iconst (v := (1 : Int32)) hx hb dX3_find_49 (by decide) ?_
  refine va_put (D := D) (ci := 3) (v := .int (1 : Int32)) (ty := .int) (C := RX3) (T := TX3) (N := 3) hx hb hts inX3 tyX3 tyX3_ok nmX3 hown hK hP hD hS 0 rfl rfl 1 (by decide) (hts (.fieldLink RX3 23 "LentCourage$Odds" "lower" "I") (List.mem_of_getElem? (i := 3) rfl)) (fun _ h9 => h9) rfl (tyX3_ok 1 (by decide)) rfl rfl (Nat.le_of_ble_eq_true rfl) dX3_find_50 (fun H locs hP hD hS => ?_)
  have hP : va_P D vwCl [ob q_t 3 [.int y7.2, .int (1 : Int32), .ref q_t_ways], ia C q_t_ways 9 o1] H := hP
  have hD : va_D A [ob q_t 3 [.int y7.2, .int (1 : Int32), .ref q_t_ways], ia C q_t_ways 9 o1] := hD
  refine lv_iconst (v := (0 : Int32)) hx hb dX3_find_53 (by decide) ?_
  refine lv_istore (lv' := [(4, .int (0 : Int32)), (0, .ref q_t), (1, .int p1), (2, .int p2), (3, .int p3)]) hx hb dX3_find_54 hl (by decide) rfl (fun ls hl => ?_)
  obtain ⟨y11, hy11, hf⟩ := of_bind hf
  refine LP56 _ FU _ _ _ _ _ _ _ y11 hy11 H locs ls hP hD hS (lv_sub hl [0, 1, 2, 3, 4] rfl) (fun H locs ls hP hD hS hl => ?_)
  refine lv_aload_n hx hb dX3_find_79 rfl (lv_at hl 1 rfl) ?_
  refine lv_iconst (v := (2 : Int32)) hx hb dX3_find_80 (by decide) ?_
  refine lv_iload_n hx hb dX3_find_81 rfl (lv_at hl 2 rfl) ?_
  obtain ⟨o12, ho12, hf⟩ := of_bind hf
  refine c_V (wr := [ia C q_t_ways 9 o1]) (W2 := [ob q_t 3 [.int o12.1, .int o12.2, .ref q_t_ways], ia C q_t_ways 9 o1]) (cV_run ⟨hx, hb, hml, hown, hts⟩ (k_X3_takeOut l D C q_t q_t_ways y7.2 y11.2 (2 : Int32) p1 H.size o12 ho12) gX3_find_X3_takeOut rfl ⟨rfl, rfl⟩ hd_X3_takeOut ⟨(Nat.le_of_ble_eq_true rfl), (Nat.le_of_ble_eq_true rfl)⟩ rfl hK (cut_in hK hP hD [0] rfl (by decide)) (ci := 3) rfl rfl rfl hl.1 rfl (Nat.le_of_ble_eq_true rfl) dX3_find_82 ⟨Nat.zero_le _, Nat.zero_le _⟩) hP hD hS hA [0] [1] [1, 0] rfl rfl (by decide) (by decide) rfl (by decide) (fun H locs hP hD hS => ?_)
  have hP : va_P D vwCl [ob q_t 3 [.int o12.1, .int o12.2, .ref q_t_ways], ia C q_t_ways 9 o1] H := hP
  have hD : va_D A [ob q_t 3 [.int o12.1, .int o12.2, .ref q_t_ways], ia C q_t_ways 9 o1] := hD
  refine lv_aload_n hx hb dX3_find_85 rfl (lv_at hl 1 rfl) ?_
  refine lv_iconst (v := (5 : Int32)) hx hb dX3_find_86 (by decide) ?_
  refine lv_iload_n hx hb dX3_find_87 rfl (lv_at hl 2 rfl) ?_
  obtain ⟨o13, ho13, hf⟩ := of_bind hf
  refine c_V (wr := [ia C q_t_ways 9 o1]) (W2 := [ob q_t 3 [.int o13.1, .int o13.2, .ref q_t_ways], ia C q_t_ways 9 o1]) (cV_run ⟨hx, hb, hml, hown, hts⟩ (k_X3_takeOut l D C q_t q_t_ways o12.1 o12.2 (5 : Int32) p1 H.size o13 ho13) gX3_find_X3_takeOut rfl ⟨rfl, rfl⟩ hd_X3_takeOut ⟨(Nat.le_of_ble_eq_true rfl), (Nat.le_of_ble_eq_true rfl)⟩ rfl hK (cut_in hK hP hD [0] rfl (by decide)) (ci := 3) rfl rfl rfl hl.1 rfl (Nat.le_of_ble_eq_true rfl) dX3_find_88 ⟨Nat.zero_le _, Nat.zero_le _⟩) hP hD hS hA [0] [1] [1, 0] rfl rfl (by decide) (by decide) rfl (by decide) (fun H locs hP hD hS => ?_)
  have hP : va_P D vwCl [ob q_t 3 [.int o13.1, .int o13.2, .ref q_t_ways], ia C q_t_ways 9 o1] H := hP
  have hD : va_D A [ob q_t 3 [.int o13.1, .int o13.2, .ref q_t_ways], ia C q_t_ways 9 o1] := hD
  obtain rfl := Option.some.inj hf
  exact ret_V hx hb hr hlocks hK hP hD hS dX3_find_91

def fJ6_bitCount_0f7a4 (p0 : Int32) : Option (Int32) :=
  lt_ (p0 - ((((p0).toUInt32 >>> (((1 : Int32)).toUInt32 &&& Int32.toUInt32 31)).toInt32) &&& (1431655765 : Int32))) (fun z1 => lt_ ((z1 &&& (858993459 : Int32)) + ((((z1).toUInt32 >>> (((2 : Int32)).toUInt32 &&& Int32.toUInt32 31)).toInt32) &&& (858993459 : Int32))) (fun z2 => lt_ ((z2 + (((z2).toUInt32 >>> (((4 : Int32)).toUInt32 &&& Int32.toUInt32 31)).toInt32)) &&& (252645135 : Int32)) (fun z3 => lt_ (z3 + (((z3).toUInt32 >>> (((8 : Int32)).toUInt32 &&& Int32.toUInt32 31)).toInt32)) (fun z4 => lt_ (z4 + (((z4).toUInt32 >>> (((16 : Int32)).toUInt32 &&& Int32.toUInt32 31)).toInt32)) (fun z5 => some (z5 &&& (63 : Int32)))))))
theorem hd_J6_bitCount_0f7a4 : yJ6_bitCount_0f7a4.cls ≠ "java/lang/invoke/MethodHandle" ∧ yJ6_bitCount_0f7a4.cls ≠ "java/lang/invoke/VarHandle" ∧ (parseMethodDescriptor yJ6_bitCount_0f7a4.desc).map (fun d => d.parameters.length) = some 1 := by decide +kernel
set_option maxHeartbeats 4000000 in
set_option maxRecDepth 100000 in
theorem k_J6_bitCount_0f7a4 (l : Launch) (D : va_G) (C : Nat → ClassId) (p0 : Int32) (sz : Nat) (out : Int32) (hf : fJ6_bitCount_0f7a4 p0 = some out) : MI l yJ6_bitCount_0f7a4 wsJ6_bitCount_0f7a4 ({ frames := 0, cells := 0, slots := 0, locals := 0 }) D C [.int p0] [] [] sz (out) := by
  unfold fJ6_bitCount_0f7a4 at hf
  refine en_I (by decide) rfl (Nat.le_of_ble_eq_true rfl) ?_
  intro p e s m below meth c A ls H locs hx hb hr hlocks hml hts hown hK hP hD hS hA hl
  have hl : lv_has ls 1 [(0, .int p0)] := hl
  refine lv_iload_n hx hb dJ6_bitCount_0f7a4_0 rfl (lv_at hl 0 rfl) ?_
  refine lv_iload_n hx hb dJ6_bitCount_0f7a4_1 rfl (lv_at hl 0 rfl) ?_
  refine lv_iconst (v := (1 : Int32)) hx hb dJ6_bitCount_0f7a4_2 (by decide) ?_
  refine lv_iushr (v := ((p0).toUInt32 >>> (((1 : Int32)).toUInt32 &&& Int32.toUInt32 31)).toInt32) hx hb dJ6_bitCount_0f7a4_3 rfl ?_
  refine lv_ldcw hx hb hown (hts (.constant RJ6 265 (1431655765)) (List.mem_of_getElem? (i := 1) rfl)) dJ6_bitCount_0f7a4_4 ?_
  refine lv_iand hx hb dJ6_bitCount_0f7a4_7 ?_
  refine lv_isub hx hb dJ6_bitCount_0f7a4_8 ?_
  refine lv_topi (fun z1 ez1 => ?_)
  have hf := of_lt hf ez1
  refine lv_istore_n (lv' := [(0, .int z1)]) hx hb dJ6_bitCount_0f7a4_9 rfl hl (by decide) rfl (fun ls hl => ?_)
  refine lv_iload_n hx hb dJ6_bitCount_0f7a4_10 rfl (lv_at hl 0 rfl) ?_
  refine lv_ldcw hx hb hown (hts (.constant RJ6 266 (858993459)) (List.mem_of_getElem? (i := 2) rfl)) dJ6_bitCount_0f7a4_11 ?_
  refine lv_iand hx hb dJ6_bitCount_0f7a4_14 ?_
  refine lv_iload_n hx hb dJ6_bitCount_0f7a4_15 rfl (lv_at hl 0 rfl) ?_
  refine lv_iconst (v := (2 : Int32)) hx hb dJ6_bitCount_0f7a4_16 (by decide) ?_
  refine lv_iushr (v := ((z1).toUInt32 >>> (((2 : Int32)).toUInt32 &&& Int32.toUInt32 31)).toInt32) hx hb dJ6_bitCount_0f7a4_17 rfl ?_
  refine lv_ldcw hx hb hown (hts (.constant RJ6 266 (858993459)) (List.mem_of_getElem? (i := 2) rfl)) dJ6_bitCount_0f7a4_18 ?_
  refine lv_iand hx hb dJ6_bitCount_0f7a4_21 ?_
  refine lv_iadd hx hb dJ6_bitCount_0f7a4_22 ?_
  refine lv_topi (fun z2 ez2 => ?_)
  have hf := of_lt hf ez2
  refine lv_istore_n (lv' := [(0, .int z2)]) hx hb dJ6_bitCount_0f7a4_23 rfl hl (by decide) rfl (fun ls hl => ?_)
  refine lv_iload_n hx hb dJ6_bitCount_0f7a4_24 rfl (lv_at hl 0 rfl) ?_
  refine lv_iload_n hx hb dJ6_bitCount_0f7a4_25 rfl (lv_at hl 0 rfl) ?_
  refine lv_iconst (v := (4 : Int32)) hx hb dJ6_bitCount_0f7a4_26 (by decide) ?_
  refine lv_iushr (v := ((z2).toUInt32 >>> (((4 : Int32)).toUInt32 &&& Int32.toUInt32 31)).toInt32) hx hb dJ6_bitCount_0f7a4_27 rfl ?_
  refine lv_iadd hx hb dJ6_bitCount_0f7a4_28 ?_
  refine lv_ldcw hx hb hown (hts (.constant RJ6 267 (252645135)) (List.mem_of_getElem? (i := 3) rfl)) dJ6_bitCount_0f7a4_29 ?_
  refine lv_iand hx hb dJ6_bitCount_0f7a4_32 ?_
  refine lv_topi (fun z3 ez3 => ?_)
  have hf := of_lt hf ez3
  refine lv_istore_n (lv' := [(0, .int z3)]) hx hb dJ6_bitCount_0f7a4_33 rfl hl (by decide) rfl (fun ls hl => ?_)
  refine lv_iload_n hx hb dJ6_bitCount_0f7a4_34 rfl (lv_at hl 0 rfl) ?_
  refine lv_iload_n hx hb dJ6_bitCount_0f7a4_35 rfl (lv_at hl 0 rfl) ?_
  refine lv_bipush (v := (8 : Int32)) hx hb dJ6_bitCount_0f7a4_36 (by decide) ?_
  refine lv_iushr (v := ((z3).toUInt32 >>> (((8 : Int32)).toUInt32 &&& Int32.toUInt32 31)).toInt32) hx hb dJ6_bitCount_0f7a4_38 rfl ?_
  refine lv_iadd hx hb dJ6_bitCount_0f7a4_39 ?_
  refine lv_topi (fun z4 ez4 => ?_)
  have hf := of_lt hf ez4
  refine lv_istore_n (lv' := [(0, .int z4)]) hx hb dJ6_bitCount_0f7a4_40 rfl hl (by decide) rfl (fun ls hl => ?_)
  refine lv_iload_n hx hb dJ6_bitCount_0f7a4_41 rfl (lv_at hl 0 rfl) ?_
  refine lv_iload_n hx hb dJ6_bitCount_0f7a4_42 rfl (lv_at hl 0 rfl) ?_
  refine lv_bipush (v := (16 : Int32)) hx hb dJ6_bitCount_0f7a4_43 (by decide) ?_
  refine lv_iushr (v := ((z4).toUInt32 >>> (((16 : Int32)).toUInt32 &&& Int32.toUInt32 31)).toInt32) hx hb dJ6_bitCount_0f7a4_45 rfl ?_
  refine lv_iadd hx hb dJ6_bitCount_0f7a4_46 ?_
  refine lv_topi (fun z5 ez5 => ?_)
  have hf := of_lt hf ez5
  refine lv_istore_n (lv' := [(0, .int z5)]) hx hb dJ6_bitCount_0f7a4_47 rfl hl (by decide) rfl (fun ls hl => ?_)
  refine lv_iload_n hx hb dJ6_bitCount_0f7a4_48 rfl (lv_at hl 0 rfl) ?_
  refine lv_bipush (v := (63 : Int32)) hx hb dJ6_bitCount_0f7a4_49 (by decide) ?_
  refine lv_iand hx hb dJ6_bitCount_0f7a4_51 ?_
  obtain rfl := Option.some.inj hf
  exact ret_I hx hb hr hlocks hK hP hD hS dJ6_bitCount_0f7a4_52
