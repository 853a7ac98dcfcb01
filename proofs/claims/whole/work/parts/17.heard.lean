/-! written by gen.py: 17.heard -/
def fX0_insert_15 (w2_15 : Int32) : Nat → Int32 → (Nat → Int32) → (Nat → Int32) → Option (Int32 × (Nat → Int32) × (Nat → Int32))
  | 0, _, _, _ => none
  | n + 1, w3_15, r_t_deed_15, r_t_hour_15 => (if w3_15 ≤ 0 then some (w3_15, r_t_deed_15, r_t_hour_15) else chk (vin (w3_15 - (1 : Int32)) 6) ((if (r_t_hour_15 (w3_15 - (1 : Int32)).toNatClampNeg) ≤ w2_15 then some (w3_15, r_t_deed_15, r_t_hour_15) else lt_ (r_t_deed_15 (w3_15 - (1 : Int32)).toNatClampNeg) (fun z5 => chk (vin w3_15 6) (lt_ (r_t_hour_15 (w3_15 - (1 : Int32)).toNatClampNeg) (fun z7 => lt_ (w3_15 + (-1 : Int32)) (fun z8 => fX0_insert_15 w2_15 n z8 (upd r_t_deed_15 w3_15.toNatClampNeg z5) (upd r_t_hour_15 w3_15.toNatClampNeg z7))))))))
def fX0_insert (v_t_size : Int32) (r_t_deed : Nat → Int32) (r_t_hour : Nat → Int32) (p1 : Int32) (p2 : Int32) : Option (Int32 × (Nat → Int32) × (Nat → Int32)) :=
  (if v_t_size < (6 : Int32) then (fX0_insert_15 p2 FU v_t_size r_t_deed r_t_hour).bind (fun y9 => chk (vin y9.1 6) (lt_ (v_t_size + (1 : Int32)) (fun z11 => some (z11, (upd y9.2.1 y9.1.toNatClampNeg p1), (upd y9.2.2 y9.1.toNatClampNeg p2))))) else some (v_t_size, r_t_deed, r_t_hour))
theorem hd_X0_insert : yX0_insert.cls = RX0 ∧ yX0_insert.cls ≠ "java/lang/invoke/MethodHandle" ∧ yX0_insert.cls ≠ "java/lang/invoke/VarHandle" ∧ (parseMethodDescriptor yX0_insert.desc).map (fun d => d.parameters.length) = some 2 := by decide +kernel
set_option maxHeartbeats 4000000 in
set_option maxRecDepth 100000 in
theorem k_X0_insert (l : Launch) (D : va_G) (C : Nat → ClassId) (q_t : Nat) (q_t_deed : Nat) (q_t_hour : Nat) (v_t_size : Int32) (r_t_deed : Nat → Int32) (r_t_hour : Nat → Int32) (p1 : Int32) (p2 : Int32) (sz : Nat) (out : Int32 × (Nat → Int32) × (Nat → Int32)) (hf : fX0_insert v_t_size r_t_deed r_t_hour p1 p2 = some out) : MV l yX0_insert wsX0_insert ({ frames := 0, cells := 0, slots := 0, locals := 0 }) D C [.ref q_t, .int p1, .int p2] [ob q_t 0 [.int v_t_size, .ref q_t_deed, .ref q_t_hour], ia C q_t_deed 6 r_t_deed, ia C q_t_hour 6 r_t_hour] [ob q_t 0 [.int out.1, .ref q_t_deed, .ref q_t_hour], ia C q_t_deed 6 out.2.1, ia C q_t_hour 6 out.2.2] sz := by
  unfold fX0_insert at hf
  refine en_V (by decide) rfl (Nat.le_of_ble_eq_true rfl) ?_
  intro p e s m below meth c A ls H locs hx hb hr hlocks hml hts hown hK hP hD hS hA hl
  have hl : lv_has ls 4 [(0, .ref q_t), (1, .int p1), (2, .int p2)] := hl
  have inX0 : ∀ w ∈ u_ws RX0 TX0 3, w ∈ wsX0_insert := fun w h => List.mem_cons_of_mem _ (List.mem_append_right _ h)
  have LP15 : ∀ (Q : State → Prop) (n : Nat) (w3_15 : Int32) (w1_15 : Int32) (w2_15 : Int32) (v_t_size_15 : Int32) (r_t_deed_15 : Nat → Int32) (r_t_hour_15 : Nat → Int32) (y_15 : Int32 × (Nat → Int32) × (Nat → Int32)), fX0_insert_15 w2_15 n w3_15 r_t_deed_15 r_t_hour_15 = some y_15 → ∀ (H : Heap) (locs : List Loc) (ls : Array Slot), va_P D vwCl [ob q_t 0 [.int v_t_size_15, .ref q_t_deed, .ref q_t_hour], ia C q_t_deed 6 r_t_deed_15, ia C q_t_hour 6 r_t_hour_15] H → va_D A [ob q_t 0 [.int v_t_size_15, .ref q_t_deed, .ref q_t_hour], ia C q_t_deed 6 r_t_deed_15, ia C q_t_hour 6 r_t_hour_15] → va_S A s.heap H locs → lv_has ls 4 [(3, .int w3_15), (0, .ref q_t), (1, .int w1_15), (2, .int w2_15)] → (∀ (H : Heap) (locs : List Loc) (ls : Array Slot), va_P D vwCl [ob q_t 0 [.int v_t_size_15, .ref q_t_deed, .ref q_t_hour], ia C q_t_deed 6 y_15.2.1, ia C q_t_hour 6 y_15.2.2] H → va_D A [ob q_t 0 [.int v_t_size_15, .ref q_t_deed, .ref q_t_hour], ia C q_t_deed 6 y_15.2.1, ia C q_t_hour 6 y_15.2.2] → va_S A s.heap H locs → lv_has ls 4 [(3, .int y_15.1), (0, .ref q_t), (1, .int w1_15), (2, .int w2_15)] → W p l e ({ frames := 0, cells := 0, slots := 0, locals := 0 } : Room) s m ([.ref q_t, .int p1, .int p2] : List Value).toArray below meth c H locs 0 0 Q (F0 m 65 ls [])) → W p l e ({ frames := 0, cells := 0, slots := 0, locals := 0 } : Room) s m ([.ref q_t, .int p1, .int p2] : List Value).toArray below meth c H locs 0 0 Q (F0 m 15 ls []) := by
    intro Q n
    induction n with
    | zero =>
      intro w3_15 w1_15 w2_15 v_t_size_15 r_t_deed_15 r_t_hour_15 y_15 hf
      rw [fX0_insert_15] at hf
      cases hf
    | succ n ih =>
      intro w3_15 w1_15 w2_15 v_t_size_15 r_t_deed_15 r_t_hour_15 y_15 hf H locs ls hP hD hS hl KX0
      rw [fX0_insert_15] at hf
      refine lv_iload_n hx hb dX0_insert_15 rfl (lv_at hl 0 rfl) ?_
      refine lv_if_le (tgt := 65) hx hb dX0_insert_16 (by decide) (fun c2 => ?_) (fun c2 => ?_)
      · have hf := of_pos hf c2
        obtain rfl := Option.some.inj hf
        exact KX0 _ _ _ hP hD hS (lv_sub hl [0, 1, 2, 3] rfl)
      · have hf := of_neg hf c2
        refine lv_aload_n hx hb dX0_insert_19 rfl (lv_at hl 1 rfl) ?_
        refine va_get (D := D) (ci := 0) (v := .ref q_t_hour) (C := RX0) (T := TX0) (N := 3) hx hb hts inX0 hown hK hP 0 rfl rfl 2 (by decide) (hts (.fieldLink RX0 15 "LentCourage$Heard" "hour" "[I") (List.mem_of_getElem? (i := 2) rfl)) (fun _ h9 => h9) rfl dX0_insert_20 ?_
        refine lv_iload_n hx hb dX0_insert_23 rfl (lv_at hl 0 rfl) ?_
        refine lv_iconst (v := (1 : Int32)) hx hb dX0_insert_24 (by decide) ?_
        refine lv_isub hx hb dX0_insert_25 ?_
        obtain ⟨h3, hf⟩ := of_chk hf
        refine va_iald hx hb hK hP 2 0 rfl rfl h3 dX0_insert_26 ?_
        refine lv_iload_n hx hb dX0_insert_27 rfl (lv_at hl 3 rfl) ?_
        refine lv_icmp_le (tgt := 65) hx hb dX0_insert_28 (by decide) (fun c4 => ?_) (fun c4 => ?_)
        · have hf := of_pos hf c4
          obtain rfl := Option.some.inj hf
          exact KX0 _ _ _ hP hD hS (lv_sub hl [0, 1, 2, 3] rfl)
        · have hf := of_neg hf c4
          refine lv_aload_n hx hb dX0_insert_31 rfl (lv_at hl 1 rfl) ?_
          refine va_get (D := D) (ci := 0) (v := .ref q_t_deed) (C := RX0) (T := TX0) (N := 3) hx hb hts inX0 hown hK hP 0 rfl rfl 1 (by decide) (hts (.fieldLink RX0 9 "LentCourage$Heard" "deed" "[I") (List.mem_of_getElem? (i := 3) rfl)) (fun _ h9 => h9) rfl dX0_insert_32 ?_
          refine lv_iload_n hx hb dX0_insert_35 rfl (lv_at hl 0 rfl) ?_
          refine lv_aload_n hx hb dX0_insert_36 rfl (lv_at hl 1 rfl) ?_
          refine va_get (D := D) (ci := 0) (v := .ref q_t_deed) (C := RX0) (T := TX0) (N := 3) hx hb hts inX0 hown hK hP 0 rfl rfl 1 (by decide) (hts (.fieldLink RX0 9 "LentCourage$Heard" "deed" "[I") (List.mem_of_getElem? (i := 3) rfl)) (fun _ h9 => h9) rfl dX0_insert_37 ?_
          refine lv_iload_n hx hb dX0_insert_40 rfl (lv_at hl 0 rfl) ?_
          refine lv_iconst (v := (1 : Int32)) hx hb dX0_insert_41 (by decide) ?_
          refine lv_isub hx hb dX0_insert_42 ?_
          refine va_iald hx hb hK hP 1 0 rfl rfl h3 dX0_insert_43 ?_
          refine lv_topi (fun z5 ez5 => ?_)
          have hf := of_lt hf ez5
          obtain ⟨h6, hf⟩ := of_chk hf
          refine va_iast hx hb hK hP hD hS 1 0 rfl rfl h6 dX0_insert_44 (fun H locs hP hD hS => ?_)
          have hP : va_P D vwCl [ob q_t 0 [.int v_t_size_15, .ref q_t_deed, .ref q_t_hour], ia C q_t_deed 6 (upd r_t_deed_15 w3_15.toNatClampNeg z5), ia C q_t_hour 6 r_t_hour_15] H := hP
          have hD : va_D A [ob q_t 0 [.int v_t_size_15, .ref q_t_deed, .ref q_t_hour], ia C q_t_deed 6 (upd r_t_deed_15 w3_15.toNatClampNeg z5), ia C q_t_hour 6 r_t_hour_15] := hD
          refine lv_aload_n hx hb dX0_insert_45 rfl (lv_at hl 1 rfl) ?_
          refine va_get (D := D) (ci := 0) (v := .ref q_t_hour) (C := RX0) (T := TX0) (N := 3) hx hb hts inX0 hown hK hP 0 rfl rfl 2 (by decide) (hts (.fieldLink RX0 15 "LentCourage$Heard" "hour" "[I") (List.mem_of_getElem? (i := 2) rfl)) (fun _ h9 => h9) rfl dX0_insert_46 ?_
          refine lv_iload_n hx hb dX0_insert_49 rfl (lv_at hl 0 rfl) ?_
          refine lv_aload_n hx hb dX0_insert_50 rfl (lv_at hl 1 rfl) ?_
          refine va_get (D := D) (ci := 0) (v := .ref q_t_hour) (C := RX0) (T := TX0) (N := 3) hx hb hts inX0 hown hK hP 0 rfl rfl 2 (by decide) (hts (.fieldLink RX0 15 "LentCourage$Heard" "hour" "[I") (List.mem_of_getElem? (i := 2) rfl)) (fun _ h9 => h9) rfl dX0_insert_51 ?_
          refine lv_iload_n hx hb dX0_insert_54 rfl (lv_at hl 0 rfl) ?_
          refine lv_iconst (v := (1 : Int32)) hx hb dX0_insert_55 (by decide) ?_
          refine lv_isub hx hb dX0_insert_56 ?_
          refine va_iald hx hb hK hP 2 0 rfl rfl h3 dX0_insert_57 ?_
          refine lv_topi (fun z7 ez7 => ?_)
          have hf := of_lt hf ez7
          refine va_iast hx hb hK hP hD hS 2 0 rfl rfl h6 dX0_insert_58 (fun H locs hP hD hS => ?_)
          have hP : va_P D vwCl [ob q_t 0 [.int v_t_size_15, .ref q_t_deed, .ref q_t_hour], ia C q_t_deed 6 (upd r_t_deed_15 w3_15.toNatClampNeg z5), ia C q_t_hour 6 (upd r_t_hour_15 w3_15.toNatClampNeg z7)] H := hP
          have hD : va_D A [ob q_t 0 [.int v_t_size_15, .ref q_t_deed, .ref q_t_hour], ia C q_t_deed 6 (upd r_t_deed_15 w3_15.toNatClampNeg z5), ia C q_t_hour 6 (upd r_t_hour_15 w3_15.toNatClampNeg z7)] := hD
          obtain ⟨z8, ez8⟩ : ∃ y : Int32, y = (w3_15 + (-1 : Int32)) := ⟨_, rfl⟩
          have hf := of_lt hf ez8
          refine lv_iinc (v := z8) (lv' := [(3, .int z8), (0, .ref q_t), (1, .int w1_15), (2, .int w2_15)]) hx hb dX0_insert_59 hl (k := 0) rfl (by rw [ez8]; rfl) (by decide) rfl (fun ls hl => ?_)
          refine lv_goto (tgt := 15) hx hb dX0_insert_62 (by decide) ?_
          exact ih _ _ _ _ _ _ _ hf H locs ls hP hD hS (lv_sub hl [0, 1, 2, 3] rfl) KX0
  refine lv_aload_n hx hb dX0_insert_0 rfl (lv_at hl 0 rfl) ?_
  refine va_get (D := D) (ci := 0) (v := .int v_t_size) (C := RX0) (T := TX0) (N := 3) hx hb hts inX0 hown hK hP 0 rfl rfl 0 (by decide) (hts (.fieldLink RX0 18 "LentCourage$Heard" "size" "I") (List.mem_of_getElem? (i := 1) rfl)) (fun _ h9 => h9) rfl dX0_insert_1 ?_
  refine lv_bipush (v := (6 : Int32)) hx hb dX0_insert_4 (by decide) ?_
  refine lv_icmp_lt (tgt := 10) hx hb dX0_insert_6 (by decide) (fun c1 => ?_) (fun c1 => ?_)
  · have hf := of_pos hf c1
    refine lv_aload_n hx hb dX0_insert_10 rfl (lv_at hl 0 rfl) ?_
    refine va_get (D := D) (ci := 0) (v := .int v_t_size) (C := RX0) (T := TX0) (N := 3) hx hb hts inX0 hown hK hP 0 rfl rfl 0 (by decide) (hts (.fieldLink RX0 18 "LentCourage$Heard" "size" "I") (List.mem_of_getElem? (i := 1) rfl)) (fun _ h9 => h9) rfl dX0_insert_11 ?_
    refine lv_istore_n (lv' := [(3, .int v_t_size), (0, .ref q_t), (1, .int p1), (2, .int p2)]) hx hb dX0_insert_14 rfl hl (by decide) rfl (fun ls hl => ?_)
    obtain ⟨y9, hy9, hf⟩ := of_bind hf
    refine LP15 _ FU _ _ _ _ _ _ y9 hy9 H locs ls hP hD hS (lv_sub hl [0, 1, 2, 3] rfl) (fun H locs ls hP hD hS hl => ?_)
    refine lv_aload_n hx hb dX0_insert_65 rfl (lv_at hl 1 rfl) ?_
    refine va_get (D := D) (ci := 0) (v := .ref q_t_deed) (C := RX0) (T := TX0) (N := 3) hx hb hts inX0 hown hK hP 0 rfl rfl 1 (by decide) (hts (.fieldLink RX0 9 "LentCourage$Heard" "deed" "[I") (List.mem_of_getElem? (i := 3) rfl)) (fun _ h9 => h9) rfl dX0_insert_66 ?_
    refine lv_iload_n hx hb dX0_insert_69 rfl (lv_at hl 0 rfl) ?_
    refine lv_iload_n hx hb dX0_insert_70 rfl (lv_at hl 2 rfl) ?_
    obtain ⟨h10, hf⟩ := of_chk hf
    refine va_iast hx hb hK hP hD hS 1 0 rfl rfl h10 dX0_insert_71 (fun H locs hP hD hS => ?_)
    have hP : va_P D vwCl [ob q_t 0 [.int v_t_size, .ref q_t_deed, .ref q_t_hour], ia C q_t_deed 6 (upd y9.2.1 y9.1.toNatClampNeg p1), ia C q_t_hour 6 y9.2.2] H := hP
    have hD : va_D A [ob q_t 0 [.int v_t_size, .ref q_t_deed, .ref q_t_hour], ia C q_t_deed 6 (upd y9.2.1 y9.1.toNatClampNeg p1), ia C q_t_hour 6 y9.2.2] := hD
    refine lv_aload_n hx hb dX0_insert_72 rfl (lv_at hl 1 rfl) ?_
    refine va_get (D := D) (ci := 0) (v := .ref q_t_hour) (C := RX0) (T := TX0) (N := 3) hx hb hts inX0 hown hK hP 0 rfl rfl 2 (by decide) (hts (.fieldLink RX0 15 "LentCourage$Heard" "hour" "[I") (List.mem_of_getElem? (i := 2) rfl)) (fun _ h9 => h9) rfl dX0_insert_73 ?_
    refine lv_iload_n hx hb dX0_insert_76 rfl (lv_at hl 0 rfl) ?_
    refine lv_iload_n hx hb dX0_insert_77 rfl (lv_at hl 3 rfl) ?_
    refine va_iast hx hb hK hP hD hS 2 0 rfl rfl h10 dX0_insert_78 (fun H locs hP hD hS => ?_)
    have hP : va_P D vwCl [ob q_t 0 [.int v_t_size, .ref q_t_deed, .ref q_t_hour], ia C q_t_deed 6 (upd y9.2.1 y9.1.toNatClampNeg p1), ia C q_t_hour 6 (upd y9.2.2 y9.1.toNatClampNeg p2)] H := hP
    have hD : va_D A [ob q_t 0 [.int v_t_size, .ref q_t_deed, .ref q_t_hour], ia C q_t_deed 6 (upd y9.2.1 y9.1.toNatClampNeg p1), ia C q_t_hour 6 (upd y9.2.2 y9.1.toNatClampNeg p2)] := hD
    refine lv_aload_n hx hb dX0_insert_79 rfl (lv_at hl 1 rfl) ?_
    refine lv_dup hx hb dX0_insert_80 rfl ?_
    refine va_get (D := D) (ci := 0) (v := .int v_t_size) (C := RX0) (T := TX0) (N := 3) hx hb hts inX0 hown hK hP 0 rfl rfl 0 (by decide) (hts (.fieldLink RX0 18 "LentCourage$Heard" "size" "I") (List.mem_of_getElem? (i := 1) rfl)) (fun _ h9 => h9) rfl dX0_insert_81 ?_
    refine lv_iconst (v := (1 : Int32)) hx hb dX0_insert_84 (by decide) ?_
    refine lv_iadd hx hb dX0_insert_85 ?_
    refine lv_topi (fun z11 ez11 => ?_)
    have hf := of_lt hf ez11
    refine va_put (D := D) (ci := 0) (v := .int z11) (ty := .int) (C := RX0) (T := TX0) (N := 3) hx hb hts inX0 tyX0 tyX0_ok nmX0 hown hK hP hD hS 0 rfl rfl 0 (by decide) (hts (.fieldLink RX0 18 "LentCourage$Heard" "size" "I") (List.mem_of_getElem? (i := 1) rfl)) (fun _ h9 => h9) rfl (tyX0_ok 0 (by decide)) rfl rfl (Nat.le_of_ble_eq_true rfl) dX0_insert_86 (fun H locs hP hD hS => ?_)
    have hP : va_P D vwCl [ob q_t 0 [.int z11, .ref q_t_deed, .ref q_t_hour], ia C q_t_deed 6 (upd y9.2.1 y9.1.toNatClampNeg p1), ia C q_t_hour 6 (upd y9.2.2 y9.1.toNatClampNeg p2)] H := hP
    have hD : va_D A [ob q_t 0 [.int z11, .ref q_t_deed, .ref q_t_hour], ia C q_t_deed 6 (upd y9.2.1 y9.1.toNatClampNeg p1), ia C q_t_hour 6 (upd y9.2.2 y9.1.toNatClampNeg p2)] := hD
    obtain rfl := Option.some.inj hf
    exact ret_V hx hb hr hlocks hK hP hD hS dX0_insert_89
  · have hf := of_neg hf c1
    obtain rfl := Option.some.inj hf
    exact ret_V hx hb hr hlocks hK hP hD hS dX0_insert_9

def fX0_tooSoon_4 (v_t_size_4 : Int32) (r_t_deed_4 : Nat → Int32) (r_t_hour_4 : Nat → Int32) (r_a1_place_4 : Nat → Int32) : Nat → Int32 → Int32 → Option (Int32 × Int32)
  | 0, _, _ => none
  | n + 1, w3_4, w2_4 => (if v_t_size_4 ≤ w3_4 then some (w3_4, w2_4) else chk (vin w3_4 6) (chk (vin (r_t_deed_4 w3_4.toNatClampNeg) 8) (chk (vin (w3_4 - (1 : Int32)) 6) (chk (vin (r_t_deed_4 (w3_4 - (1 : Int32)).toNatClampNeg) 8) (lt_ (if 0 ≤ ((r_a1_place_4 (r_t_deed_4 w3_4.toNatClampNeg).toNatClampNeg) - (r_a1_place_4 (r_t_deed_4 (w3_4 - (1 : Int32)).toNatClampNeg).toNatClampNeg)) then ((r_a1_place_4 (r_t_deed_4 w3_4.toNatClampNeg).toNatClampNeg) - (r_a1_place_4 (r_t_deed_4 (w3_4 - (1 : Int32)).toNatClampNeg).toNatClampNeg)) else 0 - ((r_a1_place_4 (r_t_deed_4 w3_4.toNatClampNeg).toNatClampNeg) - (r_a1_place_4 (r_t_deed_4 (w3_4 - (1 : Int32)).toNatClampNeg).toNatClampNeg))) (fun z6 => (if z6 ≤ ((r_t_hour_4 w3_4.toNatClampNeg) - (r_t_hour_4 (w3_4 - (1 : Int32)).toNatClampNeg)) then lt_ (w3_4 + (1 : Int32)) (fun z8 => fX0_tooSoon_4 v_t_size_4 r_t_deed_4 r_t_hour_4 r_a1_place_4 n z8 w2_4) else lt_ (w2_4 + (1 : Int32)) (fun z9 => lt_ (w3_4 + (1 : Int32)) (fun z10 => fX0_tooSoon_4 v_t_size_4 r_t_deed_4 r_t_hour_4 r_a1_place_4 n z10 z9)))))))))
def fX0_tooSoon (v_t_size : Int32) (r_t_deed : Nat → Int32) (r_t_hour : Nat → Int32) (r_a1_place : Nat → Int32) : Option (Int32) :=
  (fX0_tooSoon_4 v_t_size r_t_deed r_t_hour r_a1_place FU (1 : Int32) (0 : Int32)).bind (fun y11 => some y11.2)
theorem hd_X0_tooSoon : yX0_tooSoon.cls = RX0 ∧ yX0_tooSoon.cls ≠ "java/lang/invoke/MethodHandle" ∧ yX0_tooSoon.cls ≠ "java/lang/invoke/VarHandle" ∧ (parseMethodDescriptor yX0_tooSoon.desc).map (fun d => d.parameters.length) = some 1 := by decide +kernel
set_option maxHeartbeats 4000000 in
set_option maxRecDepth 100000 in
theorem k_X0_tooSoon (l : Launch) (D : va_G) (C : Nat → ClassId) (q_t : Nat) (q_t_deed : Nat) (q_t_hour : Nat) (q_a1 : Nat) (q_a1_home : Nat) (q_a1_who : Nat) (q_a1_place : Nat) (q_a1_from : Nat) (q_a1_till : Nat) (q_a1_worth : Nat) (v_t_size : Int32) (r_t_deed : Nat → Int32) (r_t_hour : Nat → Int32) (v_a1_office : Int32) (v_a1_free : Int32) (v_a1_people : Int32) (v_a1_deeds : Int32) (r_a1_place : Nat → Int32) (sz : Nat) (out : Int32) (hf : fX0_tooSoon v_t_size r_t_deed r_t_hour r_a1_place = some out) : MI l yX0_tooSoon wsX0_tooSoon ({ frames := 1, cells := 0, slots := 0, locals := 21 }) D C [.ref q_t, .ref q_a1] [ob q_t 0 [.int v_t_size, .ref q_t_deed, .ref q_t_hour], ia C q_t_deed 6 r_t_deed, ia C q_t_hour 6 r_t_hour, ob q_a1 4 [.int v_a1_office, .int v_a1_free, .int v_a1_people, .int v_a1_deeds, .ref q_a1_home, .ref q_a1_who, .ref q_a1_place, .ref q_a1_from, .ref q_a1_till, .ref q_a1_worth], ia C q_a1_place 8 r_a1_place] [ob q_t 0 [.int v_t_size, .ref q_t_deed, .ref q_t_hour], ia C q_t_deed 6 r_t_deed, ia C q_t_hour 6 r_t_hour, ob q_a1 4 [.int v_a1_office, .int v_a1_free, .int v_a1_people, .int v_a1_deeds, .ref q_a1_home, .ref q_a1_who, .ref q_a1_place, .ref q_a1_from, .ref q_a1_till, .ref q_a1_worth], ia C q_a1_place 8 r_a1_place] sz (out) := by
  unfold fX0_tooSoon at hf
  refine en_I (by decide) rfl (Nat.le_of_ble_eq_true rfl) ?_
  intro p e s m below meth c A ls H locs hx hb hr hlocks hml hts hown hK hP hD hS hA hl
  have hl : lv_has ls 5 [(0, .ref q_t), (1, .ref q_a1)] := hl
  have inX0 : ∀ w ∈ u_ws RX0 TX0 3, w ∈ wsX0_tooSoon := fun w h => List.mem_cons_of_mem _ (List.mem_append_left _ (List.mem_append_right _ h))
  have inX4 : ∀ w ∈ u_ws RX4 TX4 10, w ∈ wsX0_tooSoon := fun w h => List.mem_cons_of_mem _ (List.mem_append_right _ h)
  have LP4 : ∀ (Q : State → Prop) (n : Nat) (w3_4 : Int32) (w2_4 : Int32) (v_t_size_4 : Int32) (r_t_deed_4 : Nat → Int32) (r_t_hour_4 : Nat → Int32) (v_a1_office_4 : Int32) (v_a1_free_4 : Int32) (v_a1_people_4 : Int32) (v_a1_deeds_4 : Int32) (r_a1_place_4 : Nat → Int32) (y_4 : Int32 × Int32), fX0_tooSoon_4 v_t_size_4 r_t_deed_4 r_t_hour_4 r_a1_place_4 n w3_4 w2_4 = some y_4 → ∀ (H : Heap) (locs : List Loc) (ls : Array Slot), va_P D vwCl [ob q_t 0 [.int v_t_size_4, .ref q_t_deed, .ref q_t_hour], ia C q_t_deed 6 r_t_deed_4, ia C q_t_hour 6 r_t_hour_4, ob q_a1 4 [.int v_a1_office_4, .int v_a1_free_4, .int v_a1_people_4, .int v_a1_deeds_4, .ref q_a1_home, .ref q_a1_who, .ref q_a1_place, .ref q_a1_from, .ref q_a1_till, .ref q_a1_worth], ia C q_a1_place 8 r_a1_place_4] H → va_D A [ob q_t 0 [.int v_t_size_4, .ref q_t_deed, .ref q_t_hour], ia C q_t_deed 6 r_t_deed_4, ia C q_t_hour 6 r_t_hour_4, ob q_a1 4 [.int v_a1_office_4, .int v_a1_free_4, .int v_a1_people_4, .int v_a1_deeds_4, .ref q_a1_home, .ref q_a1_who, .ref q_a1_place, .ref q_a1_from, .ref q_a1_till, .ref q_a1_worth], ia C q_a1_place 8 r_a1_place_4] → va_S A s.heap H locs → lv_has ls 5 [(3, .int w3_4), (2, .int w2_4), (0, .ref q_t), (1, .ref q_a1)] → (∀ (H : Heap) (locs : List Loc) (ls : Array Slot), va_P D vwCl [ob q_t 0 [.int v_t_size_4, .ref q_t_deed, .ref q_t_hour], ia C q_t_deed 6 r_t_deed_4, ia C q_t_hour 6 r_t_hour_4, ob q_a1 4 [.int v_a1_office_4, .int v_a1_free_4, .int v_a1_people_4, .int v_a1_deeds_4, .ref q_a1_home, .ref q_a1_who, .ref q_a1_place, .ref q_a1_from, .ref q_a1_till, .ref q_a1_worth], ia C q_a1_place 8 r_a1_place_4] H → va_D A [ob q_t 0 [.int v_t_size_4, .ref q_t_deed, .ref q_t_hour], ia C q_t_deed 6 r_t_deed_4, ia C q_t_hour 6 r_t_hour_4, ob q_a1 4 [.int v_a1_office_4, .int v_a1_free_4, .int v_a1_people_4, .int v_a1_deeds_4, .ref q_a1_home, .ref q_a1_who, .ref q_a1_place, .ref q_a1_from, .ref q_a1_till, .ref q_a1_worth], ia C q_a1_place 8 r_a1_place_4] → va_S A s.heap H locs → lv_has ls 5 [(3, .int y_4.1), (2, .int y_4.2), (0, .ref q_t), (1, .ref q_a1)] → W p l e ({ frames := 1, cells := 0, slots := 0, locals := 21 } : Room) s m ([.ref q_t, .ref q_a1] : List Value).toArray below meth c H locs 0 0 Q (F0 m 71 ls [])) → W p l e ({ frames := 1, cells := 0, slots := 0, locals := 21 } : Room) s m ([.ref q_t, .ref q_a1] : List Value).toArray below meth c H locs 0 0 Q (F0 m 4 ls []) := by
    intro Q n
    induction n with
    | zero =>
      intro w3_4 w2_4 v_t_size_4 r_t_deed_4 r_t_hour_4 v_a1_office_4 v_a1_free_4 v_a1_people_4 v_a1_deeds_4 r_a1_place_4 y_4 hf
      rw [fX0_tooSoon_4] at hf
      cases hf
    | succ n ih =>
      intro w3_4 w2_4 v_t_size_4 r_t_deed_4 r_t_hour_4 v_a1_office_4 v_a1_free_4 v_a1_people_4 v_a1_deeds_4 r_a1_place_4 y_4 hf H locs ls hP hD hS hl KX0
      rw [fX0_tooSoon_4] at hf
      refine lv_iload_n hx hb dX0_tooSoon_4 rfl (lv_at hl 0 rfl) ?_
      refine lv_aload_n hx hb dX0_tooSoon_5 rfl (lv_at hl 2 rfl) ?_
      refine va_get (D := D) (ci := 0) (v := .int v_t_size_4) (C := RX0) (T := TX0) (N := 3) hx hb hts inX0 hown hK hP 0 rfl rfl 0 (by decide) (hts (.fieldLink RX0 18 "LentCourage$Heard" "size" "I") (List.mem_of_getElem? (i := 1) rfl)) (fun _ h9 => h9) rfl dX0_tooSoon_6 ?_
      refine lv_icmp_ge (tgt := 71) hx hb dX0_tooSoon_9 (by decide) (fun c1 => ?_) (fun c1 => ?_)
      · have hf := of_pos hf c1
        obtain rfl := Option.some.inj hf
        exact KX0 _ _ _ hP hD hS (lv_sub hl [0, 1, 2, 3] rfl)
      · have hf := of_neg hf c1
        refine lv_aload_n hx hb dX0_tooSoon_12 rfl (lv_at hl 3 rfl) ?_
        refine va_get (D := D) (ci := 4) (v := .ref q_a1_place) (C := RX4) (T := TX4) (N := 10) hx hb hts inX4 hown hK hP 3 rfl rfl 6 (by decide) (hts (.fieldLink RX0 22 "LentCourage$Port" "place" "[I") (List.mem_of_getElem? (i := 2) rfl)) (fun _ h9 => h9) rfl dX0_tooSoon_13 ?_
        refine lv_aload_n hx hb dX0_tooSoon_16 rfl (lv_at hl 2 rfl) ?_
        refine va_get (D := D) (ci := 0) (v := .ref q_t_deed) (C := RX0) (T := TX0) (N := 3) hx hb hts inX0 hown hK hP 0 rfl rfl 1 (by decide) (hts (.fieldLink RX0 9 "LentCourage$Heard" "deed" "[I") (List.mem_of_getElem? (i := 3) rfl)) (fun _ h9 => h9) rfl dX0_tooSoon_17 ?_
        refine lv_iload_n hx hb dX0_tooSoon_20 rfl (lv_at hl 0 rfl) ?_
        obtain ⟨h2, hf⟩ := of_chk hf
        refine va_iald hx hb hK hP 1 0 rfl rfl h2 dX0_tooSoon_21 ?_
        obtain ⟨h3, hf⟩ := of_chk hf
        refine va_iald hx hb hK hP 4 0 rfl rfl h3 dX0_tooSoon_22 ?_
        refine lv_aload_n hx hb dX0_tooSoon_23 rfl (lv_at hl 3 rfl) ?_
        refine va_get (D := D) (ci := 4) (v := .ref q_a1_place) (C := RX4) (T := TX4) (N := 10) hx hb hts inX4 hown hK hP 3 rfl rfl 6 (by decide) (hts (.fieldLink RX0 22 "LentCourage$Port" "place" "[I") (List.mem_of_getElem? (i := 2) rfl)) (fun _ h9 => h9) rfl dX0_tooSoon_24 ?_
        refine lv_aload_n hx hb dX0_tooSoon_27 rfl (lv_at hl 2 rfl) ?_
        refine va_get (D := D) (ci := 0) (v := .ref q_t_deed) (C := RX0) (T := TX0) (N := 3) hx hb hts inX0 hown hK hP 0 rfl rfl 1 (by decide) (hts (.fieldLink RX0 9 "LentCourage$Heard" "deed" "[I") (List.mem_of_getElem? (i := 3) rfl)) (fun _ h9 => h9) rfl dX0_tooSoon_28 ?_
        refine lv_iload_n hx hb dX0_tooSoon_31 rfl (lv_at hl 0 rfl) ?_
        refine lv_iconst (v := (1 : Int32)) hx hb dX0_tooSoon_32 (by decide) ?_
        refine lv_isub hx hb dX0_tooSoon_33 ?_
        obtain ⟨h4, hf⟩ := of_chk hf
        refine va_iald hx hb hK hP 1 0 rfl rfl h4 dX0_tooSoon_34 ?_
        obtain ⟨h5, hf⟩ := of_chk hf
        refine va_iald hx hb hK hP 4 0 rfl rfl h5 dX0_tooSoon_35 ?_
        refine lv_isub hx hb dX0_tooSoon_36 ?_
        refine va_mabs hx hb (hml.trans hl.1.symm) hown (hts (.methodLink RX0 27 Lib.Math.abs.name) (List.mem_of_getElem? (i := 4) rfl)) (hts (.static Lib.Math.abs.name) (List.mem_of_getElem? (i := 5) rfl)) (hts (.initialized "java/lang/Math") (List.mem_of_getElem? (i := 6) rfl)) (hts (.code Lib.Math.abs.name Lib.Math.abs.code 1 (some .int)) (List.mem_of_getElem? (i := 7) rfl)) (Nat.le_of_ble_eq_true rfl) (Nat.le_of_ble_eq_true rfl) (Nat.zero_le _) (Nat.zero_le _) dX0_tooSoon_37 ?_
        refine lv_topi (fun z6 ez6 => ?_)
        have hf := of_lt hf ez6
        refine lv_istore (lv' := [(4, .int z6), (3, .int w3_4), (2, .int w2_4), (0, .ref q_t), (1, .ref q_a1)]) hx hb dX0_tooSoon_40 hl (by decide) rfl (fun ls hl => ?_)
        refine lv_iload hx hb dX0_tooSoon_42 (lv_at hl 0 rfl) ?_
        refine lv_aload_n hx hb dX0_tooSoon_44 rfl (lv_at hl 3 rfl) ?_
        refine va_get (D := D) (ci := 0) (v := .ref q_t_hour) (C := RX0) (T := TX0) (N := 3) hx hb hts inX0 hown hK hP 0 rfl rfl 2 (by decide) (hts (.fieldLink RX0 15 "LentCourage$Heard" "hour" "[I") (List.mem_of_getElem? (i := 8) rfl)) (fun _ h9 => h9) rfl dX0_tooSoon_45 ?_
        refine lv_iload_n hx hb dX0_tooSoon_48 rfl (lv_at hl 1 rfl) ?_
        refine va_iald hx hb hK hP 2 0 rfl rfl h2 dX0_tooSoon_49 ?_
        refine lv_aload_n hx hb dX0_tooSoon_50 rfl (lv_at hl 3 rfl) ?_
        refine va_get (D := D) (ci := 0) (v := .ref q_t_hour) (C := RX0) (T := TX0) (N := 3) hx hb hts inX0 hown hK hP 0 rfl rfl 2 (by decide) (hts (.fieldLink RX0 15 "LentCourage$Heard" "hour" "[I") (List.mem_of_getElem? (i := 8) rfl)) (fun _ h9 => h9) rfl dX0_tooSoon_51 ?_
        refine lv_iload_n hx hb dX0_tooSoon_54 rfl (lv_at hl 1 rfl) ?_
        refine lv_iconst (v := (1 : Int32)) hx hb dX0_tooSoon_55 (by decide) ?_
        refine lv_isub hx hb dX0_tooSoon_56 ?_
        refine va_iald hx hb hK hP 2 0 rfl rfl h4 dX0_tooSoon_57 ?_
        refine lv_isub hx hb dX0_tooSoon_58 ?_
        refine lv_icmp_le (tgt := 65) hx hb dX0_tooSoon_59 (by decide) (fun c7 => ?_) (fun c7 => ?_)
        · have hf := of_pos hf c7
          obtain ⟨z8, ez8⟩ : ∃ y : Int32, y = (w3_4 + (1 : Int32)) := ⟨_, rfl⟩
          have hf := of_lt hf ez8
          refine lv_iinc (v := z8) (lv' := [(3, .int z8), (4, .int z6), (2, .int w2_4), (0, .ref q_t), (1, .ref q_a1)]) hx hb dX0_tooSoon_65 hl (k := 1) rfl (by rw [ez8]; rfl) (by decide) rfl (fun ls hl => ?_)
          refine lv_goto (tgt := 4) hx hb dX0_tooSoon_68 (by decide) ?_
          exact ih _ _ _ _ _ _ _ _ _ _ _ hf H locs ls hP hD hS (lv_sub hl [0, 2, 3, 4] rfl) KX0
        · have hf := of_neg hf c7
          obtain ⟨z9, ez9⟩ : ∃ y : Int32, y = (w2_4 + (1 : Int32)) := ⟨_, rfl⟩
          have hf := of_lt hf ez9
          refine lv_iinc (v := z9) (lv' := [(2, .int z9), (4, .int z6), (3, .int w3_4), (0, .ref q_t), (1, .ref q_a1)]) hx hb dX0_tooSoon_62 hl (k := 2) rfl (by rw [ez9]; rfl) (by decide) rfl (fun ls hl => ?_)
          obtain ⟨z10, ez10⟩ : ∃ y : Int32, y = (w3_4 + (1 : Int32)) := ⟨_, rfl⟩
          have hf := of_lt hf ez10
          refine lv_iinc (v := z10) (lv' := [(3, .int z10), (2, .int z9), (4, .int z6), (0, .ref q_t), (1, .ref q_a1)]) hx hb dX0_tooSoon_65 hl (k := 2) rfl (by rw [ez10]; rfl) (by decide) rfl (fun ls hl => ?_)
          refine lv_goto (tgt := 4) hx hb dX0_tooSoon_68 (by decide) ?_
          exact ih _ _ _ _ _ _ _ _ _ _ _ hf H locs ls hP hD hS (lv_sub hl [0, 1, 3, 4] rfl) KX0
  refine lv_iconst (v := (0 : Int32)) hx hb dX0_tooSoon_0 (by decide) ?_
  refine lv_istore_n (lv' := [(2, .int (0 : Int32)), (0, .ref q_t), (1, .ref q_a1)]) hx hb dX0_tooSoon_1 rfl hl (by decide) rfl (fun ls hl => ?_)
  refine lv_iconst (v := (1 : Int32)) hx hb dX0_tooSoon_2 (by decide) ?_
  refine lv_istore_n (lv' := [(3, .int (1 : Int32)), (2, .int (0 : Int32)), (0, .ref q_t), (1, .ref q_a1)]) hx hb dX0_tooSoon_3 rfl hl (by decide) rfl (fun ls hl => ?_)
  obtain ⟨y11, hy11, hf⟩ := of_bind hf
  refine LP4 _ FU _ _ _ _ _ _ _ _ _ _ y11 hy11 H locs ls hP hD hS (lv_sub hl [0, 1, 2, 3] rfl) (fun H locs ls hP hD hS hl => ?_)
  refine lv_iload_n hx hb dX0_tooSoon_71 rfl (lv_at hl 1 rfl) ?_
  obtain rfl := Option.some.inj hf
  exact ret_I hx hb hr hlocks hK hP hD hS dX0_tooSoon_72

def fX0_latestBy_5 (w1_5 : Int32) (v_t_size_5 : Int32) (r_t_hour_5 : Nat → Int32) : Nat → Int32 → Int32 → Option (Int32 × Int32)
  | 0, _, _ => none
  | n + 1, w3_5, w2_5 => (if v_t_size_5 ≤ w3_5 then some (w3_5, w2_5) else chk (vin w3_5 6) ((if w1_5 < (r_t_hour_5 w3_5.toNatClampNeg) then some (w3_5, w2_5) else lt_ (w3_5 + (1 : Int32)) (fun z4 => fX0_latestBy_5 w1_5 v_t_size_5 r_t_hour_5 n z4 w3_5))))
def fX0_latestBy (v_t_size : Int32) (r_t_hour : Nat → Int32) (p1 : Int32) : Option (Int32) :=
  (fX0_latestBy_5 p1 v_t_size r_t_hour FU (0 : Int32) (-9 : Int32)).bind (fun y5 => some y5.2)
theorem hd_X0_latestBy : yX0_latestBy.cls = RX0 ∧ yX0_latestBy.cls ≠ "java/lang/invoke/MethodHandle" ∧ yX0_latestBy.cls ≠ "java/lang/invoke/VarHandle" ∧ (parseMethodDescriptor yX0_latestBy.desc).map (fun d => d.parameters.length) = some 1 := by decide +kernel
set_option maxHeartbeats 4000000 in
set_option maxRecDepth 100000 in
theorem k_X0_latestBy (l : Launch) (D : va_G) (C : Nat → ClassId) (q_t : Nat) (q_t_deed : Nat) (q_t_hour : Nat) (v_t_size : Int32) (r_t_hour : Nat → Int32) (p1 : Int32) (sz : Nat) (out : Int32) (hf : fX0_latestBy v_t_size r_t_hour p1 = some out) : MI l yX0_latestBy wsX0_latestBy ({ frames := 0, cells := 0, slots := 0, locals := 0 }) D C [.ref q_t, .int p1] [ob q_t 0 [.int v_t_size, .ref q_t_deed, .ref q_t_hour], ia C q_t_hour 6 r_t_hour] [ob q_t 0 [.int v_t_size, .ref q_t_deed, .ref q_t_hour], ia C q_t_hour 6 r_t_hour] sz (out) := by
  unfold fX0_latestBy at hf
  refine en_I (by decide) rfl (Nat.le_of_ble_eq_true rfl) ?_
  intro p e s m below meth c A ls H locs hx hb hr hlocks hml hts hown hK hP hD hS hA hl
  have hl : lv_has ls 4 [(0, .ref q_t), (1, .int p1)] := hl
  have inX0 : ∀ w ∈ u_ws RX0 TX0 3, w ∈ wsX0_latestBy := fun w h => List.mem_cons_of_mem _ (List.mem_append_right _ h)
  have LP5 : ∀ (Q : State → Prop) (n : Nat) (w3_5 : Int32) (w2_5 : Int32) (w1_5 : Int32) (v_t_size_5 : Int32) (r_t_hour_5 : Nat → Int32) (y_5 : Int32 × Int32), fX0_latestBy_5 w1_5 v_t_size_5 r_t_hour_5 n w3_5 w2_5 = some y_5 → ∀ (H : Heap) (locs : List Loc) (ls : Array Slot), va_P D vwCl [ob q_t 0 [.int v_t_size_5, .ref q_t_deed, .ref q_t_hour], ia C q_t_hour 6 r_t_hour_5] H → va_D A [ob q_t 0 [.int v_t_size_5, .ref q_t_deed, .ref q_t_hour], ia C q_t_hour 6 r_t_hour_5] → va_S A s.heap H locs → lv_has ls 4 [(3, .int w3_5), (2, .int w2_5), (0, .ref q_t), (1, .int w1_5)] → (∀ (H : Heap) (locs : List Loc) (ls : Array Slot), va_P D vwCl [ob q_t 0 [.int v_t_size_5, .ref q_t_deed, .ref q_t_hour], ia C q_t_hour 6 r_t_hour_5] H → va_D A [ob q_t 0 [.int v_t_size_5, .ref q_t_deed, .ref q_t_hour], ia C q_t_hour 6 r_t_hour_5] → va_S A s.heap H locs → lv_has ls 4 [(3, .int y_5.1), (2, .int y_5.2), (0, .ref q_t), (1, .int w1_5)] → W p l e ({ frames := 0, cells := 0, slots := 0, locals := 0 } : Room) s m ([.ref q_t, .int p1] : List Value).toArray below meth c H locs 0 0 Q (F0 m 31 ls [])) → W p l e ({ frames := 0, cells := 0, slots := 0, locals := 0 } : Room) s m ([.ref q_t, .int p1] : List Value).toArray below meth c H locs 0 0 Q (F0 m 5 ls []) := by
    intro Q n
    induction n with
    | zero =>
      intro w3_5 w2_5 w1_5 v_t_size_5 r_t_hour_5 y_5 hf
      rw [fX0_latestBy_5] at hf
      cases hf
    | succ n ih =>
      intro w3_5 w2_5 w1_5 v_t_size_5 r_t_hour_5 y_5 hf H locs ls hP hD hS hl KX0
      rw [fX0_latestBy_5] at hf
      refine lv_iload_n hx hb dX0_latestBy_5 rfl (lv_at hl 0 rfl) ?_
      refine lv_aload_n hx hb dX0_latestBy_6 rfl (lv_at hl 2 rfl) ?_
      refine va_get (D := D) (ci := 0) (v := .int v_t_size_5) (C := RX0) (T := TX0) (N := 3) hx hb hts inX0 hown hK hP 0 rfl rfl 0 (by decide) (hts (.fieldLink RX0 18 "LentCourage$Heard" "size" "I") (List.mem_of_getElem? (i := 1) rfl)) (fun _ h9 => h9) rfl dX0_latestBy_7 ?_
      refine lv_icmp_ge (tgt := 31) hx hb dX0_latestBy_10 (by decide) (fun c1 => ?_) (fun c1 => ?_)
      · have hf := of_pos hf c1
        obtain rfl := Option.some.inj hf
        exact KX0 _ _ _ hP hD hS (lv_sub hl [0, 1, 2, 3] rfl)
      · have hf := of_neg hf c1
        refine lv_aload_n hx hb dX0_latestBy_13 rfl (lv_at hl 2 rfl) ?_
        refine va_get (D := D) (ci := 0) (v := .ref q_t_hour) (C := RX0) (T := TX0) (N := 3) hx hb hts inX0 hown hK hP 0 rfl rfl 2 (by decide) (hts (.fieldLink RX0 15 "LentCourage$Heard" "hour" "[I") (List.mem_of_getElem? (i := 2) rfl)) (fun _ h9 => h9) rfl dX0_latestBy_14 ?_
        refine lv_iload_n hx hb dX0_latestBy_17 rfl (lv_at hl 0 rfl) ?_
        obtain ⟨h2, hf⟩ := of_chk hf
        refine va_iald hx hb hK hP 1 0 rfl rfl h2 dX0_latestBy_18 ?_
        refine lv_iload_n hx hb dX0_latestBy_19 rfl (lv_at hl 3 rfl) ?_
        refine lv_icmp_gt (tgt := 31) hx hb dX0_latestBy_20 (by decide) (fun c3 => ?_) (fun c3 => ?_)
        · have hf := of_pos hf c3
          obtain rfl := Option.some.inj hf
          exact KX0 _ _ _ hP hD hS (lv_sub hl [0, 1, 2, 3] rfl)
        · have hf := of_neg hf c3
          refine lv_iload_n hx hb dX0_latestBy_23 rfl (lv_at hl 0 rfl) ?_
          refine lv_istore_n (lv' := [(2, .int w3_5), (3, .int w3_5), (0, .ref q_t), (1, .int w1_5)]) hx hb dX0_latestBy_24 rfl hl (by decide) rfl (fun ls hl => ?_)
          obtain ⟨z4, ez4⟩ : ∃ y : Int32, y = (w3_5 + (1 : Int32)) := ⟨_, rfl⟩
          have hf := of_lt hf ez4
          refine lv_iinc (v := z4) (lv' := [(3, .int z4), (2, .int w3_5), (0, .ref q_t), (1, .int w1_5)]) hx hb dX0_latestBy_25 hl (k := 1) rfl (by rw [ez4]; rfl) (by decide) rfl (fun ls hl => ?_)
          refine lv_goto (tgt := 5) hx hb dX0_latestBy_28 (by decide) ?_
          exact ih _ _ _ _ _ _ hf H locs ls hP hD hS (lv_sub hl [0, 1, 2, 3] rfl) KX0
  refine lv_bipush (v := (-9 : Int32)) hx hb dX0_latestBy_0 (by decide) ?_
  refine lv_istore_n (lv' := [(2, .int (-9 : Int32)), (0, .ref q_t), (1, .int p1)]) hx hb dX0_latestBy_2 rfl hl (by decide) rfl (fun ls hl => ?_)
  refine lv_iconst (v := (0 : Int32)) hx hb dX0_latestBy_3 (by decide) ?_
  refine lv_istore_n (lv' := [(3, .int (0 : Int32)), (2, .int (-9 : Int32)), (0, .ref q_t), (1, .int p1)]) hx hb dX0_latestBy_4 rfl hl (by decide) rfl (fun ls hl => ?_)
  obtain ⟨y5, hy5, hf⟩ := of_bind hf
  refine LP5 _ FU _ _ _ _ _ y5 hy5 H locs ls hP hD hS (lv_sub hl [0, 1, 2, 3] rfl) (fun H locs ls hP hD hS hl => ?_)
  refine lv_iload_n hx hb dX0_latestBy_31 rfl (lv_at hl 1 rfl) ?_
  obtain rfl := Option.some.inj hf
  exact ret_I hx hb hr hlocks hK hP hD hS dX0_latestBy_32

def fX0_earliestFrom_10 (w1_10 : Int32) (r_t_hour_10 : Nat → Int32) : Nat → Int32 → Int32 → Option (Int32 × Int32)
  | 0, _, _ => none
  | n + 1, w3_10, w2_10 => (if w3_10 < 0 then some (w3_10, w2_10) else chk (vin w3_10 6) ((if (r_t_hour_10 w3_10.toNatClampNeg) < w1_10 then some (w3_10, w2_10) else lt_ (w3_10 + (-1 : Int32)) (fun z5 => fX0_earliestFrom_10 w1_10 r_t_hour_10 n z5 w3_10))))
def fX0_earliestFrom (v_t_size : Int32) (r_t_hour : Nat → Int32) (p1 : Int32) : Option (Int32) :=
  lt_ (v_t_size - (1 : Int32)) (fun z1 => (fX0_earliestFrom_10 p1 r_t_hour FU z1 (-9 : Int32)).bind (fun y6 => some y6.2))
theorem hd_X0_earliestFrom : yX0_earliestFrom.cls = RX0 ∧ yX0_earliestFrom.cls ≠ "java/lang/invoke/MethodHandle" ∧ yX0_earliestFrom.cls ≠ "java/lang/invoke/VarHandle" ∧ (parseMethodDescriptor yX0_earliestFrom.desc).map (fun d => d.parameters.length) = some 1 := by decide +kernel
set_option maxHeartbeats 4000000 in
set_option maxRecDepth 100000 in
theorem k_X0_earliestFrom (l : Launch) (D : va_G) (C : Nat → ClassId) (q_t : Nat) (q_t_deed : Nat) (q_t_hour : Nat) (v_t_size : Int32) (r_t_hour : Nat → Int32) (p1 : Int32) (sz : Nat) (out : Int32) (hf : fX0_earliestFrom v_t_size r_t_hour p1 = some out) : MI l yX0_earliestFrom wsX0_earliestFrom ({ frames := 0, cells := 0, slots := 0, locals := 0 }) D C [.ref q_t, .int p1] [ob q_t 0 [.int v_t_size, .ref q_t_deed, .ref q_t_hour], ia C q_t_hour 6 r_t_hour] [ob q_t 0 [.int v_t_size, .ref q_t_deed, .ref q_t_hour], ia C q_t_hour 6 r_t_hour] sz (out) := by
  unfold fX0_earliestFrom at hf
  refine en_I (by decide) rfl (Nat.le_of_ble_eq_true rfl) ?_
  intro p e s m below meth c A ls H locs hx hb hr hlocks hml hts hown hK hP hD hS hA hl
  have hl : lv_has ls 4 [(0, .ref q_t), (1, .int p1)] := hl
  have inX0 : ∀ w ∈ u_ws RX0 TX0 3, w ∈ wsX0_earliestFrom := fun w h => List.mem_cons_of_mem _ (List.mem_append_right _ h)
  have LP10 : ∀ (Q : State → Prop) (n : Nat) (w3_10 : Int32) (w2_10 : Int32) (w1_10 : Int32) (v_t_size_10 : Int32) (r_t_hour_10 : Nat → Int32) (y_10 : Int32 × Int32), fX0_earliestFrom_10 w1_10 r_t_hour_10 n w3_10 w2_10 = some y_10 → ∀ (H : Heap) (locs : List Loc) (ls : Array Slot), va_P D vwCl [ob q_t 0 [.int v_t_size_10, .ref q_t_deed, .ref q_t_hour], ia C q_t_hour 6 r_t_hour_10] H → va_D A [ob q_t 0 [.int v_t_size_10, .ref q_t_deed, .ref q_t_hour], ia C q_t_hour 6 r_t_hour_10] → va_S A s.heap H locs → lv_has ls 4 [(3, .int w3_10), (2, .int w2_10), (0, .ref q_t), (1, .int w1_10)] → (∀ (H : Heap) (locs : List Loc) (ls : Array Slot), va_P D vwCl [ob q_t 0 [.int v_t_size_10, .ref q_t_deed, .ref q_t_hour], ia C q_t_hour 6 r_t_hour_10] H → va_D A [ob q_t 0 [.int v_t_size_10, .ref q_t_deed, .ref q_t_hour], ia C q_t_hour 6 r_t_hour_10] → va_S A s.heap H locs → lv_has ls 4 [(3, .int y_10.1), (2, .int y_10.2), (0, .ref q_t), (1, .int w1_10)] → W p l e ({ frames := 0, cells := 0, slots := 0, locals := 0 } : Room) s m ([.ref q_t, .int p1] : List Value).toArray below meth c H locs 0 0 Q (F0 m 32 ls [])) → W p l e ({ frames := 0, cells := 0, slots := 0, locals := 0 } : Room) s m ([.ref q_t, .int p1] : List Value).toArray below meth c H locs 0 0 Q (F0 m 10 ls []) := by
    intro Q n
    induction n with
    | zero =>
      intro w3_10 w2_10 w1_10 v_t_size_10 r_t_hour_10 y_10 hf
      rw [fX0_earliestFrom_10] at hf
      cases hf
    | succ n ih =>
      intro w3_10 w2_10 w1_10 v_t_size_10 r_t_hour_10 y_10 hf H locs ls hP hD hS hl KX0
      rw [fX0_earliestFrom_10] at hf
      refine lv_iload_n hx hb dX0_earliestFrom_10 rfl (lv_at hl 0 rfl) ?_
      refine lv_if_lt (tgt := 32) hx hb dX0_earliestFrom_11 (by decide) (fun c2 => ?_) (fun c2 => ?_)
      · have hf := of_pos hf c2
        obtain rfl := Option.some.inj hf
        exact KX0 _ _ _ hP hD hS (lv_sub hl [0, 1, 2, 3] rfl)
      · have hf := of_neg hf c2
        refine lv_aload_n hx hb dX0_earliestFrom_14 rfl (lv_at hl 2 rfl) ?_
        refine va_get (D := D) (ci := 0) (v := .ref q_t_hour) (C := RX0) (T := TX0) (N := 3) hx hb hts inX0 hown hK hP 0 rfl rfl 2 (by decide) (hts (.fieldLink RX0 15 "LentCourage$Heard" "hour" "[I") (List.mem_of_getElem? (i := 2) rfl)) (fun _ h9 => h9) rfl dX0_earliestFrom_15 ?_
        refine lv_iload_n hx hb dX0_earliestFrom_18 rfl (lv_at hl 0 rfl) ?_
        obtain ⟨h3, hf⟩ := of_chk hf
        refine va_iald hx hb hK hP 1 0 rfl rfl h3 dX0_earliestFrom_19 ?_
        refine lv_iload_n hx hb dX0_earliestFrom_20 rfl (lv_at hl 3 rfl) ?_
        refine lv_icmp_lt (tgt := 32) hx hb dX0_earliestFrom_21 (by decide) (fun c4 => ?_) (fun c4 => ?_)
        · have hf := of_pos hf c4
          obtain rfl := Option.some.inj hf
          exact KX0 _ _ _ hP hD hS (lv_sub hl [0, 1, 2, 3] rfl)
        · have hf := of_neg hf c4
          refine lv_iload_n hx hb dX0_earliestFrom_24 rfl (lv_at hl 0 rfl) ?_
          refine lv_istore_n (lv' := [(2, .int w3_10), (3, .int w3_10), (0, .ref q_t), (1, .int w1_10)]) hx hb dX0_earliestFrom_25 rfl hl (by decide) rfl (fun ls hl => ?_)
          obtain ⟨z5, ez5⟩ : ∃ y : Int32, y = (w3_10 + (-1 : Int32)) := ⟨_, rfl⟩
          have hf := of_lt hf ez5
          refine lv_iinc (v := z5) (lv' := [(3, .int z5), (2, .int w3_10), (0, .ref q_t), (1, .int w1_10)]) hx hb dX0_earliestFrom_26 hl (k := 1) rfl (by rw [ez5]; rfl) (by decide) rfl (fun ls hl => ?_)
          refine lv_goto (tgt := 10) hx hb dX0_earliestFrom_29 (by decide) ?_
          exact ih _ _ _ _ _ _ hf H locs ls hP hD hS (lv_sub hl [0, 1, 2, 3] rfl) KX0
  refine lv_bipush (v := (-9 : Int32)) hx hb dX0_earliestFrom_0 (by decide) ?_
  refine lv_istore_n (lv' := [(2, .int (-9 : Int32)), (0, .ref q_t), (1, .int p1)]) hx hb dX0_earliestFrom_2 rfl hl (by decide) rfl (fun ls hl => ?_)
  refine lv_aload_n hx hb dX0_earliestFrom_3 rfl (lv_at hl 1 rfl) ?_
  refine va_get (D := D) (ci := 0) (v := .int v_t_size) (C := RX0) (T := TX0) (N := 3) hx hb hts inX0 hown hK hP 0 rfl rfl 0 (by decide) (hts (.fieldLink RX0 18 "LentCourage$Heard" "size" "I") (List.mem_of_getElem? (i := 1) rfl)) (fun _ h9 => h9) rfl dX0_earliestFrom_4 ?_
  refine lv_iconst (v := (1 : Int32)) hx hb dX0_earliestFrom_7 (by decide) ?_
  refine lv_isub hx hb dX0_earliestFrom_8 ?_
  refine lv_topi (fun z1 ez1 => ?_)
  have hf := of_lt hf ez1
  refine lv_istore_n (lv' := [(3, .int z1), (2, .int (-9 : Int32)), (0, .ref q_t), (1, .int p1)]) hx hb dX0_earliestFrom_9 rfl hl (by decide) rfl (fun ls hl => ?_)
  obtain ⟨y6, hy6, hf⟩ := of_bind hf
  refine LP10 _ FU _ _ _ _ _ y6 hy6 H locs ls hP hD hS (lv_sub hl [0, 1, 2, 3] rfl) (fun H locs ls hP hD hS hl => ?_)
  refine lv_iload_n hx hb dX0_earliestFrom_32 rfl (lv_at hl 1 rfl) ?_
  obtain rfl := Option.some.inj hf
  exact ret_I hx hb hr hlocks hK hP hD hS dX0_earliestFrom_33

def fX0_whoDid (r_t_deed : Nat → Int32) (r_a1_who : Nat → Int32) (p2 : Int32) : Option (Int32) :=
  ((if 0 ≤ p2 then chk (vin p2 6) (chk (vin (r_t_deed p2.toNatClampNeg) 8) (some ((1 : Int32) <<< ((r_a1_who (r_t_deed p2.toNatClampNeg).toNatClampNeg) &&& 31)))) else some (0 : Int32))).bind (fun j1 => some j1)
theorem hd_X0_whoDid : yX0_whoDid.cls = RX0 ∧ yX0_whoDid.cls ≠ "java/lang/invoke/MethodHandle" ∧ yX0_whoDid.cls ≠ "java/lang/invoke/VarHandle" ∧ (parseMethodDescriptor yX0_whoDid.desc).map (fun d => d.parameters.length) = some 2 := by decide +kernel
set_option maxHeartbeats 4000000 in
set_option maxRecDepth 100000 in
theorem k_X0_whoDid (l : Launch) (D : va_G) (C : Nat → ClassId) (q_t : Nat) (q_t_deed : Nat) (q_t_hour : Nat) (q_a1 : Nat) (q_a1_home : Nat) (q_a1_who : Nat) (q_a1_place : Nat) (q_a1_from : Nat) (q_a1_till : Nat) (q_a1_worth : Nat) (v_t_size : Int32) (r_t_deed : Nat → Int32) (v_a1_office : Int32) (v_a1_free : Int32) (v_a1_people : Int32) (v_a1_deeds : Int32) (r_a1_who : Nat → Int32) (p2 : Int32) (sz : Nat) (out : Int32) (hf : fX0_whoDid r_t_deed r_a1_who p2 = some out) : MI l yX0_whoDid wsX0_whoDid ({ frames := 0, cells := 0, slots := 0, locals := 0 }) D C [.ref q_t, .ref q_a1, .int p2] [ob q_t 0 [.int v_t_size, .ref q_t_deed, .ref q_t_hour], ia C q_t_deed 6 r_t_deed, ob q_a1 4 [.int v_a1_office, .int v_a1_free, .int v_a1_people, .int v_a1_deeds, .ref q_a1_home, .ref q_a1_who, .ref q_a1_place, .ref q_a1_from, .ref q_a1_till, .ref q_a1_worth], ia C q_a1_who 8 r_a1_who] [ob q_t 0 [.int v_t_size, .ref q_t_deed, .ref q_t_hour], ia C q_t_deed 6 r_t_deed, ob q_a1 4 [.int v_a1_office, .int v_a1_free, .int v_a1_people, .int v_a1_deeds, .ref q_a1_home, .ref q_a1_who, .ref q_a1_place, .ref q_a1_from, .ref q_a1_till, .ref q_a1_worth], ia C q_a1_who 8 r_a1_who] sz (out) := by
  unfold fX0_whoDid at hf
  refine en_I (by decide) rfl (Nat.le_of_ble_eq_true rfl) ?_
  intro p e s m below meth c A ls H locs hx hb hr hlocks hml hts hown hK hP hD hS hA hl
  have hl : lv_has ls 3 [(0, .ref q_t), (1, .ref q_a1), (2, .int p2)] := hl
  have inX0 : ∀ w ∈ u_ws RX0 TX0 3, w ∈ wsX0_whoDid := fun w h => List.mem_cons_of_mem _ (List.mem_append_right _ h)
  have inX4 : ∀ w ∈ u_ws RX4 TX4 10, w ∈ wsX0_whoDid := fun w h => List.mem_cons_of_mem _ (List.mem_append_left _ (List.mem_append_right _ h))
  refine lv_iload_n hx hb dX0_whoDid_0 rfl (lv_at hl 2 rfl) ?_
  obtain ⟨j1, hrj1, hf⟩ := of_bind hf
  refine jn (fun H L g => ∃ ls, g = F0 m 21 ls [.int j1] ∧ va_P D vwCl [ob q_t 0 [.int v_t_size, .ref q_t_deed, .ref q_t_hour], ia C q_t_deed 6 r_t_deed, ob q_a1 4 [.int v_a1_office, .int v_a1_free, .int v_a1_people, .int v_a1_deeds, .ref q_a1_home, .ref q_a1_who, .ref q_a1_place, .ref q_a1_from, .ref q_a1_till, .ref q_a1_worth], ia C q_a1_who 8 r_a1_who] H ∧ va_D A [ob q_t 0 [.int v_t_size, .ref q_t_deed, .ref q_t_hour], ia C q_t_deed 6 r_t_deed, ob q_a1 4 [.int v_a1_office, .int v_a1_free, .int v_a1_people, .int v_a1_deeds, .ref q_a1_home, .ref q_a1_who, .ref q_a1_place, .ref q_a1_from, .ref q_a1_till, .ref q_a1_worth], ia C q_a1_who 8 r_a1_who] ∧ va_S A s.heap H L ∧ lv_has ls 3 [(0, .ref q_t), (1, .ref q_a1), (2, .int p2)]) (fun H locs g hI => ?_) (fun Jj1 => ?_)
  · obtain ⟨ls, rfl, hP, hD, hS, hl⟩ := hI
    obtain rfl := Option.some.inj hf
    exact ret_I hx hb hr hlocks hK hP hD hS dX0_whoDid_21
  · have hf := hrj1
    refine lv_if_ge (tgt := 8) hx hb dX0_whoDid_1 (by decide) (fun c2 => ?_) (fun c2 => ?_)
    · have hf := of_pos hf c2
      refine lv_iconst (v := (1 : Int32)) hx hb dX0_whoDid_8 (by decide) ?_
      refine lv_aload_n hx hb dX0_whoDid_9 rfl (lv_at hl 1 rfl) ?_
      refine va_get (D := D) (ci := 4) (v := .ref q_a1_who) (C := RX4) (T := TX4) (N := 10) hx hb hts inX4 hown hK hP 2 rfl rfl 5 (by decide) (hts (.fieldLink RX0 53 "LentCourage$Port" "who" "[I") (List.mem_of_getElem? (i := 1) rfl)) (fun _ h9 => h9) rfl dX0_whoDid_10 ?_
      refine lv_aload_n hx hb dX0_whoDid_13 rfl (lv_at hl 0 rfl) ?_
      refine va_get (D := D) (ci := 0) (v := .ref q_t_deed) (C := RX0) (T := TX0) (N := 3) hx hb hts inX0 hown hK hP 0 rfl rfl 1 (by decide) (hts (.fieldLink RX0 9 "LentCourage$Heard" "deed" "[I") (List.mem_of_getElem? (i := 2) rfl)) (fun _ h9 => h9) rfl dX0_whoDid_14 ?_
      refine lv_iload_n hx hb dX0_whoDid_17 rfl (lv_at hl 2 rfl) ?_
      obtain ⟨h3, hf⟩ := of_chk hf
      refine va_iald hx hb hK hP 1 0 rfl rfl h3 dX0_whoDid_18 ?_
      obtain ⟨h4, hf⟩ := of_chk hf
      refine va_iald hx hb hK hP 3 0 rfl rfl h4 dX0_whoDid_19 ?_
      refine lv_ishl hx hb dX0_whoDid_20 ?_
      obtain rfl := Option.some.inj hf
      exact Jj1 _ _ _ ⟨_, rfl, hP, hD, hS, lv_sub hl [0, 1, 2] rfl⟩
    · have hf := of_neg hf c2
      refine lv_iconst (v := (0 : Int32)) hx hb dX0_whoDid_4 (by decide) ?_
      refine lv_goto (tgt := 21) hx hb dX0_whoDid_5 (by decide) ?_
      obtain rfl := Option.some.inj hf
      exact Jj1 _ _ _ ⟨_, rfl, hP, hD, hS, lv_sub hl [0, 1, 2] rfl⟩

def fX0_isNear (r_t_deed : Nat → Int32) (r_t_hour : Nat → Int32) (r_a1_place : Nat → Int32) (p2 : Int32) (p3 : Int32) (p4 : Int32) : Option (Int32) :=
  ((if p2 < 0 then some (1 : Int32) else chk (vin p2 6) (chk (vin (r_t_deed p2.toNatClampNeg) 8) ((if (if 0 ≤ ((r_t_hour p2.toNatClampNeg) - p4) then ((r_t_hour p2.toNatClampNeg) - p4) else 0 - ((r_t_hour p2.toNatClampNeg) - p4)) < (if 0 ≤ ((r_a1_place (r_t_deed p2.toNatClampNeg).toNatClampNeg) - p3) then ((r_a1_place (r_t_deed p2.toNatClampNeg).toNatClampNeg) - p3) else 0 - ((r_a1_place (r_t_deed p2.toNatClampNeg).toNatClampNeg) - p3)) then some (0 : Int32) else some (1 : Int32)))))).bind (fun j1 => chk (okZ j1) (some j1))
theorem hd_X0_isNear : yX0_isNear.cls = RX0 ∧ yX0_isNear.cls ≠ "java/lang/invoke/MethodHandle" ∧ yX0_isNear.cls ≠ "java/lang/invoke/VarHandle" ∧ (parseMethodDescriptor yX0_isNear.desc).map (fun d => d.parameters.length) = some 4 := by decide +kernel
set_option maxHeartbeats 4000000 in
set_option maxRecDepth 100000 in
theorem k_X0_isNear (l : Launch) (D : va_G) (C : Nat → ClassId) (q_t : Nat) (q_t_deed : Nat) (q_t_hour : Nat) (q_a1 : Nat) (q_a1_home : Nat) (q_a1_who : Nat) (q_a1_place : Nat) (q_a1_from : Nat) (q_a1_till : Nat) (q_a1_worth : Nat) (v_t_size : Int32) (r_t_deed : Nat → Int32) (r_t_hour : Nat → Int32) (v_a1_office : Int32) (v_a1_free : Int32) (v_a1_people : Int32) (v_a1_deeds : Int32) (r_a1_place : Nat → Int32) (p2 : Int32) (p3 : Int32) (p4 : Int32) (sz : Nat) (out : Int32) (hf : fX0_isNear r_t_deed r_t_hour r_a1_place p2 p3 p4 = some out) : MI l yX0_isNear wsX0_isNear ({ frames := 1, cells := 0, slots := 0, locals := 21 }) D C [.ref q_t, .ref q_a1, .int p2, .int p3, .int p4] [ob q_t 0 [.int v_t_size, .ref q_t_deed, .ref q_t_hour], ia C q_t_deed 6 r_t_deed, ia C q_t_hour 6 r_t_hour, ob q_a1 4 [.int v_a1_office, .int v_a1_free, .int v_a1_people, .int v_a1_deeds, .ref q_a1_home, .ref q_a1_who, .ref q_a1_place, .ref q_a1_from, .ref q_a1_till, .ref q_a1_worth], ia C q_a1_place 8 r_a1_place] [ob q_t 0 [.int v_t_size, .ref q_t_deed, .ref q_t_hour], ia C q_t_deed 6 r_t_deed, ia C q_t_hour 6 r_t_hour, ob q_a1 4 [.int v_a1_office, .int v_a1_free, .int v_a1_people, .int v_a1_deeds, .ref q_a1_home, .ref q_a1_who, .ref q_a1_place, .ref q_a1_from, .ref q_a1_till, .ref q_a1_worth], ia C q_a1_place 8 r_a1_place] sz (out) := by
  unfold fX0_isNear at hf
  refine en_I (by decide) rfl (Nat.le_of_ble_eq_true rfl) ?_
  intro p e s m below meth c A ls H locs hx hb hr hlocks hml hts hown hK hP hD hS hA hl
  have hl : lv_has ls 5 [(0, .ref q_t), (1, .ref q_a1), (2, .int p2), (3, .int p3), (4, .int p4)] := hl
  have inX0 : ∀ w ∈ u_ws RX0 TX0 3, w ∈ wsX0_isNear := fun w h => List.mem_cons_of_mem _ (List.mem_append_right _ h)
  have inX4 : ∀ w ∈ u_ws RX4 TX4 10, w ∈ wsX0_isNear := fun w h => List.mem_cons_of_mem _ (List.mem_append_left _ (List.mem_append_right _ h))
  refine lv_iload_n hx hb dX0_isNear_0 rfl (lv_at hl 2 rfl) ?_
  obtain ⟨j1, hrj1, hf⟩ := of_bind hf
  refine jn (fun H L g => ∃ ls, g = F0 m 40 ls [.int j1] ∧ va_P D vwCl [ob q_t 0 [.int v_t_size, .ref q_t_deed, .ref q_t_hour], ia C q_t_deed 6 r_t_deed, ia C q_t_hour 6 r_t_hour, ob q_a1 4 [.int v_a1_office, .int v_a1_free, .int v_a1_people, .int v_a1_deeds, .ref q_a1_home, .ref q_a1_who, .ref q_a1_place, .ref q_a1_from, .ref q_a1_till, .ref q_a1_worth], ia C q_a1_place 8 r_a1_place] H ∧ va_D A [ob q_t 0 [.int v_t_size, .ref q_t_deed, .ref q_t_hour], ia C q_t_deed 6 r_t_deed, ia C q_t_hour 6 r_t_hour, ob q_a1 4 [.int v_a1_office, .int v_a1_free, .int v_a1_people, .int v_a1_deeds, .ref q_a1_home, .ref q_a1_who, .ref q_a1_place, .ref q_a1_from, .ref q_a1_till, .ref q_a1_worth], ia C q_a1_place 8 r_a1_place] ∧ va_S A s.heap H L ∧ lv_has ls 5 [(0, .ref q_t), (1, .ref q_a1), (2, .int p2), (3, .int p3), (4, .int p4)]) (fun H locs g hI => ?_) (fun Jj1 => ?_)
  · obtain ⟨ls, rfl, hP, hD, hS, hl⟩ := hI
    obtain ⟨h6, hf⟩ := of_chk hf
    obtain rfl := Option.some.inj hf
    exact ret_Z hx hb hr hlocks h6 hK hP hD hS dX0_isNear_40
  · have hf := hrj1
    refine lv_if_lt (tgt := 35) hx hb dX0_isNear_1 (by decide) (fun c2 => ?_) (fun c2 => ?_)
    · have hf := of_pos hf c2
      refine lv_iconst (v := (1 : Int32)) hx hb dX0_isNear_35 (by decide) ?_
      refine lv_goto (tgt := 40) hx hb dX0_isNear_36 (by decide) ?_
      obtain rfl := Option.some.inj hf
      exact Jj1 _ _ _ ⟨_, rfl, hP, hD, hS, lv_sub hl [0, 1, 2, 3, 4] rfl⟩
    · have hf := of_neg hf c2
      refine lv_aload_n hx hb dX0_isNear_4 rfl (lv_at hl 1 rfl) ?_
      refine va_get (D := D) (ci := 4) (v := .ref q_a1_place) (C := RX4) (T := TX4) (N := 10) hx hb hts inX4 hown hK hP 3 rfl rfl 6 (by decide) (hts (.fieldLink RX0 22 "LentCourage$Port" "place" "[I") (List.mem_of_getElem? (i := 1) rfl)) (fun _ h9 => h9) rfl dX0_isNear_5 ?_
      refine lv_aload_n hx hb dX0_isNear_8 rfl (lv_at hl 0 rfl) ?_
      refine va_get (D := D) (ci := 0) (v := .ref q_t_deed) (C := RX0) (T := TX0) (N := 3) hx hb hts inX0 hown hK hP 0 rfl rfl 1 (by decide) (hts (.fieldLink RX0 9 "LentCourage$Heard" "deed" "[I") (List.mem_of_getElem? (i := 2) rfl)) (fun _ h9 => h9) rfl dX0_isNear_9 ?_
      refine lv_iload_n hx hb dX0_isNear_12 rfl (lv_at hl 2 rfl) ?_
      obtain ⟨h3, hf⟩ := of_chk hf
      refine va_iald hx hb hK hP 1 0 rfl rfl h3 dX0_isNear_13 ?_
      obtain ⟨h4, hf⟩ := of_chk hf
      refine va_iald hx hb hK hP 4 0 rfl rfl h4 dX0_isNear_14 ?_
      refine lv_iload_n hx hb dX0_isNear_15 rfl (lv_at hl 3 rfl) ?_
      refine lv_isub hx hb dX0_isNear_16 ?_
      refine va_mabs hx hb (hml.trans hl.1.symm) hown (hts (.methodLink RX0 27 Lib.Math.abs.name) (List.mem_of_getElem? (i := 3) rfl)) (hts (.static Lib.Math.abs.name) (List.mem_of_getElem? (i := 4) rfl)) (hts (.initialized "java/lang/Math") (List.mem_of_getElem? (i := 5) rfl)) (hts (.code Lib.Math.abs.name Lib.Math.abs.code 1 (some .int)) (List.mem_of_getElem? (i := 6) rfl)) (Nat.le_of_ble_eq_true rfl) (Nat.le_of_ble_eq_true rfl) (Nat.zero_le _) (Nat.zero_le _) dX0_isNear_17 ?_
      refine lv_aload_n hx hb dX0_isNear_20 rfl (lv_at hl 0 rfl) ?_
      refine va_get (D := D) (ci := 0) (v := .ref q_t_hour) (C := RX0) (T := TX0) (N := 3) hx hb hts inX0 hown hK hP 0 rfl rfl 2 (by decide) (hts (.fieldLink RX0 15 "LentCourage$Heard" "hour" "[I") (List.mem_of_getElem? (i := 7) rfl)) (fun _ h9 => h9) rfl dX0_isNear_21 ?_
      refine lv_iload_n hx hb dX0_isNear_24 rfl (lv_at hl 2 rfl) ?_
      refine va_iald hx hb hK hP 2 0 rfl rfl h3 dX0_isNear_25 ?_
      refine lv_iload hx hb dX0_isNear_26 (lv_at hl 4 rfl) ?_
      refine lv_isub hx hb dX0_isNear_28 ?_
      refine va_mabs hx hb (hml.trans hl.1.symm) hown (hts (.methodLink RX0 27 Lib.Math.abs.name) (List.mem_of_getElem? (i := 3) rfl)) (hts (.static Lib.Math.abs.name) (List.mem_of_getElem? (i := 4) rfl)) (hts (.initialized "java/lang/Math") (List.mem_of_getElem? (i := 5) rfl)) (hts (.code Lib.Math.abs.name Lib.Math.abs.code 1 (some .int)) (List.mem_of_getElem? (i := 6) rfl)) (Nat.le_of_ble_eq_true rfl) (Nat.le_of_ble_eq_true rfl) (Nat.zero_le _) (Nat.zero_le _) dX0_isNear_29 ?_
      refine lv_icmp_gt (tgt := 39) hx hb dX0_isNear_32 (by decide) (fun c5 => ?_) (fun c5 => ?_)
      · have hf := of_pos hf c5
        refine lv_iconst (v := (0 : Int32)) hx hb dX0_isNear_39 (by decide) ?_
        obtain rfl := Option.some.inj hf
        exact Jj1 _ _ _ ⟨_, rfl, hP, hD, hS, lv_sub hl [0, 1, 2, 3, 4] rfl⟩
      · have hf := of_neg hf c5
        refine lv_iconst (v := (1 : Int32)) hx hb dX0_isNear_35 (by decide) ?_
        refine lv_goto (tgt := 40) hx hb dX0_isNear_36 (by decide) ?_
        obtain rfl := Option.some.inj hf
        exact Jj1 _ _ _ ⟨_, rfl, hP, hD, hS, lv_sub hl [0, 1, 2, 3, 4] rfl⟩

def fX0_possibleHolders_32 (w4_32 : Int32) (w3_32 : Int32) (w2_32 : Int32) (r_t_deed_32 : Nat → Int32) (r_t_hour_32 : Nat → Int32) (v_a1_people_32 : Int32) (r_a1_home_32 : Nat → Int32) (r_a1_place_32 : Nat → Int32) : Nat → Int32 → Int32 → Option (Int32 × Int32)
  | 0, _, _ => none
  | n + 1, w6_32, w5_32 => (if v_a1_people_32 ≤ w6_32 then some (w6_32, w5_32) else chk (vin w6_32 6) (lt_ (r_a1_home_32 w6_32.toNatClampNeg) (fun z8 => (fX0_isNear r_t_deed_32 r_t_hour_32 r_a1_place_32 w3_32 z8 w2_32).bind (fun o9 => (if o9 = 0 then lt_ (w6_32 + (1 : Int32)) (fun z11 => fX0_possibleHolders_32 w4_32 w3_32 w2_32 r_t_deed_32 r_t_hour_32 v_a1_people_32 r_a1_home_32 r_a1_place_32 n z11 w5_32) else (fX0_isNear r_t_deed_32 r_t_hour_32 r_a1_place_32 w4_32 z8 w2_32).bind (fun o12 => (if o12 = 0 then lt_ (w6_32 + (1 : Int32)) (fun z14 => fX0_possibleHolders_32 w4_32 w3_32 w2_32 r_t_deed_32 r_t_hour_32 v_a1_people_32 r_a1_home_32 r_a1_place_32 n z14 w5_32) else lt_ (w5_32 ||| ((1 : Int32) <<< (w6_32 &&& 31))) (fun z15 => lt_ (w6_32 + (1 : Int32)) (fun z16 => fX0_possibleHolders_32 w4_32 w3_32 w2_32 r_t_deed_32 r_t_hour_32 v_a1_people_32 r_a1_home_32 r_a1_place_32 n z16 z15)))))))))
def fX0_possibleHolders (v_t_size : Int32) (r_t_deed : Nat → Int32) (r_t_hour : Nat → Int32) (v_a1_people : Int32) (r_a1_home : Nat → Int32) (r_a1_who : Nat → Int32) (r_a1_place : Nat → Int32) (p2 : Int32) : Option (Int32) :=
  (fX0_latestBy v_t_size r_t_hour p2).bind (fun o1 => (fX0_earliestFrom v_t_size r_t_hour p2).bind (fun o2 => (fX0_whoDid r_t_deed r_a1_who o1).bind (fun o3 => (fX0_whoDid r_t_deed r_a1_who o2).bind (fun o4 => lt_ (o3 ||| o4) (fun z5 => (fX0_possibleHolders_32 o2 o1 p2 r_t_deed r_t_hour v_a1_people r_a1_home r_a1_place FU (0 : Int32) z5).bind (fun y17 => some y17.2))))))
theorem hd_X0_possibleHolders : yX0_possibleHolders.cls = RX0 ∧ yX0_possibleHolders.cls ≠ "java/lang/invoke/MethodHandle" ∧ yX0_possibleHolders.cls ≠ "java/lang/invoke/VarHandle" ∧ (parseMethodDescriptor yX0_possibleHolders.desc).map (fun d => d.parameters.length) = some 2 := by decide +kernel
set_option maxHeartbeats 4000000 in
set_option maxRecDepth 100000 in
theorem k_X0_possibleHolders (l : Launch) (D : va_G) (C : Nat → ClassId) (q_t : Nat) (q_t_deed : Nat) (q_t_hour : Nat) (q_a1 : Nat) (q_a1_home : Nat) (q_a1_who : Nat) (q_a1_place : Nat) (q_a1_from : Nat) (q_a1_till : Nat) (q_a1_worth : Nat) (v_t_size : Int32) (r_t_deed : Nat → Int32) (r_t_hour : Nat → Int32) (v_a1_office : Int32) (v_a1_free : Int32) (v_a1_people : Int32) (v_a1_deeds : Int32) (r_a1_home : Nat → Int32) (r_a1_who : Nat → Int32) (r_a1_place : Nat → Int32) (p2 : Int32) (sz : Nat) (out : Int32) (hf : fX0_possibleHolders v_t_size r_t_deed r_t_hour v_a1_people r_a1_home r_a1_who r_a1_place p2 = some out) : MI l yX0_possibleHolders wsX0_possibleHolders ({ frames := 2, cells := 0, slots := 0, locals := 45 }) D C [.ref q_t, .ref q_a1, .int p2] [ob q_t 0 [.int v_t_size, .ref q_t_deed, .ref q_t_hour], ia C q_t_deed 6 r_t_deed, ia C q_t_hour 6 r_t_hour, ob q_a1 4 [.int v_a1_office, .int v_a1_free, .int v_a1_people, .int v_a1_deeds, .ref q_a1_home, .ref q_a1_who, .ref q_a1_place, .ref q_a1_from, .ref q_a1_till, .ref q_a1_worth], ia C q_a1_home 6 r_a1_home, ia C q_a1_who 8 r_a1_who, ia C q_a1_place 8 r_a1_place] [ob q_t 0 [.int v_t_size, .ref q_t_deed, .ref q_t_hour], ia C q_t_deed 6 r_t_deed, ia C q_t_hour 6 r_t_hour, ob q_a1 4 [.int v_a1_office, .int v_a1_free, .int v_a1_people, .int v_a1_deeds, .ref q_a1_home, .ref q_a1_who, .ref q_a1_place, .ref q_a1_from, .ref q_a1_till, .ref q_a1_worth], ia C q_a1_home 6 r_a1_home, ia C q_a1_who 8 r_a1_who, ia C q_a1_place 8 r_a1_place] sz (out) := by
  unfold fX0_possibleHolders at hf
  refine en_I (by decide) rfl (Nat.le_of_ble_eq_true rfl) ?_
  intro p e s m below meth c A ls H locs hx hb hr hlocks hml hts hown hK hP hD hS hA hl
  have hl : lv_has ls 8 [(0, .ref q_t), (1, .ref q_a1), (2, .int p2)] := hl
  have inX4 : ∀ w ∈ u_ws RX4 TX4 10, w ∈ wsX0_possibleHolders := fun w h => List.mem_cons_of_mem _ (List.mem_append_left _ (List.mem_append_right _ h))
  have LP32 : ∀ (Q : State → Prop) (n : Nat) (w6_32 : Int32) (w5_32 : Int32) (w4_32 : Int32) (w3_32 : Int32) (w2_32 : Int32) (v_t_size_32 : Int32) (r_t_deed_32 : Nat → Int32) (r_t_hour_32 : Nat → Int32) (v_a1_office_32 : Int32) (v_a1_free_32 : Int32) (v_a1_people_32 : Int32) (v_a1_deeds_32 : Int32) (r_a1_home_32 : Nat → Int32) (r_a1_who_32 : Nat → Int32) (r_a1_place_32 : Nat → Int32) (y_32 : Int32 × Int32), fX0_possibleHolders_32 w4_32 w3_32 w2_32 r_t_deed_32 r_t_hour_32 v_a1_people_32 r_a1_home_32 r_a1_place_32 n w6_32 w5_32 = some y_32 → ∀ (H : Heap) (locs : List Loc) (ls : Array Slot), va_P D vwCl [ob q_t 0 [.int v_t_size_32, .ref q_t_deed, .ref q_t_hour], ia C q_t_deed 6 r_t_deed_32, ia C q_t_hour 6 r_t_hour_32, ob q_a1 4 [.int v_a1_office_32, .int v_a1_free_32, .int v_a1_people_32, .int v_a1_deeds_32, .ref q_a1_home, .ref q_a1_who, .ref q_a1_place, .ref q_a1_from, .ref q_a1_till, .ref q_a1_worth], ia C q_a1_home 6 r_a1_home_32, ia C q_a1_who 8 r_a1_who_32, ia C q_a1_place 8 r_a1_place_32] H → va_D A [ob q_t 0 [.int v_t_size_32, .ref q_t_deed, .ref q_t_hour], ia C q_t_deed 6 r_t_deed_32, ia C q_t_hour 6 r_t_hour_32, ob q_a1 4 [.int v_a1_office_32, .int v_a1_free_32, .int v_a1_people_32, .int v_a1_deeds_32, .ref q_a1_home, .ref q_a1_who, .ref q_a1_place, .ref q_a1_from, .ref q_a1_till, .ref q_a1_worth], ia C q_a1_home 6 r_a1_home_32, ia C q_a1_who 8 r_a1_who_32, ia C q_a1_place 8 r_a1_place_32] → va_S A s.heap H locs → lv_has ls 8 [(6, .int w6_32), (5, .int w5_32), (4, .int w4_32), (3, .int w3_32), (0, .ref q_t), (1, .ref q_a1), (2, .int w2_32)] → (∀ (H : Heap) (locs : List Loc) (ls : Array Slot), va_P D vwCl [ob q_t 0 [.int v_t_size_32, .ref q_t_deed, .ref q_t_hour], ia C q_t_deed 6 r_t_deed_32, ia C q_t_hour 6 r_t_hour_32, ob q_a1 4 [.int v_a1_office_32, .int v_a1_free_32, .int v_a1_people_32, .int v_a1_deeds_32, .ref q_a1_home, .ref q_a1_who, .ref q_a1_place, .ref q_a1_from, .ref q_a1_till, .ref q_a1_worth], ia C q_a1_home 6 r_a1_home_32, ia C q_a1_who 8 r_a1_who_32, ia C q_a1_place 8 r_a1_place_32] H → va_D A [ob q_t 0 [.int v_t_size_32, .ref q_t_deed, .ref q_t_hour], ia C q_t_deed 6 r_t_deed_32, ia C q_t_hour 6 r_t_hour_32, ob q_a1 4 [.int v_a1_office_32, .int v_a1_free_32, .int v_a1_people_32, .int v_a1_deeds_32, .ref q_a1_home, .ref q_a1_who, .ref q_a1_place, .ref q_a1_from, .ref q_a1_till, .ref q_a1_worth], ia C q_a1_home 6 r_a1_home_32, ia C q_a1_who 8 r_a1_who_32, ia C q_a1_place 8 r_a1_place_32] → va_S A s.heap H locs → lv_has ls 8 [(6, .int y_32.1), (5, .int y_32.2), (4, .int w4_32), (3, .int w3_32), (0, .ref q_t), (1, .ref q_a1), (2, .int w2_32)] → W p l e ({ frames := 2, cells := 0, slots := 0, locals := 45 } : Room) s m ([.ref q_t, .ref q_a1, .int p2] : List Value).toArray below meth c H locs 0 0 Q (F0 m 90 ls [])) → W p l e ({ frames := 2, cells := 0, slots := 0, locals := 45 } : Room) s m ([.ref q_t, .ref q_a1, .int p2] : List Value).toArray below meth c H locs 0 0 Q (F0 m 32 ls []) := by
    intro Q n
    induction n with
    | zero =>
      intro w6_32 w5_32 w4_32 w3_32 w2_32 v_t_size_32 r_t_deed_32 r_t_hour_32 v_a1_office_32 v_a1_free_32 v_a1_people_32 v_a1_deeds_32 r_a1_home_32 r_a1_who_32 r_a1_place_32 y_32 hf
      rw [fX0_possibleHolders_32] at hf
      cases hf
    | succ n ih =>
      intro w6_32 w5_32 w4_32 w3_32 w2_32 v_t_size_32 r_t_deed_32 r_t_hour_32 v_a1_office_32 v_a1_free_32 v_a1_people_32 v_a1_deeds_32 r_a1_home_32 r_a1_who_32 r_a1_place_32 y_32 hf H locs ls hP hD hS hl KX0
      rw [fX0_possibleHolders_32] at hf
      refine lv_iload hx hb dX0_possibleHolders_32 (lv_at hl 0 rfl) ?_
      refine lv_aload_n hx hb dX0_possibleHolders_34 rfl (lv_at hl 5 rfl) ?_
      refine va_get (D := D) (ci := 4) (v := .int v_a1_people_32) (C := RX4) (T := TX4) (N := 10) hx hb hts inX4 hown hK hP 3 rfl rfl 2 (by decide) (hts (.fieldLink RX0 43 "LentCourage$Port" "people" "I") (List.mem_of_getElem? (i := 1) rfl)) (fun _ h9 => h9) rfl dX0_possibleHolders_35 ?_
      refine lv_icmp_ge (tgt := 90) hx hb dX0_possibleHolders_38 (by decide) (fun c6 => ?_) (fun c6 => ?_)
      · have hf := of_pos hf c6
        obtain rfl := Option.some.inj hf
        exact KX0 _ _ _ hP hD hS (lv_sub hl [0, 1, 2, 3, 4, 5, 6] rfl)
      · have hf := of_neg hf c6
        refine lv_aload_n hx hb dX0_possibleHolders_41 rfl (lv_at hl 5 rfl) ?_
        refine va_get (D := D) (ci := 4) (v := .ref q_a1_home) (C := RX4) (T := TX4) (N := 10) hx hb hts inX4 hown hK hP 3 rfl rfl 4 (by decide) (hts (.fieldLink RX0 46 "LentCourage$Port" "home" "[I") (List.mem_of_getElem? (i := 2) rfl)) (fun _ h9 => h9) rfl dX0_possibleHolders_42 ?_
        refine lv_iload hx hb dX0_possibleHolders_45 (lv_at hl 0 rfl) ?_
        obtain ⟨h7, hf⟩ := of_chk hf
        refine va_iald hx hb hK hP 4 0 rfl rfl h7 dX0_possibleHolders_47 ?_
        refine lv_topi (fun z8 ez8 => ?_)
        have hf := of_lt hf ez8
        refine lv_istore (lv' := [(7, .int z8), (6, .int w6_32), (5, .int w5_32), (4, .int w4_32), (3, .int w3_32), (0, .ref q_t), (1, .ref q_a1), (2, .int w2_32)]) hx hb dX0_possibleHolders_48 hl (by decide) rfl (fun ls hl => ?_)
        refine lv_aload_n hx hb dX0_possibleHolders_50 rfl (lv_at hl 5 rfl) ?_
        refine lv_aload_n hx hb dX0_possibleHolders_51 rfl (lv_at hl 6 rfl) ?_
        refine lv_iload_n hx hb dX0_possibleHolders_52 rfl (lv_at hl 4 rfl) ?_
        refine lv_iload hx hb dX0_possibleHolders_53 (lv_at hl 0 rfl) ?_
        refine lv_iload_n hx hb dX0_possibleHolders_55 rfl (lv_at hl 7 rfl) ?_
        obtain ⟨o9, ho9, hf⟩ := of_bind hf
        refine c_I (wr := [ia C q_a1_home 6 r_a1_home_32, ia C q_a1_who 8 r_a1_who_32]) (W2 := [ob q_t 0 [.int v_t_size_32, .ref q_t_deed, .ref q_t_hour], ia C q_t_deed 6 r_t_deed_32, ia C q_t_hour 6 r_t_hour_32, ob q_a1 4 [.int v_a1_office_32, .int v_a1_free_32, .int v_a1_people_32, .int v_a1_deeds_32, .ref q_a1_home, .ref q_a1_who, .ref q_a1_place, .ref q_a1_from, .ref q_a1_till, .ref q_a1_worth], ia C q_a1_home 6 r_a1_home_32, ia C q_a1_who 8 r_a1_who_32, ia C q_a1_place 8 r_a1_place_32]) (cV_run ⟨hx, hb, hml, hown, hts⟩ (k_X0_isNear l D C q_t q_t_deed q_t_hour q_a1 q_a1_home q_a1_who q_a1_place q_a1_from q_a1_till q_a1_worth v_t_size_32 r_t_deed_32 r_t_hour_32 v_a1_office_32 v_a1_free_32 v_a1_people_32 v_a1_deeds_32 r_a1_place_32 w3_32 z8 w2_32 H.size o9 ho9) gX0_possibleHolders_X0_isNear rfl ⟨rfl, rfl⟩ hd_X0_isNear ⟨(Nat.le_of_ble_eq_true rfl), (Nat.le_of_ble_eq_true rfl)⟩ rfl hK (cut_in hK hP hD [0, 1, 2, 3, 6] rfl (by decide)) (ci := 0) rfl rfl rfl hl.1 rfl (Nat.le_of_ble_eq_true rfl) dX0_possibleHolders_56 ⟨Nat.zero_le _, Nat.zero_le _⟩) hP hD hS hA [0, 1, 2, 3, 6] [4, 5] [2, 3, 4, 5, 0, 1, 6] rfl rfl (by decide) (by decide) rfl (by decide) (fun H locs hP hD hS => ?_)
        have hP : va_P D vwCl [ob q_t 0 [.int v_t_size_32, .ref q_t_deed, .ref q_t_hour], ia C q_t_deed 6 r_t_deed_32, ia C q_t_hour 6 r_t_hour_32, ob q_a1 4 [.int v_a1_office_32, .int v_a1_free_32, .int v_a1_people_32, .int v_a1_deeds_32, .ref q_a1_home, .ref q_a1_who, .ref q_a1_place, .ref q_a1_from, .ref q_a1_till, .ref q_a1_worth], ia C q_a1_home 6 r_a1_home_32, ia C q_a1_who 8 r_a1_who_32, ia C q_a1_place 8 r_a1_place_32] H := hP
        have hD : va_D A [ob q_t 0 [.int v_t_size_32, .ref q_t_deed, .ref q_t_hour], ia C q_t_deed 6 r_t_deed_32, ia C q_t_hour 6 r_t_hour_32, ob q_a1 4 [.int v_a1_office_32, .int v_a1_free_32, .int v_a1_people_32, .int v_a1_deeds_32, .ref q_a1_home, .ref q_a1_who, .ref q_a1_place, .ref q_a1_from, .ref q_a1_till, .ref q_a1_worth], ia C q_a1_home 6 r_a1_home_32, ia C q_a1_who 8 r_a1_who_32, ia C q_a1_place 8 r_a1_place_32] := hD
        refine lv_if_eq (tgt := 84) hx hb dX0_possibleHolders_59 (by decide) (fun c10 => ?_) (fun c10 => ?_)
        · have hf := of_pos hf c10
          obtain ⟨z11, ez11⟩ : ∃ y : Int32, y = (w6_32 + (1 : Int32)) := ⟨_, rfl⟩
          have hf := of_lt hf ez11
          refine lv_iinc (v := z11) (lv' := [(6, .int z11), (7, .int z8), (5, .int w5_32), (4, .int w4_32), (3, .int w3_32), (0, .ref q_t), (1, .ref q_a1), (2, .int w2_32)]) hx hb dX0_possibleHolders_84 hl (k := 1) rfl (by rw [ez11]; rfl) (by decide) rfl (fun ls hl => ?_)
          refine lv_goto (tgt := 32) hx hb dX0_possibleHolders_87 (by decide) ?_
          exact ih _ _ _ _ _ _ _ _ _ _ _ _ _ _ _ _ hf H locs ls hP hD hS (lv_sub hl [0, 2, 3, 4, 5, 6, 7] rfl) KX0
        · have hf := of_neg hf c10
          refine lv_aload_n hx hb dX0_possibleHolders_62 rfl (lv_at hl 5 rfl) ?_
          refine lv_aload_n hx hb dX0_possibleHolders_63 rfl (lv_at hl 6 rfl) ?_
          refine lv_iload hx hb dX0_possibleHolders_64 (lv_at hl 3 rfl) ?_
          refine lv_iload hx hb dX0_possibleHolders_66 (lv_at hl 0 rfl) ?_
          refine lv_iload_n hx hb dX0_possibleHolders_68 rfl (lv_at hl 7 rfl) ?_
          obtain ⟨o12, ho12, hf⟩ := of_bind hf
          refine c_I (wr := [ia C q_a1_home 6 r_a1_home_32, ia C q_a1_who 8 r_a1_who_32]) (W2 := [ob q_t 0 [.int v_t_size_32, .ref q_t_deed, .ref q_t_hour], ia C q_t_deed 6 r_t_deed_32, ia C q_t_hour 6 r_t_hour_32, ob q_a1 4 [.int v_a1_office_32, .int v_a1_free_32, .int v_a1_people_32, .int v_a1_deeds_32, .ref q_a1_home, .ref q_a1_who, .ref q_a1_place, .ref q_a1_from, .ref q_a1_till, .ref q_a1_worth], ia C q_a1_home 6 r_a1_home_32, ia C q_a1_who 8 r_a1_who_32, ia C q_a1_place 8 r_a1_place_32]) (cV_run ⟨hx, hb, hml, hown, hts⟩ (k_X0_isNear l D C q_t q_t_deed q_t_hour q_a1 q_a1_home q_a1_who q_a1_place q_a1_from q_a1_till q_a1_worth v_t_size_32 r_t_deed_32 r_t_hour_32 v_a1_office_32 v_a1_free_32 v_a1_people_32 v_a1_deeds_32 r_a1_place_32 w4_32 z8 w2_32 H.size o12 ho12) gX0_possibleHolders_X0_isNear rfl ⟨rfl, rfl⟩ hd_X0_isNear ⟨(Nat.le_of_ble_eq_true rfl), (Nat.le_of_ble_eq_true rfl)⟩ rfl hK (cut_in hK hP hD [0, 1, 2, 3, 6] rfl (by decide)) (ci := 0) rfl rfl rfl hl.1 rfl (Nat.le_of_ble_eq_true rfl) dX0_possibleHolders_69 ⟨Nat.zero_le _, Nat.zero_le _⟩) hP hD hS hA [0, 1, 2, 3, 6] [4, 5] [2, 3, 4, 5, 0, 1, 6] rfl rfl (by decide) (by decide) rfl (by decide) (fun H locs hP hD hS => ?_)
          have hP : va_P D vwCl [ob q_t 0 [.int v_t_size_32, .ref q_t_deed, .ref q_t_hour], ia C q_t_deed 6 r_t_deed_32, ia C q_t_hour 6 r_t_hour_32, ob q_a1 4 [.int v_a1_office_32, .int v_a1_free_32, .int v_a1_people_32, .int v_a1_deeds_32, .ref q_a1_home, .ref q_a1_who, .ref q_a1_place, .ref q_a1_from, .ref q_a1_till, .ref q_a1_worth], ia C q_a1_home 6 r_a1_home_32, ia C q_a1_who 8 r_a1_who_32, ia C q_a1_place 8 r_a1_place_32] H := hP
          have hD : va_D A [ob q_t 0 [.int v_t_size_32, .ref q_t_deed, .ref q_t_hour], ia C q_t_deed 6 r_t_deed_32, ia C q_t_hour 6 r_t_hour_32, ob q_a1 4 [.int v_a1_office_32, .int v_a1_free_32, .int v_a1_people_32, .int v_a1_deeds_32, .ref q_a1_home, .ref q_a1_who, .ref q_a1_place, .ref q_a1_from, .ref q_a1_till, .ref q_a1_worth], ia C q_a1_home 6 r_a1_home_32, ia C q_a1_who 8 r_a1_who_32, ia C q_a1_place 8 r_a1_place_32] := hD
          refine lv_if_eq (tgt := 84) hx hb dX0_possibleHolders_72 (by decide) (fun c13 => ?_) (fun c13 => ?_)
          · have hf := of_pos hf c13
            obtain ⟨z14, ez14⟩ : ∃ y : Int32, y = (w6_32 + (1 : Int32)) := ⟨_, rfl⟩
            have hf := of_lt hf ez14
            refine lv_iinc (v := z14) (lv' := [(6, .int z14), (7, .int z8), (5, .int w5_32), (4, .int w4_32), (3, .int w3_32), (0, .ref q_t), (1, .ref q_a1), (2, .int w2_32)]) hx hb dX0_possibleHolders_84 hl (k := 1) rfl (by rw [ez14]; rfl) (by decide) rfl (fun ls hl => ?_)
            refine lv_goto (tgt := 32) hx hb dX0_possibleHolders_87 (by decide) ?_
            exact ih _ _ _ _ _ _ _ _ _ _ _ _ _ _ _ _ hf H locs ls hP hD hS (lv_sub hl [0, 2, 3, 4, 5, 6, 7] rfl) KX0
          · have hf := of_neg hf c13
            refine lv_iload hx hb dX0_possibleHolders_75 (lv_at hl 2 rfl) ?_
            refine lv_iconst (v := (1 : Int32)) hx hb dX0_possibleHolders_77 (by decide) ?_
            refine lv_iload hx hb dX0_possibleHolders_78 (lv_at hl 1 rfl) ?_
            refine lv_ishl hx hb dX0_possibleHolders_80 ?_
            refine lv_ior hx hb dX0_possibleHolders_81 ?_
            refine lv_topi (fun z15 ez15 => ?_)
            have hf := of_lt hf ez15
            refine lv_istore (lv' := [(5, .int z15), (7, .int z8), (6, .int w6_32), (4, .int w4_32), (3, .int w3_32), (0, .ref q_t), (1, .ref q_a1), (2, .int w2_32)]) hx hb dX0_possibleHolders_82 hl (by decide) rfl (fun ls hl => ?_)
            obtain ⟨z16, ez16⟩ : ∃ y : Int32, y = (w6_32 + (1 : Int32)) := ⟨_, rfl⟩
            have hf := of_lt hf ez16
            refine lv_iinc (v := z16) (lv' := [(6, .int z16), (5, .int z15), (7, .int z8), (4, .int w4_32), (3, .int w3_32), (0, .ref q_t), (1, .ref q_a1), (2, .int w2_32)]) hx hb dX0_possibleHolders_84 hl (k := 2) rfl (by rw [ez16]; rfl) (by decide) rfl (fun ls hl => ?_)
            refine lv_goto (tgt := 32) hx hb dX0_possibleHolders_87 (by decide) ?_
            exact ih _ _ _ _ _ _ _ _ _ _ _ _ _ _ _ _ hf H locs ls hP hD hS (lv_sub hl [0, 1, 3, 4, 5, 6, 7] rfl) KX0
  refine lv_aload_n hx hb dX0_possibleHolders_0 rfl (lv_at hl 0 rfl) ?_
  refine lv_iload_n hx hb dX0_possibleHolders_1 rfl (lv_at hl 2 rfl) ?_
  obtain ⟨o1, ho1, hf⟩ := of_bind hf
  refine c_I (wr := [ia C q_t_deed 6 r_t_deed, ob q_a1 4 [.int v_a1_office, .int v_a1_free, .int v_a1_people, .int v_a1_deeds, .ref q_a1_home, .ref q_a1_who, .ref q_a1_place, .ref q_a1_from, .ref q_a1_till, .ref q_a1_worth], ia C q_a1_home 6 r_a1_home, ia C q_a1_who 8 r_a1_who, ia C q_a1_place 8 r_a1_place]) (W2 := [ob q_t 0 [.int v_t_size, .ref q_t_deed, .ref q_t_hour], ia C q_t_deed 6 r_t_deed, ia C q_t_hour 6 r_t_hour, ob q_a1 4 [.int v_a1_office, .int v_a1_free, .int v_a1_people, .int v_a1_deeds, .ref q_a1_home, .ref q_a1_who, .ref q_a1_place, .ref q_a1_from, .ref q_a1_till, .ref q_a1_worth], ia C q_a1_home 6 r_a1_home, ia C q_a1_who 8 r_a1_who, ia C q_a1_place 8 r_a1_place]) (cV_run ⟨hx, hb, hml, hown, hts⟩ (k_X0_latestBy l D C q_t q_t_deed q_t_hour v_t_size r_t_hour p2 H.size o1 ho1) gX0_possibleHolders_X0_latestBy rfl ⟨rfl, rfl⟩ hd_X0_latestBy ⟨(Nat.le_of_ble_eq_true rfl), (Nat.le_of_ble_eq_true rfl)⟩ rfl hK (cut_in hK hP hD [0, 2] rfl (by decide)) (ci := 0) rfl rfl rfl hl.1 rfl (Nat.le_of_ble_eq_true rfl) dX0_possibleHolders_2 ⟨Nat.zero_le _, Nat.zero_le _⟩) hP hD hS hA [0, 2] [1, 3, 4, 5, 6] [5, 0, 6, 1, 2, 3, 4] rfl rfl (by decide) (by decide) rfl (by decide) (fun H locs hP hD hS => ?_)
  have hP : va_P D vwCl [ob q_t 0 [.int v_t_size, .ref q_t_deed, .ref q_t_hour], ia C q_t_deed 6 r_t_deed, ia C q_t_hour 6 r_t_hour, ob q_a1 4 [.int v_a1_office, .int v_a1_free, .int v_a1_people, .int v_a1_deeds, .ref q_a1_home, .ref q_a1_who, .ref q_a1_place, .ref q_a1_from, .ref q_a1_till, .ref q_a1_worth], ia C q_a1_home 6 r_a1_home, ia C q_a1_who 8 r_a1_who, ia C q_a1_place 8 r_a1_place] H := hP
  have hD : va_D A [ob q_t 0 [.int v_t_size, .ref q_t_deed, .ref q_t_hour], ia C q_t_deed 6 r_t_deed, ia C q_t_hour 6 r_t_hour, ob q_a1 4 [.int v_a1_office, .int v_a1_free, .int v_a1_people, .int v_a1_deeds, .ref q_a1_home, .ref q_a1_who, .ref q_a1_place, .ref q_a1_from, .ref q_a1_till, .ref q_a1_worth], ia C q_a1_home 6 r_a1_home, ia C q_a1_who 8 r_a1_who, ia C q_a1_place 8 r_a1_place] := hD
  refine lv_istore_n (lv' := [(3, .int o1), (0, .ref q_t), (1, .ref q_a1), (2, .int p2)]) hx hb dX0_possibleHolders_5 rfl hl (by decide) rfl (fun ls hl => ?_)
  refine lv_aload_n hx hb dX0_possibleHolders_6 rfl (lv_at hl 1 rfl) ?_
  refine lv_iload_n hx hb dX0_possibleHolders_7 rfl (lv_at hl 3 rfl) ?_
  obtain ⟨o2, ho2, hf⟩ := of_bind hf
  refine c_I (wr := [ia C q_t_deed 6 r_t_deed, ob q_a1 4 [.int v_a1_office, .int v_a1_free, .int v_a1_people, .int v_a1_deeds, .ref q_a1_home, .ref q_a1_who, .ref q_a1_place, .ref q_a1_from, .ref q_a1_till, .ref q_a1_worth], ia C q_a1_home 6 r_a1_home, ia C q_a1_who 8 r_a1_who, ia C q_a1_place 8 r_a1_place]) (W2 := [ob q_t 0 [.int v_t_size, .ref q_t_deed, .ref q_t_hour], ia C q_t_deed 6 r_t_deed, ia C q_t_hour 6 r_t_hour, ob q_a1 4 [.int v_a1_office, .int v_a1_free, .int v_a1_people, .int v_a1_deeds, .ref q_a1_home, .ref q_a1_who, .ref q_a1_place, .ref q_a1_from, .ref q_a1_till, .ref q_a1_worth], ia C q_a1_home 6 r_a1_home, ia C q_a1_who 8 r_a1_who, ia C q_a1_place 8 r_a1_place]) (cV_run ⟨hx, hb, hml, hown, hts⟩ (k_X0_earliestFrom l D C q_t q_t_deed q_t_hour v_t_size r_t_hour p2 H.size o2 ho2) gX0_possibleHolders_X0_earliestFrom rfl ⟨rfl, rfl⟩ hd_X0_earliestFrom ⟨(Nat.le_of_ble_eq_true rfl), (Nat.le_of_ble_eq_true rfl)⟩ rfl hK (cut_in hK hP hD [0, 2] rfl (by decide)) (ci := 0) rfl rfl rfl hl.1 rfl (Nat.le_of_ble_eq_true rfl) dX0_possibleHolders_8 ⟨Nat.zero_le _, Nat.zero_le _⟩) hP hD hS hA [0, 2] [1, 3, 4, 5, 6] [5, 0, 6, 1, 2, 3, 4] rfl rfl (by decide) (by decide) rfl (by decide) (fun H locs hP hD hS => ?_)
  have hP : va_P D vwCl [ob q_t 0 [.int v_t_size, .ref q_t_deed, .ref q_t_hour], ia C q_t_deed 6 r_t_deed, ia C q_t_hour 6 r_t_hour, ob q_a1 4 [.int v_a1_office, .int v_a1_free, .int v_a1_people, .int v_a1_deeds, .ref q_a1_home, .ref q_a1_who, .ref q_a1_place, .ref q_a1_from, .ref q_a1_till, .ref q_a1_worth], ia C q_a1_home 6 r_a1_home, ia C q_a1_who 8 r_a1_who, ia C q_a1_place 8 r_a1_place] H := hP
  have hD : va_D A [ob q_t 0 [.int v_t_size, .ref q_t_deed, .ref q_t_hour], ia C q_t_deed 6 r_t_deed, ia C q_t_hour 6 r_t_hour, ob q_a1 4 [.int v_a1_office, .int v_a1_free, .int v_a1_people, .int v_a1_deeds, .ref q_a1_home, .ref q_a1_who, .ref q_a1_place, .ref q_a1_from, .ref q_a1_till, .ref q_a1_worth], ia C q_a1_home 6 r_a1_home, ia C q_a1_who 8 r_a1_who, ia C q_a1_place 8 r_a1_place] := hD
  refine lv_istore (lv' := [(4, .int o2), (3, .int o1), (0, .ref q_t), (1, .ref q_a1), (2, .int p2)]) hx hb dX0_possibleHolders_11 hl (by decide) rfl (fun ls hl => ?_)
  refine lv_aload_n hx hb dX0_possibleHolders_13 rfl (lv_at hl 2 rfl) ?_
  refine lv_aload_n hx hb dX0_possibleHolders_14 rfl (lv_at hl 3 rfl) ?_
  refine lv_iload_n hx hb dX0_possibleHolders_15 rfl (lv_at hl 1 rfl) ?_
  obtain ⟨o3, ho3, hf⟩ := of_bind hf
  refine c_I (wr := [ia C q_t_hour 6 r_t_hour, ia C q_a1_home 6 r_a1_home, ia C q_a1_place 8 r_a1_place]) (W2 := [ob q_t 0 [.int v_t_size, .ref q_t_deed, .ref q_t_hour], ia C q_t_deed 6 r_t_deed, ia C q_t_hour 6 r_t_hour, ob q_a1 4 [.int v_a1_office, .int v_a1_free, .int v_a1_people, .int v_a1_deeds, .ref q_a1_home, .ref q_a1_who, .ref q_a1_place, .ref q_a1_from, .ref q_a1_till, .ref q_a1_worth], ia C q_a1_home 6 r_a1_home, ia C q_a1_who 8 r_a1_who, ia C q_a1_place 8 r_a1_place]) (cV_run ⟨hx, hb, hml, hown, hts⟩ (k_X0_whoDid l D C q_t q_t_deed q_t_hour q_a1 q_a1_home q_a1_who q_a1_place q_a1_from q_a1_till q_a1_worth v_t_size r_t_deed v_a1_office v_a1_free v_a1_people v_a1_deeds r_a1_who o1 H.size o3 ho3) gX0_possibleHolders_X0_whoDid rfl ⟨rfl, rfl⟩ hd_X0_whoDid ⟨(Nat.le_of_ble_eq_true rfl), (Nat.le_of_ble_eq_true rfl)⟩ rfl hK (cut_in hK hP hD [0, 1, 3, 5] rfl (by decide)) (ci := 0) rfl rfl rfl hl.1 rfl (Nat.le_of_ble_eq_true rfl) dX0_possibleHolders_16 ⟨Nat.zero_le _, Nat.zero_le _⟩) hP hD hS hA [0, 1, 3, 5] [2, 4, 6] [3, 4, 0, 5, 1, 6, 2] rfl rfl (by decide) (by decide) rfl (by decide) (fun H locs hP hD hS => ?_)
  have hP : va_P D vwCl [ob q_t 0 [.int v_t_size, .ref q_t_deed, .ref q_t_hour], ia C q_t_deed 6 r_t_deed, ia C q_t_hour 6 r_t_hour, ob q_a1 4 [.int v_a1_office, .int v_a1_free, .int v_a1_people, .int v_a1_deeds, .ref q_a1_home, .ref q_a1_who, .ref q_a1_place, .ref q_a1_from, .ref q_a1_till, .ref q_a1_worth], ia C q_a1_home 6 r_a1_home, ia C q_a1_who 8 r_a1_who, ia C q_a1_place 8 r_a1_place] H := hP
  have hD : va_D A [ob q_t 0 [.int v_t_size, .ref q_t_deed, .ref q_t_hour], ia C q_t_deed 6 r_t_deed, ia C q_t_hour 6 r_t_hour, ob q_a1 4 [.int v_a1_office, .int v_a1_free, .int v_a1_people, .int v_a1_deeds, .ref q_a1_home, .ref q_a1_who, .ref q_a1_place, .ref q_a1_from, .ref q_a1_till, .ref q_a1_worth], ia C q_a1_home 6 r_a1_home, ia C q_a1_who 8 r_a1_who, ia C q_a1_place 8 r_a1_place] := hD
  refine lv_aload_n hx hb dX0_possibleHolders_19 rfl (lv_at hl 2 rfl) ?_
  refine lv_aload_n hx hb dX0_possibleHolders_20 rfl (lv_at hl 3 rfl) ?_
  refine lv_iload hx hb dX0_possibleHolders_21 (lv_at hl 0 rfl) ?_
  obtain ⟨o4, ho4, hf⟩ := of_bind hf
  refine c_I (wr := [ia C q_t_hour 6 r_t_hour, ia C q_a1_home 6 r_a1_home, ia C q_a1_place 8 r_a1_place]) (W2 := [ob q_t 0 [.int v_t_size, .ref q_t_deed, .ref q_t_hour], ia C q_t_deed 6 r_t_deed, ia C q_t_hour 6 r_t_hour, ob q_a1 4 [.int v_a1_office, .int v_a1_free, .int v_a1_people, .int v_a1_deeds, .ref q_a1_home, .ref q_a1_who, .ref q_a1_place, .ref q_a1_from, .ref q_a1_till, .ref q_a1_worth], ia C q_a1_home 6 r_a1_home, ia C q_a1_who 8 r_a1_who, ia C q_a1_place 8 r_a1_place]) (cV_run ⟨hx, hb, hml, hown, hts⟩ (k_X0_whoDid l D C q_t q_t_deed q_t_hour q_a1 q_a1_home q_a1_who q_a1_place q_a1_from q_a1_till q_a1_worth v_t_size r_t_deed v_a1_office v_a1_free v_a1_people v_a1_deeds r_a1_who o2 H.size o4 ho4) gX0_possibleHolders_X0_whoDid rfl ⟨rfl, rfl⟩ hd_X0_whoDid ⟨(Nat.le_of_ble_eq_true rfl), (Nat.le_of_ble_eq_true rfl)⟩ rfl hK (cut_in hK hP hD [0, 1, 3, 5] rfl (by decide)) (ci := 0) rfl rfl rfl hl.1 rfl (Nat.le_of_ble_eq_true rfl) dX0_possibleHolders_23 ⟨Nat.zero_le _, Nat.zero_le _⟩) hP hD hS hA [0, 1, 3, 5] [2, 4, 6] [3, 4, 0, 5, 1, 6, 2] rfl rfl (by decide) (by decide) rfl (by decide) (fun H locs hP hD hS => ?_)
  have hP : va_P D vwCl [ob q_t 0 [.int v_t_size, .ref q_t_deed, .ref q_t_hour], ia C q_t_deed 6 r_t_deed, ia C q_t_hour 6 r_t_hour, ob q_a1 4 [.int v_a1_office, .int v_a1_free, .int v_a1_people, .int v_a1_deeds, .ref q_a1_home, .ref q_a1_who, .ref q_a1_place, .ref q_a1_from, .ref q_a1_till, .ref q_a1_worth], ia C q_a1_home 6 r_a1_home, ia C q_a1_who 8 r_a1_who, ia C q_a1_place 8 r_a1_place] H := hP
  have hD : va_D A [ob q_t 0 [.int v_t_size, .ref q_t_deed, .ref q_t_hour], ia C q_t_deed 6 r_t_deed, ia C q_t_hour 6 r_t_hour, ob q_a1 4 [.int v_a1_office, .int v_a1_free, .int v_a1_people, .int v_a1_deeds, .ref q_a1_home, .ref q_a1_who, .ref q_a1_place, .ref q_a1_from, .ref q_a1_till, .ref q_a1_worth], ia C q_a1_home 6 r_a1_home, ia C q_a1_who 8 r_a1_who, ia C q_a1_place 8 r_a1_place] := hD
  refine lv_ior hx hb dX0_possibleHolders_26 ?_
  refine lv_topi (fun z5 ez5 => ?_)
  have hf := of_lt hf ez5
  refine lv_istore (lv' := [(5, .int z5), (4, .int o2), (3, .int o1), (0, .ref q_t), (1, .ref q_a1), (2, .int p2)]) hx hb dX0_possibleHolders_27 hl (by decide) rfl (fun ls hl => ?_)
  refine lv_iconst (v := (0 : Int32)) hx hb dX0_possibleHolders_29 (by decide) ?_
  refine lv_istore (lv' := [(6, .int (0 : Int32)), (5, .int z5), (4, .int o2), (3, .int o1), (0, .ref q_t), (1, .ref q_a1), (2, .int p2)]) hx hb dX0_possibleHolders_30 hl (by decide) rfl (fun ls hl => ?_)
  obtain ⟨y17, hy17, hf⟩ := of_bind hf
  refine LP32 _ FU _ _ _ _ _ _ _ _ _ _ _ _ _ _ _ y17 hy17 H locs ls hP hD hS (lv_sub hl [0, 1, 2, 3, 4, 5, 6] rfl) (fun H locs ls hP hD hS hl => ?_)
  refine lv_iload hx hb dX0_possibleHolders_90 (lv_at hl 1 rfl) ?_
  obtain rfl := Option.some.inj hf
  exact ret_I hx hb hr hlocks hK hP hD hS dX0_possibleHolders_92
