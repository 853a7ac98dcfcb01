/-! written by gen.py: 15.spoons -/
def fX7_canGo (r_a0_home : Nat → Int32) (r_a0_who : Nat → Int32) (r_a0_place : Nat → Int32) (r_a0_from : Nat → Int32) (p1 : Int32) (p2 : Int32) (p3 : Int32) : Option (Int32) :=
  chk (vin p3 8) (chk (vin (r_a0_who p3.toNatClampNeg) 6) (lt_ (r_a0_home (r_a0_who p3.toNatClampNeg).toNatClampNeg) (fun z3 => some (if (r_a0_from p3.toNatClampNeg) < ((p1 + (if 0 ≤ (p2 - z3) then (p2 - z3) else 0 - (p2 - z3))) + (if 0 ≤ (z3 - (r_a0_place p3.toNatClampNeg)) then (z3 - (r_a0_place p3.toNatClampNeg)) else 0 - (z3 - (r_a0_place p3.toNatClampNeg)))) then (0 : Int32) else (1 : Int32)))))
theorem hd_X7_canGo : yX7_canGo.cls ≠ "java/lang/invoke/MethodHandle" ∧ yX7_canGo.cls ≠ "java/lang/invoke/VarHandle" ∧ (parseMethodDescriptor yX7_canGo.desc).map (fun d => d.parameters.length) = some 4 := by decide +kernel
set_option maxHeartbeats 4000000 in
set_option maxRecDepth 100000 in
theorem k_X7_canGo (l : Launch) (D : va_G) (C : Nat → ClassId) (q_a0 : Nat) (q_a0_home : Nat) (q_a0_who : Nat) (q_a0_place : Nat) (q_a0_from : Nat) (q_a0_till : Nat) (q_a0_worth : Nat) (v_a0_office : Int32) (v_a0_free : Int32) (v_a0_people : Int32) (v_a0_deeds : Int32) (r_a0_home : Nat → Int32) (r_a0_who : Nat → Int32) (r_a0_place : Nat → Int32) (r_a0_from : Nat → Int32) (p1 : Int32) (p2 : Int32) (p3 : Int32) (sz : Nat) (out : Int32) (hf : fX7_canGo r_a0_home r_a0_who r_a0_place r_a0_from p1 p2 p3 = some out) : MI l yX7_canGo wsX7_canGo ({ frames := 1, cells := 0, slots := 0, locals := 21 }) D C [.ref q_a0, .int p1, .int p2, .int p3] [ob q_a0 4 [.int v_a0_office, .int v_a0_free, .int v_a0_people, .int v_a0_deeds, .ref q_a0_home, .ref q_a0_who, .ref q_a0_place, .ref q_a0_from, .ref q_a0_till, .ref q_a0_worth], ia C q_a0_home 6 r_a0_home, ia C q_a0_who 8 r_a0_who, ia C q_a0_place 8 r_a0_place, ia C q_a0_from 8 r_a0_from] [ob q_a0 4 [.int v_a0_office, .int v_a0_free, .int v_a0_people, .int v_a0_deeds, .ref q_a0_home, .ref q_a0_who, .ref q_a0_place, .ref q_a0_from, .ref q_a0_till, .ref q_a0_worth], ia C q_a0_home 6 r_a0_home, ia C q_a0_who 8 r_a0_who, ia C q_a0_place 8 r_a0_place, ia C q_a0_from 8 r_a0_from] sz (out) := by
  unfold fX7_canGo at hf
  refine en_I (by decide) rfl (Nat.le_of_ble_eq_true rfl) ?_
  intro p e s m below meth c A ls H locs hx hb hr hlocks hml hts hown hK hP hD hS hA hl
  have hl : lv_has ls 5 [(0, .ref q_a0), (1, .int p1), (2, .int p2), (3, .int p3)] := hl
  have inX4 : ∀ w ∈ u_ws RX4 TX4 10, w ∈ wsX7_canGo := fun w h => List.mem_cons_of_mem _ (List.mem_append_right _ h)
  refine lv_aload_n hx hb dX7_canGo_0 rfl (lv_at hl 0 rfl) ?_
  refine va_get (D := D) (ci := 4) (v := .ref q_a0_home) (C := RX4) (T := TX4) (N := 10) hx hb hts inX4 hown hK hP 0 rfl rfl 4 (by decide) (hts (.fieldLink RX7 47 "LentCourage$Port" "home" "[I") (List.mem_of_getElem? (i := 1) rfl)) (fun _ h9 => h9) rfl dX7_canGo_1 ?_
  refine lv_aload_n hx hb dX7_canGo_4 rfl (lv_at hl 0 rfl) ?_
  refine va_get (D := D) (ci := 4) (v := .ref q_a0_who) (C := RX4) (T := TX4) (N := 10) hx hb hts inX4 hown hK hP 0 rfl rfl 5 (by decide) (hts (.fieldLink RX7 41 "LentCourage$Port" "who" "[I") (List.mem_of_getElem? (i := 2) rfl)) (fun _ h9 => h9) rfl dX7_canGo_5 ?_
  refine lv_iload_n hx hb dX7_canGo_8 rfl (lv_at hl 3 rfl) ?_
  obtain ⟨h1, hf⟩ := of_chk hf
  refine va_iald hx hb hK hP 2 0 rfl rfl h1 dX7_canGo_9 ?_
  obtain ⟨h2, hf⟩ := of_chk hf
  refine va_iald hx hb hK hP 1 0 rfl rfl h2 dX7_canGo_10 ?_
  refine lv_topi (fun z3 ez3 => ?_)
  have hf := of_lt hf ez3
  refine lv_istore (lv' := [(4, .int z3), (0, .ref q_a0), (1, .int p1), (2, .int p2), (3, .int p3)]) hx hb dX7_canGo_11 hl (by decide) rfl (fun ls hl => ?_)
  refine lv_iload_n hx hb dX7_canGo_13 rfl (lv_at hl 2 rfl) ?_
  refine lv_iload_n hx hb dX7_canGo_14 rfl (lv_at hl 3 rfl) ?_
  refine lv_iload hx hb dX7_canGo_15 (lv_at hl 0 rfl) ?_
  refine lv_isub hx hb dX7_canGo_17 ?_
  refine va_mabs hx hb (hml.trans hl.1.symm) hown (hts (.methodLink RX7 50 Lib.Math.abs.name) (List.mem_of_getElem? (i := 3) rfl)) (hts (.static Lib.Math.abs.name) (List.mem_of_getElem? (i := 4) rfl)) (hts (.initialized "java/lang/Math") (List.mem_of_getElem? (i := 5) rfl)) (hts (.code Lib.Math.abs.name Lib.Math.abs.code 1 (some .int)) (List.mem_of_getElem? (i := 6) rfl)) (Nat.le_of_ble_eq_true rfl) (Nat.le_of_ble_eq_true rfl) (Nat.zero_le _) (Nat.zero_le _) dX7_canGo_18 ?_
  refine lv_iadd hx hb dX7_canGo_21 ?_
  refine lv_iload hx hb dX7_canGo_22 (lv_at hl 0 rfl) ?_
  refine lv_aload_n hx hb dX7_canGo_24 rfl (lv_at hl 1 rfl) ?_
  refine va_get (D := D) (ci := 4) (v := .ref q_a0_place) (C := RX4) (T := TX4) (N := 10) hx hb hts inX4 hown hK hP 0 rfl rfl 6 (by decide) (hts (.fieldLink RX7 44 "LentCourage$Port" "place" "[I") (List.mem_of_getElem? (i := 7) rfl)) (fun _ h9 => h9) rfl dX7_canGo_25 ?_
  refine lv_iload_n hx hb dX7_canGo_28 rfl (lv_at hl 4 rfl) ?_
  refine va_iald hx hb hK hP 3 0 rfl rfl h1 dX7_canGo_29 ?_
  refine lv_isub hx hb dX7_canGo_30 ?_
  refine va_mabs hx hb (hml.trans hl.1.symm) hown (hts (.methodLink RX7 50 Lib.Math.abs.name) (List.mem_of_getElem? (i := 3) rfl)) (hts (.static Lib.Math.abs.name) (List.mem_of_getElem? (i := 4) rfl)) (hts (.initialized "java/lang/Math") (List.mem_of_getElem? (i := 5) rfl)) (hts (.code Lib.Math.abs.name Lib.Math.abs.code 1 (some .int)) (List.mem_of_getElem? (i := 6) rfl)) (Nat.le_of_ble_eq_true rfl) (Nat.le_of_ble_eq_true rfl) (Nat.zero_le _) (Nat.zero_le _) dX7_canGo_31 ?_
  refine lv_iadd hx hb dX7_canGo_34 ?_
  refine lv_aload_n hx hb dX7_canGo_35 rfl (lv_at hl 1 rfl) ?_
  refine va_get (D := D) (ci := 4) (v := .ref q_a0_from) (C := RX4) (T := TX4) (N := 10) hx hb hts inX4 hown hK hP 0 rfl rfl 7 (by decide) (hts (.fieldLink RX7 38 "LentCourage$Port" "from" "[I") (List.mem_of_getElem? (i := 8) rfl)) (fun _ h9 => h9) rfl dX7_canGo_36 ?_
  refine lv_iload_n hx hb dX7_canGo_39 rfl (lv_at hl 4 rfl) ?_
  refine va_iald hx hb hK hP 4 0 rfl rfl h1 dX7_canGo_40 ?_
  refine jp (g2 := F0 m 49 ls [.int (if (r_a0_from p3.toNatClampNeg) < ((p1 + (if 0 ≤ (p2 - z3) then (p2 - z3) else 0 - (p2 - z3))) + (if 0 ≤ (z3 - (r_a0_place p3.toNatClampNeg)) then (z3 - (r_a0_place p3.toNatClampNeg)) else 0 - (z3 - (r_a0_place p3.toNatClampNeg)))) then (0 : Int32) else (1 : Int32))]) ?_ (fun JP => ?_)
  · obtain rfl := Option.some.inj hf
    exact ret_Z hx hb hr hlocks (by repeat (first | exact okZ_0 | exact okZ_1 | apply okZ_ite)) hK hP hD hS dX7_canGo_49
  · refine lv_icmp_gt (tgt := 48) hx hb dX7_canGo_41 (by decide) (fun c4 => ?_) (fun c4 => ?_)
    · refine lv_iconst (v := (0 : Int32)) hx hb dX7_canGo_48 (by decide) ?_
      exact W.eq (congrArg (fun x => F0 m 49 ls (Value.int x :: [])) (if_pos c4).symm) JP
    · refine lv_iconst (v := (1 : Int32)) hx hb dX7_canGo_44 (by decide) ?_
      refine lv_goto (tgt := 49) hx hb dX7_canGo_45 (by decide) ?_
      exact W.eq (congrArg (fun x => F0 m 49 ls (Value.int x :: [])) (if_neg c4).symm) JP

def fX7_canFollow (r_a0_home : Nat → Int32) (r_a0_who : Nat → Int32) (r_a0_place : Nat → Int32) (r_a0_from : Nat → Int32) (p1 : Int32) (p2 : Int32) : Option (Int32) :=
  chk (vin p2 8) (chk (vin p1 8) (lt_ ((r_a0_from p2.toNatClampNeg) - (r_a0_from p1.toNatClampNeg)) (fun z3 => lt_ (if 0 < z3 then (1 : Int32) else (if z3 = 0 then (if p2 ≤ p1 then (0 : Int32) else (1 : Int32)) else (0 : Int32))) (fun z7 => ((if z7 = 0 then some (0 : Int32) else (if (r_a0_who p2.toNatClampNeg) = (r_a0_who p1.toNatClampNeg) then some (0 : Int32) else (fX7_canGo r_a0_home r_a0_who r_a0_place r_a0_from (r_a0_from p1.toNatClampNeg) (r_a0_place p1.toNatClampNeg) p2).bind (fun o11 => (if o11 = 0 then some (0 : Int32) else some (1 : Int32)))))).bind (fun j8 => chk (okZ j8) (some j8))))))
theorem hd_X7_canFollow : yX7_canFollow.cls ≠ "java/lang/invoke/MethodHandle" ∧ yX7_canFollow.cls ≠ "java/lang/invoke/VarHandle" ∧ (parseMethodDescriptor yX7_canFollow.desc).map (fun d => d.parameters.length) = some 3 := by decide +kernel
set_option maxHeartbeats 4000000 in
set_option maxRecDepth 100000 in
theorem k_X7_canFollow (l : Launch) (D : va_G) (C : Nat → ClassId) (q_a0 : Nat) (q_a0_home : Nat) (q_a0_who : Nat) (q_a0_place : Nat) (q_a0_from : Nat) (q_a0_till : Nat) (q_a0_worth : Nat) (v_a0_office : Int32) (v_a0_free : Int32) (v_a0_people : Int32) (v_a0_deeds : Int32) (r_a0_home : Nat → Int32) (r_a0_who : Nat → Int32) (r_a0_place : Nat → Int32) (r_a0_from : Nat → Int32) (p1 : Int32) (p2 : Int32) (sz : Nat) (out : Int32) (hf : fX7_canFollow r_a0_home r_a0_who r_a0_place r_a0_from p1 p2 = some out) : MI l yX7_canFollow wsX7_canFollow ({ frames := 2, cells := 0, slots := 0, locals := 45 }) D C [.ref q_a0, .int p1, .int p2] [ob q_a0 4 [.int v_a0_office, .int v_a0_free, .int v_a0_people, .int v_a0_deeds, .ref q_a0_home, .ref q_a0_who, .ref q_a0_place, .ref q_a0_from, .ref q_a0_till, .ref q_a0_worth], ia C q_a0_home 6 r_a0_home, ia C q_a0_who 8 r_a0_who, ia C q_a0_place 8 r_a0_place, ia C q_a0_from 8 r_a0_from] [ob q_a0 4 [.int v_a0_office, .int v_a0_free, .int v_a0_people, .int v_a0_deeds, .ref q_a0_home, .ref q_a0_who, .ref q_a0_place, .ref q_a0_from, .ref q_a0_till, .ref q_a0_worth], ia C q_a0_home 6 r_a0_home, ia C q_a0_who 8 r_a0_who, ia C q_a0_place 8 r_a0_place, ia C q_a0_from 8 r_a0_from] sz (out) := by
  unfold fX7_canFollow at hf
  refine en_I (by decide) rfl (Nat.le_of_ble_eq_true rfl) ?_
  intro p e s m below meth c A ls H locs hx hb hr hlocks hml hts hown hK hP hD hS hA hl
  have hl : lv_has ls 5 [(0, .ref q_a0), (1, .int p1), (2, .int p2)] := hl
  have inX4 : ∀ w ∈ u_ws RX4 TX4 10, w ∈ wsX7_canFollow := fun w h => List.mem_cons_of_mem _ (List.mem_append_right _ h)
  refine lv_aload_n hx hb dX7_canFollow_0 rfl (lv_at hl 0 rfl) ?_
  refine va_get (D := D) (ci := 4) (v := .ref q_a0_from) (C := RX4) (T := TX4) (N := 10) hx hb hts inX4 hown hK hP 0 rfl rfl 7 (by decide) (hts (.fieldLink RX7 38 "LentCourage$Port" "from" "[I") (List.mem_of_getElem? (i := 1) rfl)) (fun _ h9 => h9) rfl dX7_canFollow_1 ?_
  refine lv_iload_n hx hb dX7_canFollow_4 rfl (lv_at hl 2 rfl) ?_
  obtain ⟨h1, hf⟩ := of_chk hf
  refine va_iald hx hb hK hP 4 0 rfl rfl h1 dX7_canFollow_5 ?_
  refine lv_aload_n hx hb dX7_canFollow_6 rfl (lv_at hl 0 rfl) ?_
  refine va_get (D := D) (ci := 4) (v := .ref q_a0_from) (C := RX4) (T := TX4) (N := 10) hx hb hts inX4 hown hK hP 0 rfl rfl 7 (by decide) (hts (.fieldLink RX7 38 "LentCourage$Port" "from" "[I") (List.mem_of_getElem? (i := 1) rfl)) (fun _ h9 => h9) rfl dX7_canFollow_7 ?_
  refine lv_iload_n hx hb dX7_canFollow_10 rfl (lv_at hl 1 rfl) ?_
  obtain ⟨h2, hf⟩ := of_chk hf
  refine va_iald hx hb hK hP 4 0 rfl rfl h2 dX7_canFollow_11 ?_
  refine lv_isub hx hb dX7_canFollow_12 ?_
  refine lv_topi (fun z3 ez3 => ?_)
  have hf := of_lt hf ez3
  refine lv_istore_n (lv' := [(3, .int z3), (0, .ref q_a0), (1, .int p1), (2, .int p2)]) hx hb dX7_canFollow_13 rfl hl (by decide) rfl (fun ls hl => ?_)
  refine lv_iload_n hx hb dX7_canFollow_14 rfl (lv_at hl 0 rfl) ?_
  refine jp (g2 := F0 m 32 ls [.int (if 0 < z3 then (1 : Int32) else (if z3 = 0 then (if p2 ≤ p1 then (0 : Int32) else (1 : Int32)) else (0 : Int32)))]) ?_ (fun JP => ?_)
  · refine lv_topi (fun z7 ez7 => ?_)
    have hf := of_lt hf ez7
    have bz7 : okZ z7 := ez7 ▸ (by repeat (first | exact okZ_0 | exact okZ_1 | apply okZ_ite))
    refine lv_istore (lv' := [(4, .int z7), (3, .int z3), (0, .ref q_a0), (1, .int p1), (2, .int p2)]) hx hb dX7_canFollow_32 hl (by decide) rfl (fun ls hl => ?_)
    refine lv_iload hx hb dX7_canFollow_34 (lv_at hl 0 rfl) ?_
    obtain ⟨j8, hrj8, hf⟩ := of_bind hf
    refine jn (fun H L g => ∃ ls, g = F0 m 79 ls [.int j8] ∧ va_P D vwCl [ob q_a0 4 [.int v_a0_office, .int v_a0_free, .int v_a0_people, .int v_a0_deeds, .ref q_a0_home, .ref q_a0_who, .ref q_a0_place, .ref q_a0_from, .ref q_a0_till, .ref q_a0_worth], ia C q_a0_home 6 r_a0_home, ia C q_a0_who 8 r_a0_who, ia C q_a0_place 8 r_a0_place, ia C q_a0_from 8 r_a0_from] H ∧ va_D A [ob q_a0 4 [.int v_a0_office, .int v_a0_free, .int v_a0_people, .int v_a0_deeds, .ref q_a0_home, .ref q_a0_who, .ref q_a0_place, .ref q_a0_from, .ref q_a0_till, .ref q_a0_worth], ia C q_a0_home 6 r_a0_home, ia C q_a0_who 8 r_a0_who, ia C q_a0_place 8 r_a0_place, ia C q_a0_from 8 r_a0_from] ∧ va_S A s.heap H L ∧ lv_has ls 5 [(4, .int z7), (3, .int z3), (0, .ref q_a0), (1, .int p1), (2, .int p2)]) (fun H locs g hI => ?_) (fun Jj8 => ?_)
    · obtain ⟨ls, rfl, hP, hD, hS, hl⟩ := hI
      obtain ⟨h13, hf⟩ := of_chk hf
      obtain rfl := Option.some.inj hf
      exact ret_Z hx hb hr hlocks h13 hK hP hD hS dX7_canFollow_79
    · have hf := hrj8
      refine lv_if_eq (tgt := 78) hx hb dX7_canFollow_36 (by decide) (fun c9 => ?_) (fun c9 => ?_)
      · have hf := of_pos hf c9
        refine lv_iconst (v := (0 : Int32)) hx hb dX7_canFollow_78 (by decide) ?_
        obtain rfl := Option.some.inj hf
        exact Jj8 _ _ _ ⟨_, rfl, hP, hD, hS, lv_sub hl [0, 1, 2, 3, 4] rfl⟩
      · have hf := of_neg hf c9
        refine lv_aload_n hx hb dX7_canFollow_39 rfl (lv_at hl 2 rfl) ?_
        refine va_get (D := D) (ci := 4) (v := .ref q_a0_who) (C := RX4) (T := TX4) (N := 10) hx hb hts inX4 hown hK hP 0 rfl rfl 5 (by decide) (hts (.fieldLink RX7 41 "LentCourage$Port" "who" "[I") (List.mem_of_getElem? (i := 2) rfl)) (fun _ h9 => h9) rfl dX7_canFollow_40 ?_
        refine lv_iload_n hx hb dX7_canFollow_43 rfl (lv_at hl 4 rfl) ?_
        refine va_iald hx hb hK hP 2 0 rfl rfl h1 dX7_canFollow_44 ?_
        refine lv_aload_n hx hb dX7_canFollow_45 rfl (lv_at hl 2 rfl) ?_
        refine va_get (D := D) (ci := 4) (v := .ref q_a0_who) (C := RX4) (T := TX4) (N := 10) hx hb hts inX4 hown hK hP 0 rfl rfl 5 (by decide) (hts (.fieldLink RX7 41 "LentCourage$Port" "who" "[I") (List.mem_of_getElem? (i := 2) rfl)) (fun _ h9 => h9) rfl dX7_canFollow_46 ?_
        refine lv_iload_n hx hb dX7_canFollow_49 rfl (lv_at hl 3 rfl) ?_
        refine va_iald hx hb hK hP 2 0 rfl rfl h2 dX7_canFollow_50 ?_
        refine lv_icmp_eq (tgt := 78) hx hb dX7_canFollow_51 (by decide) (fun c10 => ?_) (fun c10 => ?_)
        · have hf := of_pos hf c10
          refine lv_iconst (v := (0 : Int32)) hx hb dX7_canFollow_78 (by decide) ?_
          obtain rfl := Option.some.inj hf
          exact Jj8 _ _ _ ⟨_, rfl, hP, hD, hS, lv_sub hl [0, 1, 2, 3, 4] rfl⟩
        · have hf := of_neg hf c10
          refine lv_aload_n hx hb dX7_canFollow_54 rfl (lv_at hl 2 rfl) ?_
          refine lv_aload_n hx hb dX7_canFollow_55 rfl (lv_at hl 2 rfl) ?_
          refine va_get (D := D) (ci := 4) (v := .ref q_a0_from) (C := RX4) (T := TX4) (N := 10) hx hb hts inX4 hown hK hP 0 rfl rfl 7 (by decide) (hts (.fieldLink RX7 38 "LentCourage$Port" "from" "[I") (List.mem_of_getElem? (i := 1) rfl)) (fun _ h9 => h9) rfl dX7_canFollow_56 ?_
          refine lv_iload_n hx hb dX7_canFollow_59 rfl (lv_at hl 3 rfl) ?_
          refine va_iald hx hb hK hP 4 0 rfl rfl h2 dX7_canFollow_60 ?_
          refine lv_aload_n hx hb dX7_canFollow_61 rfl (lv_at hl 2 rfl) ?_
          refine va_get (D := D) (ci := 4) (v := .ref q_a0_place) (C := RX4) (T := TX4) (N := 10) hx hb hts inX4 hown hK hP 0 rfl rfl 6 (by decide) (hts (.fieldLink RX7 44 "LentCourage$Port" "place" "[I") (List.mem_of_getElem? (i := 3) rfl)) (fun _ h9 => h9) rfl dX7_canFollow_62 ?_
          refine lv_iload_n hx hb dX7_canFollow_65 rfl (lv_at hl 3 rfl) ?_
          refine va_iald hx hb hK hP 3 0 rfl rfl h2 dX7_canFollow_66 ?_
          refine lv_iload_n hx hb dX7_canFollow_67 rfl (lv_at hl 4 rfl) ?_
          obtain ⟨o11, ho11, hf⟩ := of_bind hf
          refine c_I (wr := []) (W2 := [ob q_a0 4 [.int v_a0_office, .int v_a0_free, .int v_a0_people, .int v_a0_deeds, .ref q_a0_home, .ref q_a0_who, .ref q_a0_place, .ref q_a0_from, .ref q_a0_till, .ref q_a0_worth], ia C q_a0_home 6 r_a0_home, ia C q_a0_who 8 r_a0_who, ia C q_a0_place 8 r_a0_place, ia C q_a0_from 8 r_a0_from]) (cS_run ⟨hx, hb, hml, hown, hts⟩ (k_X7_canGo l D C q_a0 q_a0_home q_a0_who q_a0_place q_a0_from q_a0_till q_a0_worth v_a0_office v_a0_free v_a0_people v_a0_deeds r_a0_home r_a0_who r_a0_place r_a0_from (r_a0_from p1.toNatClampNeg) (r_a0_place p1.toNatClampNeg) p2 H.size o11 ho11) gX7_canFollow_X7_canGo rfl ⟨rfl, rfl⟩ hd_X7_canGo ⟨(Nat.le_of_ble_eq_true rfl), (Nat.le_of_ble_eq_true rfl)⟩ rfl hK (cut_in hK hP hD [0, 1, 2, 3, 4] rfl (by decide)) hl.1 rfl (Nat.le_of_ble_eq_true rfl) dX7_canFollow_68 ⟨Nat.zero_le _, Nat.zero_le _⟩) hP hD hS hA [0, 1, 2, 3, 4] [] [0, 1, 2, 3, 4] rfl rfl (by decide) (by decide) rfl (by decide) (fun H locs hP hD hS => ?_)
          have hP : va_P D vwCl [ob q_a0 4 [.int v_a0_office, .int v_a0_free, .int v_a0_people, .int v_a0_deeds, .ref q_a0_home, .ref q_a0_who, .ref q_a0_place, .ref q_a0_from, .ref q_a0_till, .ref q_a0_worth], ia C q_a0_home 6 r_a0_home, ia C q_a0_who 8 r_a0_who, ia C q_a0_place 8 r_a0_place, ia C q_a0_from 8 r_a0_from] H := hP
          have hD : va_D A [ob q_a0 4 [.int v_a0_office, .int v_a0_free, .int v_a0_people, .int v_a0_deeds, .ref q_a0_home, .ref q_a0_who, .ref q_a0_place, .ref q_a0_from, .ref q_a0_till, .ref q_a0_worth], ia C q_a0_home 6 r_a0_home, ia C q_a0_who 8 r_a0_who, ia C q_a0_place 8 r_a0_place, ia C q_a0_from 8 r_a0_from] := hD
          refine lv_if_eq (tgt := 78) hx hb dX7_canFollow_71 (by decide) (fun c12 => ?_) (fun c12 => ?_)
          · have hf := of_pos hf c12
            refine lv_iconst (v := (0 : Int32)) hx hb dX7_canFollow_78 (by decide) ?_
            obtain rfl := Option.some.inj hf
            exact Jj8 _ _ _ ⟨_, rfl, hP, hD, hS, lv_sub hl [0, 1, 2, 3, 4] rfl⟩
          · have hf := of_neg hf c12
            refine lv_iconst (v := (1 : Int32)) hx hb dX7_canFollow_74 (by decide) ?_
            refine lv_goto (tgt := 79) hx hb dX7_canFollow_75 (by decide) ?_
            obtain rfl := Option.some.inj hf
            exact Jj8 _ _ _ ⟨_, rfl, hP, hD, hS, lv_sub hl [0, 1, 2, 3, 4] rfl⟩
  · refine lv_if_gt (tgt := 27) hx hb dX7_canFollow_15 (by decide) (fun c4 => ?_) (fun c4 => ?_)
    · refine lv_iconst (v := (1 : Int32)) hx hb dX7_canFollow_27 (by decide) ?_
      refine lv_goto (tgt := 32) hx hb dX7_canFollow_28 (by decide) ?_
      exact W.eq (congrArg (fun x => F0 m 32 ls (Value.int x :: [])) (if_pos c4).symm) JP
    · refine lv_iload_n hx hb dX7_canFollow_18 rfl (lv_at hl 0 rfl) ?_
      refine lv_if_ne (tgt := 31) hx hb dX7_canFollow_19 (by decide) (fun c5 => ?_) (fun c5 => ?_)
      · refine lv_iconst (v := (0 : Int32)) hx hb dX7_canFollow_31 (by decide) ?_
        exact W.eq (congrArg (fun x => F0 m 32 ls (Value.int x :: [])) ((if_neg c4).trans (if_neg c5)).symm) JP
      · refine lv_iload_n hx hb dX7_canFollow_22 rfl (lv_at hl 3 rfl) ?_
        refine lv_iload_n hx hb dX7_canFollow_23 rfl (lv_at hl 2 rfl) ?_
        refine lv_icmp_le (tgt := 31) hx hb dX7_canFollow_24 (by decide) (fun c6 => ?_) (fun c6 => ?_)
        · refine lv_iconst (v := (0 : Int32)) hx hb dX7_canFollow_31 (by decide) ?_
          exact W.eq (congrArg (fun x => F0 m 32 ls (Value.int x :: [])) (((if_neg c4).trans (if_pos c5)).trans (if_pos c6)).symm) JP
        · refine lv_iconst (v := (1 : Int32)) hx hb dX7_canFollow_27 (by decide) ?_
          refine lv_goto (tgt := 32) hx hb dX7_canFollow_28 (by decide) ?_
          exact W.eq (congrArg (fun x => F0 m 32 ls (Value.int x :: [])) (((if_neg c4).trans (if_pos c5)).trans (if_neg c6)).symm) JP

def fX7_findFollower_15 (rc_ : Int32 → (Nat → Int32) → Int32 → (Nat → Int32) → (Nat → Int32) → (Nat → Int32) → (Nat → Int32) → Int32 → Int32 → Option (Int32 × Int32 × (Nat → Int32))) (w2_15 : Int32) (w3_15 : Int32) (v_a1_deeds_15 : Int32) (r_a1_home_15 : Nat → Int32) (r_a1_who_15 : Nat → Int32) (r_a1_place_15 : Nat → Int32) (r_a1_from_15 : Nat → Int32) : Nat → Int32 → Int32 → (Nat → Int32) → Option (Nat × Int32 × Int32 × (Nat → Int32))
  | 0, _, _, _ => none
  | n + 1, w4_15, v_t_seen_15, r_t_leader_15 => (if v_a1_deeds_15 ≤ w4_15 then some (0, (w4_15, v_t_seen_15, r_t_leader_15)) else (if ((v_t_seen_15 >>> (w4_15 &&& 31)) &&& (1 : Int32)) = (1 : Int32) then lt_ (w4_15 + (1 : Int32)) (fun z5 => fX7_findFollower_15 rc_ w2_15 w3_15 v_a1_deeds_15 r_a1_home_15 r_a1_who_15 r_a1_place_15 r_a1_from_15 n z5 v_t_seen_15 r_t_leader_15) else (fX7_canFollow r_a1_home_15 r_a1_who_15 r_a1_place_15 r_a1_from_15 w2_15 w4_15).bind (fun o6 => (if o6 = 0 then lt_ (w4_15 + (1 : Int32)) (fun z14 => fX7_findFollower_15 rc_ w2_15 w3_15 v_a1_deeds_15 r_a1_home_15 r_a1_who_15 r_a1_place_15 r_a1_from_15 n z14 v_t_seen_15 r_t_leader_15) else lt_ (v_t_seen_15 ||| ((1 : Int32) <<< (w4_15 &&& 31))) (fun z8 => chk (vin w4_15 8) ((if (r_t_leader_15 w4_15.toNatClampNeg) = (-9 : Int32) then some (1, (w4_15, z8, r_t_leader_15)) else (rc_ z8 r_t_leader_15 v_a1_deeds_15 r_a1_home_15 r_a1_who_15 r_a1_place_15 r_a1_from_15 (r_t_leader_15 w4_15.toNatClampNeg) (w3_15 + (1 : Int32))).bind (fun o11 => (if o11.1 = 0 then lt_ (w4_15 + (1 : Int32)) (fun z13 => fX7_findFollower_15 rc_ w2_15 w3_15 v_a1_deeds_15 r_a1_home_15 r_a1_who_15 r_a1_place_15 r_a1_from_15 n z13 o11.2.1 o11.2.2) else some (1, (w4_15, o11.2.1, o11.2.2)))))))))))
def fX7_findFollower : Nat → Int32 → (Nat → Int32) → Int32 → (Nat → Int32) → (Nat → Int32) → (Nat → Int32) → (Nat → Int32) → Int32 → Int32 → Option (Int32 × Int32 × (Nat → Int32))
  | 0, _, _, _, _, _, _, _, _, _ => none
  | d + 1, v_t_seen, r_t_leader, v_a1_deeds, r_a1_home, r_a1_who, r_a1_place, r_a1_from, p2, p3 => (if p2 < 0 then some ((0 : Int32), v_t_seen, r_t_leader) else (if p3 ≤ (8 : Int32) then (fX7_findFollower_15 (fX7_findFollower d) p2 p3 v_a1_deeds r_a1_home r_a1_who r_a1_place r_a1_from FU (0 : Int32) v_t_seen r_t_leader).bind (fun y15 => (if y15.1 = 0 then some ((0 : Int32), y15.2.2.1, y15.2.2.2) else chk (vin y15.2.1 8) (some ((1 : Int32), y15.2.2.1, (upd y15.2.2.2 y15.2.1.toNatClampNeg p2))))) else some ((0 : Int32), v_t_seen, r_t_leader)))
theorem hd_X7_findFollower : yX7_findFollower.cls = RX7 ∧ yX7_findFollower.cls ≠ "java/lang/invoke/MethodHandle" ∧ yX7_findFollower.cls ≠ "java/lang/invoke/VarHandle" ∧ (parseMethodDescriptor yX7_findFollower.desc).map (fun d => d.parameters.length) = some 3 := by decide +kernel
set_option maxHeartbeats 4000000 in
set_option maxRecDepth 100000 in
theorem k_X7_findFollower (l : Launch) (D : va_G) (C : Nat → ClassId) (d : Nat) : ∀ (q_t : Nat) (q_t_leader : Nat) (q_a1 : Nat) (q_a1_home : Nat) (q_a1_who : Nat) (q_a1_place : Nat) (q_a1_from : Nat) (q_a1_till : Nat) (q_a1_worth : Nat) (v_t_seen : Int32) (r_t_leader : Nat → Int32) (v_a1_office : Int32) (v_a1_free : Int32) (v_a1_people : Int32) (v_a1_deeds : Int32) (r_a1_home : Nat → Int32) (r_a1_who : Nat → Int32) (r_a1_place : Nat → Int32) (r_a1_from : Nat → Int32) (p2 : Int32) (p3 : Int32) (sz : Nat) (out : Int32 × Int32 × (Nat → Int32)) (hf : fX7_findFollower d v_t_seen r_t_leader v_a1_deeds r_a1_home r_a1_who r_a1_place r_a1_from p2 p3 = some out), MI l yX7_findFollower wsX7_findFollower ({ frames := 3 + d, cells := 0, slots := 0, locals := 69 + d * 24 }) D C [.ref q_t, .ref q_a1, .int p2, .int p3] [ob q_t 7 [.ref q_t_leader, .int v_t_seen], ia C q_t_leader 8 r_t_leader, ob q_a1 4 [.int v_a1_office, .int v_a1_free, .int v_a1_people, .int v_a1_deeds, .ref q_a1_home, .ref q_a1_who, .ref q_a1_place, .ref q_a1_from, .ref q_a1_till, .ref q_a1_worth], ia C q_a1_home 6 r_a1_home, ia C q_a1_who 8 r_a1_who, ia C q_a1_place 8 r_a1_place, ia C q_a1_from 8 r_a1_from] [ob q_t 7 [.ref q_t_leader, .int out.2.1], ia C q_t_leader 8 out.2.2, ob q_a1 4 [.int v_a1_office, .int v_a1_free, .int v_a1_people, .int v_a1_deeds, .ref q_a1_home, .ref q_a1_who, .ref q_a1_place, .ref q_a1_from, .ref q_a1_till, .ref q_a1_worth], ia C q_a1_home 6 r_a1_home, ia C q_a1_who 8 r_a1_who, ia C q_a1_place 8 r_a1_place, ia C q_a1_from 8 r_a1_from] sz (out.1) := by
  induction d with
  | zero =>
    intro q_t q_t_leader q_a1 q_a1_home q_a1_who q_a1_place q_a1_from q_a1_till q_a1_worth v_t_seen r_t_leader v_a1_office v_a1_free v_a1_people v_a1_deeds r_a1_home r_a1_who r_a1_place r_a1_from p2 p3 sz out hf
    rw [fX7_findFollower] at hf
    cases hf
  | succ d ihd =>
  intro q_t q_t_leader q_a1 q_a1_home q_a1_who q_a1_place q_a1_from q_a1_till q_a1_worth v_t_seen r_t_leader v_a1_office v_a1_free v_a1_people v_a1_deeds r_a1_home r_a1_who r_a1_place r_a1_from p2 p3 sz out hf
  rw [fX7_findFollower] at hf
  refine en_I (by decide) rfl (Nat.le_of_ble_eq_true rfl) ?_
  intro p e s m below meth c A ls H locs hx hb hr hlocks hml hts hown hK hP hD hS hA hl
  have hl : lv_has ls 5 [(0, .ref q_t), (1, .ref q_a1), (2, .int p2), (3, .int p3)] := hl
  have inX4 : ∀ w ∈ u_ws RX4 TX4 10, w ∈ wsX7_findFollower := fun w h => List.mem_cons_of_mem _ (List.mem_append_left _ (List.mem_append_right _ h))
  have inX7 : ∀ w ∈ u_ws RX7 TX7 2, w ∈ wsX7_findFollower := fun w h => List.mem_cons_of_mem _ (List.mem_append_right _ h)
  have LP15 : ∀ (Q : State → Prop) (n : Nat) (w4_15 : Int32) (w2_15 : Int32) (w3_15 : Int32) (v_t_seen_15 : Int32) (r_t_leader_15 : Nat → Int32) (v_a1_office_15 : Int32) (v_a1_free_15 : Int32) (v_a1_people_15 : Int32) (v_a1_deeds_15 : Int32) (r_a1_home_15 : Nat → Int32) (r_a1_who_15 : Nat → Int32) (r_a1_place_15 : Nat → Int32) (r_a1_from_15 : Nat → Int32) (y_15 : Nat × Int32 × Int32 × (Nat → Int32)), fX7_findFollower_15 (fX7_findFollower d) w2_15 w3_15 v_a1_deeds_15 r_a1_home_15 r_a1_who_15 r_a1_place_15 r_a1_from_15 n w4_15 v_t_seen_15 r_t_leader_15 = some y_15 → ∀ (H : Heap) (locs : List Loc) (ls : Array Slot), va_P D vwCl [ob q_t 7 [.ref q_t_leader, .int v_t_seen_15], ia C q_t_leader 8 r_t_leader_15, ob q_a1 4 [.int v_a1_office_15, .int v_a1_free_15, .int v_a1_people_15, .int v_a1_deeds_15, .ref q_a1_home, .ref q_a1_who, .ref q_a1_place, .ref q_a1_from, .ref q_a1_till, .ref q_a1_worth], ia C q_a1_home 6 r_a1_home_15, ia C q_a1_who 8 r_a1_who_15, ia C q_a1_place 8 r_a1_place_15, ia C q_a1_from 8 r_a1_from_15] H → va_D A [ob q_t 7 [.ref q_t_leader, .int v_t_seen_15], ia C q_t_leader 8 r_t_leader_15, ob q_a1 4 [.int v_a1_office_15, .int v_a1_free_15, .int v_a1_people_15, .int v_a1_deeds_15, .ref q_a1_home, .ref q_a1_who, .ref q_a1_place, .ref q_a1_from, .ref q_a1_till, .ref q_a1_worth], ia C q_a1_home 6 r_a1_home_15, ia C q_a1_who 8 r_a1_who_15, ia C q_a1_place 8 r_a1_place_15, ia C q_a1_from 8 r_a1_from_15] → va_S A s.heap H locs → lv_has ls 5 [(4, .int w4_15), (0, .ref q_t), (1, .ref q_a1), (2, .int w2_15), (3, .int w3_15)] → (∀ (H : Heap) (locs : List Loc) (ls : Array Slot), y_15.1 = 0 → va_P D vwCl [ob q_t 7 [.ref q_t_leader, .int y_15.2.2.1], ia C q_t_leader 8 y_15.2.2.2, ob q_a1 4 [.int v_a1_office_15, .int v_a1_free_15, .int v_a1_people_15, .int v_a1_deeds_15, .ref q_a1_home, .ref q_a1_who, .ref q_a1_place, .ref q_a1_from, .ref q_a1_till, .ref q_a1_worth], ia C q_a1_home 6 r_a1_home_15, ia C q_a1_who 8 r_a1_who_15, ia C q_a1_place 8 r_a1_place_15, ia C q_a1_from 8 r_a1_from_15] H → va_D A [ob q_t 7 [.ref q_t_leader, .int y_15.2.2.1], ia C q_t_leader 8 y_15.2.2.2, ob q_a1 4 [.int v_a1_office_15, .int v_a1_free_15, .int v_a1_people_15, .int v_a1_deeds_15, .ref q_a1_home, .ref q_a1_who, .ref q_a1_place, .ref q_a1_from, .ref q_a1_till, .ref q_a1_worth], ia C q_a1_home 6 r_a1_home_15, ia C q_a1_who 8 r_a1_who_15, ia C q_a1_place 8 r_a1_place_15, ia C q_a1_from 8 r_a1_from_15] → va_S A s.heap H locs → lv_has ls 5 [(4, .int y_15.2.1), (0, .ref q_t), (1, .ref q_a1), (2, .int w2_15), (3, .int w3_15)] → W p l e ({ frames := 3 + (d + 1), cells := 0, slots := 0, locals := 69 + (d + 1) * 24 } : Room) s m ([.ref q_t, .ref q_a1, .int p2, .int p3] : List Value).toArray below meth c H locs 0 0 Q (F0 m 109 ls [])) → (∀ (H : Heap) (locs : List Loc) (ls : Array Slot), y_15.1 = 1 → va_P D vwCl [ob q_t 7 [.ref q_t_leader, .int y_15.2.2.1], ia C q_t_leader 8 y_15.2.2.2, ob q_a1 4 [.int v_a1_office_15, .int v_a1_free_15, .int v_a1_people_15, .int v_a1_deeds_15, .ref q_a1_home, .ref q_a1_who, .ref q_a1_place, .ref q_a1_from, .ref q_a1_till, .ref q_a1_worth], ia C q_a1_home 6 r_a1_home_15, ia C q_a1_who 8 r_a1_who_15, ia C q_a1_place 8 r_a1_place_15, ia C q_a1_from 8 r_a1_from_15] H → va_D A [ob q_t 7 [.ref q_t_leader, .int y_15.2.2.1], ia C q_t_leader 8 y_15.2.2.2, ob q_a1 4 [.int v_a1_office_15, .int v_a1_free_15, .int v_a1_people_15, .int v_a1_deeds_15, .ref q_a1_home, .ref q_a1_who, .ref q_a1_place, .ref q_a1_from, .ref q_a1_till, .ref q_a1_worth], ia C q_a1_home 6 r_a1_home_15, ia C q_a1_who 8 r_a1_who_15, ia C q_a1_place 8 r_a1_place_15, ia C q_a1_from 8 r_a1_from_15] → va_S A s.heap H locs → lv_has ls 5 [(4, .int y_15.2.1), (0, .ref q_t), (1, .ref q_a1), (2, .int w2_15), (3, .int w3_15)] → W p l e ({ frames := 3 + (d + 1), cells := 0, slots := 0, locals := 69 + (d + 1) * 24 } : Room) s m ([.ref q_t, .ref q_a1, .int p2, .int p3] : List Value).toArray below meth c H locs 0 0 Q (F0 m 93 ls [])) → W p l e ({ frames := 3 + (d + 1), cells := 0, slots := 0, locals := 69 + (d + 1) * 24 } : Room) s m ([.ref q_t, .ref q_a1, .int p2, .int p3] : List Value).toArray below meth c H locs 0 0 Q (F0 m 15 ls []) := by
    intro Q n
    induction n with
    | zero =>
      intro w4_15 w2_15 w3_15 v_t_seen_15 r_t_leader_15 v_a1_office_15 v_a1_free_15 v_a1_people_15 v_a1_deeds_15 r_a1_home_15 r_a1_who_15 r_a1_place_15 r_a1_from_15 y_15 hf
      rw [fX7_findFollower_15] at hf
      cases hf
    | succ n ih =>
      intro w4_15 w2_15 w3_15 v_t_seen_15 r_t_leader_15 v_a1_office_15 v_a1_free_15 v_a1_people_15 v_a1_deeds_15 r_a1_home_15 r_a1_who_15 r_a1_place_15 r_a1_from_15 y_15 hf H locs ls hP hD hS hl KX0 KX1
      rw [fX7_findFollower_15] at hf
      refine lv_iload hx hb dX7_findFollower_15 (lv_at hl 0 rfl) ?_
      refine lv_aload_n hx hb dX7_findFollower_17 rfl (lv_at hl 2 rfl) ?_
      refine va_get (D := D) (ci := 4) (v := .int v_a1_deeds_15) (C := RX4) (T := TX4) (N := 10) hx hb hts inX4 hown hK hP 2 rfl rfl 3 (by decide) (hts (.fieldLink RX7 15 "LentCourage$Port" "deeds" "I") (List.mem_of_getElem? (i := 1) rfl)) (fun _ h9 => h9) rfl dX7_findFollower_18 ?_
      refine lv_icmp_ge (tgt := 109) hx hb dX7_findFollower_21 (by decide) (fun c3 => ?_) (fun c3 => ?_)
      · have hf := of_pos hf c3
        obtain rfl := Option.some.inj hf
        exact KX0 _ _ _ rfl hP hD hS (lv_sub hl [0, 1, 2, 3, 4] rfl)
      · have hf := of_neg hf c3
        refine lv_aload_n hx hb dX7_findFollower_24 rfl (lv_at hl 1 rfl) ?_
        refine va_get (D := D) (ci := 7) (v := .int v_t_seen_15) (C := RX7) (T := TX7) (N := 2) hx hb hts inX7 hown hK hP 0 rfl rfl 1 (by decide) (hts (.fieldLink RX7 28 "LentCourage$SpoonCount" "seen" "I") (List.mem_of_getElem? (i := 2) rfl)) (fun _ h9 => h9) rfl dX7_findFollower_25 ?_
        refine lv_iload hx hb dX7_findFollower_28 (lv_at hl 0 rfl) ?_
        refine lv_ishr hx hb dX7_findFollower_30 ?_
        refine lv_iconst (v := (1 : Int32)) hx hb dX7_findFollower_31 (by decide) ?_
        refine lv_iand hx hb dX7_findFollower_32 ?_
        refine lv_iconst (v := (1 : Int32)) hx hb dX7_findFollower_33 (by decide) ?_
        refine lv_icmp_eq (tgt := 103) hx hb dX7_findFollower_34 (by decide) (fun c4 => ?_) (fun c4 => ?_)
        · have hf := of_pos hf c4
          obtain ⟨z5, ez5⟩ : ∃ y : Int32, y = (w4_15 + (1 : Int32)) := ⟨_, rfl⟩
          have hf := of_lt hf ez5
          refine lv_iinc (v := z5) (lv' := [(4, .int z5), (0, .ref q_t), (1, .ref q_a1), (2, .int w2_15), (3, .int w3_15)]) hx hb dX7_findFollower_103 hl (k := 0) rfl (by rw [ez5]; rfl) (by decide) rfl (fun ls hl => ?_)
          refine lv_goto (tgt := 15) hx hb dX7_findFollower_106 (by decide) ?_
          exact ih _ _ _ _ _ _ _ _ _ _ _ _ _ _ hf H locs ls hP hD hS (lv_sub hl [0, 1, 2, 3, 4] rfl) KX0 KX1
        · have hf := of_neg hf c4
          refine lv_aload_n hx hb dX7_findFollower_37 rfl (lv_at hl 2 rfl) ?_
          refine lv_iload_n hx hb dX7_findFollower_38 rfl (lv_at hl 3 rfl) ?_
          refine lv_iload hx hb dX7_findFollower_39 (lv_at hl 0 rfl) ?_
          obtain ⟨o6, ho6, hf⟩ := of_bind hf
          refine c_I (wr := [ob q_t 7 [.ref q_t_leader, .int v_t_seen_15], ia C q_t_leader 8 r_t_leader_15]) (W2 := [ob q_t 7 [.ref q_t_leader, .int v_t_seen_15], ia C q_t_leader 8 r_t_leader_15, ob q_a1 4 [.int v_a1_office_15, .int v_a1_free_15, .int v_a1_people_15, .int v_a1_deeds_15, .ref q_a1_home, .ref q_a1_who, .ref q_a1_place, .ref q_a1_from, .ref q_a1_till, .ref q_a1_worth], ia C q_a1_home 6 r_a1_home_15, ia C q_a1_who 8 r_a1_who_15, ia C q_a1_place 8 r_a1_place_15, ia C q_a1_from 8 r_a1_from_15]) (cS_run ⟨hx, hb, hml, hown, hts⟩ (k_X7_canFollow l D C q_a1 q_a1_home q_a1_who q_a1_place q_a1_from q_a1_till q_a1_worth v_a1_office_15 v_a1_free_15 v_a1_people_15 v_a1_deeds_15 r_a1_home_15 r_a1_who_15 r_a1_place_15 r_a1_from_15 w2_15 w4_15 H.size o6 ho6) gX7_findFollower_X7_canFollow rfl ⟨rfl, rfl⟩ hd_X7_canFollow ⟨(Nat.le_trans (m := 3) (by decide) (Nat.le_add_right 3 _)), (Nat.le_trans (m := 69) (Nat.le_of_ble_eq_true rfl) (Nat.le_add_right 69 _))⟩ rfl hK (cut_in hK hP hD [2, 3, 4, 5, 6] rfl (by decide)) hl.1 rfl (Nat.le_of_ble_eq_true rfl) dX7_findFollower_41 ⟨Nat.zero_le _, Nat.zero_le _⟩) hP hD hS hA [2, 3, 4, 5, 6] [0, 1] [0, 1, 2, 3, 4, 5, 6] rfl rfl (by decide) (by decide) rfl (by decide) (fun H locs hP hD hS => ?_)
          have hP : va_P D vwCl [ob q_t 7 [.ref q_t_leader, .int v_t_seen_15], ia C q_t_leader 8 r_t_leader_15, ob q_a1 4 [.int v_a1_office_15, .int v_a1_free_15, .int v_a1_people_15, .int v_a1_deeds_15, .ref q_a1_home, .ref q_a1_who, .ref q_a1_place, .ref q_a1_from, .ref q_a1_till, .ref q_a1_worth], ia C q_a1_home 6 r_a1_home_15, ia C q_a1_who 8 r_a1_who_15, ia C q_a1_place 8 r_a1_place_15, ia C q_a1_from 8 r_a1_from_15] H := hP
          have hD : va_D A [ob q_t 7 [.ref q_t_leader, .int v_t_seen_15], ia C q_t_leader 8 r_t_leader_15, ob q_a1 4 [.int v_a1_office_15, .int v_a1_free_15, .int v_a1_people_15, .int v_a1_deeds_15, .ref q_a1_home, .ref q_a1_who, .ref q_a1_place, .ref q_a1_from, .ref q_a1_till, .ref q_a1_worth], ia C q_a1_home 6 r_a1_home_15, ia C q_a1_who 8 r_a1_who_15, ia C q_a1_place 8 r_a1_place_15, ia C q_a1_from 8 r_a1_from_15] := hD
          refine lv_if_ne (tgt := 50) hx hb dX7_findFollower_44 (by decide) (fun c7 => ?_) (fun c7 => ?_)
          · have hf := of_neg hf c7
            refine lv_aload_n hx hb dX7_findFollower_50 rfl (lv_at hl 1 rfl) ?_
            refine lv_dup hx hb dX7_findFollower_51 rfl ?_
            refine va_get (D := D) (ci := 7) (v := .int v_t_seen_15) (C := RX7) (T := TX7) (N := 2) hx hb hts inX7 hown hK hP 0 rfl rfl 1 (by decide) (hts (.fieldLink RX7 28 "LentCourage$SpoonCount" "seen" "I") (List.mem_of_getElem? (i := 2) rfl)) (fun _ h9 => h9) rfl dX7_findFollower_52 ?_
            refine lv_iconst (v := (1 : Int32)) hx hb dX7_findFollower_55 (by decide) ?_
            refine lv_iload hx hb dX7_findFollower_56 (lv_at hl 0 rfl) ?_
            refine lv_ishl hx hb dX7_findFollower_58 ?_
            refine lv_ior hx hb dX7_findFollower_59 ?_
            refine lv_topi (fun z8 ez8 => ?_)
            have hf := of_lt hf ez8
            refine va_put (D := D) (ci := 7) (v := .int z8) (ty := .int) (C := RX7) (T := TX7) (N := 2) hx hb hts inX7 tyX7 tyX7_ok nmX7 hown hK hP hD hS 0 rfl rfl 1 (by decide) (hts (.fieldLink RX7 28 "LentCourage$SpoonCount" "seen" "I") (List.mem_of_getElem? (i := 2) rfl)) (fun _ h9 => h9) rfl (tyX7_ok 1 (by decide)) rfl rfl (Nat.le_of_ble_eq_true rfl) dX7_findFollower_60 (fun H locs hP hD hS => ?_)
            have hP : va_P D vwCl [ob q_t 7 [.ref q_t_leader, .int z8], ia C q_t_leader 8 r_t_leader_15, ob q_a1 4 [.int v_a1_office_15, .int v_a1_free_15, .int v_a1_people_15, .int v_a1_deeds_15, .ref q_a1_home, .ref q_a1_who, .ref q_a1_place, .ref q_a1_from, .ref q_a1_till, .ref q_a1_worth], ia C q_a1_home 6 r_a1_home_15, ia C q_a1_who 8 r_a1_who_15, ia C q_a1_place 8 r_a1_place_15, ia C q_a1_from 8 r_a1_from_15] H := hP
            have hD : va_D A [ob q_t 7 [.ref q_t_leader, .int z8], ia C q_t_leader 8 r_t_leader_15, ob q_a1 4 [.int v_a1_office_15, .int v_a1_free_15, .int v_a1_people_15, .int v_a1_deeds_15, .ref q_a1_home, .ref q_a1_who, .ref q_a1_place, .ref q_a1_from, .ref q_a1_till, .ref q_a1_worth], ia C q_a1_home 6 r_a1_home_15, ia C q_a1_who 8 r_a1_who_15, ia C q_a1_place 8 r_a1_place_15, ia C q_a1_from 8 r_a1_from_15] := hD
            refine lv_aload_n hx hb dX7_findFollower_63 rfl (lv_at hl 1 rfl) ?_
            refine va_get (D := D) (ci := 7) (v := .ref q_t_leader) (C := RX7) (T := TX7) (N := 2) hx hb hts inX7 hown hK hP 0 rfl rfl 0 (by decide) (hts (.fieldLink RX7 9 "LentCourage$SpoonCount" "leader" "[I") (List.mem_of_getElem? (i := 3) rfl)) (fun _ h9 => h9) rfl dX7_findFollower_64 ?_
            refine lv_iload hx hb dX7_findFollower_67 (lv_at hl 0 rfl) ?_
            obtain ⟨h9, hf⟩ := of_chk hf
            refine va_iald hx hb hK hP 1 0 rfl rfl h9 dX7_findFollower_69 ?_
            refine lv_bipush (v := (-9 : Int32)) hx hb dX7_findFollower_70 (by decide) ?_
            refine lv_icmp_eq (tgt := 93) hx hb dX7_findFollower_72 (by decide) (fun c10 => ?_) (fun c10 => ?_)
            · have hf := of_pos hf c10
              obtain rfl := Option.some.inj hf
              exact KX1 _ _ _ rfl hP hD hS (lv_sub hl [0, 1, 2, 3, 4] rfl)
            · have hf := of_neg hf c10
              refine lv_aload_n hx hb dX7_findFollower_75 rfl (lv_at hl 1 rfl) ?_
              refine lv_aload_n hx hb dX7_findFollower_76 rfl (lv_at hl 2 rfl) ?_
              refine lv_aload_n hx hb dX7_findFollower_77 rfl (lv_at hl 1 rfl) ?_
              refine va_get (D := D) (ci := 7) (v := .ref q_t_leader) (C := RX7) (T := TX7) (N := 2) hx hb hts inX7 hown hK hP 0 rfl rfl 0 (by decide) (hts (.fieldLink RX7 9 "LentCourage$SpoonCount" "leader" "[I") (List.mem_of_getElem? (i := 3) rfl)) (fun _ h9 => h9) rfl dX7_findFollower_78 ?_
              refine lv_iload hx hb dX7_findFollower_81 (lv_at hl 0 rfl) ?_
              refine va_iald hx hb hK hP 1 0 rfl rfl h9 dX7_findFollower_83 ?_
              refine lv_iload_n hx hb dX7_findFollower_84 rfl (lv_at hl 4 rfl) ?_
              refine lv_iconst (v := (1 : Int32)) hx hb dX7_findFollower_85 (by decide) ?_
              refine lv_iadd hx hb dX7_findFollower_86 ?_
              obtain ⟨o11, ho11, hf⟩ := of_bind hf
              refine c_I (wr := []) (W2 := [ob q_t 7 [.ref q_t_leader, .int o11.2.1], ia C q_t_leader 8 o11.2.2, ob q_a1 4 [.int v_a1_office_15, .int v_a1_free_15, .int v_a1_people_15, .int v_a1_deeds_15, .ref q_a1_home, .ref q_a1_who, .ref q_a1_place, .ref q_a1_from, .ref q_a1_till, .ref q_a1_worth], ia C q_a1_home 6 r_a1_home_15, ia C q_a1_who 8 r_a1_who_15, ia C q_a1_place 8 r_a1_place_15, ia C q_a1_from 8 r_a1_from_15]) (cV_run ⟨hx, hb, hml, hown, hts⟩ (ihd q_t q_t_leader q_a1 q_a1_home q_a1_who q_a1_place q_a1_from q_a1_till q_a1_worth z8 r_t_leader_15 v_a1_office_15 v_a1_free_15 v_a1_people_15 v_a1_deeds_15 r_a1_home_15 r_a1_who_15 r_a1_place_15 r_a1_from_15 (r_t_leader_15 w4_15.toNatClampNeg) (w3_15 + (1 : Int32)) H.size o11 ho11) gX7_findFollower_X7_findFollower rfl ⟨rfl, rfl⟩ hd_X7_findFollower ⟨Nat.le_refl _, by show 8 + (5 + 11) + (69 + d * 24) ≤ 69 + (d + 1) * 24; omega⟩ rfl hK (cut_in hK hP hD [0, 1, 2, 3, 4, 5, 6] rfl (by decide)) (ci := 7) rfl rfl rfl hl.1 rfl (Nat.le_of_ble_eq_true rfl) dX7_findFollower_87 ⟨Nat.zero_le _, Nat.zero_le _⟩) hP hD hS hA [0, 1, 2, 3, 4, 5, 6] [] [0, 1, 2, 3, 4, 5, 6] rfl rfl (by decide) (by decide) rfl (by decide) (fun H locs hP hD hS => ?_)
              have hP : va_P D vwCl [ob q_t 7 [.ref q_t_leader, .int o11.2.1], ia C q_t_leader 8 o11.2.2, ob q_a1 4 [.int v_a1_office_15, .int v_a1_free_15, .int v_a1_people_15, .int v_a1_deeds_15, .ref q_a1_home, .ref q_a1_who, .ref q_a1_place, .ref q_a1_from, .ref q_a1_till, .ref q_a1_worth], ia C q_a1_home 6 r_a1_home_15, ia C q_a1_who 8 r_a1_who_15, ia C q_a1_place 8 r_a1_place_15, ia C q_a1_from 8 r_a1_from_15] H := hP
              have hD : va_D A [ob q_t 7 [.ref q_t_leader, .int o11.2.1], ia C q_t_leader 8 o11.2.2, ob q_a1 4 [.int v_a1_office_15, .int v_a1_free_15, .int v_a1_people_15, .int v_a1_deeds_15, .ref q_a1_home, .ref q_a1_who, .ref q_a1_place, .ref q_a1_from, .ref q_a1_till, .ref q_a1_worth], ia C q_a1_home 6 r_a1_home_15, ia C q_a1_who 8 r_a1_who_15, ia C q_a1_place 8 r_a1_place_15, ia C q_a1_from 8 r_a1_from_15] := hD
              refine lv_if_eq (tgt := 103) hx hb dX7_findFollower_90 (by decide) (fun c12 => ?_) (fun c12 => ?_)
              · have hf := of_pos hf c12
                obtain ⟨z13, ez13⟩ : ∃ y : Int32, y = (w4_15 + (1 : Int32)) := ⟨_, rfl⟩
                have hf := of_lt hf ez13
                refine lv_iinc (v := z13) (lv' := [(4, .int z13), (0, .ref q_t), (1, .ref q_a1), (2, .int w2_15), (3, .int w3_15)]) hx hb dX7_findFollower_103 hl (k := 0) rfl (by rw [ez13]; rfl) (by decide) rfl (fun ls hl => ?_)
                refine lv_goto (tgt := 15) hx hb dX7_findFollower_106 (by decide) ?_
                exact ih _ _ _ _ _ _ _ _ _ _ _ _ _ _ hf H locs ls hP hD hS (lv_sub hl [0, 1, 2, 3, 4] rfl) KX0 KX1
              · have hf := of_neg hf c12
                obtain rfl := Option.some.inj hf
                exact KX1 _ _ _ rfl hP hD hS (lv_sub hl [0, 1, 2, 3, 4] rfl)
          · have hf := of_pos hf c7
            refine lv_goto (tgt := 103) hx hb dX7_findFollower_47 (by decide) ?_
            obtain ⟨z14, ez14⟩ : ∃ y : Int32, y = (w4_15 + (1 : Int32)) := ⟨_, rfl⟩
            have hf := of_lt hf ez14
            refine lv_iinc (v := z14) (lv' := [(4, .int z14), (0, .ref q_t), (1, .ref q_a1), (2, .int w2_15), (3, .int w3_15)]) hx hb dX7_findFollower_103 hl (k := 0) rfl (by rw [ez14]; rfl) (by decide) rfl (fun ls hl => ?_)
            refine lv_goto (tgt := 15) hx hb dX7_findFollower_106 (by decide) ?_
            exact ih _ _ _ _ _ _ _ _ _ _ _ _ _ _ hf H locs ls hP hD hS (lv_sub hl [0, 1, 2, 3, 4] rfl) KX0 KX1
  refine lv_iload_n hx hb dX7_findFollower_0 rfl (lv_at hl 2 rfl) ?_
  refine lv_if_lt (tgt := 10) hx hb dX7_findFollower_1 (by decide) (fun c1 => ?_) (fun c1 => ?_)
  · have hf := of_pos hf c1
    refine lv_iconst (v := (0 : Int32)) hx hb dX7_findFollower_10 (by decide) ?_
    obtain rfl := Option.some.inj hf
    exact ret_Z hx hb hr hlocks okZ_0 hK hP hD hS dX7_findFollower_11
  · have hf := of_neg hf c1
    refine lv_iload_n hx hb dX7_findFollower_4 rfl (lv_at hl 3 rfl) ?_
    refine lv_bipush (v := (8 : Int32)) hx hb dX7_findFollower_5 (by decide) ?_
    refine lv_icmp_le (tgt := 12) hx hb dX7_findFollower_7 (by decide) (fun c2 => ?_) (fun c2 => ?_)
    · have hf := of_pos hf c2
      refine lv_iconst (v := (0 : Int32)) hx hb dX7_findFollower_12 (by decide) ?_
      refine lv_istore (lv' := [(4, .int (0 : Int32)), (0, .ref q_t), (1, .ref q_a1), (2, .int p2), (3, .int p3)]) hx hb dX7_findFollower_13 hl (by decide) rfl (fun ls hl => ?_)
      obtain ⟨y15, hy15, hf⟩ := of_bind hf
      refine LP15 _ FU _ _ _ _ _ _ _ _ _ _ _ _ _ y15 hy15 H locs ls hP hD hS (lv_sub hl [0, 1, 2, 3, 4] rfl) (fun H locs ls hz hP hD hS hl => ?_) (fun H locs ls hz hP hD hS hl => ?_)
      · have hf := hf
        have hf := of_pos hf hz
        refine lv_iconst (v := (0 : Int32)) hx hb dX7_findFollower_109 (by decide) ?_
        obtain rfl := Option.some.inj hf
        exact ret_Z hx hb hr hlocks okZ_0 hK hP hD hS dX7_findFollower_110
      · have hf := hf
        have hf := of_neg hf (by rw [hz]; decide)
        refine lv_aload_n hx hb dX7_findFollower_93 rfl (lv_at hl 1 rfl) ?_
        refine va_get (D := D) (ci := 7) (v := .ref q_t_leader) (C := RX7) (T := TX7) (N := 2) hx hb hts inX7 hown hK hP 0 rfl rfl 0 (by decide) (hts (.fieldLink RX7 9 "LentCourage$SpoonCount" "leader" "[I") (List.mem_of_getElem? (i := 3) rfl)) (fun _ h9 => h9) rfl dX7_findFollower_94 ?_
        refine lv_iload hx hb dX7_findFollower_97 (lv_at hl 0 rfl) ?_
        refine lv_iload_n hx hb dX7_findFollower_99 rfl (lv_at hl 3 rfl) ?_
        obtain ⟨h16, hf⟩ := of_chk hf
        refine va_iast hx hb hK hP hD hS 1 0 rfl rfl h16 dX7_findFollower_100 (fun H locs hP hD hS => ?_)
        have hP : va_P D vwCl [ob q_t 7 [.ref q_t_leader, .int y15.2.2.1], ia C q_t_leader 8 (upd y15.2.2.2 y15.2.1.toNatClampNeg p2), ob q_a1 4 [.int v_a1_office, .int v_a1_free, .int v_a1_people, .int v_a1_deeds, .ref q_a1_home, .ref q_a1_who, .ref q_a1_place, .ref q_a1_from, .ref q_a1_till, .ref q_a1_worth], ia C q_a1_home 6 r_a1_home, ia C q_a1_who 8 r_a1_who, ia C q_a1_place 8 r_a1_place, ia C q_a1_from 8 r_a1_from] H := hP
        have hD : va_D A [ob q_t 7 [.ref q_t_leader, .int y15.2.2.1], ia C q_t_leader 8 (upd y15.2.2.2 y15.2.1.toNatClampNeg p2), ob q_a1 4 [.int v_a1_office, .int v_a1_free, .int v_a1_people, .int v_a1_deeds, .ref q_a1_home, .ref q_a1_who, .ref q_a1_place, .ref q_a1_from, .ref q_a1_till, .ref q_a1_worth], ia C q_a1_home 6 r_a1_home, ia C q_a1_who 8 r_a1_who, ia C q_a1_place 8 r_a1_place, ia C q_a1_from 8 r_a1_from] := hD
        refine lv_iconst (v := (1 : Int32)) hx hb dX7_findFollower_101 (by decide) ?_
        obtain rfl := Option.some.inj hf
        exact ret_Z hx hb hr hlocks okZ_1 hK hP hD hS dX7_findFollower_102
    · have hf := of_neg hf c2
      refine lv_iconst (v := (0 : Int32)) hx hb dX7_findFollower_10 (by decide) ?_
      obtain rfl := Option.some.inj hf
      exact ret_Z hx hb hr hlocks okZ_0 hK hP hD hS dX7_findFollower_11

def fX7_fewest_2 (v_a1_office_2 : Int32) (v_a1_deeds_2 : Int32) (r_a1_home_2 : Nat → Int32) (r_a1_who_2 : Nat → Int32) (r_a1_place_2 : Nat → Int32) (r_a1_from_2 : Nat → Int32) : Nat → Int32 → (Nat → Int32) → Option (Nat × Int32 × (Nat → Int32))
  | 0, _, _ => none
  | n + 1, w2_2, r_t_leader_2 => (if v_a1_deeds_2 ≤ w2_2 then some (0, (w2_2, r_t_leader_2)) else (fX7_canGo r_a1_home_2 r_a1_who_2 r_a1_place_2 r_a1_from_2 (0 : Int32) v_a1_office_2 w2_2).bind (fun o2 => (if o2 = 0 then some (1, (w2_2, r_t_leader_2)) else chk (vin w2_2 8) (lt_ (w2_2 + (1 : Int32)) (fun z5 => fX7_fewest_2 v_a1_office_2 v_a1_deeds_2 r_a1_home_2 r_a1_who_2 r_a1_place_2 r_a1_from_2 n z5 (upd r_t_leader_2 w2_2.toNatClampNeg (-9 : Int32)))))))
def fX7_fewest_47 (v_a1_deeds_47 : Int32) (r_a1_home_47 : Nat → Int32) (r_a1_who_47 : Nat → Int32) (r_a1_place_47 : Nat → Int32) (r_a1_from_47 : Nat → Int32) : Nat → Int32 → Int32 → Int32 → (Nat → Int32) → Option (Int32 × Int32 × Int32 × (Nat → Int32))
  | 0, _, _, _, _ => none
  | n + 1, w3_47, w2_47, v_t_seen_47, r_t_leader_47 => (if v_a1_deeds_47 ≤ w3_47 then some (w3_47, w2_47, v_t_seen_47, r_t_leader_47) else (fX7_findFollower 20 (0 : Int32) r_t_leader_47 v_a1_deeds_47 r_a1_home_47 r_a1_who_47 r_a1_place_47 r_a1_from_47 w3_47 (0 : Int32)).bind (fun o8 => (if o8.1 = 0 then lt_ (w3_47 + (1 : Int32)) (fun z10 => fX7_fewest_47 v_a1_deeds_47 r_a1_home_47 r_a1_who_47 r_a1_place_47 r_a1_from_47 n z10 w2_47 o8.2.1 o8.2.2) else lt_ (w2_47 + (-1 : Int32)) (fun z11 => lt_ (w3_47 + (1 : Int32)) (fun z12 => fX7_fewest_47 v_a1_deeds_47 r_a1_home_47 r_a1_who_47 r_a1_place_47 r_a1_from_47 n z12 z11 o8.2.1 o8.2.2)))))
def fX7_fewest (v_t_seen : Int32) (r_t_leader : Nat → Int32) (v_a1_office : Int32) (v_a1_deeds : Int32) (r_a1_home : Nat → Int32) (r_a1_who : Nat → Int32) (r_a1_place : Nat → Int32) (r_a1_from : Nat → Int32) : Option (Int32 × Int32 × (Nat → Int32)) :=
  (fX7_fewest_2 v_a1_office v_a1_deeds r_a1_home r_a1_who r_a1_place r_a1_from FU (0 : Int32) r_t_leader).bind (fun y6 => (if y6.1 = 0 then (fX7_fewest_47 v_a1_deeds r_a1_home r_a1_who r_a1_place r_a1_from FU (0 : Int32) v_a1_deeds v_t_seen y6.2.2).bind (fun y13 => some (y13.2.1, y13.2.2.1, y13.2.2.2)) else some ((-9 : Int32), v_t_seen, y6.2.2)))
theorem hd_X7_fewest : yX7_fewest.cls = RX7 ∧ yX7_fewest.cls ≠ "java/lang/invoke/MethodHandle" ∧ yX7_fewest.cls ≠ "java/lang/invoke/VarHandle" ∧ (parseMethodDescriptor yX7_fewest.desc).map (fun d => d.parameters.length) = some 1 := by decide +kernel
set_option maxHeartbeats 4000000 in
set_option maxRecDepth 100000 in
theorem k_X7_fewest (l : Launch) (D : va_G) (C : Nat → ClassId) (q_t : Nat) (q_t_leader : Nat) (q_a1 : Nat) (q_a1_home : Nat) (q_a1_who : Nat) (q_a1_place : Nat) (q_a1_from : Nat) (q_a1_till : Nat) (q_a1_worth : Nat) (v_t_seen : Int32) (r_t_leader : Nat → Int32) (v_a1_office : Int32) (v_a1_free : Int32) (v_a1_people : Int32) (v_a1_deeds : Int32) (r_a1_home : Nat → Int32) (r_a1_who : Nat → Int32) (r_a1_place : Nat → Int32) (r_a1_from : Nat → Int32) (sz : Nat) (out : Int32 × Int32 × (Nat → Int32)) (hf : fX7_fewest v_t_seen r_t_leader v_a1_office v_a1_deeds r_a1_home r_a1_who r_a1_place r_a1_from = some out) : MI l yX7_fewest wsX7_fewest ({ frames := 24, cells := 0, slots := 0, locals := 573 }) D C [.ref q_t, .ref q_a1] [ob q_t 7 [.ref q_t_leader, .int v_t_seen], ia C q_t_leader 8 r_t_leader, ob q_a1 4 [.int v_a1_office, .int v_a1_free, .int v_a1_people, .int v_a1_deeds, .ref q_a1_home, .ref q_a1_who, .ref q_a1_place, .ref q_a1_from, .ref q_a1_till, .ref q_a1_worth], ia C q_a1_home 6 r_a1_home, ia C q_a1_who 8 r_a1_who, ia C q_a1_place 8 r_a1_place, ia C q_a1_from 8 r_a1_from] [ob q_t 7 [.ref q_t_leader, .int out.2.1], ia C q_t_leader 8 out.2.2, ob q_a1 4 [.int v_a1_office, .int v_a1_free, .int v_a1_people, .int v_a1_deeds, .ref q_a1_home, .ref q_a1_who, .ref q_a1_place, .ref q_a1_from, .ref q_a1_till, .ref q_a1_worth], ia C q_a1_home 6 r_a1_home, ia C q_a1_who 8 r_a1_who, ia C q_a1_place 8 r_a1_place, ia C q_a1_from 8 r_a1_from] sz (out.1) := by
  unfold fX7_fewest at hf
  refine en_I (by decide) rfl (Nat.le_of_ble_eq_true rfl) ?_
  intro p e s m below meth c A ls H locs hx hb hr hlocks hml hts hown hK hP hD hS hA hl
  have hl : lv_has ls 4 [(0, .ref q_t), (1, .ref q_a1)] := hl
  have inX4 : ∀ w ∈ u_ws RX4 TX4 10, w ∈ wsX7_fewest := fun w h => List.mem_cons_of_mem _ (List.mem_append_left _ (List.mem_append_right _ h))
  have inX7 : ∀ w ∈ u_ws RX7 TX7 2, w ∈ wsX7_fewest := fun w h => List.mem_cons_of_mem _ (List.mem_append_right _ h)
  have LP2 : ∀ (Q : State → Prop) (n : Nat) (w2_2 : Int32) (v_t_seen_2 : Int32) (r_t_leader_2 : Nat → Int32) (v_a1_office_2 : Int32) (v_a1_free_2 : Int32) (v_a1_people_2 : Int32) (v_a1_deeds_2 : Int32) (r_a1_home_2 : Nat → Int32) (r_a1_who_2 : Nat → Int32) (r_a1_place_2 : Nat → Int32) (r_a1_from_2 : Nat → Int32) (y_2 : Nat × Int32 × (Nat → Int32)), fX7_fewest_2 v_a1_office_2 v_a1_deeds_2 r_a1_home_2 r_a1_who_2 r_a1_place_2 r_a1_from_2 n w2_2 r_t_leader_2 = some y_2 → ∀ (H : Heap) (locs : List Loc) (ls : Array Slot), va_P D vwCl [ob q_t 7 [.ref q_t_leader, .int v_t_seen_2], ia C q_t_leader 8 r_t_leader_2, ob q_a1 4 [.int v_a1_office_2, .int v_a1_free_2, .int v_a1_people_2, .int v_a1_deeds_2, .ref q_a1_home, .ref q_a1_who, .ref q_a1_place, .ref q_a1_from, .ref q_a1_till, .ref q_a1_worth], ia C q_a1_home 6 r_a1_home_2, ia C q_a1_who 8 r_a1_who_2, ia C q_a1_place 8 r_a1_place_2, ia C q_a1_from 8 r_a1_from_2] H → va_D A [ob q_t 7 [.ref q_t_leader, .int v_t_seen_2], ia C q_t_leader 8 r_t_leader_2, ob q_a1 4 [.int v_a1_office_2, .int v_a1_free_2, .int v_a1_people_2, .int v_a1_deeds_2, .ref q_a1_home, .ref q_a1_who, .ref q_a1_place, .ref q_a1_from, .ref q_a1_till, .ref q_a1_worth], ia C q_a1_home 6 r_a1_home_2, ia C q_a1_who 8 r_a1_who_2, ia C q_a1_place 8 r_a1_place_2, ia C q_a1_from 8 r_a1_from_2] → va_S A s.heap H locs → lv_has ls 4 [(2, .int w2_2), (0, .ref q_t), (1, .ref q_a1)] → (∀ (H : Heap) (locs : List Loc) (ls : Array Slot), y_2.1 = 0 → va_P D vwCl [ob q_t 7 [.ref q_t_leader, .int v_t_seen_2], ia C q_t_leader 8 y_2.2.2, ob q_a1 4 [.int v_a1_office_2, .int v_a1_free_2, .int v_a1_people_2, .int v_a1_deeds_2, .ref q_a1_home, .ref q_a1_who, .ref q_a1_place, .ref q_a1_from, .ref q_a1_till, .ref q_a1_worth], ia C q_a1_home 6 r_a1_home_2, ia C q_a1_who 8 r_a1_who_2, ia C q_a1_place 8 r_a1_place_2, ia C q_a1_from 8 r_a1_from_2] H → va_D A [ob q_t 7 [.ref q_t_leader, .int v_t_seen_2], ia C q_t_leader 8 y_2.2.2, ob q_a1 4 [.int v_a1_office_2, .int v_a1_free_2, .int v_a1_people_2, .int v_a1_deeds_2, .ref q_a1_home, .ref q_a1_who, .ref q_a1_place, .ref q_a1_from, .ref q_a1_till, .ref q_a1_worth], ia C q_a1_home 6 r_a1_home_2, ia C q_a1_who 8 r_a1_who_2, ia C q_a1_place 8 r_a1_place_2, ia C q_a1_from 8 r_a1_from_2] → va_S A s.heap H locs → lv_has ls 4 [(2, .int y_2.2.1), (0, .ref q_t), (1, .ref q_a1)] → W p l e ({ frames := 24, cells := 0, slots := 0, locals := 573 } : Room) s m ([.ref q_t, .ref q_a1] : List Value).toArray below meth c H locs 0 0 Q (F0 m 40 ls [])) → (∀ (H : Heap) (locs : List Loc) (ls : Array Slot), y_2.1 = 1 → va_P D vwCl [ob q_t 7 [.ref q_t_leader, .int v_t_seen_2], ia C q_t_leader 8 y_2.2.2, ob q_a1 4 [.int v_a1_office_2, .int v_a1_free_2, .int v_a1_people_2, .int v_a1_deeds_2, .ref q_a1_home, .ref q_a1_who, .ref q_a1_place, .ref q_a1_from, .ref q_a1_till, .ref q_a1_worth], ia C q_a1_home 6 r_a1_home_2, ia C q_a1_who 8 r_a1_who_2, ia C q_a1_place 8 r_a1_place_2, ia C q_a1_from 8 r_a1_from_2] H → va_D A [ob q_t 7 [.ref q_t_leader, .int v_t_seen_2], ia C q_t_leader 8 y_2.2.2, ob q_a1 4 [.int v_a1_office_2, .int v_a1_free_2, .int v_a1_people_2, .int v_a1_deeds_2, .ref q_a1_home, .ref q_a1_who, .ref q_a1_place, .ref q_a1_from, .ref q_a1_till, .ref q_a1_worth], ia C q_a1_home 6 r_a1_home_2, ia C q_a1_who 8 r_a1_who_2, ia C q_a1_place 8 r_a1_place_2, ia C q_a1_from 8 r_a1_from_2] → va_S A s.heap H locs → lv_has ls 4 [(2, .int y_2.2.1), (0, .ref q_t), (1, .ref q_a1)] → W p l e ({ frames := 24, cells := 0, slots := 0, locals := 573 } : Room) s m ([.ref q_t, .ref q_a1] : List Value).toArray below meth c H locs 0 0 Q (F0 m 23 ls [])) → W p l e ({ frames := 24, cells := 0, slots := 0, locals := 573 } : Room) s m ([.ref q_t, .ref q_a1] : List Value).toArray below meth c H locs 0 0 Q (F0 m 2 ls []) := by
    intro Q n
    induction n with
    | zero =>
      intro w2_2 v_t_seen_2 r_t_leader_2 v_a1_office_2 v_a1_free_2 v_a1_people_2 v_a1_deeds_2 r_a1_home_2 r_a1_who_2 r_a1_place_2 r_a1_from_2 y_2 hf
      rw [fX7_fewest_2] at hf
      cases hf
    | succ n ih =>
      intro w2_2 v_t_seen_2 r_t_leader_2 v_a1_office_2 v_a1_free_2 v_a1_people_2 v_a1_deeds_2 r_a1_home_2 r_a1_who_2 r_a1_place_2 r_a1_from_2 y_2 hf H locs ls hP hD hS hl KX0 KX1
      rw [fX7_fewest_2] at hf
      refine lv_iload_n hx hb dX7_fewest_2 rfl (lv_at hl 0 rfl) ?_
      refine lv_aload_n hx hb dX7_fewest_3 rfl (lv_at hl 2 rfl) ?_
      refine va_get (D := D) (ci := 4) (v := .int v_a1_deeds_2) (C := RX4) (T := TX4) (N := 10) hx hb hts inX4 hown hK hP 2 rfl rfl 3 (by decide) (hts (.fieldLink RX7 15 "LentCourage$Port" "deeds" "I") (List.mem_of_getElem? (i := 1) rfl)) (fun _ h9 => h9) rfl dX7_fewest_4 ?_
      refine lv_icmp_ge (tgt := 40) hx hb dX7_fewest_7 (by decide) (fun c1 => ?_) (fun c1 => ?_)
      · have hf := of_pos hf c1
        obtain rfl := Option.some.inj hf
        exact KX0 _ _ _ rfl hP hD hS (lv_sub hl [0, 1, 2] rfl)
      · have hf := of_neg hf c1
        refine lv_aload_n hx hb dX7_fewest_10 rfl (lv_at hl 2 rfl) ?_
        refine lv_iconst (v := (0 : Int32)) hx hb dX7_fewest_11 (by decide) ?_
        refine lv_aload_n hx hb dX7_fewest_12 rfl (lv_at hl 2 rfl) ?_
        refine va_get (D := D) (ci := 4) (v := .int v_a1_office_2) (C := RX4) (T := TX4) (N := 10) hx hb hts inX4 hown hK hP 2 rfl rfl 0 (by decide) (hts (.fieldLink RX7 21 "LentCourage$Port" "office" "I") (List.mem_of_getElem? (i := 2) rfl)) (fun _ h9 => h9) rfl dX7_fewest_13 ?_
        refine lv_iload_n hx hb dX7_fewest_16 rfl (lv_at hl 0 rfl) ?_
        obtain ⟨o2, ho2, hf⟩ := of_bind hf
        refine c_I (wr := [ob q_t 7 [.ref q_t_leader, .int v_t_seen_2], ia C q_t_leader 8 r_t_leader_2]) (W2 := [ob q_t 7 [.ref q_t_leader, .int v_t_seen_2], ia C q_t_leader 8 r_t_leader_2, ob q_a1 4 [.int v_a1_office_2, .int v_a1_free_2, .int v_a1_people_2, .int v_a1_deeds_2, .ref q_a1_home, .ref q_a1_who, .ref q_a1_place, .ref q_a1_from, .ref q_a1_till, .ref q_a1_worth], ia C q_a1_home 6 r_a1_home_2, ia C q_a1_who 8 r_a1_who_2, ia C q_a1_place 8 r_a1_place_2, ia C q_a1_from 8 r_a1_from_2]) (cS_run ⟨hx, hb, hml, hown, hts⟩ (k_X7_canGo l D C q_a1 q_a1_home q_a1_who q_a1_place q_a1_from q_a1_till q_a1_worth v_a1_office_2 v_a1_free_2 v_a1_people_2 v_a1_deeds_2 r_a1_home_2 r_a1_who_2 r_a1_place_2 r_a1_from_2 (0 : Int32) v_a1_office_2 w2_2 H.size o2 ho2) gX7_fewest_X7_canGo rfl ⟨rfl, rfl⟩ hd_X7_canGo ⟨(Nat.le_of_ble_eq_true rfl), (Nat.le_of_ble_eq_true rfl)⟩ rfl hK (cut_in hK hP hD [2, 3, 4, 5, 6] rfl (by decide)) hl.1 rfl (Nat.le_of_ble_eq_true rfl) dX7_fewest_17 ⟨Nat.zero_le _, Nat.zero_le _⟩) hP hD hS hA [2, 3, 4, 5, 6] [0, 1] [0, 1, 2, 3, 4, 5, 6] rfl rfl (by decide) (by decide) rfl (by decide) (fun H locs hP hD hS => ?_)
        have hP : va_P D vwCl [ob q_t 7 [.ref q_t_leader, .int v_t_seen_2], ia C q_t_leader 8 r_t_leader_2, ob q_a1 4 [.int v_a1_office_2, .int v_a1_free_2, .int v_a1_people_2, .int v_a1_deeds_2, .ref q_a1_home, .ref q_a1_who, .ref q_a1_place, .ref q_a1_from, .ref q_a1_till, .ref q_a1_worth], ia C q_a1_home 6 r_a1_home_2, ia C q_a1_who 8 r_a1_who_2, ia C q_a1_place 8 r_a1_place_2, ia C q_a1_from 8 r_a1_from_2] H := hP
        have hD : va_D A [ob q_t 7 [.ref q_t_leader, .int v_t_seen_2], ia C q_t_leader 8 r_t_leader_2, ob q_a1 4 [.int v_a1_office_2, .int v_a1_free_2, .int v_a1_people_2, .int v_a1_deeds_2, .ref q_a1_home, .ref q_a1_who, .ref q_a1_place, .ref q_a1_from, .ref q_a1_till, .ref q_a1_worth], ia C q_a1_home 6 r_a1_home_2, ia C q_a1_who 8 r_a1_who_2, ia C q_a1_place 8 r_a1_place_2, ia C q_a1_from 8 r_a1_from_2] := hD
        refine lv_if_ne (tgt := 26) hx hb dX7_fewest_20 (by decide) (fun c3 => ?_) (fun c3 => ?_)
        · have hf := of_neg hf c3
          refine lv_aload_n hx hb dX7_fewest_26 rfl (lv_at hl 1 rfl) ?_
          refine va_get (D := D) (ci := 7) (v := .ref q_t_leader) (C := RX7) (T := TX7) (N := 2) hx hb hts inX7 hown hK hP 0 rfl rfl 0 (by decide) (hts (.fieldLink RX7 9 "LentCourage$SpoonCount" "leader" "[I") (List.mem_of_getElem? (i := 3) rfl)) (fun _ h9 => h9) rfl dX7_fewest_27 ?_
          refine lv_iload_n hx hb dX7_fewest_30 rfl (lv_at hl 0 rfl) ?_
          refine lv_bipush (v := (-9 : Int32)) hx hb dX7_fewest_31 (by decide) ?_
          obtain ⟨h4, hf⟩ := of_chk hf
          refine va_iast hx hb hK hP hD hS 1 0 rfl rfl h4 dX7_fewest_33 (fun H locs hP hD hS => ?_)
          have hP : va_P D vwCl [ob q_t 7 [.ref q_t_leader, .int v_t_seen_2], ia C q_t_leader 8 (upd r_t_leader_2 w2_2.toNatClampNeg (-9 : Int32)), ob q_a1 4 [.int v_a1_office_2, .int v_a1_free_2, .int v_a1_people_2, .int v_a1_deeds_2, .ref q_a1_home, .ref q_a1_who, .ref q_a1_place, .ref q_a1_from, .ref q_a1_till, .ref q_a1_worth], ia C q_a1_home 6 r_a1_home_2, ia C q_a1_who 8 r_a1_who_2, ia C q_a1_place 8 r_a1_place_2, ia C q_a1_from 8 r_a1_from_2] H := hP
          have hD : va_D A [ob q_t 7 [.ref q_t_leader, .int v_t_seen_2], ia C q_t_leader 8 (upd r_t_leader_2 w2_2.toNatClampNeg (-9 : Int32)), ob q_a1 4 [.int v_a1_office_2, .int v_a1_free_2, .int v_a1_people_2, .int v_a1_deeds_2, .ref q_a1_home, .ref q_a1_who, .ref q_a1_place, .ref q_a1_from, .ref q_a1_till, .ref q_a1_worth], ia C q_a1_home 6 r_a1_home_2, ia C q_a1_who 8 r_a1_who_2, ia C q_a1_place 8 r_a1_place_2, ia C q_a1_from 8 r_a1_from_2] := hD
          obtain ⟨z5, ez5⟩ : ∃ y : Int32, y = (w2_2 + (1 : Int32)) := ⟨_, rfl⟩
          have hf := of_lt hf ez5
          refine lv_iinc (v := z5) (lv' := [(2, .int z5), (0, .ref q_t), (1, .ref q_a1)]) hx hb dX7_fewest_34 hl (k := 0) rfl (by rw [ez5]; rfl) (by decide) rfl (fun ls hl => ?_)
          refine lv_goto (tgt := 2) hx hb dX7_fewest_37 (by decide) ?_
          exact ih _ _ _ _ _ _ _ _ _ _ _ _ hf H locs ls hP hD hS (lv_sub hl [0, 1, 2] rfl) KX0 KX1
        · have hf := of_pos hf c3
          obtain rfl := Option.some.inj hf
          exact KX1 _ _ _ rfl hP hD hS (lv_sub hl [0, 1, 2] rfl)
  have LP47 : ∀ (Q : State → Prop) (n : Nat) (w3_47 : Int32) (w2_47 : Int32) (v_t_seen_47 : Int32) (r_t_leader_47 : Nat → Int32) (v_a1_office_47 : Int32) (v_a1_free_47 : Int32) (v_a1_people_47 : Int32) (v_a1_deeds_47 : Int32) (r_a1_home_47 : Nat → Int32) (r_a1_who_47 : Nat → Int32) (r_a1_place_47 : Nat → Int32) (r_a1_from_47 : Nat → Int32) (y_47 : Int32 × Int32 × Int32 × (Nat → Int32)), fX7_fewest_47 v_a1_deeds_47 r_a1_home_47 r_a1_who_47 r_a1_place_47 r_a1_from_47 n w3_47 w2_47 v_t_seen_47 r_t_leader_47 = some y_47 → ∀ (H : Heap) (locs : List Loc) (ls : Array Slot), va_P D vwCl [ob q_t 7 [.ref q_t_leader, .int v_t_seen_47], ia C q_t_leader 8 r_t_leader_47, ob q_a1 4 [.int v_a1_office_47, .int v_a1_free_47, .int v_a1_people_47, .int v_a1_deeds_47, .ref q_a1_home, .ref q_a1_who, .ref q_a1_place, .ref q_a1_from, .ref q_a1_till, .ref q_a1_worth], ia C q_a1_home 6 r_a1_home_47, ia C q_a1_who 8 r_a1_who_47, ia C q_a1_place 8 r_a1_place_47, ia C q_a1_from 8 r_a1_from_47] H → va_D A [ob q_t 7 [.ref q_t_leader, .int v_t_seen_47], ia C q_t_leader 8 r_t_leader_47, ob q_a1 4 [.int v_a1_office_47, .int v_a1_free_47, .int v_a1_people_47, .int v_a1_deeds_47, .ref q_a1_home, .ref q_a1_who, .ref q_a1_place, .ref q_a1_from, .ref q_a1_till, .ref q_a1_worth], ia C q_a1_home 6 r_a1_home_47, ia C q_a1_who 8 r_a1_who_47, ia C q_a1_place 8 r_a1_place_47, ia C q_a1_from 8 r_a1_from_47] → va_S A s.heap H locs → lv_has ls 4 [(3, .int w3_47), (2, .int w2_47), (0, .ref q_t), (1, .ref q_a1)] → (∀ (H : Heap) (locs : List Loc) (ls : Array Slot), va_P D vwCl [ob q_t 7 [.ref q_t_leader, .int y_47.2.2.1], ia C q_t_leader 8 y_47.2.2.2, ob q_a1 4 [.int v_a1_office_47, .int v_a1_free_47, .int v_a1_people_47, .int v_a1_deeds_47, .ref q_a1_home, .ref q_a1_who, .ref q_a1_place, .ref q_a1_from, .ref q_a1_till, .ref q_a1_worth], ia C q_a1_home 6 r_a1_home_47, ia C q_a1_who 8 r_a1_who_47, ia C q_a1_place 8 r_a1_place_47, ia C q_a1_from 8 r_a1_from_47] H → va_D A [ob q_t 7 [.ref q_t_leader, .int y_47.2.2.1], ia C q_t_leader 8 y_47.2.2.2, ob q_a1 4 [.int v_a1_office_47, .int v_a1_free_47, .int v_a1_people_47, .int v_a1_deeds_47, .ref q_a1_home, .ref q_a1_who, .ref q_a1_place, .ref q_a1_from, .ref q_a1_till, .ref q_a1_worth], ia C q_a1_home 6 r_a1_home_47, ia C q_a1_who 8 r_a1_who_47, ia C q_a1_place 8 r_a1_place_47, ia C q_a1_from 8 r_a1_from_47] → va_S A s.heap H locs → lv_has ls 4 [(3, .int y_47.1), (2, .int y_47.2.1), (0, .ref q_t), (1, .ref q_a1)] → W p l e ({ frames := 24, cells := 0, slots := 0, locals := 573 } : Room) s m ([.ref q_t, .ref q_a1] : List Value).toArray below meth c H locs 0 0 Q (F0 m 79 ls [])) → W p l e ({ frames := 24, cells := 0, slots := 0, locals := 573 } : Room) s m ([.ref q_t, .ref q_a1] : List Value).toArray below meth c H locs 0 0 Q (F0 m 47 ls []) := by
    intro Q n
    induction n with
    | zero =>
      intro w3_47 w2_47 v_t_seen_47 r_t_leader_47 v_a1_office_47 v_a1_free_47 v_a1_people_47 v_a1_deeds_47 r_a1_home_47 r_a1_who_47 r_a1_place_47 r_a1_from_47 y_47 hf
      rw [fX7_fewest_47] at hf
      cases hf
    | succ n ih =>
      intro w3_47 w2_47 v_t_seen_47 r_t_leader_47 v_a1_office_47 v_a1_free_47 v_a1_people_47 v_a1_deeds_47 r_a1_home_47 r_a1_who_47 r_a1_place_47 r_a1_from_47 y_47 hf H locs ls hP hD hS hl KX0
      rw [fX7_fewest_47] at hf
      refine lv_iload_n hx hb dX7_fewest_47 rfl (lv_at hl 0 rfl) ?_
      refine lv_aload_n hx hb dX7_fewest_48 rfl (lv_at hl 3 rfl) ?_
      refine va_get (D := D) (ci := 4) (v := .int v_a1_deeds_47) (C := RX4) (T := TX4) (N := 10) hx hb hts inX4 hown hK hP 2 rfl rfl 3 (by decide) (hts (.fieldLink RX7 15 "LentCourage$Port" "deeds" "I") (List.mem_of_getElem? (i := 1) rfl)) (fun _ h9 => h9) rfl dX7_fewest_49 ?_
      refine lv_icmp_ge (tgt := 79) hx hb dX7_fewest_52 (by decide) (fun c7 => ?_) (fun c7 => ?_)
      · have hf := of_pos hf c7
        obtain rfl := Option.some.inj hf
        exact KX0 _ _ _ hP hD hS (lv_sub hl [0, 1, 2, 3] rfl)
      · have hf := of_neg hf c7
        refine lv_aload_n hx hb dX7_fewest_55 rfl (lv_at hl 2 rfl) ?_
        refine lv_iconst (v := (0 : Int32)) hx hb dX7_fewest_56 (by decide) ?_
        refine va_put (D := D) (ci := 7) (v := .int (0 : Int32)) (ty := .int) (C := RX7) (T := TX7) (N := 2) hx hb hts inX7 tyX7 tyX7_ok nmX7 hown hK hP hD hS 0 rfl rfl 1 (by decide) (hts (.fieldLink RX7 28 "LentCourage$SpoonCount" "seen" "I") (List.mem_of_getElem? (i := 4) rfl)) (fun _ h9 => h9) rfl (tyX7_ok 1 (by decide)) rfl rfl (Nat.le_of_ble_eq_true rfl) dX7_fewest_57 (fun H locs hP hD hS => ?_)
        have hP : va_P D vwCl [ob q_t 7 [.ref q_t_leader, .int (0 : Int32)], ia C q_t_leader 8 r_t_leader_47, ob q_a1 4 [.int v_a1_office_47, .int v_a1_free_47, .int v_a1_people_47, .int v_a1_deeds_47, .ref q_a1_home, .ref q_a1_who, .ref q_a1_place, .ref q_a1_from, .ref q_a1_till, .ref q_a1_worth], ia C q_a1_home 6 r_a1_home_47, ia C q_a1_who 8 r_a1_who_47, ia C q_a1_place 8 r_a1_place_47, ia C q_a1_from 8 r_a1_from_47] H := hP
        have hD : va_D A [ob q_t 7 [.ref q_t_leader, .int (0 : Int32)], ia C q_t_leader 8 r_t_leader_47, ob q_a1 4 [.int v_a1_office_47, .int v_a1_free_47, .int v_a1_people_47, .int v_a1_deeds_47, .ref q_a1_home, .ref q_a1_who, .ref q_a1_place, .ref q_a1_from, .ref q_a1_till, .ref q_a1_worth], ia C q_a1_home 6 r_a1_home_47, ia C q_a1_who 8 r_a1_who_47, ia C q_a1_place 8 r_a1_place_47, ia C q_a1_from 8 r_a1_from_47] := hD
        refine lv_aload_n hx hb dX7_fewest_60 rfl (lv_at hl 2 rfl) ?_
        refine lv_aload_n hx hb dX7_fewest_61 rfl (lv_at hl 3 rfl) ?_
        refine lv_iload_n hx hb dX7_fewest_62 rfl (lv_at hl 0 rfl) ?_
        refine lv_iconst (v := (0 : Int32)) hx hb dX7_fewest_63 (by decide) ?_
        obtain ⟨o8, ho8, hf⟩ := of_bind hf
        refine c_I (wr := []) (W2 := [ob q_t 7 [.ref q_t_leader, .int o8.2.1], ia C q_t_leader 8 o8.2.2, ob q_a1 4 [.int v_a1_office_47, .int v_a1_free_47, .int v_a1_people_47, .int v_a1_deeds_47, .ref q_a1_home, .ref q_a1_who, .ref q_a1_place, .ref q_a1_from, .ref q_a1_till, .ref q_a1_worth], ia C q_a1_home 6 r_a1_home_47, ia C q_a1_who 8 r_a1_who_47, ia C q_a1_place 8 r_a1_place_47, ia C q_a1_from 8 r_a1_from_47]) (cV_run ⟨hx, hb, hml, hown, hts⟩ (k_X7_findFollower l D C 20 q_t q_t_leader q_a1 q_a1_home q_a1_who q_a1_place q_a1_from q_a1_till q_a1_worth (0 : Int32) r_t_leader_47 v_a1_office_47 v_a1_free_47 v_a1_people_47 v_a1_deeds_47 r_a1_home_47 r_a1_who_47 r_a1_place_47 r_a1_from_47 w3_47 (0 : Int32) H.size o8 ho8) gX7_fewest_X7_findFollower rfl ⟨rfl, rfl⟩ hd_X7_findFollower ⟨(Nat.le_of_ble_eq_true rfl), (Nat.le_of_ble_eq_true rfl)⟩ rfl hK (cut_in hK hP hD [0, 1, 2, 3, 4, 5, 6] rfl (by decide)) (ci := 7) rfl rfl rfl hl.1 rfl (Nat.le_of_ble_eq_true rfl) dX7_fewest_64 ⟨Nat.zero_le _, Nat.zero_le _⟩) hP hD hS hA [0, 1, 2, 3, 4, 5, 6] [] [0, 1, 2, 3, 4, 5, 6] rfl rfl (by decide) (by decide) rfl (by decide) (fun H locs hP hD hS => ?_)
        have hP : va_P D vwCl [ob q_t 7 [.ref q_t_leader, .int o8.2.1], ia C q_t_leader 8 o8.2.2, ob q_a1 4 [.int v_a1_office_47, .int v_a1_free_47, .int v_a1_people_47, .int v_a1_deeds_47, .ref q_a1_home, .ref q_a1_who, .ref q_a1_place, .ref q_a1_from, .ref q_a1_till, .ref q_a1_worth], ia C q_a1_home 6 r_a1_home_47, ia C q_a1_who 8 r_a1_who_47, ia C q_a1_place 8 r_a1_place_47, ia C q_a1_from 8 r_a1_from_47] H := hP
        have hD : va_D A [ob q_t 7 [.ref q_t_leader, .int o8.2.1], ia C q_t_leader 8 o8.2.2, ob q_a1 4 [.int v_a1_office_47, .int v_a1_free_47, .int v_a1_people_47, .int v_a1_deeds_47, .ref q_a1_home, .ref q_a1_who, .ref q_a1_place, .ref q_a1_from, .ref q_a1_till, .ref q_a1_worth], ia C q_a1_home 6 r_a1_home_47, ia C q_a1_who 8 r_a1_who_47, ia C q_a1_place 8 r_a1_place_47, ia C q_a1_from 8 r_a1_from_47] := hD
        refine lv_if_eq (tgt := 73) hx hb dX7_fewest_67 (by decide) (fun c9 => ?_) (fun c9 => ?_)
        · have hf := of_pos hf c9
          obtain ⟨z10, ez10⟩ : ∃ y : Int32, y = (w3_47 + (1 : Int32)) := ⟨_, rfl⟩
          have hf := of_lt hf ez10
          refine lv_iinc (v := z10) (lv' := [(3, .int z10), (2, .int w2_47), (0, .ref q_t), (1, .ref q_a1)]) hx hb dX7_fewest_73 hl (k := 0) rfl (by rw [ez10]; rfl) (by decide) rfl (fun ls hl => ?_)
          refine lv_goto (tgt := 47) hx hb dX7_fewest_76 (by decide) ?_
          exact ih _ _ _ _ _ _ _ _ _ _ _ _ _ hf H locs ls hP hD hS (lv_sub hl [0, 1, 2, 3] rfl) KX0
        · have hf := of_neg hf c9
          obtain ⟨z11, ez11⟩ : ∃ y : Int32, y = (w2_47 + (-1 : Int32)) := ⟨_, rfl⟩
          have hf := of_lt hf ez11
          refine lv_iinc (v := z11) (lv' := [(2, .int z11), (3, .int w3_47), (0, .ref q_t), (1, .ref q_a1)]) hx hb dX7_fewest_70 hl (k := 1) rfl (by rw [ez11]; rfl) (by decide) rfl (fun ls hl => ?_)
          obtain ⟨z12, ez12⟩ : ∃ y : Int32, y = (w3_47 + (1 : Int32)) := ⟨_, rfl⟩
          have hf := of_lt hf ez12
          refine lv_iinc (v := z12) (lv' := [(3, .int z12), (2, .int z11), (0, .ref q_t), (1, .ref q_a1)]) hx hb dX7_fewest_73 hl (k := 1) rfl (by rw [ez12]; rfl) (by decide) rfl (fun ls hl => ?_)
          refine lv_goto (tgt := 47) hx hb dX7_fewest_76 (by decide) ?_
          exact ih _ _ _ _ _ _ _ _ _ _ _ _ _ hf H locs ls hP hD hS (lv_sub hl [0, 1, 2, 3] rfl) KX0
  refine lv_iconst (v := (0 : Int32)) hx hb dX7_fewest_0 (by decide) ?_
  refine lv_istore_n (lv' := [(2, .int (0 : Int32)), (0, .ref q_t), (1, .ref q_a1)]) hx hb dX7_fewest_1 rfl hl (by decide) rfl (fun ls hl => ?_)
  obtain ⟨y6, hy6, hf⟩ := of_bind hf
  refine LP2 _ FU _ _ _ _ _ _ _ _ _ _ _ y6 hy6 H locs ls hP hD hS (lv_sub hl [0, 1, 2] rfl) (fun H locs ls hz hP hD hS hl => ?_) (fun H locs ls hz hP hD hS hl => ?_)
  · have hf := hf
    have hf := of_pos hf hz
    refine lv_aload_n hx hb dX7_fewest_40 rfl (lv_at hl 2 rfl) ?_
    refine va_get (D := D) (ci := 4) (v := .int v_a1_deeds) (C := RX4) (T := TX4) (N := 10) hx hb hts inX4 hown hK hP 2 rfl rfl 3 (by decide) (hts (.fieldLink RX7 15 "LentCourage$Port" "deeds" "I") (List.mem_of_getElem? (i := 1) rfl)) (fun _ h9 => h9) rfl dX7_fewest_41 ?_
    refine lv_istore_n (lv' := [(2, .int v_a1_deeds), (0, .ref q_t), (1, .ref q_a1)]) hx hb dX7_fewest_44 rfl hl (by decide) rfl (fun ls hl => ?_)
    refine lv_iconst (v := (0 : Int32)) hx hb dX7_fewest_45 (by decide) ?_
    refine lv_istore_n (lv' := [(3, .int (0 : Int32)), (2, .int v_a1_deeds), (0, .ref q_t), (1, .ref q_a1)]) hx hb dX7_fewest_46 rfl hl (by decide) rfl (fun ls hl => ?_)
    obtain ⟨y13, hy13, hf⟩ := of_bind hf
    refine LP47 _ FU _ _ _ _ _ _ _ _ _ _ _ _ y13 hy13 H locs ls hP hD hS (lv_sub hl [0, 1, 2, 3] rfl) (fun H locs ls hP hD hS hl => ?_)
    refine lv_iload_n hx hb dX7_fewest_79 rfl (lv_at hl 1 rfl) ?_
    obtain rfl := Option.some.inj hf
    exact ret_I hx hb hr hlocks hK hP hD hS dX7_fewest_80
  · have hf := hf
    have hf := of_neg hf (by rw [hz]; decide)
    refine lv_bipush (v := (-9 : Int32)) hx hb dX7_fewest_23 (by decide) ?_
    obtain rfl := Option.some.inj hf
    exact ret_I hx hb hr hlocks hK hP hD hS dX7_fewest_25
