/-! written by gen.py: 12.text -/
def fX8_isLetter (p0 : Int32) : Option (Int32) :=
  some (if p0 < (97 : Int32) then (0 : Int32) else (if (122 : Int32) < p0 then (0 : Int32) else (1 : Int32)))
theorem hd_X8_isLetter : yX8_isLetter.cls ≠ "java/lang/invoke/MethodHandle" ∧ yX8_isLetter.cls ≠ "java/lang/invoke/VarHandle" ∧ (parseMethodDescriptor yX8_isLetter.desc).map (fun d => d.parameters.length) = some 1 := by decide +kernel
set_option maxHeartbeats 4000000 in
set_option maxRecDepth 100000 in
theorem k_X8_isLetter (l : Launch) (D : va_G) (C : Nat → ClassId) (p0 : Int32) (sz : Nat) (out : Int32) (hf : fX8_isLetter p0 = some out) : MI l yX8_isLetter wsX8_isLetter ({ frames := 0, cells := 0, slots := 0, locals := 0 }) D C [.int p0] [] [] sz (out) := by
  unfold fX8_isLetter at hf
  refine en_I (by decide) rfl (Nat.le_of_ble_eq_true rfl) ?_
  intro p e s m below meth c A ls H locs hx hb hr hlocks hml hts hown hK hP hD hS hA hl
  have hl : lv_has ls 1 [(0, .int p0)] := hl
  refine lv_iload_n hx hb dX8_isLetter_0 rfl (lv_at hl 0 rfl) ?_
  refine lv_bipush (v := (97 : Int32)) hx hb dX8_isLetter_1 (by decide) ?_
  refine jp (g2 := F0 m 17 ls [.int (if p0 < (97 : Int32) then (0 : Int32) else (if (122 : Int32) < p0 then (0 : Int32) else (1 : Int32)))]) ?_ (fun JP => ?_)
  · obtain rfl := Option.some.inj hf
    exact ret_Z hx hb hr hlocks (by repeat (first | exact okZ_0 | exact okZ_1 | apply okZ_ite)) hK hP hD hS dX8_isLetter_17
  · refine lv_icmp_lt (tgt := 16) hx hb dX8_isLetter_3 (by decide) (fun c1 => ?_) (fun c1 => ?_)
    · refine lv_iconst (v := (0 : Int32)) hx hb dX8_isLetter_16 (by decide) ?_
      exact W.eq (congrArg (fun x => F0 m 17 ls (Value.int x :: [])) (if_pos c1).symm) JP
    · refine lv_iload_n hx hb dX8_isLetter_6 rfl (lv_at hl 0 rfl) ?_
      refine lv_bipush (v := (122 : Int32)) hx hb dX8_isLetter_7 (by decide) ?_
      refine lv_icmp_gt (tgt := 16) hx hb dX8_isLetter_9 (by decide) (fun c2 => ?_) (fun c2 => ?_)
      · refine lv_iconst (v := (0 : Int32)) hx hb dX8_isLetter_16 (by decide) ?_
        exact W.eq (congrArg (fun x => F0 m 17 ls (Value.int x :: [])) ((if_neg c1).trans (if_pos c2)).symm) JP
      · refine lv_iconst (v := (1 : Int32)) hx hb dX8_isLetter_12 (by decide) ?_
        refine lv_goto (tgt := 17) hx hb dX8_isLetter_13 (by decide) ?_
        exact W.eq (congrArg (fun x => F0 m 17 ls (Value.int x :: [])) ((if_neg c1).trans (if_neg c2)).symm) JP

def fX8_isDigit (p0 : Int32) : Option (Int32) :=
  some (if p0 < (48 : Int32) then (0 : Int32) else (if (57 : Int32) < p0 then (0 : Int32) else (1 : Int32)))
theorem hd_X8_isDigit : yX8_isDigit.cls ≠ "java/lang/invoke/MethodHandle" ∧ yX8_isDigit.cls ≠ "java/lang/invoke/VarHandle" ∧ (parseMethodDescriptor yX8_isDigit.desc).map (fun d => d.parameters.length) = some 1 := by decide +kernel
set_option maxHeartbeats 4000000 in
set_option maxRecDepth 100000 in
theorem k_X8_isDigit (l : Launch) (D : va_G) (C : Nat → ClassId) (p0 : Int32) (sz : Nat) (out : Int32) (hf : fX8_isDigit p0 = some out) : MI l yX8_isDigit wsX8_isDigit ({ frames := 0, cells := 0, slots := 0, locals := 0 }) D C [.int p0] [] [] sz (out) := by
  unfold fX8_isDigit at hf
  refine en_I (by decide) rfl (Nat.le_of_ble_eq_true rfl) ?_
  intro p e s m below meth c A ls H locs hx hb hr hlocks hml hts hown hK hP hD hS hA hl
  have hl : lv_has ls 1 [(0, .int p0)] := hl
  refine lv_iload_n hx hb dX8_isDigit_0 rfl (lv_at hl 0 rfl) ?_
  refine lv_bipush (v := (48 : Int32)) hx hb dX8_isDigit_1 (by decide) ?_
  refine jp (g2 := F0 m 17 ls [.int (if p0 < (48 : Int32) then (0 : Int32) else (if (57 : Int32) < p0 then (0 : Int32) else (1 : Int32)))]) ?_ (fun JP => ?_)
  · obtain rfl := Option.some.inj hf
    exact ret_Z hx hb hr hlocks (by repeat (first | exact okZ_0 | exact okZ_1 | apply okZ_ite)) hK hP hD hS dX8_isDigit_17
  · refine lv_icmp_lt (tgt := 16) hx hb dX8_isDigit_3 (by decide) (fun c1 => ?_) (fun c1 => ?_)
    · refine lv_iconst (v := (0 : Int32)) hx hb dX8_isDigit_16 (by decide) ?_
      exact W.eq (congrArg (fun x => F0 m 17 ls (Value.int x :: [])) (if_pos c1).symm) JP
    · refine lv_iload_n hx hb dX8_isDigit_6 rfl (lv_at hl 0 rfl) ?_
      refine lv_bipush (v := (57 : Int32)) hx hb dX8_isDigit_7 (by decide) ?_
      refine lv_icmp_gt (tgt := 16) hx hb dX8_isDigit_9 (by decide) (fun c2 => ?_) (fun c2 => ?_)
      · refine lv_iconst (v := (0 : Int32)) hx hb dX8_isDigit_16 (by decide) ?_
        exact W.eq (congrArg (fun x => F0 m 17 ls (Value.int x :: [])) ((if_neg c1).trans (if_pos c2)).symm) JP
      · refine lv_iconst (v := (1 : Int32)) hx hb dX8_isDigit_12 (by decide) ?_
        refine lv_goto (tgt := 17) hx hb dX8_isDigit_13 (by decide) ?_
        exact W.eq (congrArg (fun x => F0 m 17 ls (Value.int x :: [])) ((if_neg c1).trans (if_neg c2)).symm) JP

def fX8_goToStart : Option (Int32) :=
  some (0 : Int32)
theorem hd_X8_goToStart : yX8_goToStart.cls = RX8 ∧ yX8_goToStart.cls ≠ "java/lang/invoke/MethodHandle" ∧ yX8_goToStart.cls ≠ "java/lang/invoke/VarHandle" ∧ (parseMethodDescriptor yX8_goToStart.desc).map (fun d => d.parameters.length) = some 0 := by decide +kernel
set_option maxHeartbeats 4000000 in
set_option maxRecDepth 100000 in
theorem k_X8_goToStart (l : Launch) (D : va_G) (C : Nat → ClassId) (q_t : Nat) (q_t_bytes : Nat) (v_t_length : Int32) (v_t_start : Int32) (v_t_next : Int32) (v_t_sort : Int32) (v_t_value : Int32) (sz : Nat) (out : Int32) (hf : fX8_goToStart  = some out) : MV l yX8_goToStart wsX8_goToStart ({ frames := 0, cells := 0, slots := 0, locals := 0 }) D C [.ref q_t] [ob q_t 8 [.ref q_t_bytes, .int v_t_length, .int v_t_start, .int v_t_next, .int v_t_sort, .int v_t_value]] [ob q_t 8 [.ref q_t_bytes, .int v_t_length, .int v_t_start, .int out, .int v_t_sort, .int v_t_value]] sz := by
  unfold fX8_goToStart at hf
  refine en_V (by decide) rfl (Nat.le_of_ble_eq_true rfl) ?_
  intro p e s m below meth c A ls H locs hx hb hr hlocks hml hts hown hK hP hD hS hA hl
  have hl : lv_has ls 1 [(0, .ref q_t)] := hl
  have inX8 : ∀ w ∈ u_ws RX8 TX8 6, w ∈ wsX8_goToStart := fun w h => List.mem_cons_of_mem _ (List.mem_append_right _ h)
  refine lv_aload_n hx hb dX8_goToStart_0 rfl (lv_at hl 0 rfl) ?_
  refine lv_iconst (v := (0 : Int32)) hx hb dX8_goToStart_1 (by decide) ?_
  refine va_put (D := D) (ci := 8) (v := .int (0 : Int32)) (ty := .int) (C := RX8) (T := TX8) (N := 6) hx hb hts inX8 tyX8 tyX8_ok nmX8 hown hK hP hD hS 0 rfl rfl 3 (by decide) (hts (.fieldLink RX8 15 "LentCourage$Text" "next" "I") (List.mem_of_getElem? (i := 1) rfl)) (fun _ h9 => h9) rfl (tyX8_ok 3 (by decide)) rfl rfl (Nat.le_of_ble_eq_true rfl) dX8_goToStart_2 (fun H locs hP hD hS => ?_)
  have hP : va_P D vwCl [ob q_t 8 [.ref q_t_bytes, .int v_t_length, .int v_t_start, .int (0 : Int32), .int v_t_sort, .int v_t_value]] H := hP
  have hD : va_D A [ob q_t 8 [.ref q_t_bytes, .int v_t_length, .int v_t_start, .int (0 : Int32), .int v_t_sort, .int v_t_value]] := hD
  obtain rfl := Option.some.inj hf
  exact ret_V hx hb hr hlocks hK hP hD hS dX8_goToStart_5

def fX8_readLetters_10 (v_t_length_10 : Int32) (r_t_bytes_10 : Nat → Int32) : Nat → Int32 → Option (Int32)
  | 0, _ => none
  | n + 1, v_t_next_10 => (if v_t_length_10 ≤ v_t_next_10 then some v_t_next_10 else chk (vin v_t_next_10 180) ((fX8_isLetter (r_t_bytes_10 v_t_next_10.toNatClampNeg)).bind (fun o5 => (if o5 = 0 then some v_t_next_10 else lt_ (v_t_next_10 + (1 : Int32)) (fun z7 => fX8_readLetters_10 v_t_length_10 r_t_bytes_10 n z7)))))
def fX8_readLetters (v_t_length : Int32) (v_t_start : Int32) (v_t_next : Int32) (r_t_bytes : Nat → Int32) : Option (Int32 × Int32 × Int32) :=
  chk (vin v_t_next 180) (lt_ (r_t_bytes v_t_next.toNatClampNeg) (fun z2 => (fX8_readLetters_10 v_t_length r_t_bytes FU v_t_next).bind (fun y8 => lt_ (if (y8 - v_t_start) = (1 : Int32) then z2 else (0 : Int32)) (fun z10 => some (y8, (1 : Int32), z10)))))
theorem hd_X8_readLetters : yX8_readLetters.cls = RX8 ∧ yX8_readLetters.cls ≠ "java/lang/invoke/MethodHandle" ∧ yX8_readLetters.cls ≠ "java/lang/invoke/VarHandle" ∧ (parseMethodDescriptor yX8_readLetters.desc).map (fun d => d.parameters.length) = some 0 := by decide +kernel
set_option maxHeartbeats 4000000 in
set_option maxRecDepth 100000 in
theorem k_X8_readLetters (l : Launch) (D : va_G) (C : Nat → ClassId) (q_t : Nat) (q_t_bytes : Nat) (v_t_length : Int32) (v_t_start : Int32) (v_t_next : Int32) (v_t_sort : Int32) (v_t_value : Int32) (r_t_bytes : Nat → Int32) (sz : Nat) (out : Int32 × Int32 × Int32) (hf : fX8_readLetters v_t_length v_t_start v_t_next r_t_bytes = some out) : MV l yX8_readLetters wsX8_readLetters ({ frames := 1, cells := 0, slots := 0, locals := 20 }) D C [.ref q_t] [ob q_t 8 [.ref q_t_bytes, .int v_t_length, .int v_t_start, .int v_t_next, .int v_t_sort, .int v_t_value], ia C q_t_bytes 180 r_t_bytes] [ob q_t 8 [.ref q_t_bytes, .int v_t_length, .int v_t_start, .int out.1, .int out.2.1, .int out.2.2], ia C q_t_bytes 180 r_t_bytes] sz := by
  unfold fX8_readLetters at hf
  refine en_V (by decide) rfl (Nat.le_of_ble_eq_true rfl) ?_
  intro p e s m below meth c A ls H locs hx hb hr hlocks hml hts hown hK hP hD hS hA hl
  have hl : lv_has ls 2 [(0, .ref q_t)] := hl
  have inX8 : ∀ w ∈ u_ws RX8 TX8 6, w ∈ wsX8_readLetters := fun w h => List.mem_cons_of_mem _ (List.mem_append_right _ h)
  have LP10 : ∀ (Q : State → Prop) (n : Nat) (w1_10 : Int32) (v_t_length_10 : Int32) (v_t_start_10 : Int32) (v_t_next_10 : Int32) (v_t_sort_10 : Int32) (v_t_value_10 : Int32) (r_t_bytes_10 : Nat → Int32) (y_10 : Int32), fX8_readLetters_10 v_t_length_10 r_t_bytes_10 n v_t_next_10 = some y_10 → ∀ (H : Heap) (locs : List Loc) (ls : Array Slot), va_P D vwCl [ob q_t 8 [.ref q_t_bytes, .int v_t_length_10, .int v_t_start_10, .int v_t_next_10, .int v_t_sort_10, .int v_t_value_10], ia C q_t_bytes 180 r_t_bytes_10] H → va_D A [ob q_t 8 [.ref q_t_bytes, .int v_t_length_10, .int v_t_start_10, .int v_t_next_10, .int v_t_sort_10, .int v_t_value_10], ia C q_t_bytes 180 r_t_bytes_10] → va_S A s.heap H locs → lv_has ls 2 [(1, .int w1_10), (0, .ref q_t)] → (∀ (H : Heap) (locs : List Loc) (ls : Array Slot), va_P D vwCl [ob q_t 8 [.ref q_t_bytes, .int v_t_length_10, .int v_t_start_10, .int y_10, .int v_t_sort_10, .int v_t_value_10], ia C q_t_bytes 180 r_t_bytes_10] H → va_D A [ob q_t 8 [.ref q_t_bytes, .int v_t_length_10, .int v_t_start_10, .int y_10, .int v_t_sort_10, .int v_t_value_10], ia C q_t_bytes 180 r_t_bytes_10] → va_S A s.heap H locs → lv_has ls 2 [(1, .int w1_10), (0, .ref q_t)] → W p l e ({ frames := 1, cells := 0, slots := 0, locals := 20 } : Room) s m ([.ref q_t] : List Value).toArray below meth c H locs 0 0 Q (F0 m 49 ls [])) → W p l e ({ frames := 1, cells := 0, slots := 0, locals := 20 } : Room) s m ([.ref q_t] : List Value).toArray below meth c H locs 0 0 Q (F0 m 10 ls []) := by
    intro Q n
    induction n with
    | zero =>
      intro w1_10 v_t_length_10 v_t_start_10 v_t_next_10 v_t_sort_10 v_t_value_10 r_t_bytes_10 y_10 hf
      rw [fX8_readLetters_10] at hf
      cases hf
    | succ n ih =>
      intro w1_10 v_t_length_10 v_t_start_10 v_t_next_10 v_t_sort_10 v_t_value_10 r_t_bytes_10 y_10 hf H locs ls hP hD hS hl KX0
      rw [fX8_readLetters_10] at hf
      refine lv_aload_n hx hb dX8_readLetters_10 rfl (lv_at hl 1 rfl) ?_
      refine va_get (D := D) (ci := 8) (v := .int v_t_next_10) (C := RX8) (T := TX8) (N := 6) hx hb hts inX8 hown hK hP 0 rfl rfl 3 (by decide) (hts (.fieldLink RX8 15 "LentCourage$Text" "next" "I") (List.mem_of_getElem? (i := 2) rfl)) (fun _ h9 => h9) rfl dX8_readLetters_11 ?_
      refine lv_aload_n hx hb dX8_readLetters_14 rfl (lv_at hl 1 rfl) ?_
      refine va_get (D := D) (ci := 8) (v := .int v_t_length_10) (C := RX8) (T := TX8) (N := 6) hx hb hts inX8 hown hK hP 0 rfl rfl 1 (by decide) (hts (.fieldLink RX8 19 "LentCourage$Text" "length" "I") (List.mem_of_getElem? (i := 3) rfl)) (fun _ h9 => h9) rfl dX8_readLetters_15 ?_
      refine lv_icmp_ge (tgt := 49) hx hb dX8_readLetters_18 (by decide) (fun c3 => ?_) (fun c3 => ?_)
      · have hf := of_pos hf c3
        obtain rfl := Option.some.inj hf
        exact KX0 _ _ _ hP hD hS (lv_sub hl [0, 1] rfl)
      · have hf := of_neg hf c3
        refine lv_aload_n hx hb dX8_readLetters_21 rfl (lv_at hl 1 rfl) ?_
        refine va_get (D := D) (ci := 8) (v := .ref q_t_bytes) (C := RX8) (T := TX8) (N := 6) hx hb hts inX8 hown hK hP 0 rfl rfl 0 (by decide) (hts (.fieldLink RX8 9 "LentCourage$Text" "bytes" "[I") (List.mem_of_getElem? (i := 1) rfl)) (fun _ h9 => h9) rfl dX8_readLetters_22 ?_
        refine lv_aload_n hx hb dX8_readLetters_25 rfl (lv_at hl 1 rfl) ?_
        refine va_get (D := D) (ci := 8) (v := .int v_t_next_10) (C := RX8) (T := TX8) (N := 6) hx hb hts inX8 hown hK hP 0 rfl rfl 3 (by decide) (hts (.fieldLink RX8 15 "LentCourage$Text" "next" "I") (List.mem_of_getElem? (i := 2) rfl)) (fun _ h9 => h9) rfl dX8_readLetters_26 ?_
        obtain ⟨h4, hf⟩ := of_chk hf
        refine va_iald hx hb hK hP 1 0 rfl rfl h4 dX8_readLetters_29 ?_
        obtain ⟨o5, ho5, hf⟩ := of_bind hf
        refine c_I (wr := [ob q_t 8 [.ref q_t_bytes, .int v_t_length_10, .int v_t_start_10, .int v_t_next_10, .int v_t_sort_10, .int v_t_value_10], ia C q_t_bytes 180 r_t_bytes_10]) (W2 := [ob q_t 8 [.ref q_t_bytes, .int v_t_length_10, .int v_t_start_10, .int v_t_next_10, .int v_t_sort_10, .int v_t_value_10], ia C q_t_bytes 180 r_t_bytes_10]) (cS_run ⟨hx, hb, hml, hown, hts⟩ (k_X8_isLetter l D C (r_t_bytes_10 v_t_next_10.toNatClampNeg) H.size o5 ho5) gX8_readLetters_X8_isLetter rfl ⟨rfl, rfl⟩ hd_X8_isLetter ⟨(Nat.le_of_ble_eq_true rfl), (Nat.le_of_ble_eq_true rfl)⟩ rfl hK (cut_in hK hP hD [] rfl (by decide)) hl.1 rfl (Nat.le_of_ble_eq_true rfl) dX8_readLetters_30 ⟨Nat.zero_le _, Nat.zero_le _⟩) hP hD hS hA [] [0, 1] [0, 1] rfl rfl (by decide) (by decide) rfl (by decide) (fun H locs hP hD hS => ?_)
        have hP : va_P D vwCl [ob q_t 8 [.ref q_t_bytes, .int v_t_length_10, .int v_t_start_10, .int v_t_next_10, .int v_t_sort_10, .int v_t_value_10], ia C q_t_bytes 180 r_t_bytes_10] H := hP
        have hD : va_D A [ob q_t 8 [.ref q_t_bytes, .int v_t_length_10, .int v_t_start_10, .int v_t_next_10, .int v_t_sort_10, .int v_t_value_10], ia C q_t_bytes 180 r_t_bytes_10] := hD
        refine lv_if_eq (tgt := 49) hx hb dX8_readLetters_33 (by decide) (fun c6 => ?_) (fun c6 => ?_)
        · have hf := of_pos hf c6
          obtain rfl := Option.some.inj hf
          exact KX0 _ _ _ hP hD hS (lv_sub hl [0, 1] rfl)
        · have hf := of_neg hf c6
          refine lv_aload_n hx hb dX8_readLetters_36 rfl (lv_at hl 1 rfl) ?_
          refine lv_dup hx hb dX8_readLetters_37 rfl ?_
          refine va_get (D := D) (ci := 8) (v := .int v_t_next_10) (C := RX8) (T := TX8) (N := 6) hx hb hts inX8 hown hK hP 0 rfl rfl 3 (by decide) (hts (.fieldLink RX8 15 "LentCourage$Text" "next" "I") (List.mem_of_getElem? (i := 2) rfl)) (fun _ h9 => h9) rfl dX8_readLetters_38 ?_
          refine lv_iconst (v := (1 : Int32)) hx hb dX8_readLetters_41 (by decide) ?_
          refine lv_iadd hx hb dX8_readLetters_42 ?_
          refine lv_topi (fun z7 ez7 => ?_)
          have hf := of_lt hf ez7
          refine va_put (D := D) (ci := 8) (v := .int z7) (ty := .int) (C := RX8) (T := TX8) (N := 6) hx hb hts inX8 tyX8 tyX8_ok nmX8 hown hK hP hD hS 0 rfl rfl 3 (by decide) (hts (.fieldLink RX8 15 "LentCourage$Text" "next" "I") (List.mem_of_getElem? (i := 2) rfl)) (fun _ h9 => h9) rfl (tyX8_ok 3 (by decide)) rfl rfl (Nat.le_of_ble_eq_true rfl) dX8_readLetters_43 (fun H locs hP hD hS => ?_)
          have hP : va_P D vwCl [ob q_t 8 [.ref q_t_bytes, .int v_t_length_10, .int v_t_start_10, .int z7, .int v_t_sort_10, .int v_t_value_10], ia C q_t_bytes 180 r_t_bytes_10] H := hP
          have hD : va_D A [ob q_t 8 [.ref q_t_bytes, .int v_t_length_10, .int v_t_start_10, .int z7, .int v_t_sort_10, .int v_t_value_10], ia C q_t_bytes 180 r_t_bytes_10] := hD
          refine lv_goto (tgt := 10) hx hb dX8_readLetters_46 (by decide) ?_
          exact ih _ _ _ _ _ _ _ _ hf H locs ls hP hD hS (lv_sub hl [0, 1] rfl) KX0
  refine lv_aload_n hx hb dX8_readLetters_0 rfl (lv_at hl 0 rfl) ?_
  refine va_get (D := D) (ci := 8) (v := .ref q_t_bytes) (C := RX8) (T := TX8) (N := 6) hx hb hts inX8 hown hK hP 0 rfl rfl 0 (by decide) (hts (.fieldLink RX8 9 "LentCourage$Text" "bytes" "[I") (List.mem_of_getElem? (i := 1) rfl)) (fun _ h9 => h9) rfl dX8_readLetters_1 ?_
  refine lv_aload_n hx hb dX8_readLetters_4 rfl (lv_at hl 0 rfl) ?_
  refine va_get (D := D) (ci := 8) (v := .int v_t_next) (C := RX8) (T := TX8) (N := 6) hx hb hts inX8 hown hK hP 0 rfl rfl 3 (by decide) (hts (.fieldLink RX8 15 "LentCourage$Text" "next" "I") (List.mem_of_getElem? (i := 2) rfl)) (fun _ h9 => h9) rfl dX8_readLetters_5 ?_
  obtain ⟨h1, hf⟩ := of_chk hf
  refine va_iald hx hb hK hP 1 0 rfl rfl h1 dX8_readLetters_8 ?_
  refine lv_topi (fun z2 ez2 => ?_)
  have hf := of_lt hf ez2
  refine lv_istore_n (lv' := [(1, .int z2), (0, .ref q_t)]) hx hb dX8_readLetters_9 rfl hl (by decide) rfl (fun ls hl => ?_)
  obtain ⟨y8, hy8, hf⟩ := of_bind hf
  refine LP10 _ FU _ _ _ _ _ _ _ y8 hy8 H locs ls hP hD hS (lv_sub hl [0, 1] rfl) (fun H locs ls hP hD hS hl => ?_)
  refine lv_aload_n hx hb dX8_readLetters_49 rfl (lv_at hl 1 rfl) ?_
  refine lv_iconst (v := (1 : Int32)) hx hb dX8_readLetters_50 (by decide) ?_
  refine va_put (D := D) (ci := 8) (v := .int (1 : Int32)) (ty := .int) (C := RX8) (T := TX8) (N := 6) hx hb hts inX8 tyX8 tyX8_ok nmX8 hown hK hP hD hS 0 rfl rfl 4 (by decide) (hts (.fieldLink RX8 28 "LentCourage$Text" "sort" "I") (List.mem_of_getElem? (i := 4) rfl)) (fun _ h9 => h9) rfl (tyX8_ok 4 (by decide)) rfl rfl (Nat.le_of_ble_eq_true rfl) dX8_readLetters_51 (fun H locs hP hD hS => ?_)
  have hP : va_P D vwCl [ob q_t 8 [.ref q_t_bytes, .int v_t_length, .int v_t_start, .int y8, .int (1 : Int32), .int v_t_value], ia C q_t_bytes 180 r_t_bytes] H := hP
  have hD : va_D A [ob q_t 8 [.ref q_t_bytes, .int v_t_length, .int v_t_start, .int y8, .int (1 : Int32), .int v_t_value], ia C q_t_bytes 180 r_t_bytes] := hD
  refine lv_aload_n hx hb dX8_readLetters_54 rfl (lv_at hl 1 rfl) ?_
  refine lv_aload_n hx hb dX8_readLetters_55 rfl (lv_at hl 1 rfl) ?_
  refine va_get (D := D) (ci := 8) (v := .int y8) (C := RX8) (T := TX8) (N := 6) hx hb hts inX8 hown hK hP 0 rfl rfl 3 (by decide) (hts (.fieldLink RX8 15 "LentCourage$Text" "next" "I") (List.mem_of_getElem? (i := 2) rfl)) (fun _ h9 => h9) rfl dX8_readLetters_56 ?_
  refine lv_aload_n hx hb dX8_readLetters_59 rfl (lv_at hl 1 rfl) ?_
  refine va_get (D := D) (ci := 8) (v := .int v_t_start) (C := RX8) (T := TX8) (N := 6) hx hb hts inX8 hown hK hP 0 rfl rfl 2 (by decide) (hts (.fieldLink RX8 22 "LentCourage$Text" "start" "I") (List.mem_of_getElem? (i := 5) rfl)) (fun _ h9 => h9) rfl dX8_readLetters_60 ?_
  refine lv_isub hx hb dX8_readLetters_63 ?_
  refine lv_iconst (v := (1 : Int32)) hx hb dX8_readLetters_64 (by decide) ?_
  refine jp (g2 := F0 m 73 ls [.int (if (y8 - v_t_start) = (1 : Int32) then z2 else (0 : Int32)), .ref q_t]) ?_ (fun JP => ?_)
  · refine lv_topi (fun z10 ez10 => ?_)
    have hf := of_lt hf ez10
    refine va_put (D := D) (ci := 8) (v := .int z10) (ty := .int) (C := RX8) (T := TX8) (N := 6) hx hb hts inX8 tyX8 tyX8_ok nmX8 hown hK hP hD hS 0 rfl rfl 5 (by decide) (hts (.fieldLink RX8 25 "LentCourage$Text" "value" "I") (List.mem_of_getElem? (i := 6) rfl)) (fun _ h9 => h9) rfl (tyX8_ok 5 (by decide)) rfl rfl (Nat.le_of_ble_eq_true rfl) dX8_readLetters_73 (fun H locs hP hD hS => ?_)
    have hP : va_P D vwCl [ob q_t 8 [.ref q_t_bytes, .int v_t_length, .int v_t_start, .int y8, .int (1 : Int32), .int z10], ia C q_t_bytes 180 r_t_bytes] H := hP
    have hD : va_D A [ob q_t 8 [.ref q_t_bytes, .int v_t_length, .int v_t_start, .int y8, .int (1 : Int32), .int z10], ia C q_t_bytes 180 r_t_bytes] := hD
    obtain rfl := Option.some.inj hf
    exact ret_V hx hb hr hlocks hK hP hD hS dX8_readLetters_76
  · refine lv_icmp_ne (tgt := 72) hx hb dX8_readLetters_65 (by decide) (fun c9 => ?_) (fun c9 => ?_)
    · refine lv_iconst (v := (0 : Int32)) hx hb dX8_readLetters_72 (by decide) ?_
      exact W.eq (congrArg (fun x => F0 m 73 ls (Value.int x :: [.ref q_t])) (if_neg c9).symm) JP
    · refine lv_iload_n hx hb dX8_readLetters_68 rfl (lv_at hl 0 rfl) ?_
      refine lv_goto (tgt := 73) hx hb dX8_readLetters_69 (by decide) ?_
      exact W.eq (congrArg (fun x => F0 m 73 ls (Value.int x :: [.ref q_t])) (if_pos c9).symm) JP

def fX8_readNumber_20 (v_t_length_20 : Int32) (r_t_bytes_20 : Nat → Int32) : Nat → Int32 → Int32 → Option (Int32 × Int32)
  | 0, _, _ => none
  | n + 1, v_t_next_20, v_t_value_20 => (if v_t_length_20 ≤ v_t_next_20 then some (v_t_next_20, v_t_value_20) else chk (vin v_t_next_20 180) ((fX8_isDigit (r_t_bytes_20 v_t_next_20.toNatClampNeg)).bind (fun o6 => (if o6 = 0 then some (v_t_next_20, v_t_value_20) else (if (99 : Int32) < v_t_value_20 then lt_ (v_t_next_20 + (1 : Int32)) (fun z9 => fX8_readNumber_20 v_t_length_20 r_t_bytes_20 n z9 v_t_value_20) else lt_ (((v_t_value_20 * (10 : Int32)) + (r_t_bytes_20 v_t_next_20.toNatClampNeg)) - (48 : Int32)) (fun z10 => lt_ (v_t_next_20 + (1 : Int32)) (fun z11 => fX8_readNumber_20 v_t_length_20 r_t_bytes_20 n z11 z10)))))))
def fX8_readNumber (v_t_length : Int32) (v_t_start : Int32) (v_t_next : Int32) (v_t_value : Int32) (r_t_bytes : Nat → Int32) : Option (Int32 × Int32 × Int32) :=
  chk (vin v_t_next 180) (lt_ (if (r_t_bytes v_t_next.toNatClampNeg) = (48 : Int32) then (1 : Int32) else (0 : Int32)) (fun z3 => (fX8_readNumber_20 v_t_length r_t_bytes FU v_t_next v_t_value).bind (fun y12 => lt_ (if z3 = 0 then (0 : Int32) else (if (y12.1 - v_t_start) ≤ (1 : Int32) then (0 : Int32) else (1 : Int32))) (fun z15 => lt_ (if (99 : Int32) < y12.2 then (4 : Int32) else (if z15 = 0 then (2 : Int32) else (4 : Int32))) (fun z18 => some (y12.1, z18, y12.2))))))
theorem hd_X8_readNumber : yX8_readNumber.cls = RX8 ∧ yX8_readNumber.cls ≠ "java/lang/invoke/MethodHandle" ∧ yX8_readNumber.cls ≠ "java/lang/invoke/VarHandle" ∧ (parseMethodDescriptor yX8_readNumber.desc).map (fun d => d.parameters.length) = some 0 := by decide +kernel
set_option maxHeartbeats 4000000 in
set_option maxRecDepth 100000 in
theorem k_X8_readNumber (l : Launch) (D : va_G) (C : Nat → ClassId) (q_t : Nat) (q_t_bytes : Nat) (v_t_length : Int32) (v_t_start : Int32) (v_t_next : Int32) (v_t_sort : Int32) (v_t_value : Int32) (r_t_bytes : Nat → Int32) (sz : Nat) (out : Int32 × Int32 × Int32) (hf : fX8_readNumber v_t_length v_t_start v_t_next v_t_value r_t_bytes = some out) : MV l yX8_readNumber wsX8_readNumber ({ frames := 1, cells := 0, slots := 0, locals := 20 }) D C [.ref q_t] [ob q_t 8 [.ref q_t_bytes, .int v_t_length, .int v_t_start, .int v_t_next, .int v_t_sort, .int v_t_value], ia C q_t_bytes 180 r_t_bytes] [ob q_t 8 [.ref q_t_bytes, .int v_t_length, .int v_t_start, .int out.1, .int out.2.1, .int out.2.2], ia C q_t_bytes 180 r_t_bytes] sz := by
  unfold fX8_readNumber at hf
  refine en_V (by decide) rfl (Nat.le_of_ble_eq_true rfl) ?_
  intro p e s m below meth c A ls H locs hx hb hr hlocks hml hts hown hK hP hD hS hA hl
  have hl : lv_has ls 3 [(0, .ref q_t)] := hl
  have inX8 : ∀ w ∈ u_ws RX8 TX8 6, w ∈ wsX8_readNumber := fun w h => List.mem_cons_of_mem _ (List.mem_append_right _ h)
  have LP20 : ∀ (Q : State → Prop) (n : Nat) (w1_20 : Int32) (v_t_length_20 : Int32) (v_t_start_20 : Int32) (v_t_next_20 : Int32) (v_t_sort_20 : Int32) (v_t_value_20 : Int32) (r_t_bytes_20 : Nat → Int32) (y_20 : Int32 × Int32), fX8_readNumber_20 v_t_length_20 r_t_bytes_20 n v_t_next_20 v_t_value_20 = some y_20 → ∀ (H : Heap) (locs : List Loc) (ls : Array Slot), va_P D vwCl [ob q_t 8 [.ref q_t_bytes, .int v_t_length_20, .int v_t_start_20, .int v_t_next_20, .int v_t_sort_20, .int v_t_value_20], ia C q_t_bytes 180 r_t_bytes_20] H → va_D A [ob q_t 8 [.ref q_t_bytes, .int v_t_length_20, .int v_t_start_20, .int v_t_next_20, .int v_t_sort_20, .int v_t_value_20], ia C q_t_bytes 180 r_t_bytes_20] → va_S A s.heap H locs → lv_has ls 3 [(1, .int w1_20), (0, .ref q_t)] → (∀ (H : Heap) (locs : List Loc) (ls : Array Slot), va_P D vwCl [ob q_t 8 [.ref q_t_bytes, .int v_t_length_20, .int v_t_start_20, .int y_20.1, .int v_t_sort_20, .int y_20.2], ia C q_t_bytes 180 r_t_bytes_20] H → va_D A [ob q_t 8 [.ref q_t_bytes, .int v_t_length_20, .int v_t_start_20, .int y_20.1, .int v_t_sort_20, .int y_20.2], ia C q_t_bytes 180 r_t_bytes_20] → va_S A s.heap H locs → lv_has ls 3 [(1, .int w1_20), (0, .ref q_t)] → W p l e ({ frames := 1, cells := 0, slots := 0, locals := 20 } : Room) s m ([.ref q_t] : List Value).toArray below meth c H locs 0 0 Q (F0 m 92 ls [])) → W p l e ({ frames := 1, cells := 0, slots := 0, locals := 20 } : Room) s m ([.ref q_t] : List Value).toArray below meth c H locs 0 0 Q (F0 m 20 ls []) := by
    intro Q n
    induction n with
    | zero =>
      intro w1_20 v_t_length_20 v_t_start_20 v_t_next_20 v_t_sort_20 v_t_value_20 r_t_bytes_20 y_20 hf
      rw [fX8_readNumber_20] at hf
      cases hf
    | succ n ih =>
      intro w1_20 v_t_length_20 v_t_start_20 v_t_next_20 v_t_sort_20 v_t_value_20 r_t_bytes_20 y_20 hf H locs ls hP hD hS hl KX0
      rw [fX8_readNumber_20] at hf
      refine lv_aload_n hx hb dX8_readNumber_20 rfl (lv_at hl 1 rfl) ?_
      refine va_get (D := D) (ci := 8) (v := .int v_t_next_20) (C := RX8) (T := TX8) (N := 6) hx hb hts inX8 hown hK hP 0 rfl rfl 3 (by decide) (hts (.fieldLink RX8 15 "LentCourage$Text" "next" "I") (List.mem_of_getElem? (i := 2) rfl)) (fun _ h9 => h9) rfl dX8_readNumber_21 ?_
      refine lv_aload_n hx hb dX8_readNumber_24 rfl (lv_at hl 1 rfl) ?_
      refine va_get (D := D) (ci := 8) (v := .int v_t_length_20) (C := RX8) (T := TX8) (N := 6) hx hb hts inX8 hown hK hP 0 rfl rfl 1 (by decide) (hts (.fieldLink RX8 19 "LentCourage$Text" "length" "I") (List.mem_of_getElem? (i := 3) rfl)) (fun _ h9 => h9) rfl dX8_readNumber_25 ?_
      refine lv_icmp_ge (tgt := 92) hx hb dX8_readNumber_28 (by decide) (fun c4 => ?_) (fun c4 => ?_)
      · have hf := of_pos hf c4
        obtain rfl := Option.some.inj hf
        exact KX0 _ _ _ hP hD hS (lv_sub hl [0, 1] rfl)
      · have hf := of_neg hf c4
        refine lv_aload_n hx hb dX8_readNumber_31 rfl (lv_at hl 1 rfl) ?_
        refine va_get (D := D) (ci := 8) (v := .ref q_t_bytes) (C := RX8) (T := TX8) (N := 6) hx hb hts inX8 hown hK hP 0 rfl rfl 0 (by decide) (hts (.fieldLink RX8 9 "LentCourage$Text" "bytes" "[I") (List.mem_of_getElem? (i := 1) rfl)) (fun _ h9 => h9) rfl dX8_readNumber_32 ?_
        refine lv_aload_n hx hb dX8_readNumber_35 rfl (lv_at hl 1 rfl) ?_
        refine va_get (D := D) (ci := 8) (v := .int v_t_next_20) (C := RX8) (T := TX8) (N := 6) hx hb hts inX8 hown hK hP 0 rfl rfl 3 (by decide) (hts (.fieldLink RX8 15 "LentCourage$Text" "next" "I") (List.mem_of_getElem? (i := 2) rfl)) (fun _ h9 => h9) rfl dX8_readNumber_36 ?_
        obtain ⟨h5, hf⟩ := of_chk hf
        refine va_iald hx hb hK hP 1 0 rfl rfl h5 dX8_readNumber_39 ?_
        obtain ⟨o6, ho6, hf⟩ := of_bind hf
        refine c_I (wr := [ob q_t 8 [.ref q_t_bytes, .int v_t_length_20, .int v_t_start_20, .int v_t_next_20, .int v_t_sort_20, .int v_t_value_20], ia C q_t_bytes 180 r_t_bytes_20]) (W2 := [ob q_t 8 [.ref q_t_bytes, .int v_t_length_20, .int v_t_start_20, .int v_t_next_20, .int v_t_sort_20, .int v_t_value_20], ia C q_t_bytes 180 r_t_bytes_20]) (cS_run ⟨hx, hb, hml, hown, hts⟩ (k_X8_isDigit l D C (r_t_bytes_20 v_t_next_20.toNatClampNeg) H.size o6 ho6) gX8_readNumber_X8_isDigit rfl ⟨rfl, rfl⟩ hd_X8_isDigit ⟨(Nat.le_of_ble_eq_true rfl), (Nat.le_of_ble_eq_true rfl)⟩ rfl hK (cut_in hK hP hD [] rfl (by decide)) hl.1 rfl (Nat.le_of_ble_eq_true rfl) dX8_readNumber_40 ⟨Nat.zero_le _, Nat.zero_le _⟩) hP hD hS hA [] [0, 1] [0, 1] rfl rfl (by decide) (by decide) rfl (by decide) (fun H locs hP hD hS => ?_)
        have hP : va_P D vwCl [ob q_t 8 [.ref q_t_bytes, .int v_t_length_20, .int v_t_start_20, .int v_t_next_20, .int v_t_sort_20, .int v_t_value_20], ia C q_t_bytes 180 r_t_bytes_20] H := hP
        have hD : va_D A [ob q_t 8 [.ref q_t_bytes, .int v_t_length_20, .int v_t_start_20, .int v_t_next_20, .int v_t_sort_20, .int v_t_value_20], ia C q_t_bytes 180 r_t_bytes_20] := hD
        refine lv_if_eq (tgt := 92) hx hb dX8_readNumber_43 (by decide) (fun c7 => ?_) (fun c7 => ?_)
        · have hf := of_pos hf c7
          obtain rfl := Option.some.inj hf
          exact KX0 _ _ _ hP hD hS (lv_sub hl [0, 1] rfl)
        · have hf := of_neg hf c7
          refine lv_aload_n hx hb dX8_readNumber_46 rfl (lv_at hl 1 rfl) ?_
          refine va_get (D := D) (ci := 8) (v := .int v_t_value_20) (C := RX8) (T := TX8) (N := 6) hx hb hts inX8 hown hK hP 0 rfl rfl 5 (by decide) (hts (.fieldLink RX8 25 "LentCourage$Text" "value" "I") (List.mem_of_getElem? (i := 4) rfl)) (fun _ h9 => h9) rfl dX8_readNumber_47 ?_
          refine lv_bipush (v := (99 : Int32)) hx hb dX8_readNumber_50 (by decide) ?_
          refine lv_icmp_gt (tgt := 79) hx hb dX8_readNumber_52 (by decide) (fun c8 => ?_) (fun c8 => ?_)
          · have hf := of_pos hf c8
            refine lv_aload_n hx hb dX8_readNumber_79 rfl (lv_at hl 1 rfl) ?_
            refine lv_dup hx hb dX8_readNumber_80 rfl ?_
            refine va_get (D := D) (ci := 8) (v := .int v_t_next_20) (C := RX8) (T := TX8) (N := 6) hx hb hts inX8 hown hK hP 0 rfl rfl 3 (by decide) (hts (.fieldLink RX8 15 "LentCourage$Text" "next" "I") (List.mem_of_getElem? (i := 2) rfl)) (fun _ h9 => h9) rfl dX8_readNumber_81 ?_
            refine lv_iconst (v := (1 : Int32)) hx hb dX8_readNumber_84 (by decide) ?_
            refine lv_iadd hx hb dX8_readNumber_85 ?_
            refine lv_topi (fun z9 ez9 => ?_)
            have hf := of_lt hf ez9
            refine va_put (D := D) (ci := 8) (v := .int z9) (ty := .int) (C := RX8) (T := TX8) (N := 6) hx hb hts inX8 tyX8 tyX8_ok nmX8 hown hK hP hD hS 0 rfl rfl 3 (by decide) (hts (.fieldLink RX8 15 "LentCourage$Text" "next" "I") (List.mem_of_getElem? (i := 2) rfl)) (fun _ h9 => h9) rfl (tyX8_ok 3 (by decide)) rfl rfl (Nat.le_of_ble_eq_true rfl) dX8_readNumber_86 (fun H locs hP hD hS => ?_)
            have hP : va_P D vwCl [ob q_t 8 [.ref q_t_bytes, .int v_t_length_20, .int v_t_start_20, .int z9, .int v_t_sort_20, .int v_t_value_20], ia C q_t_bytes 180 r_t_bytes_20] H := hP
            have hD : va_D A [ob q_t 8 [.ref q_t_bytes, .int v_t_length_20, .int v_t_start_20, .int z9, .int v_t_sort_20, .int v_t_value_20], ia C q_t_bytes 180 r_t_bytes_20] := hD
            refine lv_goto (tgt := 20) hx hb dX8_readNumber_89 (by decide) ?_
            exact ih _ _ _ _ _ _ _ _ hf H locs ls hP hD hS (lv_sub hl [0, 1] rfl) KX0
          · have hf := of_neg hf c8
            refine lv_aload_n hx hb dX8_readNumber_55 rfl (lv_at hl 1 rfl) ?_
            refine lv_aload_n hx hb dX8_readNumber_56 rfl (lv_at hl 1 rfl) ?_
            refine va_get (D := D) (ci := 8) (v := .int v_t_value_20) (C := RX8) (T := TX8) (N := 6) hx hb hts inX8 hown hK hP 0 rfl rfl 5 (by decide) (hts (.fieldLink RX8 25 "LentCourage$Text" "value" "I") (List.mem_of_getElem? (i := 4) rfl)) (fun _ h9 => h9) rfl dX8_readNumber_57 ?_
            refine lv_bipush (v := (10 : Int32)) hx hb dX8_readNumber_60 (by decide) ?_
            refine lv_imul hx hb dX8_readNumber_62 ?_
            refine lv_aload_n hx hb dX8_readNumber_63 rfl (lv_at hl 1 rfl) ?_
            refine va_get (D := D) (ci := 8) (v := .ref q_t_bytes) (C := RX8) (T := TX8) (N := 6) hx hb hts inX8 hown hK hP 0 rfl rfl 0 (by decide) (hts (.fieldLink RX8 9 "LentCourage$Text" "bytes" "[I") (List.mem_of_getElem? (i := 1) rfl)) (fun _ h9 => h9) rfl dX8_readNumber_64 ?_
            refine lv_aload_n hx hb dX8_readNumber_67 rfl (lv_at hl 1 rfl) ?_
            refine va_get (D := D) (ci := 8) (v := .int v_t_next_20) (C := RX8) (T := TX8) (N := 6) hx hb hts inX8 hown hK hP 0 rfl rfl 3 (by decide) (hts (.fieldLink RX8 15 "LentCourage$Text" "next" "I") (List.mem_of_getElem? (i := 2) rfl)) (fun _ h9 => h9) rfl dX8_readNumber_68 ?_
            refine va_iald hx hb hK hP 1 0 rfl rfl h5 dX8_readNumber_71 ?_
            refine lv_iadd hx hb dX8_readNumber_72 ?_
            refine lv_bipush (v := (48 : Int32)) hx hb dX8_readNumber_73 (by decide) ?_
            refine lv_isub hx hb dX8_readNumber_75 ?_
            refine lv_topi (fun z10 ez10 => ?_)
            have hf := of_lt hf ez10
            refine va_put (D := D) (ci := 8) (v := .int z10) (ty := .int) (C := RX8) (T := TX8) (N := 6) hx hb hts inX8 tyX8 tyX8_ok nmX8 hown hK hP hD hS 0 rfl rfl 5 (by decide) (hts (.fieldLink RX8 25 "LentCourage$Text" "value" "I") (List.mem_of_getElem? (i := 4) rfl)) (fun _ h9 => h9) rfl (tyX8_ok 5 (by decide)) rfl rfl (Nat.le_of_ble_eq_true rfl) dX8_readNumber_76 (fun H locs hP hD hS => ?_)
            have hP : va_P D vwCl [ob q_t 8 [.ref q_t_bytes, .int v_t_length_20, .int v_t_start_20, .int v_t_next_20, .int v_t_sort_20, .int z10], ia C q_t_bytes 180 r_t_bytes_20] H := hP
            have hD : va_D A [ob q_t 8 [.ref q_t_bytes, .int v_t_length_20, .int v_t_start_20, .int v_t_next_20, .int v_t_sort_20, .int z10], ia C q_t_bytes 180 r_t_bytes_20] := hD
            refine lv_aload_n hx hb dX8_readNumber_79 rfl (lv_at hl 1 rfl) ?_
            refine lv_dup hx hb dX8_readNumber_80 rfl ?_
            refine va_get (D := D) (ci := 8) (v := .int v_t_next_20) (C := RX8) (T := TX8) (N := 6) hx hb hts inX8 hown hK hP 0 rfl rfl 3 (by decide) (hts (.fieldLink RX8 15 "LentCourage$Text" "next" "I") (List.mem_of_getElem? (i := 2) rfl)) (fun _ h9 => h9) rfl dX8_readNumber_81 ?_
            refine lv_iconst (v := (1 : Int32)) hx hb dX8_readNumber_84 (by decide) ?_
            refine lv_iadd hx hb dX8_readNumber_85 ?_
            refine lv_topi (fun z11 ez11 => ?_)
            have hf := of_lt hf ez11
            refine va_put (D := D) (ci := 8) (v := .int z11) (ty := .int) (C := RX8) (T := TX8) (N := 6) hx hb hts inX8 tyX8 tyX8_ok nmX8 hown hK hP hD hS 0 rfl rfl 3 (by decide) (hts (.fieldLink RX8 15 "LentCourage$Text" "next" "I") (List.mem_of_getElem? (i := 2) rfl)) (fun _ h9 => h9) rfl (tyX8_ok 3 (by decide)) rfl rfl (Nat.le_of_ble_eq_true rfl) dX8_readNumber_86 (fun H locs hP hD hS => ?_)
            have hP : va_P D vwCl [ob q_t 8 [.ref q_t_bytes, .int v_t_length_20, .int v_t_start_20, .int z11, .int v_t_sort_20, .int z10], ia C q_t_bytes 180 r_t_bytes_20] H := hP
            have hD : va_D A [ob q_t 8 [.ref q_t_bytes, .int v_t_length_20, .int v_t_start_20, .int z11, .int v_t_sort_20, .int z10], ia C q_t_bytes 180 r_t_bytes_20] := hD
            refine lv_goto (tgt := 20) hx hb dX8_readNumber_89 (by decide) ?_
            exact ih _ _ _ _ _ _ _ _ hf H locs ls hP hD hS (lv_sub hl [0, 1] rfl) KX0
  refine lv_aload_n hx hb dX8_readNumber_0 rfl (lv_at hl 0 rfl) ?_
  refine va_get (D := D) (ci := 8) (v := .ref q_t_bytes) (C := RX8) (T := TX8) (N := 6) hx hb hts inX8 hown hK hP 0 rfl rfl 0 (by decide) (hts (.fieldLink RX8 9 "LentCourage$Text" "bytes" "[I") (List.mem_of_getElem? (i := 1) rfl)) (fun _ h9 => h9) rfl dX8_readNumber_1 ?_
  refine lv_aload_n hx hb dX8_readNumber_4 rfl (lv_at hl 0 rfl) ?_
  refine va_get (D := D) (ci := 8) (v := .int v_t_next) (C := RX8) (T := TX8) (N := 6) hx hb hts inX8 hown hK hP 0 rfl rfl 3 (by decide) (hts (.fieldLink RX8 15 "LentCourage$Text" "next" "I") (List.mem_of_getElem? (i := 2) rfl)) (fun _ h9 => h9) rfl dX8_readNumber_5 ?_
  obtain ⟨h1, hf⟩ := of_chk hf
  refine va_iald hx hb hK hP 1 0 rfl rfl h1 dX8_readNumber_8 ?_
  refine lv_bipush (v := (48 : Int32)) hx hb dX8_readNumber_9 (by decide) ?_
  refine jp (g2 := F0 m 19 ls [.int (if (r_t_bytes v_t_next.toNatClampNeg) = (48 : Int32) then (1 : Int32) else (0 : Int32))]) ?_ (fun JP => ?_)
  · refine lv_topi (fun z3 ez3 => ?_)
    have hf := of_lt hf ez3
    have bz3 : okZ z3 := ez3 ▸ (by repeat (first | exact okZ_0 | exact okZ_1 | apply okZ_ite))
    refine lv_istore_n (lv' := [(1, .int z3), (0, .ref q_t)]) hx hb dX8_readNumber_19 rfl hl (by decide) rfl (fun ls hl => ?_)
    obtain ⟨y12, hy12, hf⟩ := of_bind hf
    refine LP20 _ FU _ _ _ _ _ _ _ y12 hy12 H locs ls hP hD hS (lv_sub hl [0, 1] rfl) (fun H locs ls hP hD hS hl => ?_)
    refine lv_iload_n hx hb dX8_readNumber_92 rfl (lv_at hl 0 rfl) ?_
    refine jp (g2 := F0 m 114 ls [.int (if z3 = 0 then (0 : Int32) else (if (y12.1 - v_t_start) ≤ (1 : Int32) then (0 : Int32) else (1 : Int32)))]) ?_ (fun JP => ?_)
    · refine lv_topi (fun z15 ez15 => ?_)
      have hf := of_lt hf ez15
      have bz15 : okZ z15 := ez15 ▸ (by repeat (first | exact okZ_0 | exact okZ_1 | apply okZ_ite))
      refine lv_istore_n (lv' := [(2, .int z15), (1, .int z3), (0, .ref q_t)]) hx hb dX8_readNumber_114 rfl hl (by decide) rfl (fun ls hl => ?_)
      refine lv_aload_n hx hb dX8_readNumber_115 rfl (lv_at hl 2 rfl) ?_
      refine lv_aload_n hx hb dX8_readNumber_116 rfl (lv_at hl 2 rfl) ?_
      refine va_get (D := D) (ci := 8) (v := .int y12.2) (C := RX8) (T := TX8) (N := 6) hx hb hts inX8 hown hK hP 0 rfl rfl 5 (by decide) (hts (.fieldLink RX8 25 "LentCourage$Text" "value" "I") (List.mem_of_getElem? (i := 4) rfl)) (fun _ h9 => h9) rfl dX8_readNumber_117 ?_
      refine lv_bipush (v := (99 : Int32)) hx hb dX8_readNumber_120 (by decide) ?_
      refine jp (g2 := F0 m 134 ls [.int (if (99 : Int32) < y12.2 then (4 : Int32) else (if z15 = 0 then (2 : Int32) else (4 : Int32))), .ref q_t]) ?_ (fun JP => ?_)
      · refine lv_topi (fun z18 ez18 => ?_)
        have hf := of_lt hf ez18
        refine va_put (D := D) (ci := 8) (v := .int z18) (ty := .int) (C := RX8) (T := TX8) (N := 6) hx hb hts inX8 tyX8 tyX8_ok nmX8 hown hK hP hD hS 0 rfl rfl 4 (by decide) (hts (.fieldLink RX8 28 "LentCourage$Text" "sort" "I") (List.mem_of_getElem? (i := 6) rfl)) (fun _ h9 => h9) rfl (tyX8_ok 4 (by decide)) rfl rfl (Nat.le_of_ble_eq_true rfl) dX8_readNumber_134 (fun H locs hP hD hS => ?_)
        have hP : va_P D vwCl [ob q_t 8 [.ref q_t_bytes, .int v_t_length, .int v_t_start, .int y12.1, .int z18, .int y12.2], ia C q_t_bytes 180 r_t_bytes] H := hP
        have hD : va_D A [ob q_t 8 [.ref q_t_bytes, .int v_t_length, .int v_t_start, .int y12.1, .int z18, .int y12.2], ia C q_t_bytes 180 r_t_bytes] := hD
        obtain rfl := Option.some.inj hf
        exact ret_V hx hb hr hlocks hK hP hD hS dX8_readNumber_137
      · refine lv_icmp_gt (tgt := 129) hx hb dX8_readNumber_122 (by decide) (fun c16 => ?_) (fun c16 => ?_)
        · refine lv_iconst (v := (4 : Int32)) hx hb dX8_readNumber_129 (by decide) ?_
          refine lv_goto (tgt := 134) hx hb dX8_readNumber_130 (by decide) ?_
          exact W.eq (congrArg (fun x => F0 m 134 ls (Value.int x :: [.ref q_t])) (if_pos c16).symm) JP
        · refine lv_iload_n hx hb dX8_readNumber_125 rfl (lv_at hl 0 rfl) ?_
          refine lv_if_eq (tgt := 133) hx hb dX8_readNumber_126 (by decide) (fun c17 => ?_) (fun c17 => ?_)
          · refine lv_iconst (v := (2 : Int32)) hx hb dX8_readNumber_133 (by decide) ?_
            exact W.eq (congrArg (fun x => F0 m 134 ls (Value.int x :: [.ref q_t])) ((if_neg c16).trans (if_pos c17)).symm) JP
          · refine lv_iconst (v := (4 : Int32)) hx hb dX8_readNumber_129 (by decide) ?_
            refine lv_goto (tgt := 134) hx hb dX8_readNumber_130 (by decide) ?_
            exact W.eq (congrArg (fun x => F0 m 134 ls (Value.int x :: [.ref q_t])) ((if_neg c16).trans (if_neg c17)).symm) JP
    · refine lv_if_eq (tgt := 113) hx hb dX8_readNumber_93 (by decide) (fun c13 => ?_) (fun c13 => ?_)
      · refine lv_iconst (v := (0 : Int32)) hx hb dX8_readNumber_113 (by decide) ?_
        exact W.eq (congrArg (fun x => F0 m 114 ls (Value.int x :: [])) (if_pos c13).symm) JP
      · refine lv_aload_n hx hb dX8_readNumber_96 rfl (lv_at hl 1 rfl) ?_
        refine va_get (D := D) (ci := 8) (v := .int y12.1) (C := RX8) (T := TX8) (N := 6) hx hb hts inX8 hown hK hP 0 rfl rfl 3 (by decide) (hts (.fieldLink RX8 15 "LentCourage$Text" "next" "I") (List.mem_of_getElem? (i := 2) rfl)) (fun _ h9 => h9) rfl dX8_readNumber_97 ?_
        refine lv_aload_n hx hb dX8_readNumber_100 rfl (lv_at hl 1 rfl) ?_
        refine va_get (D := D) (ci := 8) (v := .int v_t_start) (C := RX8) (T := TX8) (N := 6) hx hb hts inX8 hown hK hP 0 rfl rfl 2 (by decide) (hts (.fieldLink RX8 22 "LentCourage$Text" "start" "I") (List.mem_of_getElem? (i := 5) rfl)) (fun _ h9 => h9) rfl dX8_readNumber_101 ?_
        refine lv_isub hx hb dX8_readNumber_104 ?_
        refine lv_iconst (v := (1 : Int32)) hx hb dX8_readNumber_105 (by decide) ?_
        refine lv_icmp_le (tgt := 113) hx hb dX8_readNumber_106 (by decide) (fun c14 => ?_) (fun c14 => ?_)
        · refine lv_iconst (v := (0 : Int32)) hx hb dX8_readNumber_113 (by decide) ?_
          exact W.eq (congrArg (fun x => F0 m 114 ls (Value.int x :: [])) ((if_neg c13).trans (if_pos c14)).symm) JP
        · refine lv_iconst (v := (1 : Int32)) hx hb dX8_readNumber_109 (by decide) ?_
          refine lv_goto (tgt := 114) hx hb dX8_readNumber_110 (by decide) ?_
          exact W.eq (congrArg (fun x => F0 m 114 ls (Value.int x :: [])) ((if_neg c13).trans (if_neg c14)).symm) JP
  · refine lv_icmp_ne (tgt := 18) hx hb dX8_readNumber_11 (by decide) (fun c2 => ?_) (fun c2 => ?_)
    · refine lv_iconst (v := (0 : Int32)) hx hb dX8_readNumber_18 (by decide) ?_
      exact W.eq (congrArg (fun x => F0 m 19 ls (Value.int x :: [])) (if_neg c2).symm) JP
    · refine lv_iconst (v := (1 : Int32)) hx hb dX8_readNumber_14 (by decide) ?_
      refine lv_goto (tgt := 19) hx hb dX8_readNumber_15 (by decide) ?_
      exact W.eq (congrArg (fun x => F0 m 19 ls (Value.int x :: [])) (if_pos c2).symm) JP

def fX8_readToken_0 (v_t_length_0 : Int32) (r_t_bytes_0 : Nat → Int32) : Nat → Int32 → Option (Int32)
  | 0, _ => none
  | n + 1, v_t_next_0 => (if v_t_length_0 ≤ v_t_next_0 then some v_t_next_0 else chk (vin v_t_next_0 180) ((if (r_t_bytes_0 v_t_next_0.toNatClampNeg) = (32 : Int32) then lt_ (v_t_next_0 + (1 : Int32)) (fun z4 => fX8_readToken_0 v_t_length_0 r_t_bytes_0 n z4) else some v_t_next_0)))
def fX8_readToken (v_t_length : Int32) (v_t_next : Int32) (r_t_bytes : Nat → Int32) : Option (Int32 × Int32 × Int32 × Int32) :=
  (fX8_readToken_0 v_t_length r_t_bytes FU v_t_next).bind (fun y5 => (if y5 < v_t_length then chk (vin y5 180) ((fX8_isLetter (r_t_bytes y5.toNatClampNeg)).bind (fun o8 => (if o8 = 0 then (fX8_isDigit (r_t_bytes y5.toNatClampNeg)).bind (fun o10 => (if o10 = 0 then lt_ (if (r_t_bytes y5.toNatClampNeg) = (59 : Int32) then (3 : Int32) else (4 : Int32)) (fun z13 => lt_ (y5 + (1 : Int32)) (fun z14 => some (y5, z14, z13, (0 : Int32)))) else (fX8_readNumber v_t_length y5 y5 (0 : Int32) r_t_bytes).bind (fun o15 => some (y5, o15.1, o15.2.1, o15.2.2)))) else (fX8_readLetters v_t_length y5 y5 r_t_bytes).bind (fun o16 => some (y5, o16.1, o16.2.1, o16.2.2))))) else some (y5, y5, (0 : Int32), (0 : Int32))))
theorem hd_X8_readToken : yX8_readToken.cls = RX8 ∧ yX8_readToken.cls ≠ "java/lang/invoke/MethodHandle" ∧ yX8_readToken.cls ≠ "java/lang/invoke/VarHandle" ∧ (parseMethodDescriptor yX8_readToken.desc).map (fun d => d.parameters.length) = some 0 := by decide +kernel
set_option maxHeartbeats 4000000 in
set_option maxRecDepth 100000 in
theorem k_X8_readToken (l : Launch) (D : va_G) (C : Nat → ClassId) (q_t : Nat) (q_t_bytes : Nat) (v_t_length : Int32) (v_t_start : Int32) (v_t_next : Int32) (v_t_sort : Int32) (v_t_value : Int32) (r_t_bytes : Nat → Int32) (sz : Nat) (out : Int32 × Int32 × Int32 × Int32) (hf : fX8_readToken v_t_length v_t_next r_t_bytes = some out) : MV l yX8_readToken wsX8_readToken ({ frames := 2, cells := 0, slots := 0, locals := 42 }) D C [.ref q_t] [ob q_t 8 [.ref q_t_bytes, .int v_t_length, .int v_t_start, .int v_t_next, .int v_t_sort, .int v_t_value], ia C q_t_bytes 180 r_t_bytes] [ob q_t 8 [.ref q_t_bytes, .int v_t_length, .int out.1, .int out.2.1, .int out.2.2.1, .int out.2.2.2], ia C q_t_bytes 180 r_t_bytes] sz := by
  unfold fX8_readToken at hf
  refine en_V (by decide) rfl (Nat.le_of_ble_eq_true rfl) ?_
  intro p e s m below meth c A ls H locs hx hb hr hlocks hml hts hown hK hP hD hS hA hl
  have hl : lv_has ls 1 [(0, .ref q_t)] := hl
  have inX8 : ∀ w ∈ u_ws RX8 TX8 6, w ∈ wsX8_readToken := fun w h => List.mem_cons_of_mem _ (List.mem_append_right _ h)
  have LP0 : ∀ (Q : State → Prop) (n : Nat) (v_t_length_0 : Int32) (v_t_start_0 : Int32) (v_t_next_0 : Int32) (v_t_sort_0 : Int32) (v_t_value_0 : Int32) (r_t_bytes_0 : Nat → Int32) (y_0 : Int32), fX8_readToken_0 v_t_length_0 r_t_bytes_0 n v_t_next_0 = some y_0 → ∀ (H : Heap) (locs : List Loc) (ls : Array Slot), va_P D vwCl [ob q_t 8 [.ref q_t_bytes, .int v_t_length_0, .int v_t_start_0, .int v_t_next_0, .int v_t_sort_0, .int v_t_value_0], ia C q_t_bytes 180 r_t_bytes_0] H → va_D A [ob q_t 8 [.ref q_t_bytes, .int v_t_length_0, .int v_t_start_0, .int v_t_next_0, .int v_t_sort_0, .int v_t_value_0], ia C q_t_bytes 180 r_t_bytes_0] → va_S A s.heap H locs → lv_has ls 1 [(0, .ref q_t)] → (∀ (H : Heap) (locs : List Loc) (ls : Array Slot), va_P D vwCl [ob q_t 8 [.ref q_t_bytes, .int v_t_length_0, .int v_t_start_0, .int y_0, .int v_t_sort_0, .int v_t_value_0], ia C q_t_bytes 180 r_t_bytes_0] H → va_D A [ob q_t 8 [.ref q_t_bytes, .int v_t_length_0, .int v_t_start_0, .int y_0, .int v_t_sort_0, .int v_t_value_0], ia C q_t_bytes 180 r_t_bytes_0] → va_S A s.heap H locs → lv_has ls 1 [(0, .ref q_t)] → W p l e ({ frames := 2, cells := 0, slots := 0, locals := 42 } : Room) s m ([.ref q_t] : List Value).toArray below meth c H locs 0 0 Q (F0 m 38 ls [])) → W p l e ({ frames := 2, cells := 0, slots := 0, locals := 42 } : Room) s m ([.ref q_t] : List Value).toArray below meth c H locs 0 0 Q (F0 m 0 ls []) := by
    intro Q n
    induction n with
    | zero =>
      intro v_t_length_0 v_t_start_0 v_t_next_0 v_t_sort_0 v_t_value_0 r_t_bytes_0 y_0 hf
      rw [fX8_readToken_0] at hf
      cases hf
    | succ n ih =>
      intro v_t_length_0 v_t_start_0 v_t_next_0 v_t_sort_0 v_t_value_0 r_t_bytes_0 y_0 hf H locs ls hP hD hS hl KX0
      rw [fX8_readToken_0] at hf
      refine lv_aload_n hx hb dX8_readToken_0 rfl (lv_at hl 0 rfl) ?_
      refine va_get (D := D) (ci := 8) (v := .int v_t_next_0) (C := RX8) (T := TX8) (N := 6) hx hb hts inX8 hown hK hP 0 rfl rfl 3 (by decide) (hts (.fieldLink RX8 15 "LentCourage$Text" "next" "I") (List.mem_of_getElem? (i := 1) rfl)) (fun _ h9 => h9) rfl dX8_readToken_1 ?_
      refine lv_aload_n hx hb dX8_readToken_4 rfl (lv_at hl 0 rfl) ?_
      refine va_get (D := D) (ci := 8) (v := .int v_t_length_0) (C := RX8) (T := TX8) (N := 6) hx hb hts inX8 hown hK hP 0 rfl rfl 1 (by decide) (hts (.fieldLink RX8 19 "LentCourage$Text" "length" "I") (List.mem_of_getElem? (i := 2) rfl)) (fun _ h9 => h9) rfl dX8_readToken_5 ?_
      refine lv_icmp_ge (tgt := 38) hx hb dX8_readToken_8 (by decide) (fun c1 => ?_) (fun c1 => ?_)
      · have hf := of_pos hf c1
        obtain rfl := Option.some.inj hf
        exact KX0 _ _ _ hP hD hS (lv_sub hl [0] rfl)
      · have hf := of_neg hf c1
        refine lv_aload_n hx hb dX8_readToken_11 rfl (lv_at hl 0 rfl) ?_
        refine va_get (D := D) (ci := 8) (v := .ref q_t_bytes) (C := RX8) (T := TX8) (N := 6) hx hb hts inX8 hown hK hP 0 rfl rfl 0 (by decide) (hts (.fieldLink RX8 9 "LentCourage$Text" "bytes" "[I") (List.mem_of_getElem? (i := 3) rfl)) (fun _ h9 => h9) rfl dX8_readToken_12 ?_
        refine lv_aload_n hx hb dX8_readToken_15 rfl (lv_at hl 0 rfl) ?_
        refine va_get (D := D) (ci := 8) (v := .int v_t_next_0) (C := RX8) (T := TX8) (N := 6) hx hb hts inX8 hown hK hP 0 rfl rfl 3 (by decide) (hts (.fieldLink RX8 15 "LentCourage$Text" "next" "I") (List.mem_of_getElem? (i := 1) rfl)) (fun _ h9 => h9) rfl dX8_readToken_16 ?_
        obtain ⟨h2, hf⟩ := of_chk hf
        refine va_iald hx hb hK hP 1 0 rfl rfl h2 dX8_readToken_19 ?_
        refine lv_bipush (v := (32 : Int32)) hx hb dX8_readToken_20 (by decide) ?_
        refine lv_icmp_ne (tgt := 38) hx hb dX8_readToken_22 (by decide) (fun c3 => ?_) (fun c3 => ?_)
        · have hf := of_neg hf c3
          obtain rfl := Option.some.inj hf
          exact KX0 _ _ _ hP hD hS (lv_sub hl [0] rfl)
        · have hf := of_pos hf c3
          refine lv_aload_n hx hb dX8_readToken_25 rfl (lv_at hl 0 rfl) ?_
          refine lv_dup hx hb dX8_readToken_26 rfl ?_
          refine va_get (D := D) (ci := 8) (v := .int v_t_next_0) (C := RX8) (T := TX8) (N := 6) hx hb hts inX8 hown hK hP 0 rfl rfl 3 (by decide) (hts (.fieldLink RX8 15 "LentCourage$Text" "next" "I") (List.mem_of_getElem? (i := 1) rfl)) (fun _ h9 => h9) rfl dX8_readToken_27 ?_
          refine lv_iconst (v := (1 : Int32)) hx hb dX8_readToken_30 (by decide) ?_
          refine lv_iadd hx hb dX8_readToken_31 ?_
          refine lv_topi (fun z4 ez4 => ?_)
          have hf := of_lt hf ez4
          refine va_put (D := D) (ci := 8) (v := .int z4) (ty := .int) (C := RX8) (T := TX8) (N := 6) hx hb hts inX8 tyX8 tyX8_ok nmX8 hown hK hP hD hS 0 rfl rfl 3 (by decide) (hts (.fieldLink RX8 15 "LentCourage$Text" "next" "I") (List.mem_of_getElem? (i := 1) rfl)) (fun _ h9 => h9) rfl (tyX8_ok 3 (by decide)) rfl rfl (Nat.le_of_ble_eq_true rfl) dX8_readToken_32 (fun H locs hP hD hS => ?_)
          have hP : va_P D vwCl [ob q_t 8 [.ref q_t_bytes, .int v_t_length_0, .int v_t_start_0, .int z4, .int v_t_sort_0, .int v_t_value_0], ia C q_t_bytes 180 r_t_bytes_0] H := hP
          have hD : va_D A [ob q_t 8 [.ref q_t_bytes, .int v_t_length_0, .int v_t_start_0, .int z4, .int v_t_sort_0, .int v_t_value_0], ia C q_t_bytes 180 r_t_bytes_0] := hD
          refine lv_goto (tgt := 0) hx hb dX8_readToken_35 (by decide) ?_
          exact ih _ _ _ _ _ _ _ hf H locs ls hP hD hS (lv_sub hl [0] rfl) KX0
  obtain ⟨y5, hy5, hf⟩ := of_bind hf
  refine LP0 _ FU _ _ _ _ _ _ y5 hy5 H locs ls hP hD hS (lv_sub hl [0] rfl) (fun H locs ls hP hD hS hl => ?_)
  refine lv_aload_n hx hb dX8_readToken_38 rfl (lv_at hl 0 rfl) ?_
  refine lv_aload_n hx hb dX8_readToken_39 rfl (lv_at hl 0 rfl) ?_
  refine va_get (D := D) (ci := 8) (v := .int y5) (C := RX8) (T := TX8) (N := 6) hx hb hts inX8 hown hK hP 0 rfl rfl 3 (by decide) (hts (.fieldLink RX8 15 "LentCourage$Text" "next" "I") (List.mem_of_getElem? (i := 1) rfl)) (fun _ h9 => h9) rfl dX8_readToken_40 ?_
  refine va_put (D := D) (ci := 8) (v := .int y5) (ty := .int) (C := RX8) (T := TX8) (N := 6) hx hb hts inX8 tyX8 tyX8_ok nmX8 hown hK hP hD hS 0 rfl rfl 2 (by decide) (hts (.fieldLink RX8 22 "LentCourage$Text" "start" "I") (List.mem_of_getElem? (i := 4) rfl)) (fun _ h9 => h9) rfl (tyX8_ok 2 (by decide)) rfl rfl (Nat.le_of_ble_eq_true rfl) dX8_readToken_43 (fun H locs hP hD hS => ?_)
  have hP : va_P D vwCl [ob q_t 8 [.ref q_t_bytes, .int v_t_length, .int y5, .int y5, .int v_t_sort, .int v_t_value], ia C q_t_bytes 180 r_t_bytes] H := hP
  have hD : va_D A [ob q_t 8 [.ref q_t_bytes, .int v_t_length, .int y5, .int y5, .int v_t_sort, .int v_t_value], ia C q_t_bytes 180 r_t_bytes] := hD
  refine lv_aload_n hx hb dX8_readToken_46 rfl (lv_at hl 0 rfl) ?_
  refine lv_iconst (v := (0 : Int32)) hx hb dX8_readToken_47 (by decide) ?_
  refine va_put (D := D) (ci := 8) (v := .int (0 : Int32)) (ty := .int) (C := RX8) (T := TX8) (N := 6) hx hb hts inX8 tyX8 tyX8_ok nmX8 hown hK hP hD hS 0 rfl rfl 5 (by decide) (hts (.fieldLink RX8 25 "LentCourage$Text" "value" "I") (List.mem_of_getElem? (i := 5) rfl)) (fun _ h9 => h9) rfl (tyX8_ok 5 (by decide)) rfl rfl (Nat.le_of_ble_eq_true rfl) dX8_readToken_48 (fun H locs hP hD hS => ?_)
  have hP : va_P D vwCl [ob q_t 8 [.ref q_t_bytes, .int v_t_length, .int y5, .int y5, .int v_t_sort, .int (0 : Int32)], ia C q_t_bytes 180 r_t_bytes] H := hP
  have hD : va_D A [ob q_t 8 [.ref q_t_bytes, .int v_t_length, .int y5, .int y5, .int v_t_sort, .int (0 : Int32)], ia C q_t_bytes 180 r_t_bytes] := hD
  refine lv_aload_n hx hb dX8_readToken_51 rfl (lv_at hl 0 rfl) ?_
  refine va_get (D := D) (ci := 8) (v := .int y5) (C := RX8) (T := TX8) (N := 6) hx hb hts inX8 hown hK hP 0 rfl rfl 3 (by decide) (hts (.fieldLink RX8 15 "LentCourage$Text" "next" "I") (List.mem_of_getElem? (i := 1) rfl)) (fun _ h9 => h9) rfl dX8_readToken_52 ?_
  refine lv_aload_n hx hb dX8_readToken_55 rfl (lv_at hl 0 rfl) ?_
  refine va_get (D := D) (ci := 8) (v := .int v_t_length) (C := RX8) (T := TX8) (N := 6) hx hb hts inX8 hown hK hP 0 rfl rfl 1 (by decide) (hts (.fieldLink RX8 19 "LentCourage$Text" "length" "I") (List.mem_of_getElem? (i := 2) rfl)) (fun _ h9 => h9) rfl dX8_readToken_56 ?_
  refine lv_icmp_lt (tgt := 70) hx hb dX8_readToken_59 (by decide) (fun c6 => ?_) (fun c6 => ?_)
  · have hf := of_pos hf c6
    refine lv_aload_n hx hb dX8_readToken_70 rfl (lv_at hl 0 rfl) ?_
    refine va_get (D := D) (ci := 8) (v := .ref q_t_bytes) (C := RX8) (T := TX8) (N := 6) hx hb hts inX8 hown hK hP 0 rfl rfl 0 (by decide) (hts (.fieldLink RX8 9 "LentCourage$Text" "bytes" "[I") (List.mem_of_getElem? (i := 3) rfl)) (fun _ h9 => h9) rfl dX8_readToken_71 ?_
    refine lv_aload_n hx hb dX8_readToken_74 rfl (lv_at hl 0 rfl) ?_
    refine va_get (D := D) (ci := 8) (v := .int y5) (C := RX8) (T := TX8) (N := 6) hx hb hts inX8 hown hK hP 0 rfl rfl 3 (by decide) (hts (.fieldLink RX8 15 "LentCourage$Text" "next" "I") (List.mem_of_getElem? (i := 1) rfl)) (fun _ h9 => h9) rfl dX8_readToken_75 ?_
    obtain ⟨h7, hf⟩ := of_chk hf
    refine va_iald hx hb hK hP 1 0 rfl rfl h7 dX8_readToken_78 ?_
    obtain ⟨o8, ho8, hf⟩ := of_bind hf
    refine c_I (wr := [ob q_t 8 [.ref q_t_bytes, .int v_t_length, .int y5, .int y5, .int v_t_sort, .int (0 : Int32)], ia C q_t_bytes 180 r_t_bytes]) (W2 := [ob q_t 8 [.ref q_t_bytes, .int v_t_length, .int y5, .int y5, .int v_t_sort, .int (0 : Int32)], ia C q_t_bytes 180 r_t_bytes]) (cS_run ⟨hx, hb, hml, hown, hts⟩ (k_X8_isLetter l D C (r_t_bytes y5.toNatClampNeg) H.size o8 ho8) gX8_readToken_X8_isLetter rfl ⟨rfl, rfl⟩ hd_X8_isLetter ⟨(Nat.le_of_ble_eq_true rfl), (Nat.le_of_ble_eq_true rfl)⟩ rfl hK (cut_in hK hP hD [] rfl (by decide)) hl.1 rfl (Nat.le_of_ble_eq_true rfl) dX8_readToken_79 ⟨Nat.zero_le _, Nat.zero_le _⟩) hP hD hS hA [] [0, 1] [0, 1] rfl rfl (by decide) (by decide) rfl (by decide) (fun H locs hP hD hS => ?_)
    have hP : va_P D vwCl [ob q_t 8 [.ref q_t_bytes, .int v_t_length, .int y5, .int y5, .int v_t_sort, .int (0 : Int32)], ia C q_t_bytes 180 r_t_bytes] H := hP
    have hD : va_D A [ob q_t 8 [.ref q_t_bytes, .int v_t_length, .int y5, .int y5, .int v_t_sort, .int (0 : Int32)], ia C q_t_bytes 180 r_t_bytes] := hD
    refine lv_if_eq (tgt := 92) hx hb dX8_readToken_82 (by decide) (fun c9 => ?_) (fun c9 => ?_)
    · have hf := of_pos hf c9
      refine lv_aload_n hx hb dX8_readToken_92 rfl (lv_at hl 0 rfl) ?_
      refine va_get (D := D) (ci := 8) (v := .ref q_t_bytes) (C := RX8) (T := TX8) (N := 6) hx hb hts inX8 hown hK hP 0 rfl rfl 0 (by decide) (hts (.fieldLink RX8 9 "LentCourage$Text" "bytes" "[I") (List.mem_of_getElem? (i := 3) rfl)) (fun _ h9 => h9) rfl dX8_readToken_93 ?_
      refine lv_aload_n hx hb dX8_readToken_96 rfl (lv_at hl 0 rfl) ?_
      refine va_get (D := D) (ci := 8) (v := .int y5) (C := RX8) (T := TX8) (N := 6) hx hb hts inX8 hown hK hP 0 rfl rfl 3 (by decide) (hts (.fieldLink RX8 15 "LentCourage$Text" "next" "I") (List.mem_of_getElem? (i := 1) rfl)) (fun _ h9 => h9) rfl dX8_readToken_97 ?_
      refine va_iald hx hb hK hP 1 0 rfl rfl h7 dX8_readToken_100 ?_
      obtain ⟨o10, ho10, hf⟩ := of_bind hf
      refine c_I (wr := [ob q_t 8 [.ref q_t_bytes, .int v_t_length, .int y5, .int y5, .int v_t_sort, .int (0 : Int32)], ia C q_t_bytes 180 r_t_bytes]) (W2 := [ob q_t 8 [.ref q_t_bytes, .int v_t_length, .int y5, .int y5, .int v_t_sort, .int (0 : Int32)], ia C q_t_bytes 180 r_t_bytes]) (cS_run ⟨hx, hb, hml, hown, hts⟩ (k_X8_isDigit l D C (r_t_bytes y5.toNatClampNeg) H.size o10 ho10) gX8_readToken_X8_isDigit rfl ⟨rfl, rfl⟩ hd_X8_isDigit ⟨(Nat.le_of_ble_eq_true rfl), (Nat.le_of_ble_eq_true rfl)⟩ rfl hK (cut_in hK hP hD [] rfl (by decide)) hl.1 rfl (Nat.le_of_ble_eq_true rfl) dX8_readToken_101 ⟨Nat.zero_le _, Nat.zero_le _⟩) hP hD hS hA [] [0, 1] [0, 1] rfl rfl (by decide) (by decide) rfl (by decide) (fun H locs hP hD hS => ?_)
      have hP : va_P D vwCl [ob q_t 8 [.ref q_t_bytes, .int v_t_length, .int y5, .int y5, .int v_t_sort, .int (0 : Int32)], ia C q_t_bytes 180 r_t_bytes] H := hP
      have hD : va_D A [ob q_t 8 [.ref q_t_bytes, .int v_t_length, .int y5, .int y5, .int v_t_sort, .int (0 : Int32)], ia C q_t_bytes 180 r_t_bytes] := hD
      refine lv_if_eq (tgt := 114) hx hb dX8_readToken_104 (by decide) (fun c11 => ?_) (fun c11 => ?_)
      · have hf := of_pos hf c11
        refine lv_aload_n hx hb dX8_readToken_114 rfl (lv_at hl 0 rfl) ?_
        refine lv_aload_n hx hb dX8_readToken_115 rfl (lv_at hl 0 rfl) ?_
        refine va_get (D := D) (ci := 8) (v := .ref q_t_bytes) (C := RX8) (T := TX8) (N := 6) hx hb hts inX8 hown hK hP 0 rfl rfl 0 (by decide) (hts (.fieldLink RX8 9 "LentCourage$Text" "bytes" "[I") (List.mem_of_getElem? (i := 3) rfl)) (fun _ h9 => h9) rfl dX8_readToken_116 ?_
        refine lv_aload_n hx hb dX8_readToken_119 rfl (lv_at hl 0 rfl) ?_
        refine va_get (D := D) (ci := 8) (v := .int y5) (C := RX8) (T := TX8) (N := 6) hx hb hts inX8 hown hK hP 0 rfl rfl 3 (by decide) (hts (.fieldLink RX8 15 "LentCourage$Text" "next" "I") (List.mem_of_getElem? (i := 1) rfl)) (fun _ h9 => h9) rfl dX8_readToken_120 ?_
        refine va_iald hx hb hK hP 1 0 rfl rfl h7 dX8_readToken_123 ?_
        refine lv_bipush (v := (59 : Int32)) hx hb dX8_readToken_124 (by decide) ?_
        refine jp (g2 := F0 m 134 ls [.int (if (r_t_bytes y5.toNatClampNeg) = (59 : Int32) then (3 : Int32) else (4 : Int32)), .ref q_t]) ?_ (fun JP => ?_)
        · refine lv_topi (fun z13 ez13 => ?_)
          have hf := of_lt hf ez13
          refine va_put (D := D) (ci := 8) (v := .int z13) (ty := .int) (C := RX8) (T := TX8) (N := 6) hx hb hts inX8 tyX8 tyX8_ok nmX8 hown hK hP hD hS 0 rfl rfl 4 (by decide) (hts (.fieldLink RX8 28 "LentCourage$Text" "sort" "I") (List.mem_of_getElem? (i := 6) rfl)) (fun _ h9 => h9) rfl (tyX8_ok 4 (by decide)) rfl rfl (Nat.le_of_ble_eq_true rfl) dX8_readToken_134 (fun H locs hP hD hS => ?_)
          have hP : va_P D vwCl [ob q_t 8 [.ref q_t_bytes, .int v_t_length, .int y5, .int y5, .int z13, .int (0 : Int32)], ia C q_t_bytes 180 r_t_bytes] H := hP
          have hD : va_D A [ob q_t 8 [.ref q_t_bytes, .int v_t_length, .int y5, .int y5, .int z13, .int (0 : Int32)], ia C q_t_bytes 180 r_t_bytes] := hD
          refine lv_aload_n hx hb dX8_readToken_137 rfl (lv_at hl 0 rfl) ?_
          refine lv_dup hx hb dX8_readToken_138 rfl ?_
          refine va_get (D := D) (ci := 8) (v := .int y5) (C := RX8) (T := TX8) (N := 6) hx hb hts inX8 hown hK hP 0 rfl rfl 3 (by decide) (hts (.fieldLink RX8 15 "LentCourage$Text" "next" "I") (List.mem_of_getElem? (i := 1) rfl)) (fun _ h9 => h9) rfl dX8_readToken_139 ?_
          refine lv_iconst (v := (1 : Int32)) hx hb dX8_readToken_142 (by decide) ?_
          refine lv_iadd hx hb dX8_readToken_143 ?_
          refine lv_topi (fun z14 ez14 => ?_)
          have hf := of_lt hf ez14
          refine va_put (D := D) (ci := 8) (v := .int z14) (ty := .int) (C := RX8) (T := TX8) (N := 6) hx hb hts inX8 tyX8 tyX8_ok nmX8 hown hK hP hD hS 0 rfl rfl 3 (by decide) (hts (.fieldLink RX8 15 "LentCourage$Text" "next" "I") (List.mem_of_getElem? (i := 1) rfl)) (fun _ h9 => h9) rfl (tyX8_ok 3 (by decide)) rfl rfl (Nat.le_of_ble_eq_true rfl) dX8_readToken_144 (fun H locs hP hD hS => ?_)
          have hP : va_P D vwCl [ob q_t 8 [.ref q_t_bytes, .int v_t_length, .int y5, .int z14, .int z13, .int (0 : Int32)], ia C q_t_bytes 180 r_t_bytes] H := hP
          have hD : va_D A [ob q_t 8 [.ref q_t_bytes, .int v_t_length, .int y5, .int z14, .int z13, .int (0 : Int32)], ia C q_t_bytes 180 r_t_bytes] := hD
          obtain rfl := Option.some.inj hf
          exact ret_V hx hb hr hlocks hK hP hD hS dX8_readToken_147
        · refine lv_icmp_ne (tgt := 133) hx hb dX8_readToken_126 (by decide) (fun c12 => ?_) (fun c12 => ?_)
          · refine lv_iconst (v := (4 : Int32)) hx hb dX8_readToken_133 (by decide) ?_
            exact W.eq (congrArg (fun x => F0 m 134 ls (Value.int x :: [.ref q_t])) (if_neg c12).symm) JP
          · refine lv_iconst (v := (3 : Int32)) hx hb dX8_readToken_129 (by decide) ?_
            refine lv_goto (tgt := 134) hx hb dX8_readToken_130 (by decide) ?_
            exact W.eq (congrArg (fun x => F0 m 134 ls (Value.int x :: [.ref q_t])) (if_pos c12).symm) JP
      · have hf := of_neg hf c11
        refine lv_aload_n hx hb dX8_readToken_107 rfl (lv_at hl 0 rfl) ?_
        obtain ⟨o15, ho15, hf⟩ := of_bind hf
        refine c_V (wr := []) (W2 := [ob q_t 8 [.ref q_t_bytes, .int v_t_length, .int y5, .int o15.1, .int o15.2.1, .int o15.2.2], ia C q_t_bytes 180 r_t_bytes]) (cV_run ⟨hx, hb, hml, hown, hts⟩ (k_X8_readNumber l D C q_t q_t_bytes v_t_length y5 y5 v_t_sort (0 : Int32) r_t_bytes H.size o15 ho15) gX8_readToken_X8_readNumber rfl ⟨rfl, rfl⟩ hd_X8_readNumber ⟨(Nat.le_of_ble_eq_true rfl), (Nat.le_of_ble_eq_true rfl)⟩ rfl hK (cut_in hK hP hD [0, 1] rfl (by decide)) (ci := 8) rfl rfl rfl hl.1 rfl (Nat.le_of_ble_eq_true rfl) dX8_readToken_108 ⟨Nat.zero_le _, Nat.zero_le _⟩) hP hD hS hA [0, 1] [] [0, 1] rfl rfl (by decide) (by decide) rfl (by decide) (fun H locs hP hD hS => ?_)
        have hP : va_P D vwCl [ob q_t 8 [.ref q_t_bytes, .int v_t_length, .int y5, .int o15.1, .int o15.2.1, .int o15.2.2], ia C q_t_bytes 180 r_t_bytes] H := hP
        have hD : va_D A [ob q_t 8 [.ref q_t_bytes, .int v_t_length, .int y5, .int o15.1, .int o15.2.1, .int o15.2.2], ia C q_t_bytes 180 r_t_bytes] := hD
        refine lv_goto (tgt := 147) hx hb dX8_readToken_111 (by decide) ?_
        obtain rfl := Option.some.inj hf
        exact ret_V hx hb hr hlocks hK hP hD hS dX8_readToken_147
    · have hf := of_neg hf c9
      refine lv_aload_n hx hb dX8_readToken_85 rfl (lv_at hl 0 rfl) ?_
      obtain ⟨o16, ho16, hf⟩ := of_bind hf
      refine c_V (wr := []) (W2 := [ob q_t 8 [.ref q_t_bytes, .int v_t_length, .int y5, .int o16.1, .int o16.2.1, .int o16.2.2], ia C q_t_bytes 180 r_t_bytes]) (cV_run ⟨hx, hb, hml, hown, hts⟩ (k_X8_readLetters l D C q_t q_t_bytes v_t_length y5 y5 v_t_sort (0 : Int32) r_t_bytes H.size o16 ho16) gX8_readToken_X8_readLetters rfl ⟨rfl, rfl⟩ hd_X8_readLetters ⟨(Nat.le_of_ble_eq_true rfl), (Nat.le_of_ble_eq_true rfl)⟩ rfl hK (cut_in hK hP hD [0, 1] rfl (by decide)) (ci := 8) rfl rfl rfl hl.1 rfl (Nat.le_of_ble_eq_true rfl) dX8_readToken_86 ⟨Nat.zero_le _, Nat.zero_le _⟩) hP hD hS hA [0, 1] [] [0, 1] rfl rfl (by decide) (by decide) rfl (by decide) (fun H locs hP hD hS => ?_)
      have hP : va_P D vwCl [ob q_t 8 [.ref q_t_bytes, .int v_t_length, .int y5, .int o16.1, .int o16.2.1, .int o16.2.2], ia C q_t_bytes 180 r_t_bytes] H := hP
      have hD : va_D A [ob q_t 8 [.ref q_t_bytes, .int v_t_length, .int y5, .int o16.1, .int o16.2.1, .int o16.2.2], ia C q_t_bytes 180 r_t_bytes] := hD
      refine lv_goto (tgt := 147) hx hb dX8_readToken_89 (by decide) ?_
      obtain rfl := Option.some.inj hf
      exact ret_V hx hb hr hlocks hK hP hD hS dX8_readToken_147
  · have hf := of_neg hf c6
    refine lv_aload_n hx hb dX8_readToken_62 rfl (lv_at hl 0 rfl) ?_
    refine lv_iconst (v := (0 : Int32)) hx hb dX8_readToken_63 (by decide) ?_
    refine va_put (D := D) (ci := 8) (v := .int (0 : Int32)) (ty := .int) (C := RX8) (T := TX8) (N := 6) hx hb hts inX8 tyX8 tyX8_ok nmX8 hown hK hP hD hS 0 rfl rfl 4 (by decide) (hts (.fieldLink RX8 28 "LentCourage$Text" "sort" "I") (List.mem_of_getElem? (i := 6) rfl)) (fun _ h9 => h9) rfl (tyX8_ok 4 (by decide)) rfl rfl (Nat.le_of_ble_eq_true rfl) dX8_readToken_64 (fun H locs hP hD hS => ?_)
    have hP : va_P D vwCl [ob q_t 8 [.ref q_t_bytes, .int v_t_length, .int y5, .int y5, .int (0 : Int32), .int (0 : Int32)], ia C q_t_bytes 180 r_t_bytes] H := hP
    have hD : va_D A [ob q_t 8 [.ref q_t_bytes, .int v_t_length, .int y5, .int y5, .int (0 : Int32), .int (0 : Int32)], ia C q_t_bytes 180 r_t_bytes] := hD
    refine lv_goto (tgt := 147) hx hb dX8_readToken_67 (by decide) ?_
    obtain rfl := Option.some.inj hf
    exact ret_V hx hb hr hlocks hK hP hD hS dX8_readToken_147
