/-! written by gen.py: 22.model2 -/
def fX11_isHeld (r_t_s : Nat → Int32) : Option (Int32) :=
  some (if (r_t_s 1) = (-9 : Int32) then (0 : Int32) else (1 : Int32))
theorem hd_X11_isHeld : yX11_isHeld.cls = RX11 ∧ yX11_isHeld.cls ≠ "java/lang/invoke/MethodHandle" ∧ yX11_isHeld.cls ≠ "java/lang/invoke/VarHandle" ∧ (parseMethodDescriptor yX11_isHeld.desc).map (fun d => d.parameters.length) = some 0 := by decide +kernel
set_option maxHeartbeats 4000000 in
set_option maxRecDepth 100000 in
theorem k_X11_isHeld (l : Launch) (D : va_G) (C : Nat → ClassId) (q_t : Nat) (q_t_text : Nat) (q_t_told : Nat) (q_t_draft : Nat) (q_t_s : Nat) (q_t_images : Nat) (q_t_kept : Nat) (q_t_heard : Nat) (q_t_hours : Nat) (q_t_row : Nat) (q_t_best : Nat) (q_t_places : Nat) (q_t_pairs : Nat) (v_t_trace : Int64) (v_t_typed : Int32) (v_t_noted : Int32) (v_t_at : Int32) (v_t_sort : Int32) (v_t_start : Int32) (v_t_value : Int32) (v_t_bestMany : Int32) (v_t_bestWorth : Int32) (v_t_bestHour : Int32) (r_t_s : Nat → Int32) (sz : Nat) (out : Int32) (hf : fX11_isHeld r_t_s = some out) : MI l yX11_isHeld wsX11_isHeld ({ frames := 0, cells := 0, slots := 0, locals := 0 }) D C [.ref q_t] [ob q_t 11 [.long v_t_trace, .ref q_t_text, .int v_t_typed, .ref q_t_told, .ref q_t_draft, .ref q_t_s, .ref q_t_images, .ref q_t_kept, .ref q_t_heard, .ref q_t_hours, .int v_t_noted, .int v_t_at, .int v_t_sort, .int v_t_start, .int v_t_value, .ref q_t_row, .ref q_t_best, .int v_t_bestMany, .int v_t_bestWorth, .int v_t_bestHour, .ref q_t_places, .ref q_t_pairs], ia C q_t_s 254 r_t_s] [ob q_t 11 [.long v_t_trace, .ref q_t_text, .int v_t_typed, .ref q_t_told, .ref q_t_draft, .ref q_t_s, .ref q_t_images, .ref q_t_kept, .ref q_t_heard, .ref q_t_hours, .int v_t_noted, .int v_t_at, .int v_t_sort, .int v_t_start, .int v_t_value, .ref q_t_row, .ref q_t_best, .int v_t_bestMany, .int v_t_bestWorth, .int v_t_bestHour, .ref q_t_places, .ref q_t_pairs], ia C q_t_s 254 r_t_s] sz (out) := by
  unfold fX11_isHeld at hf
  refine en_I (by decide) rfl (Nat.le_of_ble_eq_true rfl) ?_
  intro p e s m below meth c A ls H locs hx hb hr hlocks hml hts hown hK hP hD hS hA hl
  have hl : lv_has ls 1 [(0, .ref q_t)] := hl
  have inX11 : ∀ w ∈ u_ws RX11 TX11 22, w ∈ wsX11_isHeld := fun w h => List.mem_cons_of_mem _ (List.mem_append_right _ h)
  refine lv_aload_n hx hb dX11_isHeld_0 rfl (lv_at hl 0 rfl) ?_
  refine va_get (D := D) (ci := 11) (v := .ref q_t_s) (C := RX11) (T := TX11) (N := 22) hx hb hts inX11 hown hK hP 0 rfl rfl 5 (by decide) (hts (.fieldLink RX11 19 "LentCourageModel" "s" "[I") (List.mem_of_getElem? (i := 1) rfl)) (fun _ h9 => h9) rfl dX11_isHeld_1 ?_
  refine lv_iconst (v := (1 : Int32)) hx hb dX11_isHeld_4 (by decide) ?_
  refine ld_ialdK hx hb hK hP 1 0 rfl rfl (k := 1) (by decide) (by decide) (by decide) dX11_isHeld_5 ?_
  refine lv_bipush (v := (-9 : Int32)) hx hb dX11_isHeld_6 (by decide) ?_
  refine jp (g2 := F0 m 16 ls [.int (if (r_t_s 1) = (-9 : Int32) then (0 : Int32) else (1 : Int32))]) ?_ (fun JP => ?_)
  · obtain rfl := Option.some.inj hf
    exact ret_Z hx hb hr hlocks (by repeat (first | exact okZ_0 | exact okZ_1 | apply okZ_ite)) hK hP hD hS dX11_isHeld_16
  · refine lv_icmp_eq (tgt := 15) hx hb dX11_isHeld_8 (by decide) (fun c1 => ?_) (fun c1 => ?_)
    · refine lv_iconst (v := (0 : Int32)) hx hb dX11_isHeld_15 (by decide) ?_
      exact W.eq (congrArg (fun x => F0 m 16 ls (Value.int x :: [])) (if_pos c1).symm) JP
    · refine lv_iconst (v := (1 : Int32)) hx hb dX11_isHeld_11 (by decide) ?_
      refine lv_goto (tgt := 16) hx hb dX11_isHeld_12 (by decide) ?_
      exact W.eq (congrArg (fun x => F0 m 16 ls (Value.int x :: [])) (if_neg c1).symm) JP

def fX11_care (r_t_s : Nat → Int32) (p1 : Int32) : Option (Int32) :=
  ((if (r_t_s 1) = p1 then some (0 : Int32) else chk (vin ((10 : Int32) + p1) 254) (some ((r_t_s 0) - (r_t_s ((10 : Int32) + p1).toNatClampNeg))))).bind (fun j1 => some j1)
theorem hd_X11_care : yX11_care.cls = RX11 ∧ yX11_care.cls ≠ "java/lang/invoke/MethodHandle" ∧ yX11_care.cls ≠ "java/lang/invoke/VarHandle" ∧ (parseMethodDescriptor yX11_care.desc).map (fun d => d.parameters.length) = some 1 := by decide +kernel
set_option maxHeartbeats 4000000 in
set_option maxRecDepth 100000 in
theorem k_X11_care (l : Launch) (D : va_G) (C : Nat → ClassId) (q_t : Nat) (q_t_text : Nat) (q_t_told : Nat) (q_t_draft : Nat) (q_t_s : Nat) (q_t_images : Nat) (q_t_kept : Nat) (q_t_heard : Nat) (q_t_hours : Nat) (q_t_row : Nat) (q_t_best : Nat) (q_t_places : Nat) (q_t_pairs : Nat) (v_t_trace : Int64) (v_t_typed : Int32) (v_t_noted : Int32) (v_t_at : Int32) (v_t_sort : Int32) (v_t_start : Int32) (v_t_value : Int32) (v_t_bestMany : Int32) (v_t_bestWorth : Int32) (v_t_bestHour : Int32) (r_t_s : Nat → Int32) (p1 : Int32) (sz : Nat) (out : Int32) (hf : fX11_care r_t_s p1 = some out) : MI l yX11_care wsX11_care ({ frames := 0, cells := 0, slots := 0, locals := 0 }) D C [.ref q_t, .int p1] [ob q_t 11 [.long v_t_trace, .ref q_t_text, .int v_t_typed, .ref q_t_told, .ref q_t_draft, .ref q_t_s, .ref q_t_images, .ref q_t_kept, .ref q_t_heard, .ref q_t_hours, .int v_t_noted, .int v_t_at, .int v_t_sort, .int v_t_start, .int v_t_value, .ref q_t_row, .ref q_t_best, .int v_t_bestMany, .int v_t_bestWorth, .int v_t_bestHour, .ref q_t_places, .ref q_t_pairs], ia C q_t_s 254 r_t_s] [ob q_t 11 [.long v_t_trace, .ref q_t_text, .int v_t_typed, .ref q_t_told, .ref q_t_draft, .ref q_t_s, .ref q_t_images, .ref q_t_kept, .ref q_t_heard, .ref q_t_hours, .int v_t_noted, .int v_t_at, .int v_t_sort, .int v_t_start, .int v_t_value, .ref q_t_row, .ref q_t_best, .int v_t_bestMany, .int v_t_bestWorth, .int v_t_bestHour, .ref q_t_places, .ref q_t_pairs], ia C q_t_s 254 r_t_s] sz (out) := by
  unfold fX11_care at hf
  refine en_I (by decide) rfl (Nat.le_of_ble_eq_true rfl) ?_
  intro p e s m below meth c A ls H locs hx hb hr hlocks hml hts hown hK hP hD hS hA hl
  have hl : lv_has ls 2 [(0, .ref q_t), (1, .int p1)] := hl
  have inX11 : ∀ w ∈ u_ws RX11 TX11 22, w ∈ wsX11_care := fun w h => List.mem_cons_of_mem _ (List.mem_append_right _ h)
  refine lv_aload_n hx hb dX11_care_0 rfl (lv_at hl 0 rfl) ?_
  refine va_get (D := D) (ci := 11) (v := .ref q_t_s) (C := RX11) (T := TX11) (N := 22) hx hb hts inX11 hown hK hP 0 rfl rfl 5 (by decide) (hts (.fieldLink RX11 19 "LentCourageModel" "s" "[I") (List.mem_of_getElem? (i := 1) rfl)) (fun _ h9 => h9) rfl dX11_care_1 ?_
  refine lv_iconst (v := (1 : Int32)) hx hb dX11_care_4 (by decide) ?_
  refine ld_ialdK hx hb hK hP 1 0 rfl rfl (k := 1) (by decide) (by decide) (by decide) dX11_care_5 ?_
  refine lv_iload_n hx hb dX11_care_6 rfl (lv_at hl 1 rfl) ?_
  obtain ⟨j1, hrj1, hf⟩ := of_bind hf
  refine jn (fun H L g => ∃ ls, g = F0 m 30 ls [.int j1] ∧ va_P D vwCl [ob q_t 11 [.long v_t_trace, .ref q_t_text, .int v_t_typed, .ref q_t_told, .ref q_t_draft, .ref q_t_s, .ref q_t_images, .ref q_t_kept, .ref q_t_heard, .ref q_t_hours, .int v_t_noted, .int v_t_at, .int v_t_sort, .int v_t_start, .int v_t_value, .ref q_t_row, .ref q_t_best, .int v_t_bestMany, .int v_t_bestWorth, .int v_t_bestHour, .ref q_t_places, .ref q_t_pairs], ia C q_t_s 254 r_t_s] H ∧ va_D A [ob q_t 11 [.long v_t_trace, .ref q_t_text, .int v_t_typed, .ref q_t_told, .ref q_t_draft, .ref q_t_s, .ref q_t_images, .ref q_t_kept, .ref q_t_heard, .ref q_t_hours, .int v_t_noted, .int v_t_at, .int v_t_sort, .int v_t_start, .int v_t_value, .ref q_t_row, .ref q_t_best, .int v_t_bestMany, .int v_t_bestWorth, .int v_t_bestHour, .ref q_t_places, .ref q_t_pairs], ia C q_t_s 254 r_t_s] ∧ va_S A s.heap H L ∧ lv_has ls 2 [(0, .ref q_t), (1, .int p1)]) (fun H locs g hI => ?_) (fun Jj1 => ?_)
  · obtain ⟨ls, rfl, hP, hD, hS, hl⟩ := hI
    obtain rfl := Option.some.inj hf
    exact ret_I hx hb hr hlocks hK hP hD hS dX11_care_30
  · have hf := hrj1
    refine lv_icmp_ne (tgt := 14) hx hb dX11_care_7 (by decide) (fun c2 => ?_) (fun c2 => ?_)
    · have hf := of_neg hf c2
      refine lv_aload_n hx hb dX11_care_14 rfl (lv_at hl 0 rfl) ?_
      refine va_get (D := D) (ci := 11) (v := .ref q_t_s) (C := RX11) (T := TX11) (N := 22) hx hb hts inX11 hown hK hP 0 rfl rfl 5 (by decide) (hts (.fieldLink RX11 19 "LentCourageModel" "s" "[I") (List.mem_of_getElem? (i := 1) rfl)) (fun _ h9 => h9) rfl dX11_care_15 ?_
      refine lv_iconst (v := (0 : Int32)) hx hb dX11_care_18 (by decide) ?_
      refine ld_ialdK hx hb hK hP 1 0 rfl rfl (k := 0) (by decide) (by decide) (by decide) dX11_care_19 ?_
      refine lv_aload_n hx hb dX11_care_20 rfl (lv_at hl 0 rfl) ?_
      refine va_get (D := D) (ci := 11) (v := .ref q_t_s) (C := RX11) (T := TX11) (N := 22) hx hb hts inX11 hown hK hP 0 rfl rfl 5 (by decide) (hts (.fieldLink RX11 19 "LentCourageModel" "s" "[I") (List.mem_of_getElem? (i := 1) rfl)) (fun _ h9 => h9) rfl dX11_care_21 ?_
      refine lv_bipush (v := (10 : Int32)) hx hb dX11_care_24 (by decide) ?_
      refine lv_iload_n hx hb dX11_care_26 rfl (lv_at hl 1 rfl) ?_
      refine lv_iadd hx hb dX11_care_27 ?_
      obtain ⟨h3, hf⟩ := of_chk hf
      refine va_iald hx hb hK hP 1 0 rfl rfl h3 dX11_care_28 ?_
      refine lv_isub hx hb dX11_care_29 ?_
      obtain rfl := Option.some.inj hf
      exact Jj1 _ _ _ ⟨_, rfl, hP, hD, hS, lv_sub hl [0, 1] rfl⟩
    · have hf := of_pos hf c2
      refine lv_iconst (v := (0 : Int32)) hx hb dX11_care_10 (by decide) ?_
      refine lv_goto (tgt := 30) hx hb dX11_care_11 (by decide) ?_
      obtain rfl := Option.some.inj hf
      exact Jj1 _ _ _ ⟨_, rfl, hP, hD, hS, lv_sub hl [0, 1] rfl⟩

def fX11_one (r_t_told : Nat → Int32) (r_t_s : Nat → Int32) (p1 : Int32) (p2 : Int32) : Option (Int32) :=
  (fX11_isOne r_t_told p1).bind (fun o1 => (if o1 = 0 then some (-1 : Int32) else (if p2 = (0 : Int32) then chk (vin ((6 : Int32) + p1) 52) (some (r_t_told ((6 : Int32) + p1).toNatClampNeg)) else (if p2 = (1 : Int32) then chk (vin ((4 : Int32) + p1) 254) (some (r_t_s ((4 : Int32) + p1).toNatClampNeg)) else (if p2 = (2 : Int32) then chk (vin ((16 : Int32) + p1) 254) (some (r_t_s ((16 : Int32) + p1).toNatClampNeg)) else (if p2 = (3 : Int32) then (fX11_care r_t_s p1).bind (fun o10 => some o10) else some (-1 : Int32)))))))
theorem hd_X11_one : yX11_one.cls = RX11 ∧ yX11_one.cls ≠ "java/lang/invoke/MethodHandle" ∧ yX11_one.cls ≠ "java/lang/invoke/VarHandle" ∧ (parseMethodDescriptor yX11_one.desc).map (fun d => d.parameters.length) = some 2 := by decide +kernel
set_option maxHeartbeats 4000000 in
set_option maxRecDepth 100000 in
theorem k_X11_one (l : Launch) (D : va_G) (C : Nat → ClassId) (q_t : Nat) (q_t_text : Nat) (q_t_told : Nat) (q_t_draft : Nat) (q_t_s : Nat) (q_t_images : Nat) (q_t_kept : Nat) (q_t_heard : Nat) (q_t_hours : Nat) (q_t_row : Nat) (q_t_best : Nat) (q_t_places : Nat) (q_t_pairs : Nat) (v_t_trace : Int64) (v_t_typed : Int32) (v_t_noted : Int32) (v_t_at : Int32) (v_t_sort : Int32) (v_t_start : Int32) (v_t_value : Int32) (v_t_bestMany : Int32) (v_t_bestWorth : Int32) (v_t_bestHour : Int32) (r_t_told : Nat → Int32) (r_t_s : Nat → Int32) (p1 : Int32) (p2 : Int32) (sz : Nat) (out : Int32) (hf : fX11_one r_t_told r_t_s p1 p2 = some out) : MI l yX11_one wsX11_one ({ frames := 2, cells := 0, slots := 0, locals := 43 }) D C [.ref q_t, .int p1, .int p2] [ob q_t 11 [.long v_t_trace, .ref q_t_text, .int v_t_typed, .ref q_t_told, .ref q_t_draft, .ref q_t_s, .ref q_t_images, .ref q_t_kept, .ref q_t_heard, .ref q_t_hours, .int v_t_noted, .int v_t_at, .int v_t_sort, .int v_t_start, .int v_t_value, .ref q_t_row, .ref q_t_best, .int v_t_bestMany, .int v_t_bestWorth, .int v_t_bestHour, .ref q_t_places, .ref q_t_pairs], ia C q_t_told 52 r_t_told, ia C q_t_s 254 r_t_s] [ob q_t 11 [.long v_t_trace, .ref q_t_text, .int v_t_typed, .ref q_t_told, .ref q_t_draft, .ref q_t_s, .ref q_t_images, .ref q_t_kept, .ref q_t_heard, .ref q_t_hours, .int v_t_noted, .int v_t_at, .int v_t_sort, .int v_t_start, .int v_t_value, .ref q_t_row, .ref q_t_best, .int v_t_bestMany, .int v_t_bestWorth, .int v_t_bestHour, .ref q_t_places, .ref q_t_pairs], ia C q_t_told 52 r_t_told, ia C q_t_s 254 r_t_s] sz (out) := by
  unfold fX11_one at hf
  refine en_I (by decide) rfl (Nat.le_of_ble_eq_true rfl) ?_
  intro p e s m below meth c A ls H locs hx hb hr hlocks hml hts hown hK hP hD hS hA hl
  have hl : lv_has ls 3 [(0, .ref q_t), (1, .int p1), (2, .int p2)] := hl
  have inX11 : ∀ w ∈ u_ws RX11 TX11 22, w ∈ wsX11_one := fun w h => List.mem_cons_of_mem _ (List.mem_append_right _ h)
  refine lv_aload_n hx hb dX11_one_0 rfl (lv_at hl 0 rfl) ?_
  refine lv_iload_n hx hb dX11_one_1 rfl (lv_at hl 1 rfl) ?_
  obtain ⟨o1, ho1, hf⟩ := of_bind hf
  refine c_I (wr := [ia C q_t_s 254 r_t_s]) (W2 := [ob q_t 11 [.long v_t_trace, .ref q_t_text, .int v_t_typed, .ref q_t_told, .ref q_t_draft, .ref q_t_s, .ref q_t_images, .ref q_t_kept, .ref q_t_heard, .ref q_t_hours, .int v_t_noted, .int v_t_at, .int v_t_sort, .int v_t_start, .int v_t_value, .ref q_t_row, .ref q_t_best, .int v_t_bestMany, .int v_t_bestWorth, .int v_t_bestHour, .ref q_t_places, .ref q_t_pairs], ia C q_t_told 52 r_t_told, ia C q_t_s 254 r_t_s]) (cV_run ⟨hx, hb, hml, hown, hts⟩ (k_X11_isOne l D C q_t q_t_text q_t_told q_t_draft q_t_s q_t_images q_t_kept q_t_heard q_t_hours q_t_row q_t_best q_t_places q_t_pairs v_t_trace v_t_typed v_t_noted v_t_at v_t_sort v_t_start v_t_value v_t_bestMany v_t_bestWorth v_t_bestHour r_t_told p1 H.size o1 ho1) gX11_one_X11_isOne rfl ⟨rfl, rfl⟩ hd_X11_isOne ⟨(Nat.le_of_ble_eq_true rfl), (Nat.le_of_ble_eq_true rfl)⟩ rfl hK (cut_in hK hP hD [0, 1] rfl (by decide)) (ci := 11) rfl rfl rfl hl.1 rfl (Nat.le_of_ble_eq_true rfl) dX11_one_2 ⟨Nat.zero_le _, Nat.zero_le _⟩) hP hD hS hA [0, 1] [2] [1, 2, 0] rfl rfl (by decide) (by decide) rfl (by decide) (fun H locs hP hD hS => ?_)
  have hP : va_P D vwCl [ob q_t 11 [.long v_t_trace, .ref q_t_text, .int v_t_typed, .ref q_t_told, .ref q_t_draft, .ref q_t_s, .ref q_t_images, .ref q_t_kept, .ref q_t_heard, .ref q_t_hours, .int v_t_noted, .int v_t_at, .int v_t_sort, .int v_t_start, .int v_t_value, .ref q_t_row, .ref q_t_best, .int v_t_bestMany, .int v_t_bestWorth, .int v_t_bestHour, .ref q_t_places, .ref q_t_pairs], ia C q_t_told 52 r_t_told, ia C q_t_s 254 r_t_s] H := hP
  have hD : va_D A [ob q_t 11 [.long v_t_trace, .ref q_t_text, .int v_t_typed, .ref q_t_told, .ref q_t_draft, .ref q_t_s, .ref q_t_images, .ref q_t_kept, .ref q_t_heard, .ref q_t_hours, .int v_t_noted, .int v_t_at, .int v_t_sort, .int v_t_start, .int v_t_value, .ref q_t_row, .ref q_t_best, .int v_t_bestMany, .int v_t_bestWorth, .int v_t_bestHour, .ref q_t_places, .ref q_t_pairs], ia C q_t_told 52 r_t_told, ia C q_t_s 254 r_t_s] := hD
  refine lv_if_ne (tgt := 10) hx hb dX11_one_5 (by decide) (fun c2 => ?_) (fun c2 => ?_)
  · have hf := of_neg hf c2
    refine lv_iload_n hx hb dX11_one_10 rfl (lv_at hl 2 rfl) ?_
    by_cases c3 : p2 = (0 : Int32)
    · have hf := of_pos hf c3
      refine lv_tableIn (off := 29) (tgt := 40) hx hb dX11_one_11 (by rw [c3]; decide) (by rw [c3]; decide) (by rw [c3]; rfl) (by decide) ?_
      refine lv_aload_n hx hb dX11_one_40 rfl (lv_at hl 0 rfl) ?_
      refine va_get (D := D) (ci := 11) (v := .ref q_t_told) (C := RX11) (T := TX11) (N := 22) hx hb hts inX11 hown hK hP 0 rfl rfl 3 (by decide) (hts (.fieldLink RX11 13 "LentCourageModel" "told" "[I") (List.mem_of_getElem? (i := 1) rfl)) (fun _ h9 => h9) rfl dX11_one_41 ?_
      refine lv_bipush (v := (6 : Int32)) hx hb dX11_one_44 (by decide) ?_
      refine lv_iload_n hx hb dX11_one_46 rfl (lv_at hl 1 rfl) ?_
      refine lv_iadd hx hb dX11_one_47 ?_
      obtain ⟨h4, hf⟩ := of_chk hf
      refine va_iald hx hb hK hP 1 0 rfl rfl h4 dX11_one_48 ?_
      obtain rfl := Option.some.inj hf
      exact ret_I hx hb hr hlocks hK hP hD hS dX11_one_49
    · have hf := of_neg hf c3
      by_cases c5 : p2 = (1 : Int32)
      · have hf := of_pos hf c5
        refine lv_tableIn (off := 39) (tgt := 50) hx hb dX11_one_11 (by rw [c5]; decide) (by rw [c5]; decide) (by rw [c5]; rfl) (by decide) ?_
        refine lv_aload_n hx hb dX11_one_50 rfl (lv_at hl 0 rfl) ?_
        refine va_get (D := D) (ci := 11) (v := .ref q_t_s) (C := RX11) (T := TX11) (N := 22) hx hb hts inX11 hown hK hP 0 rfl rfl 5 (by decide) (hts (.fieldLink RX11 19 "LentCourageModel" "s" "[I") (List.mem_of_getElem? (i := 2) rfl)) (fun _ h9 => h9) rfl dX11_one_51 ?_
        refine lv_iconst (v := (4 : Int32)) hx hb dX11_one_54 (by decide) ?_
        refine lv_iload_n hx hb dX11_one_55 rfl (lv_at hl 1 rfl) ?_
        refine lv_iadd hx hb dX11_one_56 ?_
        obtain ⟨h6, hf⟩ := of_chk hf
        refine va_iald hx hb hK hP 2 0 rfl rfl h6 dX11_one_57 ?_
        obtain rfl := Option.some.inj hf
        exact ret_I hx hb hr hlocks hK hP hD hS dX11_one_58
      · have hf := of_neg hf c5
        by_cases c7 : p2 = (2 : Int32)
        · have hf := of_pos hf c7
          refine lv_tableIn (off := 48) (tgt := 59) hx hb dX11_one_11 (by rw [c7]; decide) (by rw [c7]; decide) (by rw [c7]; rfl) (by decide) ?_
          refine lv_aload_n hx hb dX11_one_59 rfl (lv_at hl 0 rfl) ?_
          refine va_get (D := D) (ci := 11) (v := .ref q_t_s) (C := RX11) (T := TX11) (N := 22) hx hb hts inX11 hown hK hP 0 rfl rfl 5 (by decide) (hts (.fieldLink RX11 19 "LentCourageModel" "s" "[I") (List.mem_of_getElem? (i := 2) rfl)) (fun _ h9 => h9) rfl dX11_one_60 ?_
          refine lv_bipush (v := (16 : Int32)) hx hb dX11_one_63 (by decide) ?_
          refine lv_iload_n hx hb dX11_one_65 rfl (lv_at hl 1 rfl) ?_
          refine lv_iadd hx hb dX11_one_66 ?_
          obtain ⟨h8, hf⟩ := of_chk hf
          refine va_iald hx hb hK hP 2 0 rfl rfl h8 dX11_one_67 ?_
          obtain rfl := Option.some.inj hf
          exact ret_I hx hb hr hlocks hK hP hD hS dX11_one_68
        · have hf := of_neg hf c7
          by_cases c9 : p2 = (3 : Int32)
          · have hf := of_pos hf c9
            refine lv_tableIn (off := 58) (tgt := 69) hx hb dX11_one_11 (by rw [c9]; decide) (by rw [c9]; decide) (by rw [c9]; rfl) (by decide) ?_
            refine lv_aload_n hx hb dX11_one_69 rfl (lv_at hl 0 rfl) ?_
            refine lv_iload_n hx hb dX11_one_70 rfl (lv_at hl 1 rfl) ?_
            obtain ⟨o10, ho10, hf⟩ := of_bind hf
            refine c_I (wr := [ia C q_t_told 52 r_t_told]) (W2 := [ob q_t 11 [.long v_t_trace, .ref q_t_text, .int v_t_typed, .ref q_t_told, .ref q_t_draft, .ref q_t_s, .ref q_t_images, .ref q_t_kept, .ref q_t_heard, .ref q_t_hours, .int v_t_noted, .int v_t_at, .int v_t_sort, .int v_t_start, .int v_t_value, .ref q_t_row, .ref q_t_best, .int v_t_bestMany, .int v_t_bestWorth, .int v_t_bestHour, .ref q_t_places, .ref q_t_pairs], ia C q_t_told 52 r_t_told, ia C q_t_s 254 r_t_s]) (cV_run ⟨hx, hb, hml, hown, hts⟩ (k_X11_care l D C q_t q_t_text q_t_told q_t_draft q_t_s q_t_images q_t_kept q_t_heard q_t_hours q_t_row q_t_best q_t_places q_t_pairs v_t_trace v_t_typed v_t_noted v_t_at v_t_sort v_t_start v_t_value v_t_bestMany v_t_bestWorth v_t_bestHour r_t_s p1 H.size o10 ho10) gX11_one_X11_care rfl ⟨rfl, rfl⟩ hd_X11_care ⟨(Nat.le_of_ble_eq_true rfl), (Nat.le_of_ble_eq_true rfl)⟩ rfl hK (cut_in hK hP hD [0, 2] rfl (by decide)) (ci := 11) rfl rfl rfl hl.1 rfl (Nat.le_of_ble_eq_true rfl) dX11_one_71 ⟨Nat.zero_le _, Nat.zero_le _⟩) hP hD hS hA [0, 2] [1] [1, 0, 2] rfl rfl (by decide) (by decide) rfl (by decide) (fun H locs hP hD hS => ?_)
            have hP : va_P D vwCl [ob q_t 11 [.long v_t_trace, .ref q_t_text, .int v_t_typed, .ref q_t_told, .ref q_t_draft, .ref q_t_s, .ref q_t_images, .ref q_t_kept, .ref q_t_heard, .ref q_t_hours, .int v_t_noted, .int v_t_at, .int v_t_sort, .int v_t_start, .int v_t_value, .ref q_t_row, .ref q_t_best, .int v_t_bestMany, .int v_t_bestWorth, .int v_t_bestHour, .ref q_t_places, .ref q_t_pairs], ia C q_t_told 52 r_t_told, ia C q_t_s 254 r_t_s] H := hP
            have hD : va_D A [ob q_t 11 [.long v_t_trace, .ref q_t_text, .int v_t_typed, .ref q_t_told, .ref q_t_draft, .ref q_t_s, .ref q_t_images, .ref q_t_kept, .ref q_t_heard, .ref q_t_hours, .int v_t_noted, .int v_t_at, .int v_t_sort, .int v_t_start, .int v_t_value, .ref q_t_row, .ref q_t_best, .int v_t_bestMany, .int v_t_bestWorth, .int v_t_bestHour, .ref q_t_places, .ref q_t_pairs], ia C q_t_told 52 r_t_told, ia C q_t_s 254 r_t_s] := hD
            obtain rfl := Option.some.inj hf
            exact ret_I hx hb hr hlocks hK hP hD hS dX11_one_74
          · have hf := of_neg hf c9
            refine lv_tableOut (tgt := 75) hx hb dX11_one_11 (tOut (fun k h1 h2 => by
                intro hk
                have := lv_neT (a := 0) c3 (by decide)
                have := lv_neT (a := 1) c5 (by decide)
                have := lv_neT (a := 2) c7 (by decide)
                have := lv_neT (a := 3) c9 (by decide)
                omega)) (by decide) ?_
            refine lv_iconst (v := (-1 : Int32)) hx hb dX11_one_75 (by decide) ?_
            obtain rfl := Option.some.inj hf
            exact ret_I hx hb hr hlocks hK hP hD hS dX11_one_76
  · have hf := of_pos hf c2
    refine lv_iconst (v := (-1 : Int32)) hx hb dX11_one_8 (by decide) ?_
    obtain rfl := Option.some.inj hf
    exact ret_I hx hb hr hlocks hK hP hD hS dX11_one_9

def fX11_isDone (r_t_s : Nat → Int32) (p1 : Int32) : Option (Int32) :=
  (fX11_has (r_t_s 22) p1).bind (fun o1 => chk (okZ o1) (some o1))
theorem hd_X11_isDone : yX11_isDone.cls = RX11 ∧ yX11_isDone.cls ≠ "java/lang/invoke/MethodHandle" ∧ yX11_isDone.cls ≠ "java/lang/invoke/VarHandle" ∧ (parseMethodDescriptor yX11_isDone.desc).map (fun d => d.parameters.length) = some 1 := by decide +kernel
set_option maxHeartbeats 4000000 in
set_option maxRecDepth 100000 in
theorem k_X11_isDone (l : Launch) (D : va_G) (C : Nat → ClassId) (q_t : Nat) (q_t_text : Nat) (q_t_told : Nat) (q_t_draft : Nat) (q_t_s : Nat) (q_t_images : Nat) (q_t_kept : Nat) (q_t_heard : Nat) (q_t_hours : Nat) (q_t_row : Nat) (q_t_best : Nat) (q_t_places : Nat) (q_t_pairs : Nat) (v_t_trace : Int64) (v_t_typed : Int32) (v_t_noted : Int32) (v_t_at : Int32) (v_t_sort : Int32) (v_t_start : Int32) (v_t_value : Int32) (v_t_bestMany : Int32) (v_t_bestWorth : Int32) (v_t_bestHour : Int32) (r_t_s : Nat → Int32) (p1 : Int32) (sz : Nat) (out : Int32) (hf : fX11_isDone r_t_s p1 = some out) : MI l yX11_isDone wsX11_isDone ({ frames := 1, cells := 0, slots := 0, locals := 21 }) D C [.ref q_t, .int p1] [ob q_t 11 [.long v_t_trace, .ref q_t_text, .int v_t_typed, .ref q_t_told, .ref q_t_draft, .ref q_t_s, .ref q_t_images, .ref q_t_kept, .ref q_t_heard, .ref q_t_hours, .int v_t_noted, .int v_t_at, .int v_t_sort, .int v_t_start, .int v_t_value, .ref q_t_row, .ref q_t_best, .int v_t_bestMany, .int v_t_bestWorth, .int v_t_bestHour, .ref q_t_places, .ref q_t_pairs], ia C q_t_s 254 r_t_s] [ob q_t 11 [.long v_t_trace, .ref q_t_text, .int v_t_typed, .ref q_t_told, .ref q_t_draft, .ref q_t_s, .ref q_t_images, .ref q_t_kept, .ref q_t_heard, .ref q_t_hours, .int v_t_noted, .int v_t_at, .int v_t_sort, .int v_t_start, .int v_t_value, .ref q_t_row, .ref q_t_best, .int v_t_bestMany, .int v_t_bestWorth, .int v_t_bestHour, .ref q_t_places, .ref q_t_pairs], ia C q_t_s 254 r_t_s] sz (out) := by
  unfold fX11_isDone at hf
  refine en_I (by decide) rfl (Nat.le_of_ble_eq_true rfl) ?_
  intro p e s m below meth c A ls H locs hx hb hr hlocks hml hts hown hK hP hD hS hA hl
  have hl : lv_has ls 2 [(0, .ref q_t), (1, .int p1)] := hl
  have inX11 : ∀ w ∈ u_ws RX11 TX11 22, w ∈ wsX11_isDone := fun w h => List.mem_cons_of_mem _ (List.mem_append_right _ h)
  refine lv_aload_n hx hb dX11_isDone_0 rfl (lv_at hl 0 rfl) ?_
  refine va_get (D := D) (ci := 11) (v := .ref q_t_s) (C := RX11) (T := TX11) (N := 22) hx hb hts inX11 hown hK hP 0 rfl rfl 5 (by decide) (hts (.fieldLink RX11 19 "LentCourageModel" "s" "[I") (List.mem_of_getElem? (i := 1) rfl)) (fun _ h9 => h9) rfl dX11_isDone_1 ?_
  refine lv_bipush (v := (22 : Int32)) hx hb dX11_isDone_4 (by decide) ?_
  refine ld_ialdK hx hb hK hP 1 0 rfl rfl (k := 22) (by decide) (by decide) (by decide) dX11_isDone_6 ?_
  refine lv_iload_n hx hb dX11_isDone_7 rfl (lv_at hl 1 rfl) ?_
  obtain ⟨o1, ho1, hf⟩ := of_bind hf
  refine c_I (wr := [ob q_t 11 [.long v_t_trace, .ref q_t_text, .int v_t_typed, .ref q_t_told, .ref q_t_draft, .ref q_t_s, .ref q_t_images, .ref q_t_kept, .ref q_t_heard, .ref q_t_hours, .int v_t_noted, .int v_t_at, .int v_t_sort, .int v_t_start, .int v_t_value, .ref q_t_row, .ref q_t_best, .int v_t_bestMany, .int v_t_bestWorth, .int v_t_bestHour, .ref q_t_places, .ref q_t_pairs], ia C q_t_s 254 r_t_s]) (W2 := [ob q_t 11 [.long v_t_trace, .ref q_t_text, .int v_t_typed, .ref q_t_told, .ref q_t_draft, .ref q_t_s, .ref q_t_images, .ref q_t_kept, .ref q_t_heard, .ref q_t_hours, .int v_t_noted, .int v_t_at, .int v_t_sort, .int v_t_start, .int v_t_value, .ref q_t_row, .ref q_t_best, .int v_t_bestMany, .int v_t_bestWorth, .int v_t_bestHour, .ref q_t_places, .ref q_t_pairs], ia C q_t_s 254 r_t_s]) (cS_run ⟨hx, hb, hml, hown, hts⟩ (k_X11_has l D C (r_t_s 22) p1 H.size o1 ho1) gX11_isDone_X11_has rfl ⟨rfl, rfl⟩ hd_X11_has ⟨(Nat.le_of_ble_eq_true rfl), (Nat.le_of_ble_eq_true rfl)⟩ rfl hK (cut_in hK hP hD [] rfl (by decide)) hl.1 rfl (Nat.le_of_ble_eq_true rfl) dX11_isDone_8 ⟨Nat.zero_le _, Nat.zero_le _⟩) hP hD hS hA [] [0, 1] [0, 1] rfl rfl (by decide) (by decide) rfl (by decide) (fun H locs hP hD hS => ?_)
  have hP : va_P D vwCl [ob q_t 11 [.long v_t_trace, .ref q_t_text, .int v_t_typed, .ref q_t_told, .ref q_t_draft, .ref q_t_s, .ref q_t_images, .ref q_t_kept, .ref q_t_heard, .ref q_t_hours, .int v_t_noted, .int v_t_at, .int v_t_sort, .int v_t_start, .int v_t_value, .ref q_t_row, .ref q_t_best, .int v_t_bestMany, .int v_t_bestWorth, .int v_t_bestHour, .ref q_t_places, .ref q_t_pairs], ia C q_t_s 254 r_t_s] H := hP
  have hD : va_D A [ob q_t 11 [.long v_t_trace, .ref q_t_text, .int v_t_typed, .ref q_t_told, .ref q_t_draft, .ref q_t_s, .ref q_t_images, .ref q_t_kept, .ref q_t_heard, .ref q_t_hours, .int v_t_noted, .int v_t_at, .int v_t_sort, .int v_t_start, .int v_t_value, .ref q_t_row, .ref q_t_best, .int v_t_bestMany, .int v_t_bestWorth, .int v_t_bestHour, .ref q_t_places, .ref q_t_pairs], ia C q_t_s 254 r_t_s] := hD
  obtain ⟨h2, hf⟩ := of_chk hf
  obtain rfl := Option.some.inj hf
  exact ret_Z hx hb hr hlocks h2 hK hP hD hS dX11_isDone_11

def fX11_deed (r_t_told : Nat → Int32) (r_t_s : Nat → Int32) (p1 : Int32) (p2 : Int32) : Option (Int32) :=
  (fX11_isDeed r_t_told p1).bind (fun o1 => (if o1 = 0 then some (-1 : Int32) else (if p2 = (0 : Int32) then chk (vin ((12 : Int32) + p1) 52) (some (r_t_told ((12 : Int32) + p1).toNatClampNeg)) else (if p2 = (1 : Int32) then chk (vin ((20 : Int32) + p1) 52) (some (r_t_told ((20 : Int32) + p1).toNatClampNeg)) else (if p2 = (2 : Int32) then chk (vin ((28 : Int32) + p1) 52) (some (r_t_told ((28 : Int32) + p1).toNatClampNeg)) else (if p2 = (3 : Int32) then chk (vin ((36 : Int32) + p1) 52) (some (r_t_told ((36 : Int32) + p1).toNatClampNeg)) else (if p2 = (4 : Int32) then chk (vin ((44 : Int32) + p1) 52) (some (r_t_told ((44 : Int32) + p1).toNatClampNeg)) else (if p2 = (5 : Int32) then (fX11_isDone r_t_s p1).bind (fun o14 => some (if o14 = 0 then (0 : Int32) else (1 : Int32))) else some (-1 : Int32)))))))))
theorem hd_X11_deed : yX11_deed.cls = RX11 ∧ yX11_deed.cls ≠ "java/lang/invoke/MethodHandle" ∧ yX11_deed.cls ≠ "java/lang/invoke/VarHandle" ∧ (parseMethodDescriptor yX11_deed.desc).map (fun d => d.parameters.length) = some 2 := by decide +kernel
set_option maxHeartbeats 4000000 in
set_option maxRecDepth 100000 in
theorem k_X11_deed (l : Launch) (D : va_G) (C : Nat → ClassId) (q_t : Nat) (q_t_text : Nat) (q_t_told : Nat) (q_t_draft : Nat) (q_t_s : Nat) (q_t_images : Nat) (q_t_kept : Nat) (q_t_heard : Nat) (q_t_hours : Nat) (q_t_row : Nat) (q_t_best : Nat) (q_t_places : Nat) (q_t_pairs : Nat) (v_t_trace : Int64) (v_t_typed : Int32) (v_t_noted : Int32) (v_t_at : Int32) (v_t_sort : Int32) (v_t_start : Int32) (v_t_value : Int32) (v_t_bestMany : Int32) (v_t_bestWorth : Int32) (v_t_bestHour : Int32) (r_t_told : Nat → Int32) (r_t_s : Nat → Int32) (p1 : Int32) (p2 : Int32) (sz : Nat) (out : Int32) (hf : fX11_deed r_t_told r_t_s p1 p2 = some out) : MI l yX11_deed wsX11_deed ({ frames := 2, cells := 0, slots := 0, locals := 43 }) D C [.ref q_t, .int p1, .int p2] [ob q_t 11 [.long v_t_trace, .ref q_t_text, .int v_t_typed, .ref q_t_told, .ref q_t_draft, .ref q_t_s, .ref q_t_images, .ref q_t_kept, .ref q_t_heard, .ref q_t_hours, .int v_t_noted, .int v_t_at, .int v_t_sort, .int v_t_start, .int v_t_value, .ref q_t_row, .ref q_t_best, .int v_t_bestMany, .int v_t_bestWorth, .int v_t_bestHour, .ref q_t_places, .ref q_t_pairs], ia C q_t_told 52 r_t_told, ia C q_t_s 254 r_t_s] [ob q_t 11 [.long v_t_trace, .ref q_t_text, .int v_t_typed, .ref q_t_told, .ref q_t_draft, .ref q_t_s, .ref q_t_images, .ref q_t_kept, .ref q_t_heard, .ref q_t_hours, .int v_t_noted, .int v_t_at, .int v_t_sort, .int v_t_start, .int v_t_value, .ref q_t_row, .ref q_t_best, .int v_t_bestMany, .int v_t_bestWorth, .int v_t_bestHour, .ref q_t_places, .ref q_t_pairs], ia C q_t_told 52 r_t_told, ia C q_t_s 254 r_t_s] sz (out) := by
  unfold fX11_deed at hf
  refine en_I (by decide) rfl (Nat.le_of_ble_eq_true rfl) ?_
  intro p e s m below meth c A ls H locs hx hb hr hlocks hml hts hown hK hP hD hS hA hl
  have hl : lv_has ls 3 [(0, .ref q_t), (1, .int p1), (2, .int p2)] := hl
  have inX11 : ∀ w ∈ u_ws RX11 TX11 22, w ∈ wsX11_deed := fun w h => List.mem_cons_of_mem _ (List.mem_append_right _ h)
  refine lv_aload_n hx hb dX11_deed_0 rfl (lv_at hl 0 rfl) ?_
  refine lv_iload_n hx hb dX11_deed_1 rfl (lv_at hl 1 rfl) ?_
  obtain ⟨o1, ho1, hf⟩ := of_bind hf
  refine c_I (wr := [ia C q_t_s 254 r_t_s]) (W2 := [ob q_t 11 [.long v_t_trace, .ref q_t_text, .int v_t_typed, .ref q_t_told, .ref q_t_draft, .ref q_t_s, .ref q_t_images, .ref q_t_kept, .ref q_t_heard, .ref q_t_hours, .int v_t_noted, .int v_t_at, .int v_t_sort, .int v_t_start, .int v_t_value, .ref q_t_row, .ref q_t_best, .int v_t_bestMany, .int v_t_bestWorth, .int v_t_bestHour, .ref q_t_places, .ref q_t_pairs], ia C q_t_told 52 r_t_told, ia C q_t_s 254 r_t_s]) (cV_run ⟨hx, hb, hml, hown, hts⟩ (k_X11_isDeed l D C q_t q_t_text q_t_told q_t_draft q_t_s q_t_images q_t_kept q_t_heard q_t_hours q_t_row q_t_best q_t_places q_t_pairs v_t_trace v_t_typed v_t_noted v_t_at v_t_sort v_t_start v_t_value v_t_bestMany v_t_bestWorth v_t_bestHour r_t_told p1 H.size o1 ho1) gX11_deed_X11_isDeed rfl ⟨rfl, rfl⟩ hd_X11_isDeed ⟨(Nat.le_of_ble_eq_true rfl), (Nat.le_of_ble_eq_true rfl)⟩ rfl hK (cut_in hK hP hD [0, 1] rfl (by decide)) (ci := 11) rfl rfl rfl hl.1 rfl (Nat.le_of_ble_eq_true rfl) dX11_deed_2 ⟨Nat.zero_le _, Nat.zero_le _⟩) hP hD hS hA [0, 1] [2] [1, 2, 0] rfl rfl (by decide) (by decide) rfl (by decide) (fun H locs hP hD hS => ?_)
  have hP : va_P D vwCl [ob q_t 11 [.long v_t_trace, .ref q_t_text, .int v_t_typed, .ref q_t_told, .ref q_t_draft, .ref q_t_s, .ref q_t_images, .ref q_t_kept, .ref q_t_heard, .ref q_t_hours, .int v_t_noted, .int v_t_at, .int v_t_sort, .int v_t_start, .int v_t_value, .ref q_t_row, .ref q_t_best, .int v_t_bestMany, .int v_t_bestWorth, .int v_t_bestHour, .ref q_t_places, .ref q_t_pairs], ia C q_t_told 52 r_t_told, ia C q_t_s 254 r_t_s] H := hP
  have hD : va_D A [ob q_t 11 [.long v_t_trace, .ref q_t_text, .int v_t_typed, .ref q_t_told, .ref q_t_draft, .ref q_t_s, .ref q_t_images, .ref q_t_kept, .ref q_t_heard, .ref q_t_hours, .int v_t_noted, .int v_t_at, .int v_t_sort, .int v_t_start, .int v_t_value, .ref q_t_row, .ref q_t_best, .int v_t_bestMany, .int v_t_bestWorth, .int v_t_bestHour, .ref q_t_places, .ref q_t_pairs], ia C q_t_told 52 r_t_told, ia C q_t_s 254 r_t_s] := hD
  refine lv_if_ne (tgt := 10) hx hb dX11_deed_5 (by decide) (fun c2 => ?_) (fun c2 => ?_)
  · have hf := of_neg hf c2
    refine lv_iload_n hx hb dX11_deed_10 rfl (lv_at hl 2 rfl) ?_
    by_cases c3 : p2 = (0 : Int32)
    · have hf := of_pos hf c3
      refine lv_tableIn (off := 37) (tgt := 48) hx hb dX11_deed_11 (by rw [c3]; decide) (by rw [c3]; decide) (by rw [c3]; rfl) (by decide) ?_
      refine lv_aload_n hx hb dX11_deed_48 rfl (lv_at hl 0 rfl) ?_
      refine va_get (D := D) (ci := 11) (v := .ref q_t_told) (C := RX11) (T := TX11) (N := 22) hx hb hts inX11 hown hK hP 0 rfl rfl 3 (by decide) (hts (.fieldLink RX11 13 "LentCourageModel" "told" "[I") (List.mem_of_getElem? (i := 1) rfl)) (fun _ h9 => h9) rfl dX11_deed_49 ?_
      refine lv_bipush (v := (12 : Int32)) hx hb dX11_deed_52 (by decide) ?_
      refine lv_iload_n hx hb dX11_deed_54 rfl (lv_at hl 1 rfl) ?_
      refine lv_iadd hx hb dX11_deed_55 ?_
      obtain ⟨h4, hf⟩ := of_chk hf
      refine va_iald hx hb hK hP 1 0 rfl rfl h4 dX11_deed_56 ?_
      obtain rfl := Option.some.inj hf
      exact ret_I hx hb hr hlocks hK hP hD hS dX11_deed_57
    · have hf := of_neg hf c3
      by_cases c5 : p2 = (1 : Int32)
      · have hf := of_pos hf c5
        refine lv_tableIn (off := 47) (tgt := 58) hx hb dX11_deed_11 (by rw [c5]; decide) (by rw [c5]; decide) (by rw [c5]; rfl) (by decide) ?_
        refine lv_aload_n hx hb dX11_deed_58 rfl (lv_at hl 0 rfl) ?_
        refine va_get (D := D) (ci := 11) (v := .ref q_t_told) (C := RX11) (T := TX11) (N := 22) hx hb hts inX11 hown hK hP 0 rfl rfl 3 (by decide) (hts (.fieldLink RX11 13 "LentCourageModel" "told" "[I") (List.mem_of_getElem? (i := 1) rfl)) (fun _ h9 => h9) rfl dX11_deed_59 ?_
        refine lv_bipush (v := (20 : Int32)) hx hb dX11_deed_62 (by decide) ?_
        refine lv_iload_n hx hb dX11_deed_64 rfl (lv_at hl 1 rfl) ?_
        refine lv_iadd hx hb dX11_deed_65 ?_
        obtain ⟨h6, hf⟩ := of_chk hf
        refine va_iald hx hb hK hP 1 0 rfl rfl h6 dX11_deed_66 ?_
        obtain rfl := Option.some.inj hf
        exact ret_I hx hb hr hlocks hK hP hD hS dX11_deed_67
      · have hf := of_neg hf c5
        by_cases c7 : p2 = (2 : Int32)
        · have hf := of_pos hf c7
          refine lv_tableIn (off := 57) (tgt := 68) hx hb dX11_deed_11 (by rw [c7]; decide) (by rw [c7]; decide) (by rw [c7]; rfl) (by decide) ?_
          refine lv_aload_n hx hb dX11_deed_68 rfl (lv_at hl 0 rfl) ?_
          refine va_get (D := D) (ci := 11) (v := .ref q_t_told) (C := RX11) (T := TX11) (N := 22) hx hb hts inX11 hown hK hP 0 rfl rfl 3 (by decide) (hts (.fieldLink RX11 13 "LentCourageModel" "told" "[I") (List.mem_of_getElem? (i := 1) rfl)) (fun _ h9 => h9) rfl dX11_deed_69 ?_
          refine lv_bipush (v := (28 : Int32)) hx hb dX11_deed_72 (by decide) ?_
          refine lv_iload_n hx hb dX11_deed_74 rfl (lv_at hl 1 rfl) ?_
          refine lv_iadd hx hb dX11_deed_75 ?_
          obtain ⟨h8, hf⟩ := of_chk hf
          refine va_iald hx hb hK hP 1 0 rfl rfl h8 dX11_deed_76 ?_
          obtain rfl := Option.some.inj hf
          exact ret_I hx hb hr hlocks hK hP hD hS dX11_deed_77
        · have hf := of_neg hf c7
          by_cases c9 : p2 = (3 : Int32)
          · have hf := of_pos hf c9
            refine lv_tableIn (off := 67) (tgt := 78) hx hb dX11_deed_11 (by rw [c9]; decide) (by rw [c9]; decide) (by rw [c9]; rfl) (by decide) ?_
            refine lv_aload_n hx hb dX11_deed_78 rfl (lv_at hl 0 rfl) ?_
            refine va_get (D := D) (ci := 11) (v := .ref q_t_told) (C := RX11) (T := TX11) (N := 22) hx hb hts inX11 hown hK hP 0 rfl rfl 3 (by decide) (hts (.fieldLink RX11 13 "LentCourageModel" "told" "[I") (List.mem_of_getElem? (i := 1) rfl)) (fun _ h9 => h9) rfl dX11_deed_79 ?_
            refine lv_bipush (v := (36 : Int32)) hx hb dX11_deed_82 (by decide) ?_
            refine lv_iload_n hx hb dX11_deed_84 rfl (lv_at hl 1 rfl) ?_
            refine lv_iadd hx hb dX11_deed_85 ?_
            obtain ⟨h10, hf⟩ := of_chk hf
            refine va_iald hx hb hK hP 1 0 rfl rfl h10 dX11_deed_86 ?_
            obtain rfl := Option.some.inj hf
            exact ret_I hx hb hr hlocks hK hP hD hS dX11_deed_87
          · have hf := of_neg hf c9
            by_cases c11 : p2 = (4 : Int32)
            · have hf := of_pos hf c11
              refine lv_tableIn (off := 77) (tgt := 88) hx hb dX11_deed_11 (by rw [c11]; decide) (by rw [c11]; decide) (by rw [c11]; rfl) (by decide) ?_
              refine lv_aload_n hx hb dX11_deed_88 rfl (lv_at hl 0 rfl) ?_
              refine va_get (D := D) (ci := 11) (v := .ref q_t_told) (C := RX11) (T := TX11) (N := 22) hx hb hts inX11 hown hK hP 0 rfl rfl 3 (by decide) (hts (.fieldLink RX11 13 "LentCourageModel" "told" "[I") (List.mem_of_getElem? (i := 1) rfl)) (fun _ h9 => h9) rfl dX11_deed_89 ?_
              refine lv_bipush (v := (44 : Int32)) hx hb dX11_deed_92 (by decide) ?_
              refine lv_iload_n hx hb dX11_deed_94 rfl (lv_at hl 1 rfl) ?_
              refine lv_iadd hx hb dX11_deed_95 ?_
              obtain ⟨h12, hf⟩ := of_chk hf
              refine va_iald hx hb hK hP 1 0 rfl rfl h12 dX11_deed_96 ?_
              obtain rfl := Option.some.inj hf
              exact ret_I hx hb hr hlocks hK hP hD hS dX11_deed_97
            · have hf := of_neg hf c11
              by_cases c13 : p2 = (5 : Int32)
              · have hf := of_pos hf c13
                refine lv_tableIn (off := 87) (tgt := 98) hx hb dX11_deed_11 (by rw [c13]; decide) (by rw [c13]; decide) (by rw [c13]; rfl) (by decide) ?_
                refine lv_aload_n hx hb dX11_deed_98 rfl (lv_at hl 0 rfl) ?_
                refine lv_iload_n hx hb dX11_deed_99 rfl (lv_at hl 1 rfl) ?_
                obtain ⟨o14, ho14, hf⟩ := of_bind hf
                refine c_I (wr := [ia C q_t_told 52 r_t_told]) (W2 := [ob q_t 11 [.long v_t_trace, .ref q_t_text, .int v_t_typed, .ref q_t_told, .ref q_t_draft, .ref q_t_s, .ref q_t_images, .ref q_t_kept, .ref q_t_heard, .ref q_t_hours, .int v_t_noted, .int v_t_at, .int v_t_sort, .int v_t_start, .int v_t_value, .ref q_t_row, .ref q_t_best, .int v_t_bestMany, .int v_t_bestWorth, .int v_t_bestHour, .ref q_t_places, .ref q_t_pairs], ia C q_t_told 52 r_t_told, ia C q_t_s 254 r_t_s]) (cV_run ⟨hx, hb, hml, hown, hts⟩ (k_X11_isDone l D C q_t q_t_text q_t_told q_t_draft q_t_s q_t_images q_t_kept q_t_heard q_t_hours q_t_row q_t_best q_t_places q_t_pairs v_t_trace v_t_typed v_t_noted v_t_at v_t_sort v_t_start v_t_value v_t_bestMany v_t_bestWorth v_t_bestHour r_t_s p1 H.size o14 ho14) gX11_deed_X11_isDone rfl ⟨rfl, rfl⟩ hd_X11_isDone ⟨(Nat.le_of_ble_eq_true rfl), (Nat.le_of_ble_eq_true rfl)⟩ rfl hK (cut_in hK hP hD [0, 2] rfl (by decide)) (ci := 11) rfl rfl rfl hl.1 rfl (Nat.le_of_ble_eq_true rfl) dX11_deed_100 ⟨Nat.zero_le _, Nat.zero_le _⟩) hP hD hS hA [0, 2] [1] [1, 0, 2] rfl rfl (by decide) (by decide) rfl (by decide) (fun H locs hP hD hS => ?_)
                have hP : va_P D vwCl [ob q_t 11 [.long v_t_trace, .ref q_t_text, .int v_t_typed, .ref q_t_told, .ref q_t_draft, .ref q_t_s, .ref q_t_images, .ref q_t_kept, .ref q_t_heard, .ref q_t_hours, .int v_t_noted, .int v_t_at, .int v_t_sort, .int v_t_start, .int v_t_value, .ref q_t_row, .ref q_t_best, .int v_t_bestMany, .int v_t_bestWorth, .int v_t_bestHour, .ref q_t_places, .ref q_t_pairs], ia C q_t_told 52 r_t_told, ia C q_t_s 254 r_t_s] H := hP
                have hD : va_D A [ob q_t 11 [.long v_t_trace, .ref q_t_text, .int v_t_typed, .ref q_t_told, .ref q_t_draft, .ref q_t_s, .ref q_t_images, .ref q_t_kept, .ref q_t_heard, .ref q_t_hours, .int v_t_noted, .int v_t_at, .int v_t_sort, .int v_t_start, .int v_t_value, .ref q_t_row, .ref q_t_best, .int v_t_bestMany, .int v_t_bestWorth, .int v_t_bestHour, .ref q_t_places, .ref q_t_pairs], ia C q_t_told 52 r_t_told, ia C q_t_s 254 r_t_s] := hD
                refine jp (g2 := F0 m 111 ls [.int (if o14 = 0 then (0 : Int32) else (1 : Int32))]) ?_ (fun JP => ?_)
                · obtain rfl := Option.some.inj hf
                  exact ret_I hx hb hr hlocks hK hP hD hS dX11_deed_111
                · refine lv_if_eq (tgt := 110) hx hb dX11_deed_103 (by decide) (fun c15 => ?_) (fun c15 => ?_)
                  · refine lv_iconst (v := (0 : Int32)) hx hb dX11_deed_110 (by decide) ?_
                    exact W.eq (congrArg (fun x => F0 m 111 ls (Value.int x :: [])) (if_pos c15).symm) JP
                  · refine lv_iconst (v := (1 : Int32)) hx hb dX11_deed_106 (by decide) ?_
                    refine lv_goto (tgt := 111) hx hb dX11_deed_107 (by decide) ?_
                    exact W.eq (congrArg (fun x => F0 m 111 ls (Value.int x :: [])) (if_neg c15).symm) JP
              · have hf := of_neg hf c13
                refine lv_tableOut (tgt := 112) hx hb dX11_deed_11 (tOut (fun k h1 h2 => by
                    intro hk
                    have := lv_neT (a := 0) c3 (by decide)
                    have := lv_neT (a := 1) c5 (by decide)
                    have := lv_neT (a := 2) c7 (by decide)
                    have := lv_neT (a := 3) c9 (by decide)
                    have := lv_neT (a := 4) c11 (by decide)
                    have := lv_neT (a := 5) c13 (by decide)
                    omega)) (by decide) ?_
                refine lv_iconst (v := (-1 : Int32)) hx hb dX11_deed_112 (by decide) ?_
                obtain rfl := Option.some.inj hf
                exact ret_I hx hb hr hlocks hK hP hD hS dX11_deed_113
  · have hf := of_pos hf c2
    refine lv_iconst (v := (-1 : Int32)) hx hb dX11_deed_8 (by decide) ?_
    obtain rfl := Option.some.inj hf
    exact ret_I hx hb hr hlocks hK hP hD hS dX11_deed_9

def fX11_remembers_70 (w1_70 : Int32) : Nat → Int32 → (Nat → Int32) → Option (Int32 × (Nat → Int32))
  | 0, _, _ => none
  | n + 1, w2_70, r_t_s_70 => (if (23 : Int32) ≤ w2_70 then some (w2_70, r_t_s_70) else chk (vin w2_70 254) (lt_ (r_t_s_70 w2_70.toNatClampNeg) (fun z5 => chk (vin (w1_70 + w2_70) 254) (lt_ (w2_70 + (1 : Int32)) (fun z7 => fX11_remembers_70 w1_70 n z7 (upd r_t_s_70 (w1_70 + w2_70).toNatClampNeg z5))))))
def fX11_remembers_15 : Nat → Int32 → (Nat → Int32) → Option (Int32 × (Nat → Int32))
  | 0, _, _ => none
  | n + 1, w1_15, r_t_s_15 => (if (231 : Int32) ≤ w1_15 then some (w1_15, r_t_s_15) else chk (vin (w1_15 + (23 : Int32)) 254) (lt_ (r_t_s_15 (w1_15 + (23 : Int32)).toNatClampNeg) (fun z12 => chk (vin w1_15 254) (lt_ (w1_15 + (1 : Int32)) (fun z14 => fX11_remembers_15  n z14 (upd r_t_s_15 w1_15.toNatClampNeg z12))))))
def fX11_remembers (r_t_s : Nat → Int32) : Option ((Nat → Int32)) :=
  (if (r_t_s 23) = (10 : Int32) then (fX11_remembers_15  FU (24 : Int32) r_t_s).bind (fun y15 => lt_ ((y15.2 23) - (1 : Int32)) (fun z16 => lt_ ((24 : Int32) + ((23 : Int32) * ((upd y15.2 23 z16) 23))) (fun z17 => (fX11_remembers_70 z17 FU (0 : Int32) (upd y15.2 23 z16)).bind (fun y18 => lt_ ((y18.2 23) + (1 : Int32)) (fun z19 => some (upd y18.2 23 z19)))))) else lt_ ((24 : Int32) + ((23 : Int32) * (r_t_s 23))) (fun z2 => (fX11_remembers_70 z2 FU (0 : Int32) r_t_s).bind (fun y8 => lt_ ((y8.2 23) + (1 : Int32)) (fun z9 => some (upd y8.2 23 z9)))))
theorem hd_X11_remembers : yX11_remembers.cls = RX11 ∧ yX11_remembers.cls ≠ "java/lang/invoke/MethodHandle" ∧ yX11_remembers.cls ≠ "java/lang/invoke/VarHandle" ∧ (parseMethodDescriptor yX11_remembers.desc).map (fun d => d.parameters.length) = some 0 := by decide +kernel
set_option maxHeartbeats 4000000 in
set_option maxRecDepth 100000 in
theorem k_X11_remembers (l : Launch) (D : va_G) (C : Nat → ClassId) (q_t : Nat) (q_t_text : Nat) (q_t_told : Nat) (q_t_draft : Nat) (q_t_s : Nat) (q_t_images : Nat) (q_t_kept : Nat) (q_t_heard : Nat) (q_t_hours : Nat) (q_t_row : Nat) (q_t_best : Nat) (q_t_places : Nat) (q_t_pairs : Nat) (v_t_trace : Int64) (v_t_typed : Int32) (v_t_noted : Int32) (v_t_at : Int32) (v_t_sort : Int32) (v_t_start : Int32) (v_t_value : Int32) (v_t_bestMany : Int32) (v_t_bestWorth : Int32) (v_t_bestHour : Int32) (r_t_s : Nat → Int32) (sz : Nat) (out : (Nat → Int32)) (hf : fX11_remembers r_t_s = some out) : MV l yX11_remembers wsX11_remembers ({ frames := 0, cells := 0, slots := 0, locals := 0 }) D C [.ref q_t] [ob q_t 11 [.long v_t_trace, .ref q_t_text, .int v_t_typed, .ref q_t_told, .ref q_t_draft, .ref q_t_s, .ref q_t_images, .ref q_t_kept, .ref q_t_heard, .ref q_t_hours, .int v_t_noted, .int v_t_at, .int v_t_sort, .int v_t_start, .int v_t_value, .ref q_t_row, .ref q_t_best, .int v_t_bestMany, .int v_t_bestWorth, .int v_t_bestHour, .ref q_t_places, .ref q_t_pairs], ia C q_t_s 254 r_t_s] [ob q_t 11 [.long v_t_trace, .ref q_t_text, .int v_t_typed, .ref q_t_told, .ref q_t_draft, .ref q_t_s, .ref q_t_images, .ref q_t_kept, .ref q_t_heard, .ref q_t_hours, .int v_t_noted, .int v_t_at, .int v_t_sort, .int v_t_start, .int v_t_value, .ref q_t_row, .ref q_t_best, .int v_t_bestMany, .int v_t_bestWorth, .int v_t_bestHour, .ref q_t_places, .ref q_t_pairs], ia C q_t_s 254 out] sz := by
  unfold fX11_remembers at hf
  refine en_V (by decide) rfl (Nat.le_of_ble_eq_true rfl) ?_
  intro p e s m below meth c A ls H locs hx hb hr hlocks hml hts hown hK hP hD hS hA hl
  have hl : lv_has ls 3 [(0, .ref q_t)] := hl
  have inX11 : ∀ w ∈ u_ws RX11 TX11 22, w ∈ wsX11_remembers := fun w h => List.mem_cons_of_mem _ (List.mem_append_right _ h)
  have LP70 : ∀ (Q : State → Prop) (n : Nat) (w2_70 : Int32) (w1_70 : Int32) (v_t_trace_70 : Int64) (v_t_typed_70 : Int32) (v_t_noted_70 : Int32) (v_t_at_70 : Int32) (v_t_sort_70 : Int32) (v_t_start_70 : Int32) (v_t_value_70 : Int32) (v_t_bestMany_70 : Int32) (v_t_bestWorth_70 : Int32) (v_t_bestHour_70 : Int32) (r_t_s_70 : Nat → Int32) (y_70 : Int32 × (Nat → Int32)), fX11_remembers_70 w1_70 n w2_70 r_t_s_70 = some y_70 → ∀ (H : Heap) (locs : List Loc) (ls : Array Slot), va_P D vwCl [ob q_t 11 [.long v_t_trace_70, .ref q_t_text, .int v_t_typed_70, .ref q_t_told, .ref q_t_draft, .ref q_t_s, .ref q_t_images, .ref q_t_kept, .ref q_t_heard, .ref q_t_hours, .int v_t_noted_70, .int v_t_at_70, .int v_t_sort_70, .int v_t_start_70, .int v_t_value_70, .ref q_t_row, .ref q_t_best, .int v_t_bestMany_70, .int v_t_bestWorth_70, .int v_t_bestHour_70, .ref q_t_places, .ref q_t_pairs], ia C q_t_s 254 r_t_s_70] H → va_D A [ob q_t 11 [.long v_t_trace_70, .ref q_t_text, .int v_t_typed_70, .ref q_t_told, .ref q_t_draft, .ref q_t_s, .ref q_t_images, .ref q_t_kept, .ref q_t_heard, .ref q_t_hours, .int v_t_noted_70, .int v_t_at_70, .int v_t_sort_70, .int v_t_start_70, .int v_t_value_70, .ref q_t_row, .ref q_t_best, .int v_t_bestMany_70, .int v_t_bestWorth_70, .int v_t_bestHour_70, .ref q_t_places, .ref q_t_pairs], ia C q_t_s 254 r_t_s_70] → va_S A s.heap H locs → lv_has ls 3 [(2, .int w2_70), (1, .int w1_70), (0, .ref q_t)] → (∀ (H : Heap) (locs : List Loc) (ls : Array Slot), va_P D vwCl [ob q_t 11 [.long v_t_trace_70, .ref q_t_text, .int v_t_typed_70, .ref q_t_told, .ref q_t_draft, .ref q_t_s, .ref q_t_images, .ref q_t_kept, .ref q_t_heard, .ref q_t_hours, .int v_t_noted_70, .int v_t_at_70, .int v_t_sort_70, .int v_t_start_70, .int v_t_value_70, .ref q_t_row, .ref q_t_best, .int v_t_bestMany_70, .int v_t_bestWorth_70, .int v_t_bestHour_70, .ref q_t_places, .ref q_t_pairs], ia C q_t_s 254 y_70.2] H → va_D A [ob q_t 11 [.long v_t_trace_70, .ref q_t_text, .int v_t_typed_70, .ref q_t_told, .ref q_t_draft, .ref q_t_s, .ref q_t_images, .ref q_t_kept, .ref q_t_heard, .ref q_t_hours, .int v_t_noted_70, .int v_t_at_70, .int v_t_sort_70, .int v_t_start_70, .int v_t_value_70, .ref q_t_row, .ref q_t_best, .int v_t_bestMany_70, .int v_t_bestWorth_70, .int v_t_bestHour_70, .ref q_t_places, .ref q_t_pairs], ia C q_t_s 254 y_70.2] → va_S A s.heap H locs → lv_has ls 3 [(2, .int y_70.1), (1, .int w1_70), (0, .ref q_t)] → W p l e ({ frames := 0, cells := 0, slots := 0, locals := 0 } : Room) s m ([.ref q_t] : List Value).toArray below meth c H locs 0 0 Q (F0 m 96 ls [])) → W p l e ({ frames := 0, cells := 0, slots := 0, locals := 0 } : Room) s m ([.ref q_t] : List Value).toArray below meth c H locs 0 0 Q (F0 m 70 ls []) := by
    intro Q n
    induction n with
    | zero =>
      intro w2_70 w1_70 v_t_trace_70 v_t_typed_70 v_t_noted_70 v_t_at_70 v_t_sort_70 v_t_start_70 v_t_value_70 v_t_bestMany_70 v_t_bestWorth_70 v_t_bestHour_70 r_t_s_70 y_70 hf
      rw [fX11_remembers_70] at hf
      cases hf
    | succ n ih =>
      intro w2_70 w1_70 v_t_trace_70 v_t_typed_70 v_t_noted_70 v_t_at_70 v_t_sort_70 v_t_start_70 v_t_value_70 v_t_bestMany_70 v_t_bestWorth_70 v_t_bestHour_70 r_t_s_70 y_70 hf H locs ls hP hD hS hl KX0
      rw [fX11_remembers_70] at hf
      refine lv_iload_n hx hb dX11_remembers_70 rfl (lv_at hl 0 rfl) ?_
      refine lv_bipush (v := (23 : Int32)) hx hb dX11_remembers_71 (by decide) ?_
      refine lv_icmp_ge (tgt := 96) hx hb dX11_remembers_73 (by decide) (fun c3 => ?_) (fun c3 => ?_)
      · have hf := of_pos hf c3
        obtain rfl := Option.some.inj hf
        exact KX0 _ _ _ hP hD hS (lv_sub hl [0, 1, 2] rfl)
      · have hf := of_neg hf c3
        refine lv_aload_n hx hb dX11_remembers_76 rfl (lv_at hl 2 rfl) ?_
        refine va_get (D := D) (ci := 11) (v := .ref q_t_s) (C := RX11) (T := TX11) (N := 22) hx hb hts inX11 hown hK hP 0 rfl rfl 5 (by decide) (hts (.fieldLink RX11 19 "LentCourageModel" "s" "[I") (List.mem_of_getElem? (i := 1) rfl)) (fun _ h9 => h9) rfl dX11_remembers_77 ?_
        refine lv_iload_n hx hb dX11_remembers_80 rfl (lv_at hl 1 rfl) ?_
        refine lv_iload_n hx hb dX11_remembers_81 rfl (lv_at hl 0 rfl) ?_
        refine lv_iadd hx hb dX11_remembers_82 ?_
        refine lv_aload_n hx hb dX11_remembers_83 rfl (lv_at hl 2 rfl) ?_
        refine va_get (D := D) (ci := 11) (v := .ref q_t_s) (C := RX11) (T := TX11) (N := 22) hx hb hts inX11 hown hK hP 0 rfl rfl 5 (by decide) (hts (.fieldLink RX11 19 "LentCourageModel" "s" "[I") (List.mem_of_getElem? (i := 1) rfl)) (fun _ h9 => h9) rfl dX11_remembers_84 ?_
        refine lv_iload_n hx hb dX11_remembers_87 rfl (lv_at hl 0 rfl) ?_
        obtain ⟨h4, hf⟩ := of_chk hf
        refine va_iald hx hb hK hP 1 0 rfl rfl h4 dX11_remembers_88 ?_
        refine lv_topi (fun z5 ez5 => ?_)
        have hf := of_lt hf ez5
        obtain ⟨h6, hf⟩ := of_chk hf
        refine va_iast hx hb hK hP hD hS 1 0 rfl rfl h6 dX11_remembers_89 (fun H locs hP hD hS => ?_)
        have hP : va_P D vwCl [ob q_t 11 [.long v_t_trace_70, .ref q_t_text, .int v_t_typed_70, .ref q_t_told, .ref q_t_draft, .ref q_t_s, .ref q_t_images, .ref q_t_kept, .ref q_t_heard, .ref q_t_hours, .int v_t_noted_70, .int v_t_at_70, .int v_t_sort_70, .int v_t_start_70, .int v_t_value_70, .ref q_t_row, .ref q_t_best, .int v_t_bestMany_70, .int v_t_bestWorth_70, .int v_t_bestHour_70, .ref q_t_places, .ref q_t_pairs], ia C q_t_s 254 (upd r_t_s_70 (w1_70 + w2_70).toNatClampNeg z5)] H := hP
        have hD : va_D A [ob q_t 11 [.long v_t_trace_70, .ref q_t_text, .int v_t_typed_70, .ref q_t_told, .ref q_t_draft, .ref q_t_s, .ref q_t_images, .ref q_t_kept, .ref q_t_heard, .ref q_t_hours, .int v_t_noted_70, .int v_t_at_70, .int v_t_sort_70, .int v_t_start_70, .int v_t_value_70, .ref q_t_row, .ref q_t_best, .int v_t_bestMany_70, .int v_t_bestWorth_70, .int v_t_bestHour_70, .ref q_t_places, .ref q_t_pairs], ia C q_t_s 254 (upd r_t_s_70 (w1_70 + w2_70).toNatClampNeg z5)] := hD
        obtain ⟨z7, ez7⟩ : ∃ y : Int32, y = (w2_70 + (1 : Int32)) := ⟨_, rfl⟩
        have hf := of_lt hf ez7
        refine lv_iinc (v := z7) (lv' := [(2, .int z7), (1, .int w1_70), (0, .ref q_t)]) hx hb dX11_remembers_90 hl (k := 0) rfl (by rw [ez7]; rfl) (by decide) rfl (fun ls hl => ?_)
        refine lv_goto (tgt := 70) hx hb dX11_remembers_93 (by decide) ?_
        exact ih _ _ _ _ _ _ _ _ _ _ _ _ _ _ hf H locs ls hP hD hS (lv_sub hl [0, 1, 2] rfl) KX0
  have LP15 : ∀ (Q : State → Prop) (n : Nat) (w1_15 : Int32) (v_t_trace_15 : Int64) (v_t_typed_15 : Int32) (v_t_noted_15 : Int32) (v_t_at_15 : Int32) (v_t_sort_15 : Int32) (v_t_start_15 : Int32) (v_t_value_15 : Int32) (v_t_bestMany_15 : Int32) (v_t_bestWorth_15 : Int32) (v_t_bestHour_15 : Int32) (r_t_s_15 : Nat → Int32) (y_15 : Int32 × (Nat → Int32)), fX11_remembers_15  n w1_15 r_t_s_15 = some y_15 → ∀ (H : Heap) (locs : List Loc) (ls : Array Slot), va_P D vwCl [ob q_t 11 [.long v_t_trace_15, .ref q_t_text, .int v_t_typed_15, .ref q_t_told, .ref q_t_draft, .ref q_t_s, .ref q_t_images, .ref q_t_kept, .ref q_t_heard, .ref q_t_hours, .int v_t_noted_15, .int v_t_at_15, .int v_t_sort_15, .int v_t_start_15, .int v_t_value_15, .ref q_t_row, .ref q_t_best, .int v_t_bestMany_15, .int v_t_bestWorth_15, .int v_t_bestHour_15, .ref q_t_places, .ref q_t_pairs], ia C q_t_s 254 r_t_s_15] H → va_D A [ob q_t 11 [.long v_t_trace_15, .ref q_t_text, .int v_t_typed_15, .ref q_t_told, .ref q_t_draft, .ref q_t_s, .ref q_t_images, .ref q_t_kept, .ref q_t_heard, .ref q_t_hours, .int v_t_noted_15, .int v_t_at_15, .int v_t_sort_15, .int v_t_start_15, .int v_t_value_15, .ref q_t_row, .ref q_t_best, .int v_t_bestMany_15, .int v_t_bestWorth_15, .int v_t_bestHour_15, .ref q_t_places, .ref q_t_pairs], ia C q_t_s 254 r_t_s_15] → va_S A s.heap H locs → lv_has ls 3 [(1, .int w1_15), (0, .ref q_t)] → (∀ (H : Heap) (locs : List Loc) (ls : Array Slot), va_P D vwCl [ob q_t 11 [.long v_t_trace_15, .ref q_t_text, .int v_t_typed_15, .ref q_t_told, .ref q_t_draft, .ref q_t_s, .ref q_t_images, .ref q_t_kept, .ref q_t_heard, .ref q_t_hours, .int v_t_noted_15, .int v_t_at_15, .int v_t_sort_15, .int v_t_start_15, .int v_t_value_15, .ref q_t_row, .ref q_t_best, .int v_t_bestMany_15, .int v_t_bestWorth_15, .int v_t_bestHour_15, .ref q_t_places, .ref q_t_pairs], ia C q_t_s 254 y_15.2] H → va_D A [ob q_t 11 [.long v_t_trace_15, .ref q_t_text, .int v_t_typed_15, .ref q_t_told, .ref q_t_draft, .ref q_t_s, .ref q_t_images, .ref q_t_kept, .ref q_t_heard, .ref q_t_hours, .int v_t_noted_15, .int v_t_at_15, .int v_t_sort_15, .int v_t_start_15, .int v_t_value_15, .ref q_t_row, .ref q_t_best, .int v_t_bestMany_15, .int v_t_bestWorth_15, .int v_t_bestHour_15, .ref q_t_places, .ref q_t_pairs], ia C q_t_s 254 y_15.2] → va_S A s.heap H locs → lv_has ls 3 [(1, .int y_15.1), (0, .ref q_t)] → W p l e ({ frames := 0, cells := 0, slots := 0, locals := 0 } : Room) s m ([.ref q_t] : List Value).toArray below meth c H locs 0 0 Q (F0 m 43 ls [])) → W p l e ({ frames := 0, cells := 0, slots := 0, locals := 0 } : Room) s m ([.ref q_t] : List Value).toArray below meth c H locs 0 0 Q (F0 m 15 ls []) := by
    intro Q n
    induction n with
    | zero =>
      intro w1_15 v_t_trace_15 v_t_typed_15 v_t_noted_15 v_t_at_15 v_t_sort_15 v_t_start_15 v_t_value_15 v_t_bestMany_15 v_t_bestWorth_15 v_t_bestHour_15 r_t_s_15 y_15 hf
      rw [fX11_remembers_15] at hf
      cases hf
    | succ n ih =>
      intro w1_15 v_t_trace_15 v_t_typed_15 v_t_noted_15 v_t_at_15 v_t_sort_15 v_t_start_15 v_t_value_15 v_t_bestMany_15 v_t_bestWorth_15 v_t_bestHour_15 r_t_s_15 y_15 hf H locs ls hP hD hS hl KX0
      rw [fX11_remembers_15] at hf
      refine lv_iload_n hx hb dX11_remembers_15 rfl (lv_at hl 0 rfl) ?_
      refine lv_sipush (v := (231 : Int32)) hx hb dX11_remembers_16 (by decide) ?_
      refine lv_icmp_ge (tgt := 43) hx hb dX11_remembers_19 (by decide) (fun c10 => ?_) (fun c10 => ?_)
      · have hf := of_pos hf c10
        obtain rfl := Option.some.inj hf
        exact KX0 _ _ _ hP hD hS (lv_sub hl [0, 1] rfl)
      · have hf := of_neg hf c10
        refine lv_aload_n hx hb dX11_remembers_22 rfl (lv_at hl 1 rfl) ?_
        refine va_get (D := D) (ci := 11) (v := .ref q_t_s) (C := RX11) (T := TX11) (N := 22) hx hb hts inX11 hown hK hP 0 rfl rfl 5 (by decide) (hts (.fieldLink RX11 19 "LentCourageModel" "s" "[I") (List.mem_of_getElem? (i := 1) rfl)) (fun _ h9 => h9) rfl dX11_remembers_23 ?_
        refine lv_iload_n hx hb dX11_remembers_26 rfl (lv_at hl 0 rfl) ?_
        refine lv_aload_n hx hb dX11_remembers_27 rfl (lv_at hl 1 rfl) ?_
        refine va_get (D := D) (ci := 11) (v := .ref q_t_s) (C := RX11) (T := TX11) (N := 22) hx hb hts inX11 hown hK hP 0 rfl rfl 5 (by decide) (hts (.fieldLink RX11 19 "LentCourageModel" "s" "[I") (List.mem_of_getElem? (i := 1) rfl)) (fun _ h9 => h9) rfl dX11_remembers_28 ?_
        refine lv_iload_n hx hb dX11_remembers_31 rfl (lv_at hl 0 rfl) ?_
        refine lv_bipush (v := (23 : Int32)) hx hb dX11_remembers_32 (by decide) ?_
        refine lv_iadd hx hb dX11_remembers_34 ?_
        obtain ⟨h11, hf⟩ := of_chk hf
        refine va_iald hx hb hK hP 1 0 rfl rfl h11 dX11_remembers_35 ?_
        refine lv_topi (fun z12 ez12 => ?_)
        have hf := of_lt hf ez12
        obtain ⟨h13, hf⟩ := of_chk hf
        refine va_iast hx hb hK hP hD hS 1 0 rfl rfl h13 dX11_remembers_36 (fun H locs hP hD hS => ?_)
        have hP : va_P D vwCl [ob q_t 11 [.long v_t_trace_15, .ref q_t_text, .int v_t_typed_15, .ref q_t_told, .ref q_t_draft, .ref q_t_s, .ref q_t_images, .ref q_t_kept, .ref q_t_heard, .ref q_t_hours, .int v_t_noted_15, .int v_t_at_15, .int v_t_sort_15, .int v_t_start_15, .int v_t_value_15, .ref q_t_row, .ref q_t_best, .int v_t_bestMany_15, .int v_t_bestWorth_15, .int v_t_bestHour_15, .ref q_t_places, .ref q_t_pairs], ia C q_t_s 254 (upd r_t_s_15 w1_15.toNatClampNeg z12)] H := hP
        have hD : va_D A [ob q_t 11 [.long v_t_trace_15, .ref q_t_text, .int v_t_typed_15, .ref q_t_told, .ref q_t_draft, .ref q_t_s, .ref q_t_images, .ref q_t_kept, .ref q_t_heard, .ref q_t_hours, .int v_t_noted_15, .int v_t_at_15, .int v_t_sort_15, .int v_t_start_15, .int v_t_value_15, .ref q_t_row, .ref q_t_best, .int v_t_bestMany_15, .int v_t_bestWorth_15, .int v_t_bestHour_15, .ref q_t_places, .ref q_t_pairs], ia C q_t_s 254 (upd r_t_s_15 w1_15.toNatClampNeg z12)] := hD
        obtain ⟨z14, ez14⟩ : ∃ y : Int32, y = (w1_15 + (1 : Int32)) := ⟨_, rfl⟩
        have hf := of_lt hf ez14
        refine lv_iinc (v := z14) (lv' := [(1, .int z14), (0, .ref q_t)]) hx hb dX11_remembers_37 hl (k := 0) rfl (by rw [ez14]; rfl) (by decide) rfl (fun ls hl => ?_)
        refine lv_goto (tgt := 15) hx hb dX11_remembers_40 (by decide) ?_
        exact ih _ _ _ _ _ _ _ _ _ _ _ _ _ hf H locs ls hP hD hS (lv_sub hl [0, 1] rfl) KX0
  refine lv_aload_n hx hb dX11_remembers_0 rfl (lv_at hl 0 rfl) ?_
  refine va_get (D := D) (ci := 11) (v := .ref q_t_s) (C := RX11) (T := TX11) (N := 22) hx hb hts inX11 hown hK hP 0 rfl rfl 5 (by decide) (hts (.fieldLink RX11 19 "LentCourageModel" "s" "[I") (List.mem_of_getElem? (i := 1) rfl)) (fun _ h9 => h9) rfl dX11_remembers_1 ?_
  refine lv_bipush (v := (23 : Int32)) hx hb dX11_remembers_4 (by decide) ?_
  refine ld_ialdK hx hb hK hP 1 0 rfl rfl (k := 23) (by decide) (by decide) (by decide) dX11_remembers_6 ?_
  refine lv_bipush (v := (10 : Int32)) hx hb dX11_remembers_7 (by decide) ?_
  refine lv_icmp_ne (tgt := 54) hx hb dX11_remembers_9 (by decide) (fun c1 => ?_) (fun c1 => ?_)
  · have hf := of_neg hf c1
    refine lv_bipush (v := (24 : Int32)) hx hb dX11_remembers_54 (by decide) ?_
    refine lv_bipush (v := (23 : Int32)) hx hb dX11_remembers_56 (by decide) ?_
    refine lv_aload_n hx hb dX11_remembers_58 rfl (lv_at hl 0 rfl) ?_
    refine va_get (D := D) (ci := 11) (v := .ref q_t_s) (C := RX11) (T := TX11) (N := 22) hx hb hts inX11 hown hK hP 0 rfl rfl 5 (by decide) (hts (.fieldLink RX11 19 "LentCourageModel" "s" "[I") (List.mem_of_getElem? (i := 1) rfl)) (fun _ h9 => h9) rfl dX11_remembers_59 ?_
    refine lv_bipush (v := (23 : Int32)) hx hb dX11_remembers_62 (by decide) ?_
    refine ld_ialdK hx hb hK hP 1 0 rfl rfl (k := 23) (by decide) (by decide) (by decide) dX11_remembers_64 ?_
    refine lv_imul hx hb dX11_remembers_65 ?_
    refine lv_iadd hx hb dX11_remembers_66 ?_
    refine lv_topi (fun z2 ez2 => ?_)
    have hf := of_lt hf ez2
    refine lv_istore_n (lv' := [(1, .int z2), (0, .ref q_t)]) hx hb dX11_remembers_67 rfl hl (by decide) rfl (fun ls hl => ?_)
    refine lv_iconst (v := (0 : Int32)) hx hb dX11_remembers_68 (by decide) ?_
    refine lv_istore_n (lv' := [(2, .int (0 : Int32)), (1, .int z2), (0, .ref q_t)]) hx hb dX11_remembers_69 rfl hl (by decide) rfl (fun ls hl => ?_)
    obtain ⟨y8, hy8, hf⟩ := of_bind hf
    refine LP70 _ FU _ _ _ _ _ _ _ _ _ _ _ _ _ y8 hy8 H locs ls hP hD hS (lv_sub hl [0, 1, 2] rfl) (fun H locs ls hP hD hS hl => ?_)
    refine lv_aload_n hx hb dX11_remembers_96 rfl (lv_at hl 2 rfl) ?_
    refine va_get (D := D) (ci := 11) (v := .ref q_t_s) (C := RX11) (T := TX11) (N := 22) hx hb hts inX11 hown hK hP 0 rfl rfl 5 (by decide) (hts (.fieldLink RX11 19 "LentCourageModel" "s" "[I") (List.mem_of_getElem? (i := 1) rfl)) (fun _ h9 => h9) rfl dX11_remembers_97 ?_
    refine lv_bipush (v := (23 : Int32)) hx hb dX11_remembers_100 (by decide) ?_
    refine lv_dup2_11 hx hb dX11_remembers_102 rfl rfl ?_
    refine ld_ialdK hx hb hK hP 1 0 rfl rfl (k := 23) (by decide) (by decide) (by decide) dX11_remembers_103 ?_
    refine lv_iconst (v := (1 : Int32)) hx hb dX11_remembers_104 (by decide) ?_
    refine lv_iadd hx hb dX11_remembers_105 ?_
    refine lv_topi (fun z9 ez9 => ?_)
    have hf := of_lt hf ez9
    refine st_IK hx hb hK hP hD hS 1 0 rfl rfl (k := 23) (by decide) (by decide) (by decide) dX11_remembers_106 (fun H locs hP hD hS => ?_)
    have hP : va_P D vwCl [ob q_t 11 [.long v_t_trace, .ref q_t_text, .int v_t_typed, .ref q_t_told, .ref q_t_draft, .ref q_t_s, .ref q_t_images, .ref q_t_kept, .ref q_t_heard, .ref q_t_hours, .int v_t_noted, .int v_t_at, .int v_t_sort, .int v_t_start, .int v_t_value, .ref q_t_row, .ref q_t_best, .int v_t_bestMany, .int v_t_bestWorth, .int v_t_bestHour, .ref q_t_places, .ref q_t_pairs], ia C q_t_s 254 (upd y8.2 23 z9)] H := hP
    have hD : va_D A [ob q_t 11 [.long v_t_trace, .ref q_t_text, .int v_t_typed, .ref q_t_told, .ref q_t_draft, .ref q_t_s, .ref q_t_images, .ref q_t_kept, .ref q_t_heard, .ref q_t_hours, .int v_t_noted, .int v_t_at, .int v_t_sort, .int v_t_start, .int v_t_value, .ref q_t_row, .ref q_t_best, .int v_t_bestMany, .int v_t_bestWorth, .int v_t_bestHour, .ref q_t_places, .ref q_t_pairs], ia C q_t_s 254 (upd y8.2 23 z9)] := hD
    obtain rfl := Option.some.inj hf
    exact ret_V hx hb hr hlocks hK hP hD hS dX11_remembers_107
  · have hf := of_pos hf c1
    refine lv_bipush (v := (24 : Int32)) hx hb dX11_remembers_12 (by decide) ?_
    refine lv_istore_n (lv' := [(1, .int (24 : Int32)), (0, .ref q_t)]) hx hb dX11_remembers_14 rfl hl (by decide) rfl (fun ls hl => ?_)
    obtain ⟨y15, hy15, hf⟩ := of_bind hf
    refine LP15 _ FU _ _ _ _ _ _ _ _ _ _ _ _ y15 hy15 H locs ls hP hD hS (lv_sub hl [0, 1] rfl) (fun H locs ls hP hD hS hl => ?_)
    refine lv_aload_n hx hb dX11_remembers_43 rfl (lv_at hl 1 rfl) ?_
    refine va_get (D := D) (ci := 11) (v := .ref q_t_s) (C := RX11) (T := TX11) (N := 22) hx hb hts inX11 hown hK hP 0 rfl rfl 5 (by decide) (hts (.fieldLink RX11 19 "LentCourageModel" "s" "[I") (List.mem_of_getElem? (i := 1) rfl)) (fun _ h9 => h9) rfl dX11_remembers_44 ?_
    refine lv_bipush (v := (23 : Int32)) hx hb dX11_remembers_47 (by decide) ?_
    refine lv_dup2_11 hx hb dX11_remembers_49 rfl rfl ?_
    refine ld_ialdK hx hb hK hP 1 0 rfl rfl (k := 23) (by decide) (by decide) (by decide) dX11_remembers_50 ?_
    refine lv_iconst (v := (1 : Int32)) hx hb dX11_remembers_51 (by decide) ?_
    refine lv_isub hx hb dX11_remembers_52 ?_
    refine lv_topi (fun z16 ez16 => ?_)
    have hf := of_lt hf ez16
    refine st_IK hx hb hK hP hD hS 1 0 rfl rfl (k := 23) (by decide) (by decide) (by decide) dX11_remembers_53 (fun H locs hP hD hS => ?_)
    have hP : va_P D vwCl [ob q_t 11 [.long v_t_trace, .ref q_t_text, .int v_t_typed, .ref q_t_told, .ref q_t_draft, .ref q_t_s, .ref q_t_images, .ref q_t_kept, .ref q_t_heard, .ref q_t_hours, .int v_t_noted, .int v_t_at, .int v_t_sort, .int v_t_start, .int v_t_value, .ref q_t_row, .ref q_t_best, .int v_t_bestMany, .int v_t_bestWorth, .int v_t_bestHour, .ref q_t_places, .ref q_t_pairs], ia C q_t_s 254 (upd y15.2 23 z16)] H := hP
    have hD : va_D A [ob q_t 11 [.long v_t_trace, .ref q_t_text, .int v_t_typed, .ref q_t_told, .ref q_t_draft, .ref q_t_s, .ref q_t_images, .ref q_t_kept, .ref q_t_heard, .ref q_t_hours, .int v_t_noted, .int v_t_at, .int v_t_sort, .int v_t_start, .int v_t_value, .ref q_t_row, .ref q_t_best, .int v_t_bestMany, .int v_t_bestWorth, .int v_t_bestHour, .ref q_t_places, .ref q_t_pairs], ia C q_t_s 254 (upd y15.2 23 z16)] := hD
    refine lv_bipush (v := (24 : Int32)) hx hb dX11_remembers_54 (by decide) ?_
    refine lv_bipush (v := (23 : Int32)) hx hb dX11_remembers_56 (by decide) ?_
    refine lv_aload_n hx hb dX11_remembers_58 rfl (lv_at hl 1 rfl) ?_
    refine va_get (D := D) (ci := 11) (v := .ref q_t_s) (C := RX11) (T := TX11) (N := 22) hx hb hts inX11 hown hK hP 0 rfl rfl 5 (by decide) (hts (.fieldLink RX11 19 "LentCourageModel" "s" "[I") (List.mem_of_getElem? (i := 1) rfl)) (fun _ h9 => h9) rfl dX11_remembers_59 ?_
    refine lv_bipush (v := (23 : Int32)) hx hb dX11_remembers_62 (by decide) ?_
    refine ld_ialdK hx hb hK hP 1 0 rfl rfl (k := 23) (by decide) (by decide) (by decide) dX11_remembers_64 ?_
    refine lv_imul hx hb dX11_remembers_65 ?_
    refine lv_iadd hx hb dX11_remembers_66 ?_
    refine lv_topi (fun z17 ez17 => ?_)
    have hf := of_lt hf ez17
    refine lv_istore_n (lv' := [(1, .int z17), (0, .ref q_t)]) hx hb dX11_remembers_67 rfl hl (by decide) rfl (fun ls hl => ?_)
    refine lv_iconst (v := (0 : Int32)) hx hb dX11_remembers_68 (by decide) ?_
    refine lv_istore_n (lv' := [(2, .int (0 : Int32)), (1, .int z17), (0, .ref q_t)]) hx hb dX11_remembers_69 rfl hl (by decide) rfl (fun ls hl => ?_)
    obtain ⟨y18, hy18, hf⟩ := of_bind hf
    refine LP70 _ FU _ _ _ _ _ _ _ _ _ _ _ _ _ y18 hy18 H locs ls hP hD hS (lv_sub hl [0, 1, 2] rfl) (fun H locs ls hP hD hS hl => ?_)
    refine lv_aload_n hx hb dX11_remembers_96 rfl (lv_at hl 2 rfl) ?_
    refine va_get (D := D) (ci := 11) (v := .ref q_t_s) (C := RX11) (T := TX11) (N := 22) hx hb hts inX11 hown hK hP 0 rfl rfl 5 (by decide) (hts (.fieldLink RX11 19 "LentCourageModel" "s" "[I") (List.mem_of_getElem? (i := 1) rfl)) (fun _ h9 => h9) rfl dX11_remembers_97 ?_
    refine lv_bipush (v := (23 : Int32)) hx hb dX11_remembers_100 (by decide) ?_
    refine lv_dup2_11 hx hb dX11_remembers_102 rfl rfl ?_
    refine ld_ialdK hx hb hK hP 1 0 rfl rfl (k := 23) (by decide) (by decide) (by decide) dX11_remembers_103 ?_
    refine lv_iconst (v := (1 : Int32)) hx hb dX11_remembers_104 (by decide) ?_
    refine lv_iadd hx hb dX11_remembers_105 ?_
    refine lv_topi (fun z19 ez19 => ?_)
    have hf := of_lt hf ez19
    refine st_IK hx hb hK hP hD hS 1 0 rfl rfl (k := 23) (by decide) (by decide) (by decide) dX11_remembers_106 (fun H locs hP hD hS => ?_)
    have hP : va_P D vwCl [ob q_t 11 [.long v_t_trace, .ref q_t_text, .int v_t_typed, .ref q_t_told, .ref q_t_draft, .ref q_t_s, .ref q_t_images, .ref q_t_kept, .ref q_t_heard, .ref q_t_hours, .int v_t_noted, .int v_t_at, .int v_t_sort, .int v_t_start, .int v_t_value, .ref q_t_row, .ref q_t_best, .int v_t_bestMany, .int v_t_bestWorth, .int v_t_bestHour, .ref q_t_places, .ref q_t_pairs], ia C q_t_s 254 (upd y18.2 23 z19)] H := hP
    have hD : va_D A [ob q_t 11 [.long v_t_trace, .ref q_t_text, .int v_t_typed, .ref q_t_told, .ref q_t_draft, .ref q_t_s, .ref q_t_images, .ref q_t_kept, .ref q_t_heard, .ref q_t_hours, .int v_t_noted, .int v_t_at, .int v_t_sort, .int v_t_start, .int v_t_value, .ref q_t_row, .ref q_t_best, .int v_t_bestMany, .int v_t_bestWorth, .int v_t_bestHour, .ref q_t_places, .ref q_t_pairs], ia C q_t_s 254 (upd y18.2 23 z19)] := hD
    obtain rfl := Option.some.inj hf
    exact ret_V hx hb hr hlocks hK hP hD hS dX11_remembers_107

def fX11_gives (r_t_told : Nat → Int32) (r_t_s : Nat → Int32) : Option (Int32 × (Nat → Int32)) :=
  (fX11_isHeld r_t_s).bind (fun o1 => (if o1 = 0 then some ((0 : Int32), r_t_s) else lt_ (r_t_s 1) (fun z3 => lt_ (((r_t_s 0) - (r_t_s 2)) - (r_t_told 3)) (fun z4 => chk (vin ((16 : Int32) + z3) 254) (lt_ ((r_t_s ((16 : Int32) + z3).toNatClampNeg) + (if z4 ≤ 0 then (0 : Int32) else z4)) (fun z7 => lt_ (if z7 ≤ (999 : Int32) then z7 else (999 : Int32)) (fun z9 => lt_ ((upd r_t_s ((16 : Int32) + z3).toNatClampNeg z9) 0) (fun z10 => chk (vin ((10 : Int32) + z3) 254) (some (((upd (upd r_t_s ((16 : Int32) + z3).toNatClampNeg z9) ((10 : Int32) + z3).toNatClampNeg z10) ((16 : Int32) + z3).toNatClampNeg), (upd (upd r_t_s ((16 : Int32) + z3).toNatClampNeg z9) ((10 : Int32) + z3).toNatClampNeg z10)))))))))))
theorem hd_X11_gives : yX11_gives.cls = RX11 ∧ yX11_gives.cls ≠ "java/lang/invoke/MethodHandle" ∧ yX11_gives.cls ≠ "java/lang/invoke/VarHandle" ∧ (parseMethodDescriptor yX11_gives.desc).map (fun d => d.parameters.length) = some 0 := by decide +kernel
set_option maxHeartbeats 4000000 in
set_option maxRecDepth 100000 in
theorem k_X11_gives (l : Launch) (D : va_G) (C : Nat → ClassId) (q_t : Nat) (q_t_text : Nat) (q_t_told : Nat) (q_t_draft : Nat) (q_t_s : Nat) (q_t_images : Nat) (q_t_kept : Nat) (q_t_heard : Nat) (q_t_hours : Nat) (q_t_row : Nat) (q_t_best : Nat) (q_t_places : Nat) (q_t_pairs : Nat) (v_t_trace : Int64) (v_t_typed : Int32) (v_t_noted : Int32) (v_t_at : Int32) (v_t_sort : Int32) (v_t_start : Int32) (v_t_value : Int32) (v_t_bestMany : Int32) (v_t_bestWorth : Int32) (v_t_bestHour : Int32) (r_t_told : Nat → Int32) (r_t_s : Nat → Int32) (sz : Nat) (out : Int32 × (Nat → Int32)) (hf : fX11_gives r_t_told r_t_s = some out) : MI l yX11_gives wsX11_gives ({ frames := 1, cells := 0, slots := 0, locals := 20 }) D C [.ref q_t] [ob q_t 11 [.long v_t_trace, .ref q_t_text, .int v_t_typed, .ref q_t_told, .ref q_t_draft, .ref q_t_s, .ref q_t_images, .ref q_t_kept, .ref q_t_heard, .ref q_t_hours, .int v_t_noted, .int v_t_at, .int v_t_sort, .int v_t_start, .int v_t_value, .ref q_t_row, .ref q_t_best, .int v_t_bestMany, .int v_t_bestWorth, .int v_t_bestHour, .ref q_t_places, .ref q_t_pairs], ia C q_t_told 52 r_t_told, ia C q_t_s 254 r_t_s] [ob q_t 11 [.long v_t_trace, .ref q_t_text, .int v_t_typed, .ref q_t_told, .ref q_t_draft, .ref q_t_s, .ref q_t_images, .ref q_t_kept, .ref q_t_heard, .ref q_t_hours, .int v_t_noted, .int v_t_at, .int v_t_sort, .int v_t_start, .int v_t_value, .ref q_t_row, .ref q_t_best, .int v_t_bestMany, .int v_t_bestWorth, .int v_t_bestHour, .ref q_t_places, .ref q_t_pairs], ia C q_t_told 52 r_t_told, ia C q_t_s 254 out.2] sz (out.1) := by
  unfold fX11_gives at hf
  refine en_I (by decide) rfl (Nat.le_of_ble_eq_true rfl) ?_
  intro p e s m below meth c A ls H locs hx hb hr hlocks hml hts hown hK hP hD hS hA hl
  have hl : lv_has ls 4 [(0, .ref q_t)] := hl
  have inX11 : ∀ w ∈ u_ws RX11 TX11 22, w ∈ wsX11_gives := fun w h => List.mem_cons_of_mem _ (List.mem_append_right _ h)
  refine lv_aload_n hx hb dX11_gives_0 rfl (lv_at hl 0 rfl) ?_
  obtain ⟨o1, ho1, hf⟩ := of_bind hf
  refine c_I (wr := [ia C q_t_told 52 r_t_told]) (W2 := [ob q_t 11 [.long v_t_trace, .ref q_t_text, .int v_t_typed, .ref q_t_told, .ref q_t_draft, .ref q_t_s, .ref q_t_images, .ref q_t_kept, .ref q_t_heard, .ref q_t_hours, .int v_t_noted, .int v_t_at, .int v_t_sort, .int v_t_start, .int v_t_value, .ref q_t_row, .ref q_t_best, .int v_t_bestMany, .int v_t_bestWorth, .int v_t_bestHour, .ref q_t_places, .ref q_t_pairs], ia C q_t_told 52 r_t_told, ia C q_t_s 254 r_t_s]) (cV_run ⟨hx, hb, hml, hown, hts⟩ (k_X11_isHeld l D C q_t q_t_text q_t_told q_t_draft q_t_s q_t_images q_t_kept q_t_heard q_t_hours q_t_row q_t_best q_t_places q_t_pairs v_t_trace v_t_typed v_t_noted v_t_at v_t_sort v_t_start v_t_value v_t_bestMany v_t_bestWorth v_t_bestHour r_t_s H.size o1 ho1) gX11_gives_X11_isHeld rfl ⟨rfl, rfl⟩ hd_X11_isHeld ⟨(Nat.le_of_ble_eq_true rfl), (Nat.le_of_ble_eq_true rfl)⟩ rfl hK (cut_in hK hP hD [0, 2] rfl (by decide)) (ci := 11) rfl rfl rfl hl.1 rfl (Nat.le_of_ble_eq_true rfl) dX11_gives_1 ⟨Nat.zero_le _, Nat.zero_le _⟩) hP hD hS hA [0, 2] [1] [1, 0, 2] rfl rfl (by decide) (by decide) rfl (by decide) (fun H locs hP hD hS => ?_)
  have hP : va_P D vwCl [ob q_t 11 [.long v_t_trace, .ref q_t_text, .int v_t_typed, .ref q_t_told, .ref q_t_draft, .ref q_t_s, .ref q_t_images, .ref q_t_kept, .ref q_t_heard, .ref q_t_hours, .int v_t_noted, .int v_t_at, .int v_t_sort, .int v_t_start, .int v_t_value, .ref q_t_row, .ref q_t_best, .int v_t_bestMany, .int v_t_bestWorth, .int v_t_bestHour, .ref q_t_places, .ref q_t_pairs], ia C q_t_told 52 r_t_told, ia C q_t_s 254 r_t_s] H := hP
  have hD : va_D A [ob q_t 11 [.long v_t_trace, .ref q_t_text, .int v_t_typed, .ref q_t_told, .ref q_t_draft, .ref q_t_s, .ref q_t_images, .ref q_t_kept, .ref q_t_heard, .ref q_t_hours, .int v_t_noted, .int v_t_at, .int v_t_sort, .int v_t_start, .int v_t_value, .ref q_t_row, .ref q_t_best, .int v_t_bestMany, .int v_t_bestWorth, .int v_t_bestHour, .ref q_t_places, .ref q_t_pairs], ia C q_t_told 52 r_t_told, ia C q_t_s 254 r_t_s] := hD
  refine lv_if_ne (tgt := 9) hx hb dX11_gives_4 (by decide) (fun c2 => ?_) (fun c2 => ?_)
  · have hf := of_neg hf c2
    refine lv_aload_n hx hb dX11_gives_9 rfl (lv_at hl 0 rfl) ?_
    refine va_get (D := D) (ci := 11) (v := .ref q_t_s) (C := RX11) (T := TX11) (N := 22) hx hb hts inX11 hown hK hP 0 rfl rfl 5 (by decide) (hts (.fieldLink RX11 19 "LentCourageModel" "s" "[I") (List.mem_of_getElem? (i := 1) rfl)) (fun _ h9 => h9) rfl dX11_gives_10 ?_
    refine lv_iconst (v := (1 : Int32)) hx hb dX11_gives_13 (by decide) ?_
    refine ld_ialdK hx hb hK hP 2 0 rfl rfl (k := 1) (by decide) (by decide) (by decide) dX11_gives_14 ?_
    refine lv_topi (fun z3 ez3 => ?_)
    have hf := of_lt hf ez3
    refine lv_istore_n (lv' := [(1, .int z3), (0, .ref q_t)]) hx hb dX11_gives_15 rfl hl (by decide) rfl (fun ls hl => ?_)
    refine lv_aload_n hx hb dX11_gives_16 rfl (lv_at hl 1 rfl) ?_
    refine va_get (D := D) (ci := 11) (v := .ref q_t_s) (C := RX11) (T := TX11) (N := 22) hx hb hts inX11 hown hK hP 0 rfl rfl 5 (by decide) (hts (.fieldLink RX11 19 "LentCourageModel" "s" "[I") (List.mem_of_getElem? (i := 1) rfl)) (fun _ h9 => h9) rfl dX11_gives_17 ?_
    refine lv_iconst (v := (0 : Int32)) hx hb dX11_gives_20 (by decide) ?_
    refine ld_ialdK hx hb hK hP 2 0 rfl rfl (k := 0) (by decide) (by decide) (by decide) dX11_gives_21 ?_
    refine lv_aload_n hx hb dX11_gives_22 rfl (lv_at hl 1 rfl) ?_
    refine va_get (D := D) (ci := 11) (v := .ref q_t_s) (C := RX11) (T := TX11) (N := 22) hx hb hts inX11 hown hK hP 0 rfl rfl 5 (by decide) (hts (.fieldLink RX11 19 "LentCourageModel" "s" "[I") (List.mem_of_getElem? (i := 1) rfl)) (fun _ h9 => h9) rfl dX11_gives_23 ?_
    refine lv_iconst (v := (2 : Int32)) hx hb dX11_gives_26 (by decide) ?_
    refine ld_ialdK hx hb hK hP 2 0 rfl rfl (k := 2) (by decide) (by decide) (by decide) dX11_gives_27 ?_
    refine lv_isub hx hb dX11_gives_28 ?_
    refine lv_aload_n hx hb dX11_gives_29 rfl (lv_at hl 1 rfl) ?_
    refine va_get (D := D) (ci := 11) (v := .ref q_t_told) (C := RX11) (T := TX11) (N := 22) hx hb hts inX11 hown hK hP 0 rfl rfl 3 (by decide) (hts (.fieldLink RX11 13 "LentCourageModel" "told" "[I") (List.mem_of_getElem? (i := 2) rfl)) (fun _ h9 => h9) rfl dX11_gives_30 ?_
    refine lv_iconst (v := (3 : Int32)) hx hb dX11_gives_33 (by decide) ?_
    refine ld_ialdK hx hb hK hP 1 0 rfl rfl (k := 3) (by decide) (by decide) (by decide) dX11_gives_34 ?_
    refine lv_isub hx hb dX11_gives_35 ?_
    refine lv_topi (fun z4 ez4 => ?_)
    have hf := of_lt hf ez4
    refine lv_istore_n (lv' := [(2, .int z4), (1, .int z3), (0, .ref q_t)]) hx hb dX11_gives_36 rfl hl (by decide) rfl (fun ls hl => ?_)
    refine lv_aload_n hx hb dX11_gives_37 rfl (lv_at hl 2 rfl) ?_
    refine va_get (D := D) (ci := 11) (v := .ref q_t_s) (C := RX11) (T := TX11) (N := 22) hx hb hts inX11 hown hK hP 0 rfl rfl 5 (by decide) (hts (.fieldLink RX11 19 "LentCourageModel" "s" "[I") (List.mem_of_getElem? (i := 1) rfl)) (fun _ h9 => h9) rfl dX11_gives_38 ?_
    refine lv_bipush (v := (16 : Int32)) hx hb dX11_gives_41 (by decide) ?_
    refine lv_iload_n hx hb dX11_gives_43 rfl (lv_at hl 1 rfl) ?_
    refine lv_iadd hx hb dX11_gives_44 ?_
    obtain ⟨h5, hf⟩ := of_chk hf
    refine va_iald hx hb hK hP 2 0 rfl rfl h5 dX11_gives_45 ?_
    refine lv_iload_n hx hb dX11_gives_46 rfl (lv_at hl 0 rfl) ?_
    refine jp (g2 := F0 m 55 ls [.int (if z4 ≤ 0 then (0 : Int32) else z4), .int (r_t_s ((16 : Int32) + z3).toNatClampNeg)]) ?_ (fun JP => ?_)
    · refine lv_iadd hx hb dX11_gives_55 ?_
      refine lv_topi (fun z7 ez7 => ?_)
      have hf := of_lt hf ez7
      refine lv_istore_n (lv' := [(3, .int z7), (2, .int z4), (1, .int z3), (0, .ref q_t)]) hx hb dX11_gives_56 rfl hl (by decide) rfl (fun ls hl => ?_)
      refine lv_aload_n hx hb dX11_gives_57 rfl (lv_at hl 3 rfl) ?_
      refine va_get (D := D) (ci := 11) (v := .ref q_t_s) (C := RX11) (T := TX11) (N := 22) hx hb hts inX11 hown hK hP 0 rfl rfl 5 (by decide) (hts (.fieldLink RX11 19 "LentCourageModel" "s" "[I") (List.mem_of_getElem? (i := 1) rfl)) (fun _ h9 => h9) rfl dX11_gives_58 ?_
      refine lv_bipush (v := (16 : Int32)) hx hb dX11_gives_61 (by decide) ?_
      refine lv_iload_n hx hb dX11_gives_63 rfl (lv_at hl 2 rfl) ?_
      refine lv_iadd hx hb dX11_gives_64 ?_
      refine lv_iload_n hx hb dX11_gives_65 rfl (lv_at hl 0 rfl) ?_
      refine lv_sipush (v := (999 : Int32)) hx hb dX11_gives_66 (by decide) ?_
      refine jp (g2 := F0 m 79 ls [.int (if z7 ≤ (999 : Int32) then z7 else (999 : Int32)), .int ((16 : Int32) + z3), .ref q_t_s]) ?_ (fun JP => ?_)
      · refine lv_topi (fun z9 ez9 => ?_)
        have hf := of_lt hf ez9
        refine va_iast hx hb hK hP hD hS 2 0 rfl rfl h5 dX11_gives_79 (fun H locs hP hD hS => ?_)
        have hP : va_P D vwCl [ob q_t 11 [.long v_t_trace, .ref q_t_text, .int v_t_typed, .ref q_t_told, .ref q_t_draft, .ref q_t_s, .ref q_t_images, .ref q_t_kept, .ref q_t_heard, .ref q_t_hours, .int v_t_noted, .int v_t_at, .int v_t_sort, .int v_t_start, .int v_t_value, .ref q_t_row, .ref q_t_best, .int v_t_bestMany, .int v_t_bestWorth, .int v_t_bestHour, .ref q_t_places, .ref q_t_pairs], ia C q_t_told 52 r_t_told, ia C q_t_s 254 (upd r_t_s ((16 : Int32) + z3).toNatClampNeg z9)] H := hP
        have hD : va_D A [ob q_t 11 [.long v_t_trace, .ref q_t_text, .int v_t_typed, .ref q_t_told, .ref q_t_draft, .ref q_t_s, .ref q_t_images, .ref q_t_kept, .ref q_t_heard, .ref q_t_hours, .int v_t_noted, .int v_t_at, .int v_t_sort, .int v_t_start, .int v_t_value, .ref q_t_row, .ref q_t_best, .int v_t_bestMany, .int v_t_bestWorth, .int v_t_bestHour, .ref q_t_places, .ref q_t_pairs], ia C q_t_told 52 r_t_told, ia C q_t_s 254 (upd r_t_s ((16 : Int32) + z3).toNatClampNeg z9)] := hD
        refine lv_aload_n hx hb dX11_gives_80 rfl (lv_at hl 3 rfl) ?_
        refine va_get (D := D) (ci := 11) (v := .ref q_t_s) (C := RX11) (T := TX11) (N := 22) hx hb hts inX11 hown hK hP 0 rfl rfl 5 (by decide) (hts (.fieldLink RX11 19 "LentCourageModel" "s" "[I") (List.mem_of_getElem? (i := 1) rfl)) (fun _ h9 => h9) rfl dX11_gives_81 ?_
        refine lv_bipush (v := (10 : Int32)) hx hb dX11_gives_84 (by decide) ?_
        refine lv_iload_n hx hb dX11_gives_86 rfl (lv_at hl 2 rfl) ?_
        refine lv_iadd hx hb dX11_gives_87 ?_
        refine lv_aload_n hx hb dX11_gives_88 rfl (lv_at hl 3 rfl) ?_
        refine va_get (D := D) (ci := 11) (v := .ref q_t_s) (C := RX11) (T := TX11) (N := 22) hx hb hts inX11 hown hK hP 0 rfl rfl 5 (by decide) (hts (.fieldLink RX11 19 "LentCourageModel" "s" "[I") (List.mem_of_getElem? (i := 1) rfl)) (fun _ h9 => h9) rfl dX11_gives_89 ?_
        refine lv_iconst (v := (0 : Int32)) hx hb dX11_gives_92 (by decide) ?_
        refine ld_ialdK hx hb hK hP 2 0 rfl rfl (k := 0) (by decide) (by decide) (by decide) dX11_gives_93 ?_
        refine lv_topi (fun z10 ez10 => ?_)
        have hf := of_lt hf ez10
        obtain ⟨h11, hf⟩ := of_chk hf
        refine va_iast hx hb hK hP hD hS 2 0 rfl rfl h11 dX11_gives_94 (fun H locs hP hD hS => ?_)
        have hP : va_P D vwCl [ob q_t 11 [.long v_t_trace, .ref q_t_text, .int v_t_typed, .ref q_t_told, .ref q_t_draft, .ref q_t_s, .ref q_t_images, .ref q_t_kept, .ref q_t_heard, .ref q_t_hours, .int v_t_noted, .int v_t_at, .int v_t_sort, .int v_t_start, .int v_t_value, .ref q_t_row, .ref q_t_best, .int v_t_bestMany, .int v_t_bestWorth, .int v_t_bestHour, .ref q_t_places, .ref q_t_pairs], ia C q_t_told 52 r_t_told, ia C q_t_s 254 (upd (upd r_t_s ((16 : Int32) + z3).toNatClampNeg z9) ((10 : Int32) + z3).toNatClampNeg z10)] H := hP
        have hD : va_D A [ob q_t 11 [.long v_t_trace, .ref q_t_text, .int v_t_typed, .ref q_t_told, .ref q_t_draft, .ref q_t_s, .ref q_t_images, .ref q_t_kept, .ref q_t_heard, .ref q_t_hours, .int v_t_noted, .int v_t_at, .int v_t_sort, .int v_t_start, .int v_t_value, .ref q_t_row, .ref q_t_best, .int v_t_bestMany, .int v_t_bestWorth, .int v_t_bestHour, .ref q_t_places, .ref q_t_pairs], ia C q_t_told 52 r_t_told, ia C q_t_s 254 (upd (upd r_t_s ((16 : Int32) + z3).toNatClampNeg z9) ((10 : Int32) + z3).toNatClampNeg z10)] := hD
        refine lv_aload_n hx hb dX11_gives_95 rfl (lv_at hl 3 rfl) ?_
        refine va_get (D := D) (ci := 11) (v := .ref q_t_s) (C := RX11) (T := TX11) (N := 22) hx hb hts inX11 hown hK hP 0 rfl rfl 5 (by decide) (hts (.fieldLink RX11 19 "LentCourageModel" "s" "[I") (List.mem_of_getElem? (i := 1) rfl)) (fun _ h9 => h9) rfl dX11_gives_96 ?_
        refine lv_bipush (v := (16 : Int32)) hx hb dX11_gives_99 (by decide) ?_
        refine lv_iload_n hx hb dX11_gives_101 rfl (lv_at hl 2 rfl) ?_
        refine lv_iadd hx hb dX11_gives_102 ?_
        refine va_iald hx hb hK hP 2 0 rfl rfl h5 dX11_gives_103 ?_
        obtain rfl := Option.some.inj hf
        exact ret_I hx hb hr hlocks hK hP hD hS dX11_gives_104
      · refine lv_icmp_le (tgt := 78) hx hb dX11_gives_69 (by decide) (fun c8 => ?_) (fun c8 => ?_)
        · refine lv_iload_n hx hb dX11_gives_78 rfl (lv_at hl 0 rfl) ?_
          exact W.eq (congrArg (fun x => F0 m 79 ls (Value.int x :: [.int ((16 : Int32) + z3), .ref q_t_s])) (if_pos c8).symm) JP
        · refine lv_sipush (v := (999 : Int32)) hx hb dX11_gives_72 (by decide) ?_
          refine lv_goto (tgt := 79) hx hb dX11_gives_75 (by decide) ?_
          exact W.eq (congrArg (fun x => F0 m 79 ls (Value.int x :: [.int ((16 : Int32) + z3), .ref q_t_s])) (if_neg c8).symm) JP
    · refine lv_if_le (tgt := 54) hx hb dX11_gives_47 (by decide) (fun c6 => ?_) (fun c6 => ?_)
      · refine lv_iconst (v := (0 : Int32)) hx hb dX11_gives_54 (by decide) ?_
        exact W.eq (congrArg (fun x => F0 m 55 ls (Value.int x :: [.int (r_t_s ((16 : Int32) + z3).toNatClampNeg)])) (if_pos c6).symm) JP
      · refine lv_iload_n hx hb dX11_gives_50 rfl (lv_at hl 0 rfl) ?_
        refine lv_goto (tgt := 55) hx hb dX11_gives_51 (by decide) ?_
        exact W.eq (congrArg (fun x => F0 m 55 ls (Value.int x :: [.int (r_t_s ((16 : Int32) + z3).toNatClampNeg)])) (if_neg c6).symm) JP
  · have hf := of_pos hf c2
    refine lv_iconst (v := (0 : Int32)) hx hb dX11_gives_7 (by decide) ?_
    obtain rfl := Option.some.inj hf
    exact ret_I hx hb hr hlocks hK hP hD hS dX11_gives_8

def fX11_spoonAt (r_t_told : Nat → Int32) (r_t_s : Nat → Int32) : Option (Int32) :=
  (fX11_isHeld r_t_s).bind (fun o1 => ((if o1 = 0 then some (r_t_told 2) else chk (vin ((4 : Int32) + (r_t_s 1)) 254) (some (r_t_s ((4 : Int32) + (r_t_s 1)).toNatClampNeg)))).bind (fun j2 => some j2))
theorem hd_X11_spoonAt : yX11_spoonAt.cls = RX11 ∧ yX11_spoonAt.cls ≠ "java/lang/invoke/MethodHandle" ∧ yX11_spoonAt.cls ≠ "java/lang/invoke/VarHandle" ∧ (parseMethodDescriptor yX11_spoonAt.desc).map (fun d => d.parameters.length) = some 0 := by decide +kernel
set_option maxHeartbeats 4000000 in
set_option maxRecDepth 100000 in
theorem k_X11_spoonAt (l : Launch) (D : va_G) (C : Nat → ClassId) (q_t : Nat) (q_t_text : Nat) (q_t_told : Nat) (q_t_draft : Nat) (q_t_s : Nat) (q_t_images : Nat) (q_t_kept : Nat) (q_t_heard : Nat) (q_t_hours : Nat) (q_t_row : Nat) (q_t_best : Nat) (q_t_places : Nat) (q_t_pairs : Nat) (v_t_trace : Int64) (v_t_typed : Int32) (v_t_noted : Int32) (v_t_at : Int32) (v_t_sort : Int32) (v_t_start : Int32) (v_t_value : Int32) (v_t_bestMany : Int32) (v_t_bestWorth : Int32) (v_t_bestHour : Int32) (r_t_told : Nat → Int32) (r_t_s : Nat → Int32) (sz : Nat) (out : Int32) (hf : fX11_spoonAt r_t_told r_t_s = some out) : MI l yX11_spoonAt wsX11_spoonAt ({ frames := 1, cells := 0, slots := 0, locals := 20 }) D C [.ref q_t] [ob q_t 11 [.long v_t_trace, .ref q_t_text, .int v_t_typed, .ref q_t_told, .ref q_t_draft, .ref q_t_s, .ref q_t_images, .ref q_t_kept, .ref q_t_heard, .ref q_t_hours, .int v_t_noted, .int v_t_at, .int v_t_sort, .int v_t_start, .int v_t_value, .ref q_t_row, .ref q_t_best, .int v_t_bestMany, .int v_t_bestWorth, .int v_t_bestHour, .ref q_t_places, .ref q_t_pairs], ia C q_t_told 52 r_t_told, ia C q_t_s 254 r_t_s] [ob q_t 11 [.long v_t_trace, .ref q_t_text, .int v_t_typed, .ref q_t_told, .ref q_t_draft, .ref q_t_s, .ref q_t_images, .ref q_t_kept, .ref q_t_heard, .ref q_t_hours, .int v_t_noted, .int v_t_at, .int v_t_sort, .int v_t_start, .int v_t_value, .ref q_t_row, .ref q_t_best, .int v_t_bestMany, .int v_t_bestWorth, .int v_t_bestHour, .ref q_t_places, .ref q_t_pairs], ia C q_t_told 52 r_t_told, ia C q_t_s 254 r_t_s] sz (out) := by
  unfold fX11_spoonAt at hf
  refine en_I (by decide) rfl (Nat.le_of_ble_eq_true rfl) ?_
  intro p e s m below meth c A ls H locs hx hb hr hlocks hml hts hown hK hP hD hS hA hl
  have hl : lv_has ls 1 [(0, .ref q_t)] := hl
  have inX11 : ∀ w ∈ u_ws RX11 TX11 22, w ∈ wsX11_spoonAt := fun w h => List.mem_cons_of_mem _ (List.mem_append_right _ h)
  refine lv_aload_n hx hb dX11_spoonAt_0 rfl (lv_at hl 0 rfl) ?_
  obtain ⟨o1, ho1, hf⟩ := of_bind hf
  refine c_I (wr := [ia C q_t_told 52 r_t_told]) (W2 := [ob q_t 11 [.long v_t_trace, .ref q_t_text, .int v_t_typed, .ref q_t_told, .ref q_t_draft, .ref q_t_s, .ref q_t_images, .ref q_t_kept, .ref q_t_heard, .ref q_t_hours, .int v_t_noted, .int v_t_at, .int v_t_sort, .int v_t_start, .int v_t_value, .ref q_t_row, .ref q_t_best, .int v_t_bestMany, .int v_t_bestWorth, .int v_t_bestHour, .ref q_t_places, .ref q_t_pairs], ia C q_t_told 52 r_t_told, ia C q_t_s 254 r_t_s]) (cV_run ⟨hx, hb, hml, hown, hts⟩ (k_X11_isHeld l D C q_t q_t_text q_t_told q_t_draft q_t_s q_t_images q_t_kept q_t_heard q_t_hours q_t_row q_t_best q_t_places q_t_pairs v_t_trace v_t_typed v_t_noted v_t_at v_t_sort v_t_start v_t_value v_t_bestMany v_t_bestWorth v_t_bestHour r_t_s H.size o1 ho1) gX11_spoonAt_X11_isHeld rfl ⟨rfl, rfl⟩ hd_X11_isHeld ⟨(Nat.le_of_ble_eq_true rfl), (Nat.le_of_ble_eq_true rfl)⟩ rfl hK (cut_in hK hP hD [0, 2] rfl (by decide)) (ci := 11) rfl rfl rfl hl.1 rfl (Nat.le_of_ble_eq_true rfl) dX11_spoonAt_1 ⟨Nat.zero_le _, Nat.zero_le _⟩) hP hD hS hA [0, 2] [1] [1, 0, 2] rfl rfl (by decide) (by decide) rfl (by decide) (fun H locs hP hD hS => ?_)
  have hP : va_P D vwCl [ob q_t 11 [.long v_t_trace, .ref q_t_text, .int v_t_typed, .ref q_t_told, .ref q_t_draft, .ref q_t_s, .ref q_t_images, .ref q_t_kept, .ref q_t_heard, .ref q_t_hours, .int v_t_noted, .int v_t_at, .int v_t_sort, .int v_t_start, .int v_t_value, .ref q_t_row, .ref q_t_best, .int v_t_bestMany, .int v_t_bestWorth, .int v_t_bestHour, .ref q_t_places, .ref q_t_pairs], ia C q_t_told 52 r_t_told, ia C q_t_s 254 r_t_s] H := hP
  have hD : va_D A [ob q_t 11 [.long v_t_trace, .ref q_t_text, .int v_t_typed, .ref q_t_told, .ref q_t_draft, .ref q_t_s, .ref q_t_images, .ref q_t_kept, .ref q_t_heard, .ref q_t_hours, .int v_t_noted, .int v_t_at, .int v_t_sort, .int v_t_start, .int v_t_value, .ref q_t_row, .ref q_t_best, .int v_t_bestMany, .int v_t_bestWorth, .int v_t_bestHour, .ref q_t_places, .ref q_t_pairs], ia C q_t_told 52 r_t_told, ia C q_t_s 254 r_t_s] := hD
  obtain ⟨j2, hrj2, hf⟩ := of_bind hf
  refine jn (fun H L g => ∃ ls, g = F0 m 29 ls [.int j2] ∧ va_P D vwCl [ob q_t 11 [.long v_t_trace, .ref q_t_text, .int v_t_typed, .ref q_t_told, .ref q_t_draft, .ref q_t_s, .ref q_t_images, .ref q_t_kept, .ref q_t_heard, .ref q_t_hours, .int v_t_noted, .int v_t_at, .int v_t_sort, .int v_t_start, .int v_t_value, .ref q_t_row, .ref q_t_best, .int v_t_bestMany, .int v_t_bestWorth, .int v_t_bestHour, .ref q_t_places, .ref q_t_pairs], ia C q_t_told 52 r_t_told, ia C q_t_s 254 r_t_s] H ∧ va_D A [ob q_t 11 [.long v_t_trace, .ref q_t_text, .int v_t_typed, .ref q_t_told, .ref q_t_draft, .ref q_t_s, .ref q_t_images, .ref q_t_kept, .ref q_t_heard, .ref q_t_hours, .int v_t_noted, .int v_t_at, .int v_t_sort, .int v_t_start, .int v_t_value, .ref q_t_row, .ref q_t_best, .int v_t_bestMany, .int v_t_bestWorth, .int v_t_bestHour, .ref q_t_places, .ref q_t_pairs], ia C q_t_told 52 r_t_told, ia C q_t_s 254 r_t_s] ∧ va_S A s.heap H L ∧ lv_has ls 1 [(0, .ref q_t)]) (fun H locs g hI => ?_) (fun Jj2 => ?_)
  · obtain ⟨ls, rfl, hP, hD, hS, hl⟩ := hI
    obtain rfl := Option.some.inj hf
    exact ret_I hx hb hr hlocks hK hP hD hS dX11_spoonAt_29
  · have hf := hrj2
    refine lv_if_eq (tgt := 23) hx hb dX11_spoonAt_4 (by decide) (fun c3 => ?_) (fun c3 => ?_)
    · have hf := of_pos hf c3
      refine lv_aload_n hx hb dX11_spoonAt_23 rfl (lv_at hl 0 rfl) ?_
      refine va_get (D := D) (ci := 11) (v := .ref q_t_told) (C := RX11) (T := TX11) (N := 22) hx hb hts inX11 hown hK hP 0 rfl rfl 3 (by decide) (hts (.fieldLink RX11 13 "LentCourageModel" "told" "[I") (List.mem_of_getElem? (i := 2) rfl)) (fun _ h9 => h9) rfl dX11_spoonAt_24 ?_
      refine lv_iconst (v := (2 : Int32)) hx hb dX11_spoonAt_27 (by decide) ?_
      refine ld_ialdK hx hb hK hP 1 0 rfl rfl (k := 2) (by decide) (by decide) (by decide) dX11_spoonAt_28 ?_
      obtain rfl := Option.some.inj hf
      exact Jj2 _ _ _ ⟨_, rfl, hP, hD, hS, lv_sub hl [0] rfl⟩
    · have hf := of_neg hf c3
      refine lv_aload_n hx hb dX11_spoonAt_7 rfl (lv_at hl 0 rfl) ?_
      refine va_get (D := D) (ci := 11) (v := .ref q_t_s) (C := RX11) (T := TX11) (N := 22) hx hb hts inX11 hown hK hP 0 rfl rfl 5 (by decide) (hts (.fieldLink RX11 19 "LentCourageModel" "s" "[I") (List.mem_of_getElem? (i := 1) rfl)) (fun _ h9 => h9) rfl dX11_spoonAt_8 ?_
      refine lv_iconst (v := (4 : Int32)) hx hb dX11_spoonAt_11 (by decide) ?_
      refine lv_aload_n hx hb dX11_spoonAt_12 rfl (lv_at hl 0 rfl) ?_
      refine va_get (D := D) (ci := 11) (v := .ref q_t_s) (C := RX11) (T := TX11) (N := 22) hx hb hts inX11 hown hK hP 0 rfl rfl 5 (by decide) (hts (.fieldLink RX11 19 "LentCourageModel" "s" "[I") (List.mem_of_getElem? (i := 1) rfl)) (fun _ h9 => h9) rfl dX11_spoonAt_13 ?_
      refine lv_iconst (v := (1 : Int32)) hx hb dX11_spoonAt_16 (by decide) ?_
      refine ld_ialdK hx hb hK hP 2 0 rfl rfl (k := 1) (by decide) (by decide) (by decide) dX11_spoonAt_17 ?_
      refine lv_iadd hx hb dX11_spoonAt_18 ?_
      obtain ⟨h4, hf⟩ := of_chk hf
      refine va_iald hx hb hK hP 2 0 rfl rfl h4 dX11_spoonAt_19 ?_
      refine lv_goto (tgt := 29) hx hb dX11_spoonAt_20 (by decide) ?_
      obtain rfl := Option.some.inj hf
      exact Jj2 _ _ _ ⟨_, rfl, hP, hD, hS, lv_sub hl [0] rfl⟩

def fX11_lends (r_t_told : Nat → Int32) (r_t_s : Nat → Int32) (p1 : Int32) : Option (Int32 × (Nat → Int32)) :=
  (fX11_isOne r_t_told p1).bind (fun o1 => (if o1 = 0 then some ((-1 : Int32), r_t_s) else (if (r_t_s 1) = p1 then some ((-2 : Int32), r_t_s) else chk (vin ((4 : Int32) + p1) 254) ((fX11_spoonAt r_t_told r_t_s).bind (fun o5 => (if (r_t_s ((4 : Int32) + p1).toNatClampNeg) = o5 then (fX11_remembers r_t_s).bind (fun o7 => (fX11_gives r_t_told o7).bind (fun o8 => lt_ ((upd o8.2 1 p1) 0) (fun z9 => some (o8.1, (upd (upd (upd o8.2 1 p1) 2 z9) 3 (1 : Int32)))))) else some ((-2 : Int32), r_t_s)))))))
theorem hd_X11_lends : yX11_lends.cls = RX11 ∧ yX11_lends.cls ≠ "java/lang/invoke/MethodHandle" ∧ yX11_lends.cls ≠ "java/lang/invoke/VarHandle" ∧ (parseMethodDescriptor yX11_lends.desc).map (fun d => d.parameters.length) = some 1 := by decide +kernel
set_option maxHeartbeats 4000000 in
set_option maxRecDepth 100000 in
theorem k_X11_lends (l : Launch) (D : va_G) (C : Nat → ClassId) (q_t : Nat) (q_t_text : Nat) (q_t_told : Nat) (q_t_draft : Nat) (q_t_s : Nat) (q_t_images : Nat) (q_t_kept : Nat) (q_t_heard : Nat) (q_t_hours : Nat) (q_t_row : Nat) (q_t_best : Nat) (q_t_places : Nat) (q_t_pairs : Nat) (v_t_trace : Int64) (v_t_typed : Int32) (v_t_noted : Int32) (v_t_at : Int32) (v_t_sort : Int32) (v_t_start : Int32) (v_t_value : Int32) (v_t_bestMany : Int32) (v_t_bestWorth : Int32) (v_t_bestHour : Int32) (r_t_told : Nat → Int32) (r_t_s : Nat → Int32) (p1 : Int32) (sz : Nat) (out : Int32 × (Nat → Int32)) (hf : fX11_lends r_t_told r_t_s p1 = some out) : MI l yX11_lends wsX11_lends ({ frames := 2, cells := 0, slots := 0, locals := 43 }) D C [.ref q_t, .int p1] [ob q_t 11 [.long v_t_trace, .ref q_t_text, .int v_t_typed, .ref q_t_told, .ref q_t_draft, .ref q_t_s, .ref q_t_images, .ref q_t_kept, .ref q_t_heard, .ref q_t_hours, .int v_t_noted, .int v_t_at, .int v_t_sort, .int v_t_start, .int v_t_value, .ref q_t_row, .ref q_t_best, .int v_t_bestMany, .int v_t_bestWorth, .int v_t_bestHour, .ref q_t_places, .ref q_t_pairs], ia C q_t_told 52 r_t_told, ia C q_t_s 254 r_t_s] [ob q_t 11 [.long v_t_trace, .ref q_t_text, .int v_t_typed, .ref q_t_told, .ref q_t_draft, .ref q_t_s, .ref q_t_images, .ref q_t_kept, .ref q_t_heard, .ref q_t_hours, .int v_t_noted, .int v_t_at, .int v_t_sort, .int v_t_start, .int v_t_value, .ref q_t_row, .ref q_t_best, .int v_t_bestMany, .int v_t_bestWorth, .int v_t_bestHour, .ref q_t_places, .ref q_t_pairs], ia C q_t_told 52 r_t_told, ia C q_t_s 254 out.2] sz (out.1) := by
  unfold fX11_lends at hf
  refine en_I (by decide) rfl (Nat.le_of_ble_eq_true rfl) ?_
  intro p e s m below meth c A ls H locs hx hb hr hlocks hml hts hown hK hP hD hS hA hl
  have hl : lv_has ls 3 [(0, .ref q_t), (1, .int p1)] := hl
  have inX11 : ∀ w ∈ u_ws RX11 TX11 22, w ∈ wsX11_lends := fun w h => List.mem_cons_of_mem _ (List.mem_append_right _ h)
  refine lv_aload_n hx hb dX11_lends_0 rfl (lv_at hl 0 rfl) ?_
  refine lv_iload_n hx hb dX11_lends_1 rfl (lv_at hl 1 rfl) ?_
  obtain ⟨o1, ho1, hf⟩ := of_bind hf
  refine c_I (wr := [ia C q_t_s 254 r_t_s]) (W2 := [ob q_t 11 [.long v_t_trace, .ref q_t_text, .int v_t_typed, .ref q_t_told, .ref q_t_draft, .ref q_t_s, .ref q_t_images, .ref q_t_kept, .ref q_t_heard, .ref q_t_hours, .int v_t_noted, .int v_t_at, .int v_t_sort, .int v_t_start, .int v_t_value, .ref q_t_row, .ref q_t_best, .int v_t_bestMany, .int v_t_bestWorth, .int v_t_bestHour, .ref q_t_places, .ref q_t_pairs], ia C q_t_told 52 r_t_told, ia C q_t_s 254 r_t_s]) (cV_run ⟨hx, hb, hml, hown, hts⟩ (k_X11_isOne l D C q_t q_t_text q_t_told q_t_draft q_t_s q_t_images q_t_kept q_t_heard q_t_hours q_t_row q_t_best q_t_places q_t_pairs v_t_trace v_t_typed v_t_noted v_t_at v_t_sort v_t_start v_t_value v_t_bestMany v_t_bestWorth v_t_bestHour r_t_told p1 H.size o1 ho1) gX11_lends_X11_isOne rfl ⟨rfl, rfl⟩ hd_X11_isOne ⟨(Nat.le_of_ble_eq_true rfl), (Nat.le_of_ble_eq_true rfl)⟩ rfl hK (cut_in hK hP hD [0, 1] rfl (by decide)) (ci := 11) rfl rfl rfl hl.1 rfl (Nat.le_of_ble_eq_true rfl) dX11_lends_2 ⟨Nat.zero_le _, Nat.zero_le _⟩) hP hD hS hA [0, 1] [2] [1, 2, 0] rfl rfl (by decide) (by decide) rfl (by decide) (fun H locs hP hD hS => ?_)
  have hP : va_P D vwCl [ob q_t 11 [.long v_t_trace, .ref q_t_text, .int v_t_typed, .ref q_t_told, .ref q_t_draft, .ref q_t_s, .ref q_t_images, .ref q_t_kept, .ref q_t_heard, .ref q_t_hours, .int v_t_noted, .int v_t_at, .int v_t_sort, .int v_t_start, .int v_t_value, .ref q_t_row, .ref q_t_best, .int v_t_bestMany, .int v_t_bestWorth, .int v_t_bestHour, .ref q_t_places, .ref q_t_pairs], ia C q_t_told 52 r_t_told, ia C q_t_s 254 r_t_s] H := hP
  have hD : va_D A [ob q_t 11 [.long v_t_trace, .ref q_t_text, .int v_t_typed, .ref q_t_told, .ref q_t_draft, .ref q_t_s, .ref q_t_images, .ref q_t_kept, .ref q_t_heard, .ref q_t_hours, .int v_t_noted, .int v_t_at, .int v_t_sort, .int v_t_start, .int v_t_value, .ref q_t_row, .ref q_t_best, .int v_t_bestMany, .int v_t_bestWorth, .int v_t_bestHour, .ref q_t_places, .ref q_t_pairs], ia C q_t_told 52 r_t_told, ia C q_t_s 254 r_t_s] := hD
  refine lv_if_ne (tgt := 10) hx hb dX11_lends_5 (by decide) (fun c2 => ?_) (fun c2 => ?_)
  · have hf := of_neg hf c2
    refine lv_aload_n hx hb dX11_lends_10 rfl (lv_at hl 0 rfl) ?_
    refine va_get (D := D) (ci := 11) (v := .ref q_t_s) (C := RX11) (T := TX11) (N := 22) hx hb hts inX11 hown hK hP 0 rfl rfl 5 (by decide) (hts (.fieldLink RX11 19 "LentCourageModel" "s" "[I") (List.mem_of_getElem? (i := 1) rfl)) (fun _ h9 => h9) rfl dX11_lends_11 ?_
    refine lv_iconst (v := (1 : Int32)) hx hb dX11_lends_14 (by decide) ?_
    refine ld_ialdK hx hb hK hP 2 0 rfl rfl (k := 1) (by decide) (by decide) (by decide) dX11_lends_15 ?_
    refine lv_iload_n hx hb dX11_lends_16 rfl (lv_at hl 1 rfl) ?_
    refine lv_icmp_eq (tgt := 35) hx hb dX11_lends_17 (by decide) (fun c3 => ?_) (fun c3 => ?_)
    · have hf := of_pos hf c3
      refine lv_bipush (v := (-2 : Int32)) hx hb dX11_lends_35 (by decide) ?_
      obtain rfl := Option.some.inj hf
      exact ret_I hx hb hr hlocks hK hP hD hS dX11_lends_37
    · have hf := of_neg hf c3
      refine lv_aload_n hx hb dX11_lends_20 rfl (lv_at hl 0 rfl) ?_
      refine va_get (D := D) (ci := 11) (v := .ref q_t_s) (C := RX11) (T := TX11) (N := 22) hx hb hts inX11 hown hK hP 0 rfl rfl 5 (by decide) (hts (.fieldLink RX11 19 "LentCourageModel" "s" "[I") (List.mem_of_getElem? (i := 1) rfl)) (fun _ h9 => h9) rfl dX11_lends_21 ?_
      refine lv_iconst (v := (4 : Int32)) hx hb dX11_lends_24 (by decide) ?_
      refine lv_iload_n hx hb dX11_lends_25 rfl (lv_at hl 1 rfl) ?_
      refine lv_iadd hx hb dX11_lends_26 ?_
      obtain ⟨h4, hf⟩ := of_chk hf
      refine va_iald hx hb hK hP 2 0 rfl rfl h4 dX11_lends_27 ?_
      refine lv_aload_n hx hb dX11_lends_28 rfl (lv_at hl 0 rfl) ?_
      obtain ⟨o5, ho5, hf⟩ := of_bind hf
      refine c_I (wr := []) (W2 := [ob q_t 11 [.long v_t_trace, .ref q_t_text, .int v_t_typed, .ref q_t_told, .ref q_t_draft, .ref q_t_s, .ref q_t_images, .ref q_t_kept, .ref q_t_heard, .ref q_t_hours, .int v_t_noted, .int v_t_at, .int v_t_sort, .int v_t_start, .int v_t_value, .ref q_t_row, .ref q_t_best, .int v_t_bestMany, .int v_t_bestWorth, .int v_t_bestHour, .ref q_t_places, .ref q_t_pairs], ia C q_t_told 52 r_t_told, ia C q_t_s 254 r_t_s]) (cV_run ⟨hx, hb, hml, hown, hts⟩ (k_X11_spoonAt l D C q_t q_t_text q_t_told q_t_draft q_t_s q_t_images q_t_kept q_t_heard q_t_hours q_t_row q_t_best q_t_places q_t_pairs v_t_trace v_t_typed v_t_noted v_t_at v_t_sort v_t_start v_t_value v_t_bestMany v_t_bestWorth v_t_bestHour r_t_told r_t_s H.size o5 ho5) gX11_lends_X11_spoonAt rfl ⟨rfl, rfl⟩ hd_X11_spoonAt ⟨(Nat.le_of_ble_eq_true rfl), (Nat.le_of_ble_eq_true rfl)⟩ rfl hK (cut_in hK hP hD [0, 1, 2] rfl (by decide)) (ci := 11) rfl rfl rfl hl.1 rfl (Nat.le_of_ble_eq_true rfl) dX11_lends_29 ⟨Nat.zero_le _, Nat.zero_le _⟩) hP hD hS hA [0, 1, 2] [] [0, 1, 2] rfl rfl (by decide) (by decide) rfl (by decide) (fun H locs hP hD hS => ?_)
      have hP : va_P D vwCl [ob q_t 11 [.long v_t_trace, .ref q_t_text, .int v_t_typed, .ref q_t_told, .ref q_t_draft, .ref q_t_s, .ref q_t_images, .ref q_t_kept, .ref q_t_heard, .ref q_t_hours, .int v_t_noted, .int v_t_at, .int v_t_sort, .int v_t_start, .int v_t_value, .ref q_t_row, .ref q_t_best, .int v_t_bestMany, .int v_t_bestWorth, .int v_t_bestHour, .ref q_t_places, .ref q_t_pairs], ia C q_t_told 52 r_t_told, ia C q_t_s 254 r_t_s] H := hP
      have hD : va_D A [ob q_t 11 [.long v_t_trace, .ref q_t_text, .int v_t_typed, .ref q_t_told, .ref q_t_draft, .ref q_t_s, .ref q_t_images, .ref q_t_kept, .ref q_t_heard, .ref q_t_hours, .int v_t_noted, .int v_t_at, .int v_t_sort, .int v_t_start, .int v_t_value, .ref q_t_row, .ref q_t_best, .int v_t_bestMany, .int v_t_bestWorth, .int v_t_bestHour, .ref q_t_places, .ref q_t_pairs], ia C q_t_told 52 r_t_told, ia C q_t_s 254 r_t_s] := hD
      refine lv_icmp_eq (tgt := 38) hx hb dX11_lends_32 (by decide) (fun c6 => ?_) (fun c6 => ?_)
      · have hf := of_pos hf c6
        refine lv_aload_n hx hb dX11_lends_38 rfl (lv_at hl 0 rfl) ?_
        obtain ⟨o7, ho7, hf⟩ := of_bind hf
        refine c_V (wr := [ia C q_t_told 52 r_t_told]) (W2 := [ob q_t 11 [.long v_t_trace, .ref q_t_text, .int v_t_typed, .ref q_t_told, .ref q_t_draft, .ref q_t_s, .ref q_t_images, .ref q_t_kept, .ref q_t_heard, .ref q_t_hours, .int v_t_noted, .int v_t_at, .int v_t_sort, .int v_t_start, .int v_t_value, .ref q_t_row, .ref q_t_best, .int v_t_bestMany, .int v_t_bestWorth, .int v_t_bestHour, .ref q_t_places, .ref q_t_pairs], ia C q_t_told 52 r_t_told, ia C q_t_s 254 o7]) (cV_run ⟨hx, hb, hml, hown, hts⟩ (k_X11_remembers l D C q_t q_t_text q_t_told q_t_draft q_t_s q_t_images q_t_kept q_t_heard q_t_hours q_t_row q_t_best q_t_places q_t_pairs v_t_trace v_t_typed v_t_noted v_t_at v_t_sort v_t_start v_t_value v_t_bestMany v_t_bestWorth v_t_bestHour r_t_s H.size o7 ho7) gX11_lends_X11_remembers rfl ⟨rfl, rfl⟩ hd_X11_remembers ⟨(Nat.le_of_ble_eq_true rfl), (Nat.le_of_ble_eq_true rfl)⟩ rfl hK (cut_in hK hP hD [0, 2] rfl (by decide)) (ci := 11) rfl rfl rfl hl.1 rfl (Nat.le_of_ble_eq_true rfl) dX11_lends_39 ⟨Nat.zero_le _, Nat.zero_le _⟩) hP hD hS hA [0, 2] [1] [1, 0, 2] rfl rfl (by decide) (by decide) rfl (by decide) (fun H locs hP hD hS => ?_)
        have hP : va_P D vwCl [ob q_t 11 [.long v_t_trace, .ref q_t_text, .int v_t_typed, .ref q_t_told, .ref q_t_draft, .ref q_t_s, .ref q_t_images, .ref q_t_kept, .ref q_t_heard, .ref q_t_hours, .int v_t_noted, .int v_t_at, .int v_t_sort, .int v_t_start, .int v_t_value, .ref q_t_row, .ref q_t_best, .int v_t_bestMany, .int v_t_bestWorth, .int v_t_bestHour, .ref q_t_places, .ref q_t_pairs], ia C q_t_told 52 r_t_told, ia C q_t_s 254 o7] H := hP
        have hD : va_D A [ob q_t 11 [.long v_t_trace, .ref q_t_text, .int v_t_typed, .ref q_t_told, .ref q_t_draft, .ref q_t_s, .ref q_t_images, .ref q_t_kept, .ref q_t_heard, .ref q_t_hours, .int v_t_noted, .int v_t_at, .int v_t_sort, .int v_t_start, .int v_t_value, .ref q_t_row, .ref q_t_best, .int v_t_bestMany, .int v_t_bestWorth, .int v_t_bestHour, .ref q_t_places, .ref q_t_pairs], ia C q_t_told 52 r_t_told, ia C q_t_s 254 o7] := hD
        refine lv_aload_n hx hb dX11_lends_42 rfl (lv_at hl 0 rfl) ?_
        obtain ⟨o8, ho8, hf⟩ := of_bind hf
        refine c_I (wr := []) (W2 := [ob q_t 11 [.long v_t_trace, .ref q_t_text, .int v_t_typed, .ref q_t_told, .ref q_t_draft, .ref q_t_s, .ref q_t_images, .ref q_t_kept, .ref q_t_heard, .ref q_t_hours, .int v_t_noted, .int v_t_at, .int v_t_sort, .int v_t_start, .int v_t_value, .ref q_t_row, .ref q_t_best, .int v_t_bestMany, .int v_t_bestWorth, .int v_t_bestHour, .ref q_t_places, .ref q_t_pairs], ia C q_t_told 52 r_t_told, ia C q_t_s 254 o8.2]) (cV_run ⟨hx, hb, hml, hown, hts⟩ (k_X11_gives l D C q_t q_t_text q_t_told q_t_draft q_t_s q_t_images q_t_kept q_t_heard q_t_hours q_t_row q_t_best q_t_places q_t_pairs v_t_trace v_t_typed v_t_noted v_t_at v_t_sort v_t_start v_t_value v_t_bestMany v_t_bestWorth v_t_bestHour r_t_told o7 H.size o8 ho8) gX11_lends_X11_gives rfl ⟨rfl, rfl⟩ hd_X11_gives ⟨(Nat.le_of_ble_eq_true rfl), (Nat.le_of_ble_eq_true rfl)⟩ rfl hK (cut_in hK hP hD [0, 1, 2] rfl (by decide)) (ci := 11) rfl rfl rfl hl.1 rfl (Nat.le_of_ble_eq_true rfl) dX11_lends_43 ⟨Nat.zero_le _, Nat.zero_le _⟩) hP hD hS hA [0, 1, 2] [] [0, 1, 2] rfl rfl (by decide) (by decide) rfl (by decide) (fun H locs hP hD hS => ?_)
        have hP : va_P D vwCl [ob q_t 11 [.long v_t_trace, .ref q_t_text, .int v_t_typed, .ref q_t_told, .ref q_t_draft, .ref q_t_s, .ref q_t_images, .ref q_t_kept, .ref q_t_heard, .ref q_t_hours, .int v_t_noted, .int v_t_at, .int v_t_sort, .int v_t_start, .int v_t_value, .ref q_t_row, .ref q_t_best, .int v_t_bestMany, .int v_t_bestWorth, .int v_t_bestHour, .ref q_t_places, .ref q_t_pairs], ia C q_t_told 52 r_t_told, ia C q_t_s 254 o8.2] H := hP
        have hD : va_D A [ob q_t 11 [.long v_t_trace, .ref q_t_text, .int v_t_typed, .ref q_t_told, .ref q_t_draft, .ref q_t_s, .ref q_t_images, .ref q_t_kept, .ref q_t_heard, .ref q_t_hours, .int v_t_noted, .int v_t_at, .int v_t_sort, .int v_t_start, .int v_t_value, .ref q_t_row, .ref q_t_best, .int v_t_bestMany, .int v_t_bestWorth, .int v_t_bestHour, .ref q_t_places, .ref q_t_pairs], ia C q_t_told 52 r_t_told, ia C q_t_s 254 o8.2] := hD
        refine lv_istore_n (lv' := [(2, .int o8.1), (0, .ref q_t), (1, .int p1)]) hx hb dX11_lends_46 rfl hl (by decide) rfl (fun ls hl => ?_)
        refine lv_aload_n hx hb dX11_lends_47 rfl (lv_at hl 1 rfl) ?_
        refine va_get (D := D) (ci := 11) (v := .ref q_t_s) (C := RX11) (T := TX11) (N := 22) hx hb hts inX11 hown hK hP 0 rfl rfl 5 (by decide) (hts (.fieldLink RX11 19 "LentCourageModel" "s" "[I") (List.mem_of_getElem? (i := 1) rfl)) (fun _ h9 => h9) rfl dX11_lends_48 ?_
        refine lv_iconst (v := (1 : Int32)) hx hb dX11_lends_51 (by decide) ?_
        refine lv_iload_n hx hb dX11_lends_52 rfl (lv_at hl 2 rfl) ?_
        refine st_IK hx hb hK hP hD hS 2 0 rfl rfl (k := 1) (by decide) (by decide) (by decide) dX11_lends_53 (fun H locs hP hD hS => ?_)
        have hP : va_P D vwCl [ob q_t 11 [.long v_t_trace, .ref q_t_text, .int v_t_typed, .ref q_t_told, .ref q_t_draft, .ref q_t_s, .ref q_t_images, .ref q_t_kept, .ref q_t_heard, .ref q_t_hours, .int v_t_noted, .int v_t_at, .int v_t_sort, .int v_t_start, .int v_t_value, .ref q_t_row, .ref q_t_best, .int v_t_bestMany, .int v_t_bestWorth, .int v_t_bestHour, .ref q_t_places, .ref q_t_pairs], ia C q_t_told 52 r_t_told, ia C q_t_s 254 (upd o8.2 1 p1)] H := hP
        have hD : va_D A [ob q_t 11 [.long v_t_trace, .ref q_t_text, .int v_t_typed, .ref q_t_told, .ref q_t_draft, .ref q_t_s, .ref q_t_images, .ref q_t_kept, .ref q_t_heard, .ref q_t_hours, .int v_t_noted, .int v_t_at, .int v_t_sort, .int v_t_start, .int v_t_value, .ref q_t_row, .ref q_t_best, .int v_t_bestMany, .int v_t_bestWorth, .int v_t_bestHour, .ref q_t_places, .ref q_t_pairs], ia C q_t_told 52 r_t_told, ia C q_t_s 254 (upd o8.2 1 p1)] := hD
        refine lv_aload_n hx hb dX11_lends_54 rfl (lv_at hl 1 rfl) ?_
        refine va_get (D := D) (ci := 11) (v := .ref q_t_s) (C := RX11) (T := TX11) (N := 22) hx hb hts inX11 hown hK hP 0 rfl rfl 5 (by decide) (hts (.fieldLink RX11 19 "LentCourageModel" "s" "[I") (List.mem_of_getElem? (i := 1) rfl)) (fun _ h9 => h9) rfl dX11_lends_55 ?_
        refine lv_iconst (v := (2 : Int32)) hx hb dX11_lends_58 (by decide) ?_
        refine lv_aload_n hx hb dX11_lends_59 rfl (lv_at hl 1 rfl) ?_
        refine va_get (D := D) (ci := 11) (v := .ref q_t_s) (C := RX11) (T := TX11) (N := 22) hx hb hts inX11 hown hK hP 0 rfl rfl 5 (by decide) (hts (.fieldLink RX11 19 "LentCourageModel" "s" "[I") (List.mem_of_getElem? (i := 1) rfl)) (fun _ h9 => h9) rfl dX11_lends_60 ?_
        refine lv_iconst (v := (0 : Int32)) hx hb dX11_lends_63 (by decide) ?_
        refine ld_ialdK hx hb hK hP 2 0 rfl rfl (k := 0) (by decide) (by decide) (by decide) dX11_lends_64 ?_
        refine lv_topi (fun z9 ez9 => ?_)
        have hf := of_lt hf ez9
        refine st_IK hx hb hK hP hD hS 2 0 rfl rfl (k := 2) (by decide) (by decide) (by decide) dX11_lends_65 (fun H locs hP hD hS => ?_)
        have hP : va_P D vwCl [ob q_t 11 [.long v_t_trace, .ref q_t_text, .int v_t_typed, .ref q_t_told, .ref q_t_draft, .ref q_t_s, .ref q_t_images, .ref q_t_kept, .ref q_t_heard, .ref q_t_hours, .int v_t_noted, .int v_t_at, .int v_t_sort, .int v_t_start, .int v_t_value, .ref q_t_row, .ref q_t_best, .int v_t_bestMany, .int v_t_bestWorth, .int v_t_bestHour, .ref q_t_places, .ref q_t_pairs], ia C q_t_told 52 r_t_told, ia C q_t_s 254 (upd (upd o8.2 1 p1) 2 z9)] H := hP
        have hD : va_D A [ob q_t 11 [.long v_t_trace, .ref q_t_text, .int v_t_typed, .ref q_t_told, .ref q_t_draft, .ref q_t_s, .ref q_t_images, .ref q_t_kept, .ref q_t_heard, .ref q_t_hours, .int v_t_noted, .int v_t_at, .int v_t_sort, .int v_t_start, .int v_t_value, .ref q_t_row, .ref q_t_best, .int v_t_bestMany, .int v_t_bestWorth, .int v_t_bestHour, .ref q_t_places, .ref q_t_pairs], ia C q_t_told 52 r_t_told, ia C q_t_s 254 (upd (upd o8.2 1 p1) 2 z9)] := hD
        refine lv_aload_n hx hb dX11_lends_66 rfl (lv_at hl 1 rfl) ?_
        refine va_get (D := D) (ci := 11) (v := .ref q_t_s) (C := RX11) (T := TX11) (N := 22) hx hb hts inX11 hown hK hP 0 rfl rfl 5 (by decide) (hts (.fieldLink RX11 19 "LentCourageModel" "s" "[I") (List.mem_of_getElem? (i := 1) rfl)) (fun _ h9 => h9) rfl dX11_lends_67 ?_
        refine lv_iconst (v := (3 : Int32)) hx hb dX11_lends_70 (by decide) ?_
        refine lv_iconst (v := (1 : Int32)) hx hb dX11_lends_71 (by decide) ?_
        refine st_IK hx hb hK hP hD hS 2 0 rfl rfl (k := 3) (by decide) (by decide) (by decide) dX11_lends_72 (fun H locs hP hD hS => ?_)
        have hP : va_P D vwCl [ob q_t 11 [.long v_t_trace, .ref q_t_text, .int v_t_typed, .ref q_t_told, .ref q_t_draft, .ref q_t_s, .ref q_t_images, .ref q_t_kept, .ref q_t_heard, .ref q_t_hours, .int v_t_noted, .int v_t_at, .int v_t_sort, .int v_t_start, .int v_t_value, .ref q_t_row, .ref q_t_best, .int v_t_bestMany, .int v_t_bestWorth, .int v_t_bestHour, .ref q_t_places, .ref q_t_pairs], ia C q_t_told 52 r_t_told, ia C q_t_s 254 (upd (upd (upd o8.2 1 p1) 2 z9) 3 (1 : Int32))] H := hP
        have hD : va_D A [ob q_t 11 [.long v_t_trace, .ref q_t_text, .int v_t_typed, .ref q_t_told, .ref q_t_draft, .ref q_t_s, .ref q_t_images, .ref q_t_kept, .ref q_t_heard, .ref q_t_hours, .int v_t_noted, .int v_t_at, .int v_t_sort, .int v_t_start, .int v_t_value, .ref q_t_row, .ref q_t_best, .int v_t_bestMany, .int v_t_bestWorth, .int v_t_bestHour, .ref q_t_places, .ref q_t_pairs], ia C q_t_told 52 r_t_told, ia C q_t_s 254 (upd (upd (upd o8.2 1 p1) 2 z9) 3 (1 : Int32))] := hD
        refine lv_iload_n hx hb dX11_lends_73 rfl (lv_at hl 0 rfl) ?_
        obtain rfl := Option.some.inj hf
        exact ret_I hx hb hr hlocks hK hP hD hS dX11_lends_74
      · have hf := of_neg hf c6
        refine lv_bipush (v := (-2 : Int32)) hx hb dX11_lends_35 (by decide) ?_
        obtain rfl := Option.some.inj hf
        exact ret_I hx hb hr hlocks hK hP hD hS dX11_lends_37
  · have hf := of_pos hf c2
    refine lv_iconst (v := (-1 : Int32)) hx hb dX11_lends_8 (by decide) ?_
    obtain rfl := Option.some.inj hf
    exact ret_I hx hb hr hlocks hK hP hD hS dX11_lends_9

def fX11_brings (r_t_told : Nat → Int32) (r_t_s : Nat → Int32) : Option (Int32 × (Nat → Int32)) :=
  (fX11_isHeld r_t_s).bind (fun o1 => (if o1 = 0 then some ((-2 : Int32), r_t_s) else (fX11_spoonAt r_t_told r_t_s).bind (fun o3 => (if o3 = (r_t_told 2) then (fX11_remembers r_t_s).bind (fun o5 => (fX11_gives r_t_told o5).bind (fun o6 => some (o6.1, (upd (upd (upd o6.2 1 (-9 : Int32)) 2 (0 : Int32)) 3 (0 : Int32))))) else some ((-2 : Int32), r_t_s)))))
theorem hd_X11_brings : yX11_brings.cls = RX11 ∧ yX11_brings.cls ≠ "java/lang/invoke/MethodHandle" ∧ yX11_brings.cls ≠ "java/lang/invoke/VarHandle" ∧ (parseMethodDescriptor yX11_brings.desc).map (fun d => d.parameters.length) = some 0 := by decide +kernel
set_option maxHeartbeats 4000000 in
set_option maxRecDepth 100000 in
theorem k_X11_brings (l : Launch) (D : va_G) (C : Nat → ClassId) (q_t : Nat) (q_t_text : Nat) (q_t_told : Nat) (q_t_draft : Nat) (q_t_s : Nat) (q_t_images : Nat) (q_t_kept : Nat) (q_t_heard : Nat) (q_t_hours : Nat) (q_t_row : Nat) (q_t_best : Nat) (q_t_places : Nat) (q_t_pairs : Nat) (v_t_trace : Int64) (v_t_typed : Int32) (v_t_noted : Int32) (v_t_at : Int32) (v_t_sort : Int32) (v_t_start : Int32) (v_t_value : Int32) (v_t_bestMany : Int32) (v_t_bestWorth : Int32) (v_t_bestHour : Int32) (r_t_told : Nat → Int32) (r_t_s : Nat → Int32) (sz : Nat) (out : Int32 × (Nat → Int32)) (hf : fX11_brings r_t_told r_t_s = some out) : MI l yX11_brings wsX11_brings ({ frames := 2, cells := 0, slots := 0, locals := 43 }) D C [.ref q_t] [ob q_t 11 [.long v_t_trace, .ref q_t_text, .int v_t_typed, .ref q_t_told, .ref q_t_draft, .ref q_t_s, .ref q_t_images, .ref q_t_kept, .ref q_t_heard, .ref q_t_hours, .int v_t_noted, .int v_t_at, .int v_t_sort, .int v_t_start, .int v_t_value, .ref q_t_row, .ref q_t_best, .int v_t_bestMany, .int v_t_bestWorth, .int v_t_bestHour, .ref q_t_places, .ref q_t_pairs], ia C q_t_told 52 r_t_told, ia C q_t_s 254 r_t_s] [ob q_t 11 [.long v_t_trace, .ref q_t_text, .int v_t_typed, .ref q_t_told, .ref q_t_draft, .ref q_t_s, .ref q_t_images, .ref q_t_kept, .ref q_t_heard, .ref q_t_hours, .int v_t_noted, .int v_t_at, .int v_t_sort, .int v_t_start, .int v_t_value, .ref q_t_row, .ref q_t_best, .int v_t_bestMany, .int v_t_bestWorth, .int v_t_bestHour, .ref q_t_places, .ref q_t_pairs], ia C q_t_told 52 r_t_told, ia C q_t_s 254 out.2] sz (out.1) := by
  unfold fX11_brings at hf
  refine en_I (by decide) rfl (Nat.le_of_ble_eq_true rfl) ?_
  intro p e s m below meth c A ls H locs hx hb hr hlocks hml hts hown hK hP hD hS hA hl
  have hl : lv_has ls 2 [(0, .ref q_t)] := hl
  have inX11 : ∀ w ∈ u_ws RX11 TX11 22, w ∈ wsX11_brings := fun w h => List.mem_cons_of_mem _ (List.mem_append_right _ h)
  refine lv_aload_n hx hb dX11_brings_0 rfl (lv_at hl 0 rfl) ?_
  obtain ⟨o1, ho1, hf⟩ := of_bind hf
  refine c_I (wr := [ia C q_t_told 52 r_t_told]) (W2 := [ob q_t 11 [.long v_t_trace, .ref q_t_text, .int v_t_typed, .ref q_t_told, .ref q_t_draft, .ref q_t_s, .ref q_t_images, .ref q_t_kept, .ref q_t_heard, .ref q_t_hours, .int v_t_noted, .int v_t_at, .int v_t_sort, .int v_t_start, .int v_t_value, .ref q_t_row, .ref q_t_best, .int v_t_bestMany, .int v_t_bestWorth, .int v_t_bestHour, .ref q_t_places, .ref q_t_pairs], ia C q_t_told 52 r_t_told, ia C q_t_s 254 r_t_s]) (cV_run ⟨hx, hb, hml, hown, hts⟩ (k_X11_isHeld l D C q_t q_t_text q_t_told q_t_draft q_t_s q_t_images q_t_kept q_t_heard q_t_hours q_t_row q_t_best q_t_places q_t_pairs v_t_trace v_t_typed v_t_noted v_t_at v_t_sort v_t_start v_t_value v_t_bestMany v_t_bestWorth v_t_bestHour r_t_s H.size o1 ho1) gX11_brings_X11_isHeld rfl ⟨rfl, rfl⟩ hd_X11_isHeld ⟨(Nat.le_of_ble_eq_true rfl), (Nat.le_of_ble_eq_true rfl)⟩ rfl hK (cut_in hK hP hD [0, 2] rfl (by decide)) (ci := 11) rfl rfl rfl hl.1 rfl (Nat.le_of_ble_eq_true rfl) dX11_brings_1 ⟨Nat.zero_le _, Nat.zero_le _⟩) hP hD hS hA [0, 2] [1] [1, 0, 2] rfl rfl (by decide) (by decide) rfl (by decide) (fun H locs hP hD hS => ?_)
  have hP : va_P D vwCl [ob q_t 11 [.long v_t_trace, .ref q_t_text, .int v_t_typed, .ref q_t_told, .ref q_t_draft, .ref q_t_s, .ref q_t_images, .ref q_t_kept, .ref q_t_heard, .ref q_t_hours, .int v_t_noted, .int v_t_at, .int v_t_sort, .int v_t_start, .int v_t_value, .ref q_t_row, .ref q_t_best, .int v_t_bestMany, .int v_t_bestWorth, .int v_t_bestHour, .ref q_t_places, .ref q_t_pairs], ia C q_t_told 52 r_t_told, ia C q_t_s 254 r_t_s] H := hP
  have hD : va_D A [ob q_t 11 [.long v_t_trace, .ref q_t_text, .int v_t_typed, .ref q_t_told, .ref q_t_draft, .ref q_t_s, .ref q_t_images, .ref q_t_kept, .ref q_t_heard, .ref q_t_hours, .int v_t_noted, .int v_t_at, .int v_t_sort, .int v_t_start, .int v_t_value, .ref q_t_row, .ref q_t_best, .int v_t_bestMany, .int v_t_bestWorth, .int v_t_bestHour, .ref q_t_places, .ref q_t_pairs], ia C q_t_told 52 r_t_told, ia C q_t_s 254 r_t_s] := hD
  refine lv_if_eq (tgt := 20) hx hb dX11_brings_4 (by decide) (fun c2 => ?_) (fun c2 => ?_)
  · have hf := of_pos hf c2
    refine lv_bipush (v := (-2 : Int32)) hx hb dX11_brings_20 (by decide) ?_
    obtain rfl := Option.some.inj hf
    exact ret_I hx hb hr hlocks hK hP hD hS dX11_brings_22
  · have hf := of_neg hf c2
    refine lv_aload_n hx hb dX11_brings_7 rfl (lv_at hl 0 rfl) ?_
    obtain ⟨o3, ho3, hf⟩ := of_bind hf
    refine c_I (wr := []) (W2 := [ob q_t 11 [.long v_t_trace, .ref q_t_text, .int v_t_typed, .ref q_t_told, .ref q_t_draft, .ref q_t_s, .ref q_t_images, .ref q_t_kept, .ref q_t_heard, .ref q_t_hours, .int v_t_noted, .int v_t_at, .int v_t_sort, .int v_t_start, .int v_t_value, .ref q_t_row, .ref q_t_best, .int v_t_bestMany, .int v_t_bestWorth, .int v_t_bestHour, .ref q_t_places, .ref q_t_pairs], ia C q_t_told 52 r_t_told, ia C q_t_s 254 r_t_s]) (cV_run ⟨hx, hb, hml, hown, hts⟩ (k_X11_spoonAt l D C q_t q_t_text q_t_told q_t_draft q_t_s q_t_images q_t_kept q_t_heard q_t_hours q_t_row q_t_best q_t_places q_t_pairs v_t_trace v_t_typed v_t_noted v_t_at v_t_sort v_t_start v_t_value v_t_bestMany v_t_bestWorth v_t_bestHour r_t_told r_t_s H.size o3 ho3) gX11_brings_X11_spoonAt rfl ⟨rfl, rfl⟩ hd_X11_spoonAt ⟨(Nat.le_of_ble_eq_true rfl), (Nat.le_of_ble_eq_true rfl)⟩ rfl hK (cut_in hK hP hD [0, 1, 2] rfl (by decide)) (ci := 11) rfl rfl rfl hl.1 rfl (Nat.le_of_ble_eq_true rfl) dX11_brings_8 ⟨Nat.zero_le _, Nat.zero_le _⟩) hP hD hS hA [0, 1, 2] [] [0, 1, 2] rfl rfl (by decide) (by decide) rfl (by decide) (fun H locs hP hD hS => ?_)
    have hP : va_P D vwCl [ob q_t 11 [.long v_t_trace, .ref q_t_text, .int v_t_typed, .ref q_t_told, .ref q_t_draft, .ref q_t_s, .ref q_t_images, .ref q_t_kept, .ref q_t_heard, .ref q_t_hours, .int v_t_noted, .int v_t_at, .int v_t_sort, .int v_t_start, .int v_t_value, .ref q_t_row, .ref q_t_best, .int v_t_bestMany, .int v_t_bestWorth, .int v_t_bestHour, .ref q_t_places, .ref q_t_pairs], ia C q_t_told 52 r_t_told, ia C q_t_s 254 r_t_s] H := hP
    have hD : va_D A [ob q_t 11 [.long v_t_trace, .ref q_t_text, .int v_t_typed, .ref q_t_told, .ref q_t_draft, .ref q_t_s, .ref q_t_images, .ref q_t_kept, .ref q_t_heard, .ref q_t_hours, .int v_t_noted, .int v_t_at, .int v_t_sort, .int v_t_start, .int v_t_value, .ref q_t_row, .ref q_t_best, .int v_t_bestMany, .int v_t_bestWorth, .int v_t_bestHour, .ref q_t_places, .ref q_t_pairs], ia C q_t_told 52 r_t_told, ia C q_t_s 254 r_t_s] := hD
    refine lv_aload_n hx hb dX11_brings_11 rfl (lv_at hl 0 rfl) ?_
    refine va_get (D := D) (ci := 11) (v := .ref q_t_told) (C := RX11) (T := TX11) (N := 22) hx hb hts inX11 hown hK hP 0 rfl rfl 3 (by decide) (hts (.fieldLink RX11 13 "LentCourageModel" "told" "[I") (List.mem_of_getElem? (i := 1) rfl)) (fun _ h9 => h9) rfl dX11_brings_12 ?_
    refine lv_iconst (v := (2 : Int32)) hx hb dX11_brings_15 (by decide) ?_
    refine ld_ialdK hx hb hK hP 1 0 rfl rfl (k := 2) (by decide) (by decide) (by decide) dX11_brings_16 ?_
    refine lv_icmp_eq (tgt := 23) hx hb dX11_brings_17 (by decide) (fun c4 => ?_) (fun c4 => ?_)
    · have hf := of_pos hf c4
      refine lv_aload_n hx hb dX11_brings_23 rfl (lv_at hl 0 rfl) ?_
      obtain ⟨o5, ho5, hf⟩ := of_bind hf
      refine c_V (wr := [ia C q_t_told 52 r_t_told]) (W2 := [ob q_t 11 [.long v_t_trace, .ref q_t_text, .int v_t_typed, .ref q_t_told, .ref q_t_draft, .ref q_t_s, .ref q_t_images, .ref q_t_kept, .ref q_t_heard, .ref q_t_hours, .int v_t_noted, .int v_t_at, .int v_t_sort, .int v_t_start, .int v_t_value, .ref q_t_row, .ref q_t_best, .int v_t_bestMany, .int v_t_bestWorth, .int v_t_bestHour, .ref q_t_places, .ref q_t_pairs], ia C q_t_told 52 r_t_told, ia C q_t_s 254 o5]) (cV_run ⟨hx, hb, hml, hown, hts⟩ (k_X11_remembers l D C q_t q_t_text q_t_told q_t_draft q_t_s q_t_images q_t_kept q_t_heard q_t_hours q_t_row q_t_best q_t_places q_t_pairs v_t_trace v_t_typed v_t_noted v_t_at v_t_sort v_t_start v_t_value v_t_bestMany v_t_bestWorth v_t_bestHour r_t_s H.size o5 ho5) gX11_brings_X11_remembers rfl ⟨rfl, rfl⟩ hd_X11_remembers ⟨(Nat.le_of_ble_eq_true rfl), (Nat.le_of_ble_eq_true rfl)⟩ rfl hK (cut_in hK hP hD [0, 2] rfl (by decide)) (ci := 11) rfl rfl rfl hl.1 rfl (Nat.le_of_ble_eq_true rfl) dX11_brings_24 ⟨Nat.zero_le _, Nat.zero_le _⟩) hP hD hS hA [0, 2] [1] [1, 0, 2] rfl rfl (by decide) (by decide) rfl (by decide) (fun H locs hP hD hS => ?_)
      have hP : va_P D vwCl [ob q_t 11 [.long v_t_trace, .ref q_t_text, .int v_t_typed, .ref q_t_told, .ref q_t_draft, .ref q_t_s, .ref q_t_images, .ref q_t_kept, .ref q_t_heard, .ref q_t_hours, .int v_t_noted, .int v_t_at, .int v_t_sort, .int v_t_start, .int v_t_value, .ref q_t_row, .ref q_t_best, .int v_t_bestMany, .int v_t_bestWorth, .int v_t_bestHour, .ref q_t_places, .ref q_t_pairs], ia C q_t_told 52 r_t_told, ia C q_t_s 254 o5] H := hP
      have hD : va_D A [ob q_t 11 [.long v_t_trace, .ref q_t_text, .int v_t_typed, .ref q_t_told, .ref q_t_draft, .ref q_t_s, .ref q_t_images, .ref q_t_kept, .ref q_t_heard, .ref q_t_hours, .int v_t_noted, .int v_t_at, .int v_t_sort, .int v_t_start, .int v_t_value, .ref q_t_row, .ref q_t_best, .int v_t_bestMany, .int v_t_bestWorth, .int v_t_bestHour, .ref q_t_places, .ref q_t_pairs], ia C q_t_told 52 r_t_told, ia C q_t_s 254 o5] := hD
      refine lv_aload_n hx hb dX11_brings_27 rfl (lv_at hl 0 rfl) ?_
      obtain ⟨o6, ho6, hf⟩ := of_bind hf
      refine c_I (wr := []) (W2 := [ob q_t 11 [.long v_t_trace, .ref q_t_text, .int v_t_typed, .ref q_t_told, .ref q_t_draft, .ref q_t_s, .ref q_t_images, .ref q_t_kept, .ref q_t_heard, .ref q_t_hours, .int v_t_noted, .int v_t_at, .int v_t_sort, .int v_t_start, .int v_t_value, .ref q_t_row, .ref q_t_best, .int v_t_bestMany, .int v_t_bestWorth, .int v_t_bestHour, .ref q_t_places, .ref q_t_pairs], ia C q_t_told 52 r_t_told, ia C q_t_s 254 o6.2]) (cV_run ⟨hx, hb, hml, hown, hts⟩ (k_X11_gives l D C q_t q_t_text q_t_told q_t_draft q_t_s q_t_images q_t_kept q_t_heard q_t_hours q_t_row q_t_best q_t_places q_t_pairs v_t_trace v_t_typed v_t_noted v_t_at v_t_sort v_t_start v_t_value v_t_bestMany v_t_bestWorth v_t_bestHour r_t_told o5 H.size o6 ho6) gX11_brings_X11_gives rfl ⟨rfl, rfl⟩ hd_X11_gives ⟨(Nat.le_of_ble_eq_true rfl), (Nat.le_of_ble_eq_true rfl)⟩ rfl hK (cut_in hK hP hD [0, 1, 2] rfl (by decide)) (ci := 11) rfl rfl rfl hl.1 rfl (Nat.le_of_ble_eq_true rfl) dX11_brings_28 ⟨Nat.zero_le _, Nat.zero_le _⟩) hP hD hS hA [0, 1, 2] [] [0, 1, 2] rfl rfl (by decide) (by decide) rfl (by decide) (fun H locs hP hD hS => ?_)
      have hP : va_P D vwCl [ob q_t 11 [.long v_t_trace, .ref q_t_text, .int v_t_typed, .ref q_t_told, .ref q_t_draft, .ref q_t_s, .ref q_t_images, .ref q_t_kept, .ref q_t_heard, .ref q_t_hours, .int v_t_noted, .int v_t_at, .int v_t_sort, .int v_t_start, .int v_t_value, .ref q_t_row, .ref q_t_best, .int v_t_bestMany, .int v_t_bestWorth, .int v_t_bestHour, .ref q_t_places, .ref q_t_pairs], ia C q_t_told 52 r_t_told, ia C q_t_s 254 o6.2] H := hP
      have hD : va_D A [ob q_t 11 [.long v_t_trace, .ref q_t_text, .int v_t_typed, .ref q_t_told, .ref q_t_draft, .ref q_t_s, .ref q_t_images, .ref q_t_kept, .ref q_t_heard, .ref q_t_hours, .int v_t_noted, .int v_t_at, .int v_t_sort, .int v_t_start, .int v_t_value, .ref q_t_row, .ref q_t_best, .int v_t_bestMany, .int v_t_bestWorth, .int v_t_bestHour, .ref q_t_places, .ref q_t_pairs], ia C q_t_told 52 r_t_told, ia C q_t_s 254 o6.2] := hD
      refine lv_istore_n (lv' := [(1, .int o6.1), (0, .ref q_t)]) hx hb dX11_brings_31 rfl hl (by decide) rfl (fun ls hl => ?_)
      refine lv_aload_n hx hb dX11_brings_32 rfl (lv_at hl 1 rfl) ?_
      refine va_get (D := D) (ci := 11) (v := .ref q_t_s) (C := RX11) (T := TX11) (N := 22) hx hb hts inX11 hown hK hP 0 rfl rfl 5 (by decide) (hts (.fieldLink RX11 19 "LentCourageModel" "s" "[I") (List.mem_of_getElem? (i := 2) rfl)) (fun _ h9 => h9) rfl dX11_brings_33 ?_
      refine lv_iconst (v := (1 : Int32)) hx hb dX11_brings_36 (by decide) ?_
      refine lv_bipush (v := (-9 : Int32)) hx hb dX11_brings_37 (by decide) ?_
      refine st_IK hx hb hK hP hD hS 2 0 rfl rfl (k := 1) (by decide) (by decide) (by decide) dX11_brings_39 (fun H locs hP hD hS => ?_)
      have hP : va_P D vwCl [ob q_t 11 [.long v_t_trace, .ref q_t_text, .int v_t_typed, .ref q_t_told, .ref q_t_draft, .ref q_t_s, .ref q_t_images, .ref q_t_kept, .ref q_t_heard, .ref q_t_hours, .int v_t_noted, .int v_t_at, .int v_t_sort, .int v_t_start, .int v_t_value, .ref q_t_row, .ref q_t_best, .int v_t_bestMany, .int v_t_bestWorth, .int v_t_bestHour, .ref q_t_places, .ref q_t_pairs], ia C q_t_told 52 r_t_told, ia C q_t_s 254 (upd o6.2 1 (-9 : Int32))] H := hP
      have hD : va_D A [ob q_t 11 [.long v_t_trace, .ref q_t_text, .int v_t_typed, .ref q_t_told, .ref q_t_draft, .ref q_t_s, .ref q_t_images, .ref q_t_kept, .ref q_t_heard, .ref q_t_hours, .int v_t_noted, .int v_t_at, .int v_t_sort, .int v_t_start, .int v_t_value, .ref q_t_row, .ref q_t_best, .int v_t_bestMany, .int v_t_bestWorth, .int v_t_bestHour, .ref q_t_places, .ref q_t_pairs], ia C q_t_told 52 r_t_told, ia C q_t_s 254 (upd o6.2 1 (-9 : Int32))] := hD
      refine lv_aload_n hx hb dX11_brings_40 rfl (lv_at hl 1 rfl) ?_
      refine va_get (D := D) (ci := 11) (v := .ref q_t_s) (C := RX11) (T := TX11) (N := 22) hx hb hts inX11 hown hK hP 0 rfl rfl 5 (by decide) (hts (.fieldLink RX11 19 "LentCourageModel" "s" "[I") (List.mem_of_getElem? (i := 2) rfl)) (fun _ h9 => h9) rfl dX11_brings_41 ?_
      refine lv_iconst (v := (2 : Int32)) hx hb dX11_brings_44 (by decide) ?_
      refine lv_iconst (v := (0 : Int32)) hx hb dX11_brings_45 (by decide) ?_
      refine st_IK hx hb hK hP hD hS 2 0 rfl rfl (k := 2) (by decide) (by decide) (by decide) dX11_brings_46 (fun H locs hP hD hS => ?_)
      have hP : va_P D vwCl [ob q_t 11 [.long v_t_trace, .ref q_t_text, .int v_t_typed, .ref q_t_told, .ref q_t_draft, .ref q_t_s, .ref q_t_images, .ref q_t_kept, .ref q_t_heard, .ref q_t_hours, .int v_t_noted, .int v_t_at, .int v_t_sort, .int v_t_start, .int v_t_value, .ref q_t_row, .ref q_t_best, .int v_t_bestMany, .int v_t_bestWorth, .int v_t_bestHour, .ref q_t_places, .ref q_t_pairs], ia C q_t_told 52 r_t_told, ia C q_t_s 254 (upd (upd o6.2 1 (-9 : Int32)) 2 (0 : Int32))] H := hP
      have hD : va_D A [ob q_t 11 [.long v_t_trace, .ref q_t_text, .int v_t_typed, .ref q_t_told, .ref q_t_draft, .ref q_t_s, .ref q_t_images, .ref q_t_kept, .ref q_t_heard, .ref q_t_hours, .int v_t_noted, .int v_t_at, .int v_t_sort, .int v_t_start, .int v_t_value, .ref q_t_row, .ref q_t_best, .int v_t_bestMany, .int v_t_bestWorth, .int v_t_bestHour, .ref q_t_places, .ref q_t_pairs], ia C q_t_told 52 r_t_told, ia C q_t_s 254 (upd (upd o6.2 1 (-9 : Int32)) 2 (0 : Int32))] := hD
      refine lv_aload_n hx hb dX11_brings_47 rfl (lv_at hl 1 rfl) ?_
      refine va_get (D := D) (ci := 11) (v := .ref q_t_s) (C := RX11) (T := TX11) (N := 22) hx hb hts inX11 hown hK hP 0 rfl rfl 5 (by decide) (hts (.fieldLink RX11 19 "LentCourageModel" "s" "[I") (List.mem_of_getElem? (i := 2) rfl)) (fun _ h9 => h9) rfl dX11_brings_48 ?_
      refine lv_iconst (v := (3 : Int32)) hx hb dX11_brings_51 (by decide) ?_
      refine lv_iconst (v := (0 : Int32)) hx hb dX11_brings_52 (by decide) ?_
      refine st_IK hx hb hK hP hD hS 2 0 rfl rfl (k := 3) (by decide) (by decide) (by decide) dX11_brings_53 (fun H locs hP hD hS => ?_)
      have hP : va_P D vwCl [ob q_t 11 [.long v_t_trace, .ref q_t_text, .int v_t_typed, .ref q_t_told, .ref q_t_draft, .ref q_t_s, .ref q_t_images, .ref q_t_kept, .ref q_t_heard, .ref q_t_hours, .int v_t_noted, .int v_t_at, .int v_t_sort, .int v_t_start, .int v_t_value, .ref q_t_row, .ref q_t_best, .int v_t_bestMany, .int v_t_bestWorth, .int v_t_bestHour, .ref q_t_places, .ref q_t_pairs], ia C q_t_told 52 r_t_told, ia C q_t_s 254 (upd (upd (upd o6.2 1 (-9 : Int32)) 2 (0 : Int32)) 3 (0 : Int32))] H := hP
      have hD : va_D A [ob q_t 11 [.long v_t_trace, .ref q_t_text, .int v_t_typed, .ref q_t_told, .ref q_t_draft, .ref q_t_s, .ref q_t_images, .ref q_t_kept, .ref q_t_heard, .ref q_t_hours, .int v_t_noted, .int v_t_at, .int v_t_sort, .int v_t_start, .int v_t_value, .ref q_t_row, .ref q_t_best, .int v_t_bestMany, .int v_t_bestWorth, .int v_t_bestHour, .ref q_t_places, .ref q_t_pairs], ia C q_t_told 52 r_t_told, ia C q_t_s 254 (upd (upd (upd o6.2 1 (-9 : Int32)) 2 (0 : Int32)) 3 (0 : Int32))] := hD
      refine lv_iload_n hx hb dX11_brings_54 rfl (lv_at hl 0 rfl) ?_
      obtain rfl := Option.some.inj hf
      exact ret_I hx hb hr hlocks hK hP hD hS dX11_brings_55
    · have hf := of_neg hf c4
      refine lv_bipush (v := (-2 : Int32)) hx hb dX11_brings_20 (by decide) ?_
      obtain rfl := Option.some.inj hf
      exact ret_I hx hb hr hlocks hK hP hD hS dX11_brings_22

def fX11_walks (r_t_told : Nat → Int32) (r_t_s : Nat → Int32) (p1 : Int32) : Option (Int32 × (Nat → Int32)) :=
  (fX11_in p1 (0 : Int32) (30 : Int32)).bind (fun o1 => (if o1 = 0 then some ((-1 : Int32), r_t_s) else (fX11_spoonAt r_t_told r_t_s).bind (fun o3 => (fX11_far o3 p1).bind (fun o4 => (fX11_isHeld r_t_s).bind (fun o5 => (if o5 = 0 then some ((-2 : Int32), r_t_s) else (if o4 = 0 then some ((-2 : Int32), r_t_s) else (if ((r_t_s 0) + o4) ≤ (200 : Int32) then (fX11_remembers r_t_s).bind (fun o9 => chk (vin ((4 : Int32) + (o9 1)) 254) (lt_ (((upd o9 ((4 : Int32) + (o9 1)).toNatClampNeg p1) 0) + o4) (fun z11 => some (((upd (upd o9 ((4 : Int32) + (o9 1)).toNatClampNeg p1) 0 z11) 0), (upd (upd o9 ((4 : Int32) + (o9 1)).toNatClampNeg p1) 0 z11))))) else some ((-2 : Int32), r_t_s)))))))))
theorem hd_X11_walks : yX11_walks.cls = RX11 ∧ yX11_walks.cls ≠ "java/lang/invoke/MethodHandle" ∧ yX11_walks.cls ≠ "java/lang/invoke/VarHandle" ∧ (parseMethodDescriptor yX11_walks.desc).map (fun d => d.parameters.length) = some 1 := by decide +kernel
set_option maxHeartbeats 4000000 in
set_option maxRecDepth 100000 in
theorem k_X11_walks (l : Launch) (D : va_G) (C : Nat → ClassId) (q_t : Nat) (q_t_text : Nat) (q_t_told : Nat) (q_t_draft : Nat) (q_t_s : Nat) (q_t_images : Nat) (q_t_kept : Nat) (q_t_heard : Nat) (q_t_hours : Nat) (q_t_row : Nat) (q_t_best : Nat) (q_t_places : Nat) (q_t_pairs : Nat) (v_t_trace : Int64) (v_t_typed : Int32) (v_t_noted : Int32) (v_t_at : Int32) (v_t_sort : Int32) (v_t_start : Int32) (v_t_value : Int32) (v_t_bestMany : Int32) (v_t_bestWorth : Int32) (v_t_bestHour : Int32) (r_t_told : Nat → Int32) (r_t_s : Nat → Int32) (p1 : Int32) (sz : Nat) (out : Int32 × (Nat → Int32)) (hf : fX11_walks r_t_told r_t_s p1 = some out) : MI l yX11_walks wsX11_walks ({ frames := 2, cells := 0, slots := 0, locals := 40 }) D C [.ref q_t, .int p1] [ob q_t 11 [.long v_t_trace, .ref q_t_text, .int v_t_typed, .ref q_t_told, .ref q_t_draft, .ref q_t_s, .ref q_t_images, .ref q_t_kept, .ref q_t_heard, .ref q_t_hours, .int v_t_noted, .int v_t_at, .int v_t_sort, .int v_t_start, .int v_t_value, .ref q_t_row, .ref q_t_best, .int v_t_bestMany, .int v_t_bestWorth, .int v_t_bestHour, .ref q_t_places, .ref q_t_pairs], ia C q_t_told 52 r_t_told, ia C q_t_s 254 r_t_s] [ob q_t 11 [.long v_t_trace, .ref q_t_text, .int v_t_typed, .ref q_t_told, .ref q_t_draft, .ref q_t_s, .ref q_t_images, .ref q_t_kept, .ref q_t_heard, .ref q_t_hours, .int v_t_noted, .int v_t_at, .int v_t_sort, .int v_t_start, .int v_t_value, .ref q_t_row, .ref q_t_best, .int v_t_bestMany, .int v_t_bestWorth, .int v_t_bestHour, .ref q_t_places, .ref q_t_pairs], ia C q_t_told 52 r_t_told, ia C q_t_s 254 out.2] sz (out.1) := by
  unfold fX11_walks at hf
  refine en_I (by decide) rfl (Nat.le_of_ble_eq_true rfl) ?_
  intro p e s m below meth c A ls H locs hx hb hr hlocks hml hts hown hK hP hD hS hA hl
  have hl : lv_has ls 3 [(0, .ref q_t), (1, .int p1)] := hl
  have inX11 : ∀ w ∈ u_ws RX11 TX11 22, w ∈ wsX11_walks := fun w h => List.mem_cons_of_mem _ (List.mem_append_right _ h)
  refine lv_iload_n hx hb dX11_walks_0 rfl (lv_at hl 1 rfl) ?_
  refine lv_iconst (v := (0 : Int32)) hx hb dX11_walks_1 (by decide) ?_
  refine lv_bipush (v := (30 : Int32)) hx hb dX11_walks_2 (by decide) ?_
  obtain ⟨o1, ho1, hf⟩ := of_bind hf
  refine c_I (wr := [ob q_t 11 [.long v_t_trace, .ref q_t_text, .int v_t_typed, .ref q_t_told, .ref q_t_draft, .ref q_t_s, .ref q_t_images, .ref q_t_kept, .ref q_t_heard, .ref q_t_hours, .int v_t_noted, .int v_t_at, .int v_t_sort, .int v_t_start, .int v_t_value, .ref q_t_row, .ref q_t_best, .int v_t_bestMany, .int v_t_bestWorth, .int v_t_bestHour, .ref q_t_places, .ref q_t_pairs], ia C q_t_told 52 r_t_told, ia C q_t_s 254 r_t_s]) (W2 := [ob q_t 11 [.long v_t_trace, .ref q_t_text, .int v_t_typed, .ref q_t_told, .ref q_t_draft, .ref q_t_s, .ref q_t_images, .ref q_t_kept, .ref q_t_heard, .ref q_t_hours, .int v_t_noted, .int v_t_at, .int v_t_sort, .int v_t_start, .int v_t_value, .ref q_t_row, .ref q_t_best, .int v_t_bestMany, .int v_t_bestWorth, .int v_t_bestHour, .ref q_t_places, .ref q_t_pairs], ia C q_t_told 52 r_t_told, ia C q_t_s 254 r_t_s]) (cS_run ⟨hx, hb, hml, hown, hts⟩ (k_X11_in l D C p1 (0 : Int32) (30 : Int32) H.size o1 ho1) gX11_walks_X11_in rfl ⟨rfl, rfl⟩ hd_X11_in ⟨(Nat.le_of_ble_eq_true rfl), (Nat.le_of_ble_eq_true rfl)⟩ rfl hK (cut_in hK hP hD [] rfl (by decide)) hl.1 rfl (Nat.le_of_ble_eq_true rfl) dX11_walks_4 ⟨Nat.zero_le _, Nat.zero_le _⟩) hP hD hS hA [] [0, 1, 2] [0, 1, 2] rfl rfl (by decide) (by decide) rfl (by decide) (fun H locs hP hD hS => ?_)
  have hP : va_P D vwCl [ob q_t 11 [.long v_t_trace, .ref q_t_text, .int v_t_typed, .ref q_t_told, .ref q_t_draft, .ref q_t_s, .ref q_t_images, .ref q_t_kept, .ref q_t_heard, .ref q_t_hours, .int v_t_noted, .int v_t_at, .int v_t_sort, .int v_t_start, .int v_t_value, .ref q_t_row, .ref q_t_best, .int v_t_bestMany, .int v_t_bestWorth, .int v_t_bestHour, .ref q_t_places, .ref q_t_pairs], ia C q_t_told 52 r_t_told, ia C q_t_s 254 r_t_s] H := hP
  have hD : va_D A [ob q_t 11 [.long v_t_trace, .ref q_t_text, .int v_t_typed, .ref q_t_told, .ref q_t_draft, .ref q_t_s, .ref q_t_images, .ref q_t_kept, .ref q_t_heard, .ref q_t_hours, .int v_t_noted, .int v_t_at, .int v_t_sort, .int v_t_start, .int v_t_value, .ref q_t_row, .ref q_t_best, .int v_t_bestMany, .int v_t_bestWorth, .int v_t_bestHour, .ref q_t_places, .ref q_t_pairs], ia C q_t_told 52 r_t_told, ia C q_t_s 254 r_t_s] := hD
  refine lv_if_ne (tgt := 12) hx hb dX11_walks_7 (by decide) (fun c2 => ?_) (fun c2 => ?_)
  · have hf := of_neg hf c2
    refine lv_aload_n hx hb dX11_walks_12 rfl (lv_at hl 0 rfl) ?_
    obtain ⟨o3, ho3, hf⟩ := of_bind hf
    refine c_I (wr := []) (W2 := [ob q_t 11 [.long v_t_trace, .ref q_t_text, .int v_t_typed, .ref q_t_told, .ref q_t_draft, .ref q_t_s, .ref q_t_images, .ref q_t_kept, .ref q_t_heard, .ref q_t_hours, .int v_t_noted, .int v_t_at, .int v_t_sort, .int v_t_start, .int v_t_value, .ref q_t_row, .ref q_t_best, .int v_t_bestMany, .int v_t_bestWorth, .int v_t_bestHour, .ref q_t_places, .ref q_t_pairs], ia C q_t_told 52 r_t_told, ia C q_t_s 254 r_t_s]) (cV_run ⟨hx, hb, hml, hown, hts⟩ (k_X11_spoonAt l D C q_t q_t_text q_t_told q_t_draft q_t_s q_t_images q_t_kept q_t_heard q_t_hours q_t_row q_t_best q_t_places q_t_pairs v_t_trace v_t_typed v_t_noted v_t_at v_t_sort v_t_start v_t_value v_t_bestMany v_t_bestWorth v_t_bestHour r_t_told r_t_s H.size o3 ho3) gX11_walks_X11_spoonAt rfl ⟨rfl, rfl⟩ hd_X11_spoonAt ⟨(Nat.le_of_ble_eq_true rfl), (Nat.le_of_ble_eq_true rfl)⟩ rfl hK (cut_in hK hP hD [0, 1, 2] rfl (by decide)) (ci := 11) rfl rfl rfl hl.1 rfl (Nat.le_of_ble_eq_true rfl) dX11_walks_13 ⟨Nat.zero_le _, Nat.zero_le _⟩) hP hD hS hA [0, 1, 2] [] [0, 1, 2] rfl rfl (by decide) (by decide) rfl (by decide) (fun H locs hP hD hS => ?_)
    have hP : va_P D vwCl [ob q_t 11 [.long v_t_trace, .ref q_t_text, .int v_t_typed, .ref q_t_told, .ref q_t_draft, .ref q_t_s, .ref q_t_images, .ref q_t_kept, .ref q_t_heard, .ref q_t_hours, .int v_t_noted, .int v_t_at, .int v_t_sort, .int v_t_start, .int v_t_value, .ref q_t_row, .ref q_t_best, .int v_t_bestMany, .int v_t_bestWorth, .int v_t_bestHour, .ref q_t_places, .ref q_t_pairs], ia C q_t_told 52 r_t_told, ia C q_t_s 254 r_t_s] H := hP
    have hD : va_D A [ob q_t 11 [.long v_t_trace, .ref q_t_text, .int v_t_typed, .ref q_t_told, .ref q_t_draft, .ref q_t_s, .ref q_t_images, .ref q_t_kept, .ref q_t_heard, .ref q_t_hours, .int v_t_noted, .int v_t_at, .int v_t_sort, .int v_t_start, .int v_t_value, .ref q_t_row, .ref q_t_best, .int v_t_bestMany, .int v_t_bestWorth, .int v_t_bestHour, .ref q_t_places, .ref q_t_pairs], ia C q_t_told 52 r_t_told, ia C q_t_s 254 r_t_s] := hD
    refine lv_iload_n hx hb dX11_walks_16 rfl (lv_at hl 1 rfl) ?_
    obtain ⟨o4, ho4, hf⟩ := of_bind hf
    refine c_I (wr := [ob q_t 11 [.long v_t_trace, .ref q_t_text, .int v_t_typed, .ref q_t_told, .ref q_t_draft, .ref q_t_s, .ref q_t_images, .ref q_t_kept, .ref q_t_heard, .ref q_t_hours, .int v_t_noted, .int v_t_at, .int v_t_sort, .int v_t_start, .int v_t_value, .ref q_t_row, .ref q_t_best, .int v_t_bestMany, .int v_t_bestWorth, .int v_t_bestHour, .ref q_t_places, .ref q_t_pairs], ia C q_t_told 52 r_t_told, ia C q_t_s 254 r_t_s]) (W2 := [ob q_t 11 [.long v_t_trace, .ref q_t_text, .int v_t_typed, .ref q_t_told, .ref q_t_draft, .ref q_t_s, .ref q_t_images, .ref q_t_kept, .ref q_t_heard, .ref q_t_hours, .int v_t_noted, .int v_t_at, .int v_t_sort, .int v_t_start, .int v_t_value, .ref q_t_row, .ref q_t_best, .int v_t_bestMany, .int v_t_bestWorth, .int v_t_bestHour, .ref q_t_places, .ref q_t_pairs], ia C q_t_told 52 r_t_told, ia C q_t_s 254 r_t_s]) (cS_run ⟨hx, hb, hml, hown, hts⟩ (k_X11_far l D C o3 p1 H.size o4 ho4) gX11_walks_X11_far rfl ⟨rfl, rfl⟩ hd_X11_far ⟨(Nat.le_of_ble_eq_true rfl), (Nat.le_of_ble_eq_true rfl)⟩ rfl hK (cut_in hK hP hD [] rfl (by decide)) hl.1 rfl (Nat.le_of_ble_eq_true rfl) dX11_walks_17 ⟨Nat.zero_le _, Nat.zero_le _⟩) hP hD hS hA [] [0, 1, 2] [0, 1, 2] rfl rfl (by decide) (by decide) rfl (by decide) (fun H locs hP hD hS => ?_)
    have hP : va_P D vwCl [ob q_t 11 [.long v_t_trace, .ref q_t_text, .int v_t_typed, .ref q_t_told, .ref q_t_draft, .ref q_t_s, .ref q_t_images, .ref q_t_kept, .ref q_t_heard, .ref q_t_hours, .int v_t_noted, .int v_t_at, .int v_t_sort, .int v_t_start, .int v_t_value, .ref q_t_row, .ref q_t_best, .int v_t_bestMany, .int v_t_bestWorth, .int v_t_bestHour, .ref q_t_places, .ref q_t_pairs], ia C q_t_told 52 r_t_told, ia C q_t_s 254 r_t_s] H := hP
    have hD : va_D A [ob q_t 11 [.long v_t_trace, .ref q_t_text, .int v_t_typed, .ref q_t_told, .ref q_t_draft, .ref q_t_s, .ref q_t_images, .ref q_t_kept, .ref q_t_heard, .ref q_t_hours, .int v_t_noted, .int v_t_at, .int v_t_sort, .int v_t_start, .int v_t_value, .ref q_t_row, .ref q_t_best, .int v_t_bestMany, .int v_t_bestWorth, .int v_t_bestHour, .ref q_t_places, .ref q_t_pairs], ia C q_t_told 52 r_t_told, ia C q_t_s 254 r_t_s] := hD
    refine lv_istore_n (lv' := [(2, .int o4), (0, .ref q_t), (1, .int p1)]) hx hb dX11_walks_20 rfl hl (by decide) rfl (fun ls hl => ?_)
    refine lv_aload_n hx hb dX11_walks_21 rfl (lv_at hl 1 rfl) ?_
    obtain ⟨o5, ho5, hf⟩ := of_bind hf
    refine c_I (wr := [ia C q_t_told 52 r_t_told]) (W2 := [ob q_t 11 [.long v_t_trace, .ref q_t_text, .int v_t_typed, .ref q_t_told, .ref q_t_draft, .ref q_t_s, .ref q_t_images, .ref q_t_kept, .ref q_t_heard, .ref q_t_hours, .int v_t_noted, .int v_t_at, .int v_t_sort, .int v_t_start, .int v_t_value, .ref q_t_row, .ref q_t_best, .int v_t_bestMany, .int v_t_bestWorth, .int v_t_bestHour, .ref q_t_places, .ref q_t_pairs], ia C q_t_told 52 r_t_told, ia C q_t_s 254 r_t_s]) (cV_run ⟨hx, hb, hml, hown, hts⟩ (k_X11_isHeld l D C q_t q_t_text q_t_told q_t_draft q_t_s q_t_images q_t_kept q_t_heard q_t_hours q_t_row q_t_best q_t_places q_t_pairs v_t_trace v_t_typed v_t_noted v_t_at v_t_sort v_t_start v_t_value v_t_bestMany v_t_bestWorth v_t_bestHour r_t_s H.size o5 ho5) gX11_walks_X11_isHeld rfl ⟨rfl, rfl⟩ hd_X11_isHeld ⟨(Nat.le_of_ble_eq_true rfl), (Nat.le_of_ble_eq_true rfl)⟩ rfl hK (cut_in hK hP hD [0, 2] rfl (by decide)) (ci := 11) rfl rfl rfl hl.1 rfl (Nat.le_of_ble_eq_true rfl) dX11_walks_22 ⟨Nat.zero_le _, Nat.zero_le _⟩) hP hD hS hA [0, 2] [1] [1, 0, 2] rfl rfl (by decide) (by decide) rfl (by decide) (fun H locs hP hD hS => ?_)
    have hP : va_P D vwCl [ob q_t 11 [.long v_t_trace, .ref q_t_text, .int v_t_typed, .ref q_t_told, .ref q_t_draft, .ref q_t_s, .ref q_t_images, .ref q_t_kept, .ref q_t_heard, .ref q_t_hours, .int v_t_noted, .int v_t_at, .int v_t_sort, .int v_t_start, .int v_t_value, .ref q_t_row, .ref q_t_best, .int v_t_bestMany, .int v_t_bestWorth, .int v_t_bestHour, .ref q_t_places, .ref q_t_pairs], ia C q_t_told 52 r_t_told, ia C q_t_s 254 r_t_s] H := hP
    have hD : va_D A [ob q_t 11 [.long v_t_trace, .ref q_t_text, .int v_t_typed, .ref q_t_told, .ref q_t_draft, .ref q_t_s, .ref q_t_images, .ref q_t_kept, .ref q_t_heard, .ref q_t_hours, .int v_t_noted, .int v_t_at, .int v_t_sort, .int v_t_start, .int v_t_value, .ref q_t_row, .ref q_t_best, .int v_t_bestMany, .int v_t_bestWorth, .int v_t_bestHour, .ref q_t_places, .ref q_t_pairs], ia C q_t_told 52 r_t_told, ia C q_t_s 254 r_t_s] := hD
    refine lv_if_eq (tgt := 46) hx hb dX11_walks_25 (by decide) (fun c6 => ?_) (fun c6 => ?_)
    · have hf := of_pos hf c6
      refine lv_bipush (v := (-2 : Int32)) hx hb dX11_walks_46 (by decide) ?_
      obtain rfl := Option.some.inj hf
      exact ret_I hx hb hr hlocks hK hP hD hS dX11_walks_48
    · have hf := of_neg hf c6
      refine lv_iload_n hx hb dX11_walks_28 rfl (lv_at hl 0 rfl) ?_
      refine lv_if_eq (tgt := 46) hx hb dX11_walks_29 (by decide) (fun c7 => ?_) (fun c7 => ?_)
      · have hf := of_pos hf c7
        refine lv_bipush (v := (-2 : Int32)) hx hb dX11_walks_46 (by decide) ?_
        obtain rfl := Option.some.inj hf
        exact ret_I hx hb hr hlocks hK hP hD hS dX11_walks_48
      · have hf := of_neg hf c7
        refine lv_aload_n hx hb dX11_walks_32 rfl (lv_at hl 1 rfl) ?_
        refine va_get (D := D) (ci := 11) (v := .ref q_t_s) (C := RX11) (T := TX11) (N := 22) hx hb hts inX11 hown hK hP 0 rfl rfl 5 (by decide) (hts (.fieldLink RX11 19 "LentCourageModel" "s" "[I") (List.mem_of_getElem? (i := 1) rfl)) (fun _ h9 => h9) rfl dX11_walks_33 ?_
        refine lv_iconst (v := (0 : Int32)) hx hb dX11_walks_36 (by decide) ?_
        refine ld_ialdK hx hb hK hP 2 0 rfl rfl (k := 0) (by decide) (by decide) (by decide) dX11_walks_37 ?_
        refine lv_iload_n hx hb dX11_walks_38 rfl (lv_at hl 0 rfl) ?_
        refine lv_iadd hx hb dX11_walks_39 ?_
        refine lv_sipush (v := (200 : Int32)) hx hb dX11_walks_40 (by decide) ?_
        refine lv_icmp_le (tgt := 49) hx hb dX11_walks_43 (by decide) (fun c8 => ?_) (fun c8 => ?_)
        · have hf := of_pos hf c8
          refine lv_aload_n hx hb dX11_walks_49 rfl (lv_at hl 1 rfl) ?_
          obtain ⟨o9, ho9, hf⟩ := of_bind hf
          refine c_V (wr := [ia C q_t_told 52 r_t_told]) (W2 := [ob q_t 11 [.long v_t_trace, .ref q_t_text, .int v_t_typed, .ref q_t_told, .ref q_t_draft, .ref q_t_s, .ref q_t_images, .ref q_t_kept, .ref q_t_heard, .ref q_t_hours, .int v_t_noted, .int v_t_at, .int v_t_sort, .int v_t_start, .int v_t_value, .ref q_t_row, .ref q_t_best, .int v_t_bestMany, .int v_t_bestWorth, .int v_t_bestHour, .ref q_t_places, .ref q_t_pairs], ia C q_t_told 52 r_t_told, ia C q_t_s 254 o9]) (cV_run ⟨hx, hb, hml, hown, hts⟩ (k_X11_remembers l D C q_t q_t_text q_t_told q_t_draft q_t_s q_t_images q_t_kept q_t_heard q_t_hours q_t_row q_t_best q_t_places q_t_pairs v_t_trace v_t_typed v_t_noted v_t_at v_t_sort v_t_start v_t_value v_t_bestMany v_t_bestWorth v_t_bestHour r_t_s H.size o9 ho9) gX11_walks_X11_remembers rfl ⟨rfl, rfl⟩ hd_X11_remembers ⟨(Nat.le_of_ble_eq_true rfl), (Nat.le_of_ble_eq_true rfl)⟩ rfl hK (cut_in hK hP hD [0, 2] rfl (by decide)) (ci := 11) rfl rfl rfl hl.1 rfl (Nat.le_of_ble_eq_true rfl) dX11_walks_50 ⟨Nat.zero_le _, Nat.zero_le _⟩) hP hD hS hA [0, 2] [1] [1, 0, 2] rfl rfl (by decide) (by decide) rfl (by decide) (fun H locs hP hD hS => ?_)
          have hP : va_P D vwCl [ob q_t 11 [.long v_t_trace, .ref q_t_text, .int v_t_typed, .ref q_t_told, .ref q_t_draft, .ref q_t_s, .ref q_t_images, .ref q_t_kept, .ref q_t_heard, .ref q_t_hours, .int v_t_noted, .int v_t_at, .int v_t_sort, .int v_t_start, .int v_t_value, .ref q_t_row, .ref q_t_best, .int v_t_bestMany, .int v_t_bestWorth, .int v_t_bestHour, .ref q_t_places, .ref q_t_pairs], ia C q_t_told 52 r_t_told, ia C q_t_s 254 o9] H := hP
          have hD : va_D A [ob q_t 11 [.long v_t_trace, .ref q_t_text, .int v_t_typed, .ref q_t_told, .ref q_t_draft, .ref q_t_s, .ref q_t_images, .ref q_t_kept, .ref q_t_heard, .ref q_t_hours, .int v_t_noted, .int v_t_at, .int v_t_sort, .int v_t_start, .int v_t_value, .ref q_t_row, .ref q_t_best, .int v_t_bestMany, .int v_t_bestWorth, .int v_t_bestHour, .ref q_t_places, .ref q_t_pairs], ia C q_t_told 52 r_t_told, ia C q_t_s 254 o9] := hD
          refine lv_aload_n hx hb dX11_walks_53 rfl (lv_at hl 1 rfl) ?_
          refine va_get (D := D) (ci := 11) (v := .ref q_t_s) (C := RX11) (T := TX11) (N := 22) hx hb hts inX11 hown hK hP 0 rfl rfl 5 (by decide) (hts (.fieldLink RX11 19 "LentCourageModel" "s" "[I") (List.mem_of_getElem? (i := 1) rfl)) (fun _ h9 => h9) rfl dX11_walks_54 ?_
          refine lv_iconst (v := (4 : Int32)) hx hb dX11_walks_57 (by decide) ?_
          refine lv_aload_n hx hb dX11_walks_58 rfl (lv_at hl 1 rfl) ?_
          refine va_get (D := D) (ci := 11) (v := .ref q_t_s) (C := RX11) (T := TX11) (N := 22) hx hb hts inX11 hown hK hP 0 rfl rfl 5 (by decide) (hts (.fieldLink RX11 19 "LentCourageModel" "s" "[I") (List.mem_of_getElem? (i := 1) rfl)) (fun _ h9 => h9) rfl dX11_walks_59 ?_
          refine lv_iconst (v := (1 : Int32)) hx hb dX11_walks_62 (by decide) ?_
          refine ld_ialdK hx hb hK hP 2 0 rfl rfl (k := 1) (by decide) (by decide) (by decide) dX11_walks_63 ?_
          refine lv_iadd hx hb dX11_walks_64 ?_
          refine lv_iload_n hx hb dX11_walks_65 rfl (lv_at hl 2 rfl) ?_
          obtain ⟨h10, hf⟩ := of_chk hf
          refine va_iast hx hb hK hP hD hS 2 0 rfl rfl h10 dX11_walks_66 (fun H locs hP hD hS => ?_)
          have hP : va_P D vwCl [ob q_t 11 [.long v_t_trace, .ref q_t_text, .int v_t_typed, .ref q_t_told, .ref q_t_draft, .ref q_t_s, .ref q_t_images, .ref q_t_kept, .ref q_t_heard, .ref q_t_hours, .int v_t_noted, .int v_t_at, .int v_t_sort, .int v_t_start, .int v_t_value, .ref q_t_row, .ref q_t_best, .int v_t_bestMany, .int v_t_bestWorth, .int v_t_bestHour, .ref q_t_places, .ref q_t_pairs], ia C q_t_told 52 r_t_told, ia C q_t_s 254 (upd o9 ((4 : Int32) + (o9 1)).toNatClampNeg p1)] H := hP
          have hD : va_D A [ob q_t 11 [.long v_t_trace, .ref q_t_text, .int v_t_typed, .ref q_t_told, .ref q_t_draft, .ref q_t_s, .ref q_t_images, .ref q_t_kept, .ref q_t_heard, .ref q_t_hours, .int v_t_noted, .int v_t_at, .int v_t_sort, .int v_t_start, .int v_t_value, .ref q_t_row, .ref q_t_best, .int v_t_bestMany, .int v_t_bestWorth, .int v_t_bestHour, .ref q_t_places, .ref q_t_pairs], ia C q_t_told 52 r_t_told, ia C q_t_s 254 (upd o9 ((4 : Int32) + (o9 1)).toNatClampNeg p1)] := hD
          refine lv_aload_n hx hb dX11_walks_67 rfl (lv_at hl 1 rfl) ?_
          refine va_get (D := D) (ci := 11) (v := .ref q_t_s) (C := RX11) (T := TX11) (N := 22) hx hb hts inX11 hown hK hP 0 rfl rfl 5 (by decide) (hts (.fieldLink RX11 19 "LentCourageModel" "s" "[I") (List.mem_of_getElem? (i := 1) rfl)) (fun _ h9 => h9) rfl dX11_walks_68 ?_
          refine lv_iconst (v := (0 : Int32)) hx hb dX11_walks_71 (by decide) ?_
          refine lv_dup2_11 hx hb dX11_walks_72 rfl rfl ?_
          refine ld_ialdK hx hb hK hP 2 0 rfl rfl (k := 0) (by decide) (by decide) (by decide) dX11_walks_73 ?_
          refine lv_iload_n hx hb dX11_walks_74 rfl (lv_at hl 0 rfl) ?_
          refine lv_iadd hx hb dX11_walks_75 ?_
          refine lv_topi (fun z11 ez11 => ?_)
          have hf := of_lt hf ez11
          refine st_IK hx hb hK hP hD hS 2 0 rfl rfl (k := 0) (by decide) (by decide) (by decide) dX11_walks_76 (fun H locs hP hD hS => ?_)
          have hP : va_P D vwCl [ob q_t 11 [.long v_t_trace, .ref q_t_text, .int v_t_typed, .ref q_t_told, .ref q_t_draft, .ref q_t_s, .ref q_t_images, .ref q_t_kept, .ref q_t_heard, .ref q_t_hours, .int v_t_noted, .int v_t_at, .int v_t_sort, .int v_t_start, .int v_t_value, .ref q_t_row, .ref q_t_best, .int v_t_bestMany, .int v_t_bestWorth, .int v_t_bestHour, .ref q_t_places, .ref q_t_pairs], ia C q_t_told 52 r_t_told, ia C q_t_s 254 (upd (upd o9 ((4 : Int32) + (o9 1)).toNatClampNeg p1) 0 z11)] H := hP
          have hD : va_D A [ob q_t 11 [.long v_t_trace, .ref q_t_text, .int v_t_typed, .ref q_t_told, .ref q_t_draft, .ref q_t_s, .ref q_t_images, .ref q_t_kept, .ref q_t_heard, .ref q_t_hours, .int v_t_noted, .int v_t_at, .int v_t_sort, .int v_t_start, .int v_t_value, .ref q_t_row, .ref q_t_best, .int v_t_bestMany, .int v_t_bestWorth, .int v_t_bestHour, .ref q_t_places, .ref q_t_pairs], ia C q_t_told 52 r_t_told, ia C q_t_s 254 (upd (upd o9 ((4 : Int32) + (o9 1)).toNatClampNeg p1) 0 z11)] := hD
          refine lv_aload_n hx hb dX11_walks_77 rfl (lv_at hl 1 rfl) ?_
          refine va_get (D := D) (ci := 11) (v := .ref q_t_s) (C := RX11) (T := TX11) (N := 22) hx hb hts inX11 hown hK hP 0 rfl rfl 5 (by decide) (hts (.fieldLink RX11 19 "LentCourageModel" "s" "[I") (List.mem_of_getElem? (i := 1) rfl)) (fun _ h9 => h9) rfl dX11_walks_78 ?_
          refine lv_iconst (v := (0 : Int32)) hx hb dX11_walks_81 (by decide) ?_
          refine ld_ialdK hx hb hK hP 2 0 rfl rfl (k := 0) (by decide) (by decide) (by decide) dX11_walks_82 ?_
          obtain rfl := Option.some.inj hf
          exact ret_I hx hb hr hlocks hK hP hD hS dX11_walks_83
        · have hf := of_neg hf c8
          refine lv_bipush (v := (-2 : Int32)) hx hb dX11_walks_46 (by decide) ?_
          obtain rfl := Option.some.inj hf
          exact ret_I hx hb hr hlocks hK hP hD hS dX11_walks_48
  · have hf := of_pos hf c2
    refine lv_iconst (v := (-1 : Int32)) hx hb dX11_walks_10 (by decide) ?_
    obtain rfl := Option.some.inj hf
    exact ret_I hx hb hr hlocks hK hP hD hS dX11_walks_11

def fX11_keeps (r_t_s : Nat → Int32) (p1 : Int32) : Option (Int32 × (Nat → Int32)) :=
  (fX11_in p1 (1 : Int32) (20 : Int32)).bind (fun o1 => (if o1 = 0 then some ((-1 : Int32), r_t_s) else (fX11_isHeld r_t_s).bind (fun o3 => (if o3 = 0 then some ((-2 : Int32), r_t_s) else (if ((r_t_s 0) + p1) ≤ (200 : Int32) then (fX11_remembers r_t_s).bind (fun o6 => lt_ ((o6 0) + p1) (fun z7 => some (((upd o6 0 z7) 0), (upd o6 0 z7)))) else some ((-2 : Int32), r_t_s))))))
theorem hd_X11_keeps : yX11_keeps.cls = RX11 ∧ yX11_keeps.cls ≠ "java/lang/invoke/MethodHandle" ∧ yX11_keeps.cls ≠ "java/lang/invoke/VarHandle" ∧ (parseMethodDescriptor yX11_keeps.desc).map (fun d => d.parameters.length) = some 1 := by decide +kernel
set_option maxHeartbeats 4000000 in
set_option maxRecDepth 100000 in
theorem k_X11_keeps (l : Launch) (D : va_G) (C : Nat → ClassId) (q_t : Nat) (q_t_text : Nat) (q_t_told : Nat) (q_t_draft : Nat) (q_t_s : Nat) (q_t_images : Nat) (q_t_kept : Nat) (q_t_heard : Nat) (q_t_hours : Nat) (q_t_row : Nat) (q_t_best : Nat) (q_t_places : Nat) (q_t_pairs : Nat) (v_t_trace : Int64) (v_t_typed : Int32) (v_t_noted : Int32) (v_t_at : Int32) (v_t_sort : Int32) (v_t_start : Int32) (v_t_value : Int32) (v_t_bestMany : Int32) (v_t_bestWorth : Int32) (v_t_bestHour : Int32) (r_t_s : Nat → Int32) (p1 : Int32) (sz : Nat) (out : Int32 × (Nat → Int32)) (hf : fX11_keeps r_t_s p1 = some out) : MI l yX11_keeps wsX11_keeps ({ frames := 1, cells := 0, slots := 0, locals := 22 }) D C [.ref q_t, .int p1] [ob q_t 11 [.long v_t_trace, .ref q_t_text, .int v_t_typed, .ref q_t_told, .ref q_t_draft, .ref q_t_s, .ref q_t_images, .ref q_t_kept, .ref q_t_heard, .ref q_t_hours, .int v_t_noted, .int v_t_at, .int v_t_sort, .int v_t_start, .int v_t_value, .ref q_t_row, .ref q_t_best, .int v_t_bestMany, .int v_t_bestWorth, .int v_t_bestHour, .ref q_t_places, .ref q_t_pairs], ia C q_t_s 254 r_t_s] [ob q_t 11 [.long v_t_trace, .ref q_t_text, .int v_t_typed, .ref q_t_told, .ref q_t_draft, .ref q_t_s, .ref q_t_images, .ref q_t_kept, .ref q_t_heard, .ref q_t_hours, .int v_t_noted, .int v_t_at, .int v_t_sort, .int v_t_start, .int v_t_value, .ref q_t_row, .ref q_t_best, .int v_t_bestMany, .int v_t_bestWorth, .int v_t_bestHour, .ref q_t_places, .ref q_t_pairs], ia C q_t_s 254 out.2] sz (out.1) := by
  unfold fX11_keeps at hf
  refine en_I (by decide) rfl (Nat.le_of_ble_eq_true rfl) ?_
  intro p e s m below meth c A ls H locs hx hb hr hlocks hml hts hown hK hP hD hS hA hl
  have hl : lv_has ls 2 [(0, .ref q_t), (1, .int p1)] := hl
  have inX11 : ∀ w ∈ u_ws RX11 TX11 22, w ∈ wsX11_keeps := fun w h => List.mem_cons_of_mem _ (List.mem_append_right _ h)
  refine lv_iload_n hx hb dX11_keeps_0 rfl (lv_at hl 1 rfl) ?_
  refine lv_iconst (v := (1 : Int32)) hx hb dX11_keeps_1 (by decide) ?_
  refine lv_bipush (v := (20 : Int32)) hx hb dX11_keeps_2 (by decide) ?_
  obtain ⟨o1, ho1, hf⟩ := of_bind hf
  refine c_I (wr := [ob q_t 11 [.long v_t_trace, .ref q_t_text, .int v_t_typed, .ref q_t_told, .ref q_t_draft, .ref q_t_s, .ref q_t_images, .ref q_t_kept, .ref q_t_heard, .ref q_t_hours, .int v_t_noted, .int v_t_at, .int v_t_sort, .int v_t_start, .int v_t_value, .ref q_t_row, .ref q_t_best, .int v_t_bestMany, .int v_t_bestWorth, .int v_t_bestHour, .ref q_t_places, .ref q_t_pairs], ia C q_t_s 254 r_t_s]) (W2 := [ob q_t 11 [.long v_t_trace, .ref q_t_text, .int v_t_typed, .ref q_t_told, .ref q_t_draft, .ref q_t_s, .ref q_t_images, .ref q_t_kept, .ref q_t_heard, .ref q_t_hours, .int v_t_noted, .int v_t_at, .int v_t_sort, .int v_t_start, .int v_t_value, .ref q_t_row, .ref q_t_best, .int v_t_bestMany, .int v_t_bestWorth, .int v_t_bestHour, .ref q_t_places, .ref q_t_pairs], ia C q_t_s 254 r_t_s]) (cS_run ⟨hx, hb, hml, hown, hts⟩ (k_X11_in l D C p1 (1 : Int32) (20 : Int32) H.size o1 ho1) gX11_keeps_X11_in rfl ⟨rfl, rfl⟩ hd_X11_in ⟨(Nat.le_of_ble_eq_true rfl), (Nat.le_of_ble_eq_true rfl)⟩ rfl hK (cut_in hK hP hD [] rfl (by decide)) hl.1 rfl (Nat.le_of_ble_eq_true rfl) dX11_keeps_4 ⟨Nat.zero_le _, Nat.zero_le _⟩) hP hD hS hA [] [0, 1] [0, 1] rfl rfl (by decide) (by decide) rfl (by decide) (fun H locs hP hD hS => ?_)
  have hP : va_P D vwCl [ob q_t 11 [.long v_t_trace, .ref q_t_text, .int v_t_typed, .ref q_t_told, .ref q_t_draft, .ref q_t_s, .ref q_t_images, .ref q_t_kept, .ref q_t_heard, .ref q_t_hours, .int v_t_noted, .int v_t_at, .int v_t_sort, .int v_t_start, .int v_t_value, .ref q_t_row, .ref q_t_best, .int v_t_bestMany, .int v_t_bestWorth, .int v_t_bestHour, .ref q_t_places, .ref q_t_pairs], ia C q_t_s 254 r_t_s] H := hP
  have hD : va_D A [ob q_t 11 [.long v_t_trace, .ref q_t_text, .int v_t_typed, .ref q_t_told, .ref q_t_draft, .ref q_t_s, .ref q_t_images, .ref q_t_kept, .ref q_t_heard, .ref q_t_hours, .int v_t_noted, .int v_t_at, .int v_t_sort, .int v_t_start, .int v_t_value, .ref q_t_row, .ref q_t_best, .int v_t_bestMany, .int v_t_bestWorth, .int v_t_bestHour, .ref q_t_places, .ref q_t_pairs], ia C q_t_s 254 r_t_s] := hD
  refine lv_if_ne (tgt := 12) hx hb dX11_keeps_7 (by decide) (fun c2 => ?_) (fun c2 => ?_)
  · have hf := of_neg hf c2
    refine lv_aload_n hx hb dX11_keeps_12 rfl (lv_at hl 0 rfl) ?_
    obtain ⟨o3, ho3, hf⟩ := of_bind hf
    refine c_I (wr := []) (W2 := [ob q_t 11 [.long v_t_trace, .ref q_t_text, .int v_t_typed, .ref q_t_told, .ref q_t_draft, .ref q_t_s, .ref q_t_images, .ref q_t_kept, .ref q_t_heard, .ref q_t_hours, .int v_t_noted, .int v_t_at, .int v_t_sort, .int v_t_start, .int v_t_value, .ref q_t_row, .ref q_t_best, .int v_t_bestMany, .int v_t_bestWorth, .int v_t_bestHour, .ref q_t_places, .ref q_t_pairs], ia C q_t_s 254 r_t_s]) (cV_run ⟨hx, hb, hml, hown, hts⟩ (k_X11_isHeld l D C q_t q_t_text q_t_told q_t_draft q_t_s q_t_images q_t_kept q_t_heard q_t_hours q_t_row q_t_best q_t_places q_t_pairs v_t_trace v_t_typed v_t_noted v_t_at v_t_sort v_t_start v_t_value v_t_bestMany v_t_bestWorth v_t_bestHour r_t_s H.size o3 ho3) gX11_keeps_X11_isHeld rfl ⟨rfl, rfl⟩ hd_X11_isHeld ⟨(Nat.le_of_ble_eq_true rfl), (Nat.le_of_ble_eq_true rfl)⟩ rfl hK (cut_in hK hP hD [0, 1] rfl (by decide)) (ci := 11) rfl rfl rfl hl.1 rfl (Nat.le_of_ble_eq_true rfl) dX11_keeps_13 ⟨Nat.zero_le _, Nat.zero_le _⟩) hP hD hS hA [0, 1] [] [0, 1] rfl rfl (by decide) (by decide) rfl (by decide) (fun H locs hP hD hS => ?_)
    have hP : va_P D vwCl [ob q_t 11 [.long v_t_trace, .ref q_t_text, .int v_t_typed, .ref q_t_told, .ref q_t_draft, .ref q_t_s, .ref q_t_images, .ref q_t_kept, .ref q_t_heard, .ref q_t_hours, .int v_t_noted, .int v_t_at, .int v_t_sort, .int v_t_start, .int v_t_value, .ref q_t_row, .ref q_t_best, .int v_t_bestMany, .int v_t_bestWorth, .int v_t_bestHour, .ref q_t_places, .ref q_t_pairs], ia C q_t_s 254 r_t_s] H := hP
    have hD : va_D A [ob q_t 11 [.long v_t_trace, .ref q_t_text, .int v_t_typed, .ref q_t_told, .ref q_t_draft, .ref q_t_s, .ref q_t_images, .ref q_t_kept, .ref q_t_heard, .ref q_t_hours, .int v_t_noted, .int v_t_at, .int v_t_sort, .int v_t_start, .int v_t_value, .ref q_t_row, .ref q_t_best, .int v_t_bestMany, .int v_t_bestWorth, .int v_t_bestHour, .ref q_t_places, .ref q_t_pairs], ia C q_t_s 254 r_t_s] := hD
    refine lv_if_eq (tgt := 33) hx hb dX11_keeps_16 (by decide) (fun c4 => ?_) (fun c4 => ?_)
    · have hf := of_pos hf c4
      refine lv_bipush (v := (-2 : Int32)) hx hb dX11_keeps_33 (by decide) ?_
      obtain rfl := Option.some.inj hf
      exact ret_I hx hb hr hlocks hK hP hD hS dX11_keeps_35
    · have hf := of_neg hf c4
      refine lv_aload_n hx hb dX11_keeps_19 rfl (lv_at hl 0 rfl) ?_
      refine va_get (D := D) (ci := 11) (v := .ref q_t_s) (C := RX11) (T := TX11) (N := 22) hx hb hts inX11 hown hK hP 0 rfl rfl 5 (by decide) (hts (.fieldLink RX11 19 "LentCourageModel" "s" "[I") (List.mem_of_getElem? (i := 1) rfl)) (fun _ h9 => h9) rfl dX11_keeps_20 ?_
      refine lv_iconst (v := (0 : Int32)) hx hb dX11_keeps_23 (by decide) ?_
      refine ld_ialdK hx hb hK hP 1 0 rfl rfl (k := 0) (by decide) (by decide) (by decide) dX11_keeps_24 ?_
      refine lv_iload_n hx hb dX11_keeps_25 rfl (lv_at hl 1 rfl) ?_
      refine lv_iadd hx hb dX11_keeps_26 ?_
      refine lv_sipush (v := (200 : Int32)) hx hb dX11_keeps_27 (by decide) ?_
      refine lv_icmp_le (tgt := 36) hx hb dX11_keeps_30 (by decide) (fun c5 => ?_) (fun c5 => ?_)
      · have hf := of_pos hf c5
        refine lv_aload_n hx hb dX11_keeps_36 rfl (lv_at hl 0 rfl) ?_
        obtain ⟨o6, ho6, hf⟩ := of_bind hf
        refine c_V (wr := []) (W2 := [ob q_t 11 [.long v_t_trace, .ref q_t_text, .int v_t_typed, .ref q_t_told, .ref q_t_draft, .ref q_t_s, .ref q_t_images, .ref q_t_kept, .ref q_t_heard, .ref q_t_hours, .int v_t_noted, .int v_t_at, .int v_t_sort, .int v_t_start, .int v_t_value, .ref q_t_row, .ref q_t_best, .int v_t_bestMany, .int v_t_bestWorth, .int v_t_bestHour, .ref q_t_places, .ref q_t_pairs], ia C q_t_s 254 o6]) (cV_run ⟨hx, hb, hml, hown, hts⟩ (k_X11_remembers l D C q_t q_t_text q_t_told q_t_draft q_t_s q_t_images q_t_kept q_t_heard q_t_hours q_t_row q_t_best q_t_places q_t_pairs v_t_trace v_t_typed v_t_noted v_t_at v_t_sort v_t_start v_t_value v_t_bestMany v_t_bestWorth v_t_bestHour r_t_s H.size o6 ho6) gX11_keeps_X11_remembers rfl ⟨rfl, rfl⟩ hd_X11_remembers ⟨(Nat.le_of_ble_eq_true rfl), (Nat.le_of_ble_eq_true rfl)⟩ rfl hK (cut_in hK hP hD [0, 1] rfl (by decide)) (ci := 11) rfl rfl rfl hl.1 rfl (Nat.le_of_ble_eq_true rfl) dX11_keeps_37 ⟨Nat.zero_le _, Nat.zero_le _⟩) hP hD hS hA [0, 1] [] [0, 1] rfl rfl (by decide) (by decide) rfl (by decide) (fun H locs hP hD hS => ?_)
        have hP : va_P D vwCl [ob q_t 11 [.long v_t_trace, .ref q_t_text, .int v_t_typed, .ref q_t_told, .ref q_t_draft, .ref q_t_s, .ref q_t_images, .ref q_t_kept, .ref q_t_heard, .ref q_t_hours, .int v_t_noted, .int v_t_at, .int v_t_sort, .int v_t_start, .int v_t_value, .ref q_t_row, .ref q_t_best, .int v_t_bestMany, .int v_t_bestWorth, .int v_t_bestHour, .ref q_t_places, .ref q_t_pairs], ia C q_t_s 254 o6] H := hP
        have hD : va_D A [ob q_t 11 [.long v_t_trace, .ref q_t_text, .int v_t_typed, .ref q_t_told, .ref q_t_draft, .ref q_t_s, .ref q_t_images, .ref q_t_kept, .ref q_t_heard, .ref q_t_hours, .int v_t_noted, .int v_t_at, .int v_t_sort, .int v_t_start, .int v_t_value, .ref q_t_row, .ref q_t_best, .int v_t_bestMany, .int v_t_bestWorth, .int v_t_bestHour, .ref q_t_places, .ref q_t_pairs], ia C q_t_s 254 o6] := hD
        refine lv_aload_n hx hb dX11_keeps_40 rfl (lv_at hl 0 rfl) ?_
        refine va_get (D := D) (ci := 11) (v := .ref q_t_s) (C := RX11) (T := TX11) (N := 22) hx hb hts inX11 hown hK hP 0 rfl rfl 5 (by decide) (hts (.fieldLink RX11 19 "LentCourageModel" "s" "[I") (List.mem_of_getElem? (i := 1) rfl)) (fun _ h9 => h9) rfl dX11_keeps_41 ?_
        refine lv_iconst (v := (0 : Int32)) hx hb dX11_keeps_44 (by decide) ?_
        refine lv_dup2_11 hx hb dX11_keeps_45 rfl rfl ?_
        refine ld_ialdK hx hb hK hP 1 0 rfl rfl (k := 0) (by decide) (by decide) (by decide) dX11_keeps_46 ?_
        refine lv_iload_n hx hb dX11_keeps_47 rfl (lv_at hl 1 rfl) ?_
        refine lv_iadd hx hb dX11_keeps_48 ?_
        refine lv_topi (fun z7 ez7 => ?_)
        have hf := of_lt hf ez7
        refine st_IK hx hb hK hP hD hS 1 0 rfl rfl (k := 0) (by decide) (by decide) (by decide) dX11_keeps_49 (fun H locs hP hD hS => ?_)
        have hP : va_P D vwCl [ob q_t 11 [.long v_t_trace, .ref q_t_text, .int v_t_typed, .ref q_t_told, .ref q_t_draft, .ref q_t_s, .ref q_t_images, .ref q_t_kept, .ref q_t_heard, .ref q_t_hours, .int v_t_noted, .int v_t_at, .int v_t_sort, .int v_t_start, .int v_t_value, .ref q_t_row, .ref q_t_best, .int v_t_bestMany, .int v_t_bestWorth, .int v_t_bestHour, .ref q_t_places, .ref q_t_pairs], ia C q_t_s 254 (upd o6 0 z7)] H := hP
        have hD : va_D A [ob q_t 11 [.long v_t_trace, .ref q_t_text, .int v_t_typed, .ref q_t_told, .ref q_t_draft, .ref q_t_s, .ref q_t_images, .ref q_t_kept, .ref q_t_heard, .ref q_t_hours, .int v_t_noted, .int v_t_at, .int v_t_sort, .int v_t_start, .int v_t_value, .ref q_t_row, .ref q_t_best, .int v_t_bestMany, .int v_t_bestWorth, .int v_t_bestHour, .ref q_t_places, .ref q_t_pairs], ia C q_t_s 254 (upd o6 0 z7)] := hD
        refine lv_aload_n hx hb dX11_keeps_50 rfl (lv_at hl 0 rfl) ?_
        refine va_get (D := D) (ci := 11) (v := .ref q_t_s) (C := RX11) (T := TX11) (N := 22) hx hb hts inX11 hown hK hP 0 rfl rfl 5 (by decide) (hts (.fieldLink RX11 19 "LentCourageModel" "s" "[I") (List.mem_of_getElem? (i := 1) rfl)) (fun _ h9 => h9) rfl dX11_keeps_51 ?_
        refine lv_iconst (v := (0 : Int32)) hx hb dX11_keeps_54 (by decide) ?_
        refine ld_ialdK hx hb hK hP 1 0 rfl rfl (k := 0) (by decide) (by decide) (by decide) dX11_keeps_55 ?_
        obtain rfl := Option.some.inj hf
        exact ret_I hx hb hr hlocks hK hP hD hS dX11_keeps_56
      · have hf := of_neg hf c5
        refine lv_bipush (v := (-2 : Int32)) hx hb dX11_keeps_33 (by decide) ?_
        obtain rfl := Option.some.inj hf
        exact ret_I hx hb hr hlocks hK hP hD hS dX11_keeps_35
  · have hf := of_pos hf c2
    refine lv_iconst (v := (-1 : Int32)) hx hb dX11_keeps_10 (by decide) ?_
    obtain rfl := Option.some.inj hf
    exact ret_I hx hb hr hlocks hK hP hD hS dX11_keeps_11

def fX11_worthDone_4 (r_t_told_4 : Nat → Int32) (r_t_s_4 : Nat → Int32) : Nat → Int32 → Int32 → Option (Int32 × Int32)
  | 0, _, _ => none
  | n + 1, w2_4, w1_4 => (if (r_t_told_4 1) ≤ w2_4 then some (w2_4, w1_4) else (fX11_isDone r_t_s_4 w2_4).bind (fun o2 => ((if o2 = 0 then some (0 : Int32) else chk (vin ((44 : Int32) + w2_4) 52) (some (r_t_told_4 ((44 : Int32) + w2_4).toNatClampNeg)))).bind (fun j3 => lt_ (w1_4 + j3) (fun z6 => lt_ (w2_4 + (1 : Int32)) (fun z7 => fX11_worthDone_4 r_t_told_4 r_t_s_4 n z7 z6)))))
def fX11_worthDone (r_t_told : Nat → Int32) (r_t_s : Nat → Int32) : Option (Int32) :=
  (fX11_worthDone_4 r_t_told r_t_s FU (0 : Int32) (0 : Int32)).bind (fun y8 => some y8.2)
theorem hd_X11_worthDone : yX11_worthDone.cls = RX11 ∧ yX11_worthDone.cls ≠ "java/lang/invoke/MethodHandle" ∧ yX11_worthDone.cls ≠ "java/lang/invoke/VarHandle" ∧ (parseMethodDescriptor yX11_worthDone.desc).map (fun d => d.parameters.length) = some 0 := by decide +kernel
set_option maxHeartbeats 4000000 in
set_option maxRecDepth 100000 in
theorem k_X11_worthDone (l : Launch) (D : va_G) (C : Nat → ClassId) (q_t : Nat) (q_t_text : Nat) (q_t_told : Nat) (q_t_draft : Nat) (q_t_s : Nat) (q_t_images : Nat) (q_t_kept : Nat) (q_t_heard : Nat) (q_t_hours : Nat) (q_t_row : Nat) (q_t_best : Nat) (q_t_places : Nat) (q_t_pairs : Nat) (v_t_trace : Int64) (v_t_typed : Int32) (v_t_noted : Int32) (v_t_at : Int32) (v_t_sort : Int32) (v_t_start : Int32) (v_t_value : Int32) (v_t_bestMany : Int32) (v_t_bestWorth : Int32) (v_t_bestHour : Int32) (r_t_told : Nat → Int32) (r_t_s : Nat → Int32) (sz : Nat) (out : Int32) (hf : fX11_worthDone r_t_told r_t_s = some out) : MI l yX11_worthDone wsX11_worthDone ({ frames := 2, cells := 0, slots := 0, locals := 42 }) D C [.ref q_t] [ob q_t 11 [.long v_t_trace, .ref q_t_text, .int v_t_typed, .ref q_t_told, .ref q_t_draft, .ref q_t_s, .ref q_t_images, .ref q_t_kept, .ref q_t_heard, .ref q_t_hours, .int v_t_noted, .int v_t_at, .int v_t_sort, .int v_t_start, .int v_t_value, .ref q_t_row, .ref q_t_best, .int v_t_bestMany, .int v_t_bestWorth, .int v_t_bestHour, .ref q_t_places, .ref q_t_pairs], ia C q_t_told 52 r_t_told, ia C q_t_s 254 r_t_s] [ob q_t 11 [.long v_t_trace, .ref q_t_text, .int v_t_typed, .ref q_t_told, .ref q_t_draft, .ref q_t_s, .ref q_t_images, .ref q_t_kept, .ref q_t_heard, .ref q_t_hours, .int v_t_noted, .int v_t_at, .int v_t_sort, .int v_t_start, .int v_t_value, .ref q_t_row, .ref q_t_best, .int v_t_bestMany, .int v_t_bestWorth, .int v_t_bestHour, .ref q_t_places, .ref q_t_pairs], ia C q_t_told 52 r_t_told, ia C q_t_s 254 r_t_s] sz (out) := by
  unfold fX11_worthDone at hf
  refine en_I (by decide) rfl (Nat.le_of_ble_eq_true rfl) ?_
  intro p e s m below meth c A ls H locs hx hb hr hlocks hml hts hown hK hP hD hS hA hl
  have hl : lv_has ls 3 [(0, .ref q_t)] := hl
  have inX11 : ∀ w ∈ u_ws RX11 TX11 22, w ∈ wsX11_worthDone := fun w h => List.mem_cons_of_mem _ (List.mem_append_right _ h)
  have LP4 : ∀ (Q : State → Prop) (n : Nat) (w2_4 : Int32) (w1_4 : Int32) (v_t_trace_4 : Int64) (v_t_typed_4 : Int32) (v_t_noted_4 : Int32) (v_t_at_4 : Int32) (v_t_sort_4 : Int32) (v_t_start_4 : Int32) (v_t_value_4 : Int32) (v_t_bestMany_4 : Int32) (v_t_bestWorth_4 : Int32) (v_t_bestHour_4 : Int32) (r_t_told_4 : Nat → Int32) (r_t_s_4 : Nat → Int32) (y_4 : Int32 × Int32), fX11_worthDone_4 r_t_told_4 r_t_s_4 n w2_4 w1_4 = some y_4 → ∀ (H : Heap) (locs : List Loc) (ls : Array Slot), va_P D vwCl [ob q_t 11 [.long v_t_trace_4, .ref q_t_text, .int v_t_typed_4, .ref q_t_told, .ref q_t_draft, .ref q_t_s, .ref q_t_images, .ref q_t_kept, .ref q_t_heard, .ref q_t_hours, .int v_t_noted_4, .int v_t_at_4, .int v_t_sort_4, .int v_t_start_4, .int v_t_value_4, .ref q_t_row, .ref q_t_best, .int v_t_bestMany_4, .int v_t_bestWorth_4, .int v_t_bestHour_4, .ref q_t_places, .ref q_t_pairs], ia C q_t_told 52 r_t_told_4, ia C q_t_s 254 r_t_s_4] H → va_D A [ob q_t 11 [.long v_t_trace_4, .ref q_t_text, .int v_t_typed_4, .ref q_t_told, .ref q_t_draft, .ref q_t_s, .ref q_t_images, .ref q_t_kept, .ref q_t_heard, .ref q_t_hours, .int v_t_noted_4, .int v_t_at_4, .int v_t_sort_4, .int v_t_start_4, .int v_t_value_4, .ref q_t_row, .ref q_t_best, .int v_t_bestMany_4, .int v_t_bestWorth_4, .int v_t_bestHour_4, .ref q_t_places, .ref q_t_pairs], ia C q_t_told 52 r_t_told_4, ia C q_t_s 254 r_t_s_4] → va_S A s.heap H locs → lv_has ls 3 [(2, .int w2_4), (1, .int w1_4), (0, .ref q_t)] → (∀ (H : Heap) (locs : List Loc) (ls : Array Slot), va_P D vwCl [ob q_t 11 [.long v_t_trace_4, .ref q_t_text, .int v_t_typed_4, .ref q_t_told, .ref q_t_draft, .ref q_t_s, .ref q_t_images, .ref q_t_kept, .ref q_t_heard, .ref q_t_hours, .int v_t_noted_4, .int v_t_at_4, .int v_t_sort_4, .int v_t_start_4, .int v_t_value_4, .ref q_t_row, .ref q_t_best, .int v_t_bestMany_4, .int v_t_bestWorth_4, .int v_t_bestHour_4, .ref q_t_places, .ref q_t_pairs], ia C q_t_told 52 r_t_told_4, ia C q_t_s 254 r_t_s_4] H → va_D A [ob q_t 11 [.long v_t_trace_4, .ref q_t_text, .int v_t_typed_4, .ref q_t_told, .ref q_t_draft, .ref q_t_s, .ref q_t_images, .ref q_t_kept, .ref q_t_heard, .ref q_t_hours, .int v_t_noted_4, .int v_t_at_4, .int v_t_sort_4, .int v_t_start_4, .int v_t_value_4, .ref q_t_row, .ref q_t_best, .int v_t_bestMany_4, .int v_t_bestWorth_4, .int v_t_bestHour_4, .ref q_t_places, .ref q_t_pairs], ia C q_t_told 52 r_t_told_4, ia C q_t_s 254 r_t_s_4] → va_S A s.heap H locs → lv_has ls 3 [(2, .int y_4.1), (1, .int y_4.2), (0, .ref q_t)] → W p l e ({ frames := 2, cells := 0, slots := 0, locals := 42 } : Room) s m ([.ref q_t] : List Value).toArray below meth c H locs 0 0 Q (F0 m 44 ls [])) → W p l e ({ frames := 2, cells := 0, slots := 0, locals := 42 } : Room) s m ([.ref q_t] : List Value).toArray below meth c H locs 0 0 Q (F0 m 4 ls []) := by
    intro Q n
    induction n with
    | zero =>
      intro w2_4 w1_4 v_t_trace_4 v_t_typed_4 v_t_noted_4 v_t_at_4 v_t_sort_4 v_t_start_4 v_t_value_4 v_t_bestMany_4 v_t_bestWorth_4 v_t_bestHour_4 r_t_told_4 r_t_s_4 y_4 hf
      rw [fX11_worthDone_4] at hf
      cases hf
    | succ n ih =>
      intro w2_4 w1_4 v_t_trace_4 v_t_typed_4 v_t_noted_4 v_t_at_4 v_t_sort_4 v_t_start_4 v_t_value_4 v_t_bestMany_4 v_t_bestWorth_4 v_t_bestHour_4 r_t_told_4 r_t_s_4 y_4 hf H locs ls hP hD hS hl KX0
      rw [fX11_worthDone_4] at hf
      refine lv_iload_n hx hb dX11_worthDone_4 rfl (lv_at hl 0 rfl) ?_
      refine lv_aload_n hx hb dX11_worthDone_5 rfl (lv_at hl 2 rfl) ?_
      refine va_get (D := D) (ci := 11) (v := .ref q_t_told) (C := RX11) (T := TX11) (N := 22) hx hb hts inX11 hown hK hP 0 rfl rfl 3 (by decide) (hts (.fieldLink RX11 13 "LentCourageModel" "told" "[I") (List.mem_of_getElem? (i := 1) rfl)) (fun _ h9 => h9) rfl dX11_worthDone_6 ?_
      refine lv_iconst (v := (1 : Int32)) hx hb dX11_worthDone_9 (by decide) ?_
      refine ld_ialdK hx hb hK hP 1 0 rfl rfl (k := 1) (by decide) (by decide) (by decide) dX11_worthDone_10 ?_
      refine lv_icmp_ge (tgt := 44) hx hb dX11_worthDone_11 (by decide) (fun c1 => ?_) (fun c1 => ?_)
      · have hf := of_pos hf c1
        obtain rfl := Option.some.inj hf
        exact KX0 _ _ _ hP hD hS (lv_sub hl [0, 1, 2] rfl)
      · have hf := of_neg hf c1
        refine lv_iload_n hx hb dX11_worthDone_14 rfl (lv_at hl 1 rfl) ?_
        refine lv_aload_n hx hb dX11_worthDone_15 rfl (lv_at hl 2 rfl) ?_
        refine lv_iload_n hx hb dX11_worthDone_16 rfl (lv_at hl 0 rfl) ?_
        obtain ⟨o2, ho2, hf⟩ := of_bind hf
        refine c_I (wr := [ia C q_t_told 52 r_t_told_4]) (W2 := [ob q_t 11 [.long v_t_trace_4, .ref q_t_text, .int v_t_typed_4, .ref q_t_told, .ref q_t_draft, .ref q_t_s, .ref q_t_images, .ref q_t_kept, .ref q_t_heard, .ref q_t_hours, .int v_t_noted_4, .int v_t_at_4, .int v_t_sort_4, .int v_t_start_4, .int v_t_value_4, .ref q_t_row, .ref q_t_best, .int v_t_bestMany_4, .int v_t_bestWorth_4, .int v_t_bestHour_4, .ref q_t_places, .ref q_t_pairs], ia C q_t_told 52 r_t_told_4, ia C q_t_s 254 r_t_s_4]) (cV_run ⟨hx, hb, hml, hown, hts⟩ (k_X11_isDone l D C q_t q_t_text q_t_told q_t_draft q_t_s q_t_images q_t_kept q_t_heard q_t_hours q_t_row q_t_best q_t_places q_t_pairs v_t_trace_4 v_t_typed_4 v_t_noted_4 v_t_at_4 v_t_sort_4 v_t_start_4 v_t_value_4 v_t_bestMany_4 v_t_bestWorth_4 v_t_bestHour_4 r_t_s_4 w2_4 H.size o2 ho2) gX11_worthDone_X11_isDone rfl ⟨rfl, rfl⟩ hd_X11_isDone ⟨(Nat.le_of_ble_eq_true rfl), (Nat.le_of_ble_eq_true rfl)⟩ rfl hK (cut_in hK hP hD [0, 2] rfl (by decide)) (ci := 11) rfl rfl rfl hl.1 rfl (Nat.le_of_ble_eq_true rfl) dX11_worthDone_17 ⟨Nat.zero_le _, Nat.zero_le _⟩) hP hD hS hA [0, 2] [1] [1, 0, 2] rfl rfl (by decide) (by decide) rfl (by decide) (fun H locs hP hD hS => ?_)
        have hP : va_P D vwCl [ob q_t 11 [.long v_t_trace_4, .ref q_t_text, .int v_t_typed_4, .ref q_t_told, .ref q_t_draft, .ref q_t_s, .ref q_t_images, .ref q_t_kept, .ref q_t_heard, .ref q_t_hours, .int v_t_noted_4, .int v_t_at_4, .int v_t_sort_4, .int v_t_start_4, .int v_t_value_4, .ref q_t_row, .ref q_t_best, .int v_t_bestMany_4, .int v_t_bestWorth_4, .int v_t_bestHour_4, .ref q_t_places, .ref q_t_pairs], ia C q_t_told 52 r_t_told_4, ia C q_t_s 254 r_t_s_4] H := hP
        have hD : va_D A [ob q_t 11 [.long v_t_trace_4, .ref q_t_text, .int v_t_typed_4, .ref q_t_told, .ref q_t_draft, .ref q_t_s, .ref q_t_images, .ref q_t_kept, .ref q_t_heard, .ref q_t_hours, .int v_t_noted_4, .int v_t_at_4, .int v_t_sort_4, .int v_t_start_4, .int v_t_value_4, .ref q_t_row, .ref q_t_best, .int v_t_bestMany_4, .int v_t_bestWorth_4, .int v_t_bestHour_4, .ref q_t_places, .ref q_t_pairs], ia C q_t_told 52 r_t_told_4, ia C q_t_s 254 r_t_s_4] := hD
        obtain ⟨j3, hrj3, hf⟩ := of_bind hf
        refine jn (fun H L g => ∃ ls, g = F0 m 36 ls [.int j3, .int w1_4] ∧ va_P D vwCl [ob q_t 11 [.long v_t_trace_4, .ref q_t_text, .int v_t_typed_4, .ref q_t_told, .ref q_t_draft, .ref q_t_s, .ref q_t_images, .ref q_t_kept, .ref q_t_heard, .ref q_t_hours, .int v_t_noted_4, .int v_t_at_4, .int v_t_sort_4, .int v_t_start_4, .int v_t_value_4, .ref q_t_row, .ref q_t_best, .int v_t_bestMany_4, .int v_t_bestWorth_4, .int v_t_bestHour_4, .ref q_t_places, .ref q_t_pairs], ia C q_t_told 52 r_t_told_4, ia C q_t_s 254 r_t_s_4] H ∧ va_D A [ob q_t 11 [.long v_t_trace_4, .ref q_t_text, .int v_t_typed_4, .ref q_t_told, .ref q_t_draft, .ref q_t_s, .ref q_t_images, .ref q_t_kept, .ref q_t_heard, .ref q_t_hours, .int v_t_noted_4, .int v_t_at_4, .int v_t_sort_4, .int v_t_start_4, .int v_t_value_4, .ref q_t_row, .ref q_t_best, .int v_t_bestMany_4, .int v_t_bestWorth_4, .int v_t_bestHour_4, .ref q_t_places, .ref q_t_pairs], ia C q_t_told 52 r_t_told_4, ia C q_t_s 254 r_t_s_4] ∧ va_S A s.heap H L ∧ lv_has ls 3 [(2, .int w2_4), (1, .int w1_4), (0, .ref q_t)]) (fun H locs g hI => ?_) (fun Jj3 => ?_)
        · obtain ⟨ls, rfl, hP, hD, hS, hl⟩ := hI
          refine lv_iadd hx hb dX11_worthDone_36 ?_
          refine lv_topi (fun z6 ez6 => ?_)
          have hf := of_lt hf ez6
          refine lv_istore_n (lv' := [(1, .int z6), (2, .int w2_4), (0, .ref q_t)]) hx hb dX11_worthDone_37 rfl hl (by decide) rfl (fun ls hl => ?_)
          obtain ⟨z7, ez7⟩ : ∃ y : Int32, y = (w2_4 + (1 : Int32)) := ⟨_, rfl⟩
          have hf := of_lt hf ez7
          refine lv_iinc (v := z7) (lv' := [(2, .int z7), (1, .int z6), (0, .ref q_t)]) hx hb dX11_worthDone_38 hl (k := 1) rfl (by rw [ez7]; rfl) (by decide) rfl (fun ls hl => ?_)
          refine lv_goto (tgt := 4) hx hb dX11_worthDone_41 (by decide) ?_
          exact ih _ _ _ _ _ _ _ _ _ _ _ _ _ _ _ hf H locs ls hP hD hS (lv_sub hl [0, 1, 2] rfl) KX0
        · have hf := hrj3
          refine lv_if_eq (tgt := 35) hx hb dX11_worthDone_20 (by decide) (fun c4 => ?_) (fun c4 => ?_)
          · have hf := of_pos hf c4
            refine lv_iconst (v := (0 : Int32)) hx hb dX11_worthDone_35 (by decide) ?_
            obtain rfl := Option.some.inj hf
            exact Jj3 _ _ _ ⟨_, rfl, hP, hD, hS, lv_sub hl [0, 1, 2] rfl⟩
          · have hf := of_neg hf c4
            refine lv_aload_n hx hb dX11_worthDone_23 rfl (lv_at hl 2 rfl) ?_
            refine va_get (D := D) (ci := 11) (v := .ref q_t_told) (C := RX11) (T := TX11) (N := 22) hx hb hts inX11 hown hK hP 0 rfl rfl 3 (by decide) (hts (.fieldLink RX11 13 "LentCourageModel" "told" "[I") (List.mem_of_getElem? (i := 1) rfl)) (fun _ h9 => h9) rfl dX11_worthDone_24 ?_
            refine lv_bipush (v := (44 : Int32)) hx hb dX11_worthDone_27 (by decide) ?_
            refine lv_iload_n hx hb dX11_worthDone_29 rfl (lv_at hl 0 rfl) ?_
            refine lv_iadd hx hb dX11_worthDone_30 ?_
            obtain ⟨h5, hf⟩ := of_chk hf
            refine va_iald hx hb hK hP 1 0 rfl rfl h5 dX11_worthDone_31 ?_
            refine lv_goto (tgt := 36) hx hb dX11_worthDone_32 (by decide) ?_
            obtain rfl := Option.some.inj hf
            exact Jj3 _ _ _ ⟨_, rfl, hP, hD, hS, lv_sub hl [0, 1, 2] rfl⟩
  refine lv_iconst (v := (0 : Int32)) hx hb dX11_worthDone_0 (by decide) ?_
  refine lv_istore_n (lv' := [(1, .int (0 : Int32)), (0, .ref q_t)]) hx hb dX11_worthDone_1 rfl hl (by decide) rfl (fun ls hl => ?_)
  refine lv_iconst (v := (0 : Int32)) hx hb dX11_worthDone_2 (by decide) ?_
  refine lv_istore_n (lv' := [(2, .int (0 : Int32)), (1, .int (0 : Int32)), (0, .ref q_t)]) hx hb dX11_worthDone_3 rfl hl (by decide) rfl (fun ls hl => ?_)
  obtain ⟨y8, hy8, hf⟩ := of_bind hf
  refine LP4 _ FU _ _ _ _ _ _ _ _ _ _ _ _ _ _ y8 hy8 H locs ls hP hD hS (lv_sub hl [0, 1, 2] rfl) (fun H locs ls hP hD hS hl => ?_)
  refine lv_iload_n hx hb dX11_worthDone_44 rfl (lv_at hl 1 rfl) ?_
  obtain rfl := Option.some.inj hf
  exact ret_I hx hb hr hlocks hK hP hD hS dX11_worthDone_45

def fX11_does (r_t_told : Nat → Int32) (r_t_s : Nat → Int32) (p1 : Int32) : Option (Int32 × (Nat → Int32)) :=
  (fX11_isDeed r_t_told p1).bind (fun o1 => (if o1 = 0 then some ((-1 : Int32), r_t_s) else (fX11_isHeld r_t_s).bind (fun o3 => (if o3 = 0 then some ((-2 : Int32), r_t_s) else chk (vin ((12 : Int32) + p1) 52) ((if (r_t_s 1) = (r_t_told ((12 : Int32) + p1).toNatClampNeg) then (if (r_t_s 3) = 0 then some ((-2 : Int32), r_t_s) else (fX11_spoonAt r_t_told r_t_s).bind (fun o8 => chk (vin ((20 : Int32) + p1) 52) ((if o8 = (r_t_told ((20 : Int32) + p1).toNatClampNeg) then (fX11_isDone r_t_s p1).bind (fun o11 => (if o11 = 0 then chk (vin ((28 : Int32) + p1) 52) (chk (vin ((36 : Int32) + p1) 52) ((fX11_in (r_t_s 0) (r_t_told ((28 : Int32) + p1).toNatClampNeg) (r_t_told ((36 : Int32) + p1).toNatClampNeg)).bind (fun o15 => (if o15 = 0 then some ((-2 : Int32), r_t_s) else (fX11_remembers r_t_s).bind (fun o17 => lt_ ((o17 22) ||| ((1 : Int32) <<< (p1 &&& 31))) (fun z18 => (fX11_worthDone r_t_told (upd (upd o17 22 z18) 3 (0 : Int32))).bind (fun o19 => some (o19, (upd (upd o17 22 z18) 3 (0 : Int32)))))))))) else some ((-2 : Int32), r_t_s))) else some ((-2 : Int32), r_t_s))))) else some ((-2 : Int32), r_t_s)))))))
theorem hd_X11_does : yX11_does.cls = RX11 ∧ yX11_does.cls ≠ "java/lang/invoke/MethodHandle" ∧ yX11_does.cls ≠ "java/lang/invoke/VarHandle" ∧ (parseMethodDescriptor yX11_does.desc).map (fun d => d.parameters.length) = some 1 := by decide +kernel
set_option maxHeartbeats 4000000 in
set_option maxRecDepth 100000 in
theorem k_X11_does (l : Launch) (D : va_G) (C : Nat → ClassId) (q_t : Nat) (q_t_text : Nat) (q_t_told : Nat) (q_t_draft : Nat) (q_t_s : Nat) (q_t_images : Nat) (q_t_kept : Nat) (q_t_heard : Nat) (q_t_hours : Nat) (q_t_row : Nat) (q_t_best : Nat) (q_t_places : Nat) (q_t_pairs : Nat) (v_t_trace : Int64) (v_t_typed : Int32) (v_t_noted : Int32) (v_t_at : Int32) (v_t_sort : Int32) (v_t_start : Int32) (v_t_value : Int32) (v_t_bestMany : Int32) (v_t_bestWorth : Int32) (v_t_bestHour : Int32) (r_t_told : Nat → Int32) (r_t_s : Nat → Int32) (p1 : Int32) (sz : Nat) (out : Int32 × (Nat → Int32)) (hf : fX11_does r_t_told r_t_s p1 = some out) : MI l yX11_does wsX11_does ({ frames := 3, cells := 0, slots := 0, locals := 64 }) D C [.ref q_t, .int p1] [ob q_t 11 [.long v_t_trace, .ref q_t_text, .int v_t_typed, .ref q_t_told, .ref q_t_draft, .ref q_t_s, .ref q_t_images, .ref q_t_kept, .ref q_t_heard, .ref q_t_hours, .int v_t_noted, .int v_t_at, .int v_t_sort, .int v_t_start, .int v_t_value, .ref q_t_row, .ref q_t_best, .int v_t_bestMany, .int v_t_bestWorth, .int v_t_bestHour, .ref q_t_places, .ref q_t_pairs], ia C q_t_told 52 r_t_told, ia C q_t_s 254 r_t_s] [ob q_t 11 [.long v_t_trace, .ref q_t_text, .int v_t_typed, .ref q_t_told, .ref q_t_draft, .ref q_t_s, .ref q_t_images, .ref q_t_kept, .ref q_t_heard, .ref q_t_hours, .int v_t_noted, .int v_t_at, .int v_t_sort, .int v_t_start, .int v_t_value, .ref q_t_row, .ref q_t_best, .int v_t_bestMany, .int v_t_bestWorth, .int v_t_bestHour, .ref q_t_places, .ref q_t_pairs], ia C q_t_told 52 r_t_told, ia C q_t_s 254 out.2] sz (out.1) := by
  unfold fX11_does at hf
  refine en_I (by decide) rfl (Nat.le_of_ble_eq_true rfl) ?_
  intro p e s m below meth c A ls H locs hx hb hr hlocks hml hts hown hK hP hD hS hA hl
  have hl : lv_has ls 2 [(0, .ref q_t), (1, .int p1)] := hl
  have inX11 : ∀ w ∈ u_ws RX11 TX11 22, w ∈ wsX11_does := fun w h => List.mem_cons_of_mem _ (List.mem_append_right _ h)
  refine lv_aload_n hx hb dX11_does_0 rfl (lv_at hl 0 rfl) ?_
  refine lv_iload_n hx hb dX11_does_1 rfl (lv_at hl 1 rfl) ?_
  obtain ⟨o1, ho1, hf⟩ := of_bind hf
  refine c_I (wr := [ia C q_t_s 254 r_t_s]) (W2 := [ob q_t 11 [.long v_t_trace, .ref q_t_text, .int v_t_typed, .ref q_t_told, .ref q_t_draft, .ref q_t_s, .ref q_t_images, .ref q_t_kept, .ref q_t_heard, .ref q_t_hours, .int v_t_noted, .int v_t_at, .int v_t_sort, .int v_t_start, .int v_t_value, .ref q_t_row, .ref q_t_best, .int v_t_bestMany, .int v_t_bestWorth, .int v_t_bestHour, .ref q_t_places, .ref q_t_pairs], ia C q_t_told 52 r_t_told, ia C q_t_s 254 r_t_s]) (cV_run ⟨hx, hb, hml, hown, hts⟩ (k_X11_isDeed l D C q_t q_t_text q_t_told q_t_draft q_t_s q_t_images q_t_kept q_t_heard q_t_hours q_t_row q_t_best q_t_places q_t_pairs v_t_trace v_t_typed v_t_noted v_t_at v_t_sort v_t_start v_t_value v_t_bestMany v_t_bestWorth v_t_bestHour r_t_told p1 H.size o1 ho1) gX11_does_X11_isDeed rfl ⟨rfl, rfl⟩ hd_X11_isDeed ⟨(Nat.le_of_ble_eq_true rfl), (Nat.le_of_ble_eq_true rfl)⟩ rfl hK (cut_in hK hP hD [0, 1] rfl (by decide)) (ci := 11) rfl rfl rfl hl.1 rfl (Nat.le_of_ble_eq_true rfl) dX11_does_2 ⟨Nat.zero_le _, Nat.zero_le _⟩) hP hD hS hA [0, 1] [2] [1, 2, 0] rfl rfl (by decide) (by decide) rfl (by decide) (fun H locs hP hD hS => ?_)
  have hP : va_P D vwCl [ob q_t 11 [.long v_t_trace, .ref q_t_text, .int v_t_typed, .ref q_t_told, .ref q_t_draft, .ref q_t_s, .ref q_t_images, .ref q_t_kept, .ref q_t_heard, .ref q_t_hours, .int v_t_noted, .int v_t_at, .int v_t_sort, .int v_t_start, .int v_t_value, .ref q_t_row, .ref q_t_best, .int v_t_bestMany, .int v_t_bestWorth, .int v_t_bestHour, .ref q_t_places, .ref q_t_pairs], ia C q_t_told 52 r_t_told, ia C q_t_s 254 r_t_s] H := hP
  have hD : va_D A [ob q_t 11 [.long v_t_trace, .ref q_t_text, .int v_t_typed, .ref q_t_told, .ref q_t_draft, .ref q_t_s, .ref q_t_images, .ref q_t_kept, .ref q_t_heard, .ref q_t_hours, .int v_t_noted, .int v_t_at, .int v_t_sort, .int v_t_start, .int v_t_value, .ref q_t_row, .ref q_t_best, .int v_t_bestMany, .int v_t_bestWorth, .int v_t_bestHour, .ref q_t_places, .ref q_t_pairs], ia C q_t_told 52 r_t_told, ia C q_t_s 254 r_t_s] := hD
  refine lv_if_ne (tgt := 10) hx hb dX11_does_5 (by decide) (fun c2 => ?_) (fun c2 => ?_)
  · have hf := of_neg hf c2
    refine lv_aload_n hx hb dX11_does_10 rfl (lv_at hl 0 rfl) ?_
    obtain ⟨o3, ho3, hf⟩ := of_bind hf
    refine c_I (wr := [ia C q_t_told 52 r_t_told]) (W2 := [ob q_t 11 [.long v_t_trace, .ref q_t_text, .int v_t_typed, .ref q_t_told, .ref q_t_draft, .ref q_t_s, .ref q_t_images, .ref q_t_kept, .ref q_t_heard, .ref q_t_hours, .int v_t_noted, .int v_t_at, .int v_t_sort, .int v_t_start, .int v_t_value, .ref q_t_row, .ref q_t_best, .int v_t_bestMany, .int v_t_bestWorth, .int v_t_bestHour, .ref q_t_places, .ref q_t_pairs], ia C q_t_told 52 r_t_told, ia C q_t_s 254 r_t_s]) (cV_run ⟨hx, hb, hml, hown, hts⟩ (k_X11_isHeld l D C q_t q_t_text q_t_told q_t_draft q_t_s q_t_images q_t_kept q_t_heard q_t_hours q_t_row q_t_best q_t_places q_t_pairs v_t_trace v_t_typed v_t_noted v_t_at v_t_sort v_t_start v_t_value v_t_bestMany v_t_bestWorth v_t_bestHour r_t_s H.size o3 ho3) gX11_does_X11_isHeld rfl ⟨rfl, rfl⟩ hd_X11_isHeld ⟨(Nat.le_of_ble_eq_true rfl), (Nat.le_of_ble_eq_true rfl)⟩ rfl hK (cut_in hK hP hD [0, 2] rfl (by decide)) (ci := 11) rfl rfl rfl hl.1 rfl (Nat.le_of_ble_eq_true rfl) dX11_does_11 ⟨Nat.zero_le _, Nat.zero_le _⟩) hP hD hS hA [0, 2] [1] [1, 0, 2] rfl rfl (by decide) (by decide) rfl (by decide) (fun H locs hP hD hS => ?_)
    have hP : va_P D vwCl [ob q_t 11 [.long v_t_trace, .ref q_t_text, .int v_t_typed, .ref q_t_told, .ref q_t_draft, .ref q_t_s, .ref q_t_images, .ref q_t_kept, .ref q_t_heard, .ref q_t_hours, .int v_t_noted, .int v_t_at, .int v_t_sort, .int v_t_start, .int v_t_value, .ref q_t_row, .ref q_t_best, .int v_t_bestMany, .int v_t_bestWorth, .int v_t_bestHour, .ref q_t_places, .ref q_t_pairs], ia C q_t_told 52 r_t_told, ia C q_t_s 254 r_t_s] H := hP
    have hD : va_D A [ob q_t 11 [.long v_t_trace, .ref q_t_text, .int v_t_typed, .ref q_t_told, .ref q_t_draft, .ref q_t_s, .ref q_t_images, .ref q_t_kept, .ref q_t_heard, .ref q_t_hours, .int v_t_noted, .int v_t_at, .int v_t_sort, .int v_t_start, .int v_t_value, .ref q_t_row, .ref q_t_best, .int v_t_bestMany, .int v_t_bestWorth, .int v_t_bestHour, .ref q_t_places, .ref q_t_pairs], ia C q_t_told 52 r_t_told, ia C q_t_s 254 r_t_s] := hD
    refine lv_if_eq (tgt := 98) hx hb dX11_does_14 (by decide) (fun c4 => ?_) (fun c4 => ?_)
    · have hf := of_pos hf c4
      refine lv_bipush (v := (-2 : Int32)) hx hb dX11_does_98 (by decide) ?_
      obtain rfl := Option.some.inj hf
      exact ret_I hx hb hr hlocks hK hP hD hS dX11_does_100
    · have hf := of_neg hf c4
      refine lv_aload_n hx hb dX11_does_17 rfl (lv_at hl 0 rfl) ?_
      refine va_get (D := D) (ci := 11) (v := .ref q_t_s) (C := RX11) (T := TX11) (N := 22) hx hb hts inX11 hown hK hP 0 rfl rfl 5 (by decide) (hts (.fieldLink RX11 19 "LentCourageModel" "s" "[I") (List.mem_of_getElem? (i := 1) rfl)) (fun _ h9 => h9) rfl dX11_does_18 ?_
      refine lv_iconst (v := (1 : Int32)) hx hb dX11_does_21 (by decide) ?_
      refine ld_ialdK hx hb hK hP 2 0 rfl rfl (k := 1) (by decide) (by decide) (by decide) dX11_does_22 ?_
      refine lv_aload_n hx hb dX11_does_23 rfl (lv_at hl 0 rfl) ?_
      refine va_get (D := D) (ci := 11) (v := .ref q_t_told) (C := RX11) (T := TX11) (N := 22) hx hb hts inX11 hown hK hP 0 rfl rfl 3 (by decide) (hts (.fieldLink RX11 13 "LentCourageModel" "told" "[I") (List.mem_of_getElem? (i := 2) rfl)) (fun _ h9 => h9) rfl dX11_does_24 ?_
      refine lv_bipush (v := (12 : Int32)) hx hb dX11_does_27 (by decide) ?_
      refine lv_iload_n hx hb dX11_does_29 rfl (lv_at hl 1 rfl) ?_
      refine lv_iadd hx hb dX11_does_30 ?_
      obtain ⟨h5, hf⟩ := of_chk hf
      refine va_iald hx hb hK hP 1 0 rfl rfl h5 dX11_does_31 ?_
      refine lv_icmp_ne (tgt := 98) hx hb dX11_does_32 (by decide) (fun c6 => ?_) (fun c6 => ?_)
      · have hf := of_neg hf c6
        refine lv_bipush (v := (-2 : Int32)) hx hb dX11_does_98 (by decide) ?_
        obtain rfl := Option.some.inj hf
        exact ret_I hx hb hr hlocks hK hP hD hS dX11_does_100
      · have hf := of_pos hf c6
        refine lv_aload_n hx hb dX11_does_35 rfl (lv_at hl 0 rfl) ?_
        refine va_get (D := D) (ci := 11) (v := .ref q_t_s) (C := RX11) (T := TX11) (N := 22) hx hb hts inX11 hown hK hP 0 rfl rfl 5 (by decide) (hts (.fieldLink RX11 19 "LentCourageModel" "s" "[I") (List.mem_of_getElem? (i := 1) rfl)) (fun _ h9 => h9) rfl dX11_does_36 ?_
        refine lv_iconst (v := (3 : Int32)) hx hb dX11_does_39 (by decide) ?_
        refine ld_ialdK hx hb hK hP 2 0 rfl rfl (k := 3) (by decide) (by decide) (by decide) dX11_does_40 ?_
        refine lv_if_eq (tgt := 98) hx hb dX11_does_41 (by decide) (fun c7 => ?_) (fun c7 => ?_)
        · have hf := of_pos hf c7
          refine lv_bipush (v := (-2 : Int32)) hx hb dX11_does_98 (by decide) ?_
          obtain rfl := Option.some.inj hf
          exact ret_I hx hb hr hlocks hK hP hD hS dX11_does_100
        · have hf := of_neg hf c7
          refine lv_aload_n hx hb dX11_does_44 rfl (lv_at hl 0 rfl) ?_
          obtain ⟨o8, ho8, hf⟩ := of_bind hf
          refine c_I (wr := []) (W2 := [ob q_t 11 [.long v_t_trace, .ref q_t_text, .int v_t_typed, .ref q_t_told, .ref q_t_draft, .ref q_t_s, .ref q_t_images, .ref q_t_kept, .ref q_t_heard, .ref q_t_hours, .int v_t_noted, .int v_t_at, .int v_t_sort, .int v_t_start, .int v_t_value, .ref q_t_row, .ref q_t_best, .int v_t_bestMany, .int v_t_bestWorth, .int v_t_bestHour, .ref q_t_places, .ref q_t_pairs], ia C q_t_told 52 r_t_told, ia C q_t_s 254 r_t_s]) (cV_run ⟨hx, hb, hml, hown, hts⟩ (k_X11_spoonAt l D C q_t q_t_text q_t_told q_t_draft q_t_s q_t_images q_t_kept q_t_heard q_t_hours q_t_row q_t_best q_t_places q_t_pairs v_t_trace v_t_typed v_t_noted v_t_at v_t_sort v_t_start v_t_value v_t_bestMany v_t_bestWorth v_t_bestHour r_t_told r_t_s H.size o8 ho8) gX11_does_X11_spoonAt rfl ⟨rfl, rfl⟩ hd_X11_spoonAt ⟨(Nat.le_of_ble_eq_true rfl), (Nat.le_of_ble_eq_true rfl)⟩ rfl hK (cut_in hK hP hD [0, 1, 2] rfl (by decide)) (ci := 11) rfl rfl rfl hl.1 rfl (Nat.le_of_ble_eq_true rfl) dX11_does_45 ⟨Nat.zero_le _, Nat.zero_le _⟩) hP hD hS hA [0, 1, 2] [] [0, 1, 2] rfl rfl (by decide) (by decide) rfl (by decide) (fun H locs hP hD hS => ?_)
          have hP : va_P D vwCl [ob q_t 11 [.long v_t_trace, .ref q_t_text, .int v_t_typed, .ref q_t_told, .ref q_t_draft, .ref q_t_s, .ref q_t_images, .ref q_t_kept, .ref q_t_heard, .ref q_t_hours, .int v_t_noted, .int v_t_at, .int v_t_sort, .int v_t_start, .int v_t_value, .ref q_t_row, .ref q_t_best, .int v_t_bestMany, .int v_t_bestWorth, .int v_t_bestHour, .ref q_t_places, .ref q_t_pairs], ia C q_t_told 52 r_t_told, ia C q_t_s 254 r_t_s] H := hP
          have hD : va_D A [ob q_t 11 [.long v_t_trace, .ref q_t_text, .int v_t_typed, .ref q_t_told, .ref q_t_draft, .ref q_t_s, .ref q_t_images, .ref q_t_kept, .ref q_t_heard, .ref q_t_hours, .int v_t_noted, .int v_t_at, .int v_t_sort, .int v_t_start, .int v_t_value, .ref q_t_row, .ref q_t_best, .int v_t_bestMany, .int v_t_bestWorth, .int v_t_bestHour, .ref q_t_places, .ref q_t_pairs], ia C q_t_told 52 r_t_told, ia C q_t_s 254 r_t_s] := hD
          refine lv_aload_n hx hb dX11_does_48 rfl (lv_at hl 0 rfl) ?_
          refine va_get (D := D) (ci := 11) (v := .ref q_t_told) (C := RX11) (T := TX11) (N := 22) hx hb hts inX11 hown hK hP 0 rfl rfl 3 (by decide) (hts (.fieldLink RX11 13 "LentCourageModel" "told" "[I") (List.mem_of_getElem? (i := 2) rfl)) (fun _ h9 => h9) rfl dX11_does_49 ?_
          refine lv_bipush (v := (20 : Int32)) hx hb dX11_does_52 (by decide) ?_
          refine lv_iload_n hx hb dX11_does_54 rfl (lv_at hl 1 rfl) ?_
          refine lv_iadd hx hb dX11_does_55 ?_
          obtain ⟨h9, hf⟩ := of_chk hf
          refine va_iald hx hb hK hP 1 0 rfl rfl h9 dX11_does_56 ?_
          refine lv_icmp_ne (tgt := 98) hx hb dX11_does_57 (by decide) (fun c10 => ?_) (fun c10 => ?_)
          · have hf := of_neg hf c10
            refine lv_bipush (v := (-2 : Int32)) hx hb dX11_does_98 (by decide) ?_
            obtain rfl := Option.some.inj hf
            exact ret_I hx hb hr hlocks hK hP hD hS dX11_does_100
          · have hf := of_pos hf c10
            refine lv_aload_n hx hb dX11_does_60 rfl (lv_at hl 0 rfl) ?_
            refine lv_iload_n hx hb dX11_does_61 rfl (lv_at hl 1 rfl) ?_
            obtain ⟨o11, ho11, hf⟩ := of_bind hf
            refine c_I (wr := [ia C q_t_told 52 r_t_told]) (W2 := [ob q_t 11 [.long v_t_trace, .ref q_t_text, .int v_t_typed, .ref q_t_told, .ref q_t_draft, .ref q_t_s, .ref q_t_images, .ref q_t_kept, .ref q_t_heard, .ref q_t_hours, .int v_t_noted, .int v_t_at, .int v_t_sort, .int v_t_start, .int v_t_value, .ref q_t_row, .ref q_t_best, .int v_t_bestMany, .int v_t_bestWorth, .int v_t_bestHour, .ref q_t_places, .ref q_t_pairs], ia C q_t_told 52 r_t_told, ia C q_t_s 254 r_t_s]) (cV_run ⟨hx, hb, hml, hown, hts⟩ (k_X11_isDone l D C q_t q_t_text q_t_told q_t_draft q_t_s q_t_images q_t_kept q_t_heard q_t_hours q_t_row q_t_best q_t_places q_t_pairs v_t_trace v_t_typed v_t_noted v_t_at v_t_sort v_t_start v_t_value v_t_bestMany v_t_bestWorth v_t_bestHour r_t_s p1 H.size o11 ho11) gX11_does_X11_isDone rfl ⟨rfl, rfl⟩ hd_X11_isDone ⟨(Nat.le_of_ble_eq_true rfl), (Nat.le_of_ble_eq_true rfl)⟩ rfl hK (cut_in hK hP hD [0, 2] rfl (by decide)) (ci := 11) rfl rfl rfl hl.1 rfl (Nat.le_of_ble_eq_true rfl) dX11_does_62 ⟨Nat.zero_le _, Nat.zero_le _⟩) hP hD hS hA [0, 2] [1] [1, 0, 2] rfl rfl (by decide) (by decide) rfl (by decide) (fun H locs hP hD hS => ?_)
            have hP : va_P D vwCl [ob q_t 11 [.long v_t_trace, .ref q_t_text, .int v_t_typed, .ref q_t_told, .ref q_t_draft, .ref q_t_s, .ref q_t_images, .ref q_t_kept, .ref q_t_heard, .ref q_t_hours, .int v_t_noted, .int v_t_at, .int v_t_sort, .int v_t_start, .int v_t_value, .ref q_t_row, .ref q_t_best, .int v_t_bestMany, .int v_t_bestWorth, .int v_t_bestHour, .ref q_t_places, .ref q_t_pairs], ia C q_t_told 52 r_t_told, ia C q_t_s 254 r_t_s] H := hP
            have hD : va_D A [ob q_t 11 [.long v_t_trace, .ref q_t_text, .int v_t_typed, .ref q_t_told, .ref q_t_draft, .ref q_t_s, .ref q_t_images, .ref q_t_kept, .ref q_t_heard, .ref q_t_hours, .int v_t_noted, .int v_t_at, .int v_t_sort, .int v_t_start, .int v_t_value, .ref q_t_row, .ref q_t_best, .int v_t_bestMany, .int v_t_bestWorth, .int v_t_bestHour, .ref q_t_places, .ref q_t_pairs], ia C q_t_told 52 r_t_told, ia C q_t_s 254 r_t_s] := hD
            refine lv_if_ne (tgt := 98) hx hb dX11_does_65 (by decide) (fun c12 => ?_) (fun c12 => ?_)
            · have hf := of_neg hf c12
              refine lv_bipush (v := (-2 : Int32)) hx hb dX11_does_98 (by decide) ?_
              obtain rfl := Option.some.inj hf
              exact ret_I hx hb hr hlocks hK hP hD hS dX11_does_100
            · have hf := of_pos hf c12
              refine lv_aload_n hx hb dX11_does_68 rfl (lv_at hl 0 rfl) ?_
              refine va_get (D := D) (ci := 11) (v := .ref q_t_s) (C := RX11) (T := TX11) (N := 22) hx hb hts inX11 hown hK hP 0 rfl rfl 5 (by decide) (hts (.fieldLink RX11 19 "LentCourageModel" "s" "[I") (List.mem_of_getElem? (i := 1) rfl)) (fun _ h9 => h9) rfl dX11_does_69 ?_
              refine lv_iconst (v := (0 : Int32)) hx hb dX11_does_72 (by decide) ?_
              refine ld_ialdK hx hb hK hP 2 0 rfl rfl (k := 0) (by decide) (by decide) (by decide) dX11_does_73 ?_
              refine lv_aload_n hx hb dX11_does_74 rfl (lv_at hl 0 rfl) ?_
              refine va_get (D := D) (ci := 11) (v := .ref q_t_told) (C := RX11) (T := TX11) (N := 22) hx hb hts inX11 hown hK hP 0 rfl rfl 3 (by decide) (hts (.fieldLink RX11 13 "LentCourageModel" "told" "[I") (List.mem_of_getElem? (i := 2) rfl)) (fun _ h9 => h9) rfl dX11_does_75 ?_
              refine lv_bipush (v := (28 : Int32)) hx hb dX11_does_78 (by decide) ?_
              refine lv_iload_n hx hb dX11_does_80 rfl (lv_at hl 1 rfl) ?_
              refine lv_iadd hx hb dX11_does_81 ?_
              obtain ⟨h13, hf⟩ := of_chk hf
              refine va_iald hx hb hK hP 1 0 rfl rfl h13 dX11_does_82 ?_
              refine lv_aload_n hx hb dX11_does_83 rfl (lv_at hl 0 rfl) ?_
              refine va_get (D := D) (ci := 11) (v := .ref q_t_told) (C := RX11) (T := TX11) (N := 22) hx hb hts inX11 hown hK hP 0 rfl rfl 3 (by decide) (hts (.fieldLink RX11 13 "LentCourageModel" "told" "[I") (List.mem_of_getElem? (i := 2) rfl)) (fun _ h9 => h9) rfl dX11_does_84 ?_
              refine lv_bipush (v := (36 : Int32)) hx hb dX11_does_87 (by decide) ?_
              refine lv_iload_n hx hb dX11_does_89 rfl (lv_at hl 1 rfl) ?_
              refine lv_iadd hx hb dX11_does_90 ?_
              obtain ⟨h14, hf⟩ := of_chk hf
              refine va_iald hx hb hK hP 1 0 rfl rfl h14 dX11_does_91 ?_
              obtain ⟨o15, ho15, hf⟩ := of_bind hf
              refine c_I (wr := [ob q_t 11 [.long v_t_trace, .ref q_t_text, .int v_t_typed, .ref q_t_told, .ref q_t_draft, .ref q_t_s, .ref q_t_images, .ref q_t_kept, .ref q_t_heard, .ref q_t_hours, .int v_t_noted, .int v_t_at, .int v_t_sort, .int v_t_start, .int v_t_value, .ref q_t_row, .ref q_t_best, .int v_t_bestMany, .int v_t_bestWorth, .int v_t_bestHour, .ref q_t_places, .ref q_t_pairs], ia C q_t_told 52 r_t_told, ia C q_t_s 254 r_t_s]) (W2 := [ob q_t 11 [.long v_t_trace, .ref q_t_text, .int v_t_typed, .ref q_t_told, .ref q_t_draft, .ref q_t_s, .ref q_t_images, .ref q_t_kept, .ref q_t_heard, .ref q_t_hours, .int v_t_noted, .int v_t_at, .int v_t_sort, .int v_t_start, .int v_t_value, .ref q_t_row, .ref q_t_best, .int v_t_bestMany, .int v_t_bestWorth, .int v_t_bestHour, .ref q_t_places, .ref q_t_pairs], ia C q_t_told 52 r_t_told, ia C q_t_s 254 r_t_s]) (cS_run ⟨hx, hb, hml, hown, hts⟩ (k_X11_in l D C (r_t_s 0) (r_t_told ((28 : Int32) + p1).toNatClampNeg) (r_t_told ((36 : Int32) + p1).toNatClampNeg) H.size o15 ho15) gX11_does_X11_in rfl ⟨rfl, rfl⟩ hd_X11_in ⟨(Nat.le_of_ble_eq_true rfl), (Nat.le_of_ble_eq_true rfl)⟩ rfl hK (cut_in hK hP hD [] rfl (by decide)) hl.1 rfl (Nat.le_of_ble_eq_true rfl) dX11_does_92 ⟨Nat.zero_le _, Nat.zero_le _⟩) hP hD hS hA [] [0, 1, 2] [0, 1, 2] rfl rfl (by decide) (by decide) rfl (by decide) (fun H locs hP hD hS => ?_)
              have hP : va_P D vwCl [ob q_t 11 [.long v_t_trace, .ref q_t_text, .int v_t_typed, .ref q_t_told, .ref q_t_draft, .ref q_t_s, .ref q_t_images, .ref q_t_kept, .ref q_t_heard, .ref q_t_hours, .int v_t_noted, .int v_t_at, .int v_t_sort, .int v_t_start, .int v_t_value, .ref q_t_row, .ref q_t_best, .int v_t_bestMany, .int v_t_bestWorth, .int v_t_bestHour, .ref q_t_places, .ref q_t_pairs], ia C q_t_told 52 r_t_told, ia C q_t_s 254 r_t_s] H := hP
              have hD : va_D A [ob q_t 11 [.long v_t_trace, .ref q_t_text, .int v_t_typed, .ref q_t_told, .ref q_t_draft, .ref q_t_s, .ref q_t_images, .ref q_t_kept, .ref q_t_heard, .ref q_t_hours, .int v_t_noted, .int v_t_at, .int v_t_sort, .int v_t_start, .int v_t_value, .ref q_t_row, .ref q_t_best, .int v_t_bestMany, .int v_t_bestWorth, .int v_t_bestHour, .ref q_t_places, .ref q_t_pairs], ia C q_t_told 52 r_t_told, ia C q_t_s 254 r_t_s] := hD
              refine lv_if_ne (tgt := 101) hx hb dX11_does_95 (by decide) (fun c16 => ?_) (fun c16 => ?_)
              · have hf := of_neg hf c16
                refine lv_aload_n hx hb dX11_does_101 rfl (lv_at hl 0 rfl) ?_
                obtain ⟨o17, ho17, hf⟩ := of_bind hf
                refine c_V (wr := [ia C q_t_told 52 r_t_told]) (W2 := [ob q_t 11 [.long v_t_trace, .ref q_t_text, .int v_t_typed, .ref q_t_told, .ref q_t_draft, .ref q_t_s, .ref q_t_images, .ref q_t_kept, .ref q_t_heard, .ref q_t_hours, .int v_t_noted, .int v_t_at, .int v_t_sort, .int v_t_start, .int v_t_value, .ref q_t_row, .ref q_t_best, .int v_t_bestMany, .int v_t_bestWorth, .int v_t_bestHour, .ref q_t_places, .ref q_t_pairs], ia C q_t_told 52 r_t_told, ia C q_t_s 254 o17]) (cV_run ⟨hx, hb, hml, hown, hts⟩ (k_X11_remembers l D C q_t q_t_text q_t_told q_t_draft q_t_s q_t_images q_t_kept q_t_heard q_t_hours q_t_row q_t_best q_t_places q_t_pairs v_t_trace v_t_typed v_t_noted v_t_at v_t_sort v_t_start v_t_value v_t_bestMany v_t_bestWorth v_t_bestHour r_t_s H.size o17 ho17) gX11_does_X11_remembers rfl ⟨rfl, rfl⟩ hd_X11_remembers ⟨(Nat.le_of_ble_eq_true rfl), (Nat.le_of_ble_eq_true rfl)⟩ rfl hK (cut_in hK hP hD [0, 2] rfl (by decide)) (ci := 11) rfl rfl rfl hl.1 rfl (Nat.le_of_ble_eq_true rfl) dX11_does_102 ⟨Nat.zero_le _, Nat.zero_le _⟩) hP hD hS hA [0, 2] [1] [1, 0, 2] rfl rfl (by decide) (by decide) rfl (by decide) (fun H locs hP hD hS => ?_)
                have hP : va_P D vwCl [ob q_t 11 [.long v_t_trace, .ref q_t_text, .int v_t_typed, .ref q_t_told, .ref q_t_draft, .ref q_t_s, .ref q_t_images, .ref q_t_kept, .ref q_t_heard, .ref q_t_hours, .int v_t_noted, .int v_t_at, .int v_t_sort, .int v_t_start, .int v_t_value, .ref q_t_row, .ref q_t_best, .int v_t_bestMany, .int v_t_bestWorth, .int v_t_bestHour, .ref q_t_places, .ref q_t_pairs], ia C q_t_told 52 r_t_told, ia C q_t_s 254 o17] H := hP
                have hD : va_D A [ob q_t 11 [.long v_t_trace, .ref q_t_text, .int v_t_typed, .ref q_t_told, .ref q_t_draft, .ref q_t_s, .ref q_t_images, .ref q_t_kept, .ref q_t_heard, .ref q_t_hours, .int v_t_noted, .int v_t_at, .int v_t_sort, .int v_t_start, .int v_t_value, .ref q_t_row, .ref q_t_best, .int v_t_bestMany, .int v_t_bestWorth, .int v_t_bestHour, .ref q_t_places, .ref q_t_pairs], ia C q_t_told 52 r_t_told, ia C q_t_s 254 o17] := hD
                refine lv_aload_n hx hb dX11_does_105 rfl (lv_at hl 0 rfl) ?_
                refine va_get (D := D) (ci := 11) (v := .ref q_t_s) (C := RX11) (T := TX11) (N := 22) hx hb hts inX11 hown hK hP 0 rfl rfl 5 (by decide) (hts (.fieldLink RX11 19 "LentCourageModel" "s" "[I") (List.mem_of_getElem? (i := 1) rfl)) (fun _ h9 => h9) rfl dX11_does_106 ?_
                refine lv_bipush (v := (22 : Int32)) hx hb dX11_does_109 (by decide) ?_
                refine lv_dup2_11 hx hb dX11_does_111 rfl rfl ?_
                refine ld_ialdK hx hb hK hP 2 0 rfl rfl (k := 22) (by decide) (by decide) (by decide) dX11_does_112 ?_
                refine lv_iconst (v := (1 : Int32)) hx hb dX11_does_113 (by decide) ?_
                refine lv_iload_n hx hb dX11_does_114 rfl (lv_at hl 1 rfl) ?_
                refine lv_ishl hx hb dX11_does_115 ?_
                refine lv_ior hx hb dX11_does_116 ?_
                refine lv_topi (fun z18 ez18 => ?_)
                have hf := of_lt hf ez18
                refine st_IK hx hb hK hP hD hS 2 0 rfl rfl (k := 22) (by decide) (by decide) (by decide) dX11_does_117 (fun H locs hP hD hS => ?_)
                have hP : va_P D vwCl [ob q_t 11 [.long v_t_trace, .ref q_t_text, .int v_t_typed, .ref q_t_told, .ref q_t_draft, .ref q_t_s, .ref q_t_images, .ref q_t_kept, .ref q_t_heard, .ref q_t_hours, .int v_t_noted, .int v_t_at, .int v_t_sort, .int v_t_start, .int v_t_value, .ref q_t_row, .ref q_t_best, .int v_t_bestMany, .int v_t_bestWorth, .int v_t_bestHour, .ref q_t_places, .ref q_t_pairs], ia C q_t_told 52 r_t_told, ia C q_t_s 254 (upd o17 22 z18)] H := hP
                have hD : va_D A [ob q_t 11 [.long v_t_trace, .ref q_t_text, .int v_t_typed, .ref q_t_told, .ref q_t_draft, .ref q_t_s, .ref q_t_images, .ref q_t_kept, .ref q_t_heard, .ref q_t_hours, .int v_t_noted, .int v_t_at, .int v_t_sort, .int v_t_start, .int v_t_value, .ref q_t_row, .ref q_t_best, .int v_t_bestMany, .int v_t_bestWorth, .int v_t_bestHour, .ref q_t_places, .ref q_t_pairs], ia C q_t_told 52 r_t_told, ia C q_t_s 254 (upd o17 22 z18)] := hD
                refine lv_aload_n hx hb dX11_does_118 rfl (lv_at hl 0 rfl) ?_
                refine va_get (D := D) (ci := 11) (v := .ref q_t_s) (C := RX11) (T := TX11) (N := 22) hx hb hts inX11 hown hK hP 0 rfl rfl 5 (by decide) (hts (.fieldLink RX11 19 "LentCourageModel" "s" "[I") (List.mem_of_getElem? (i := 1) rfl)) (fun _ h9 => h9) rfl dX11_does_119 ?_
                refine lv_iconst (v := (3 : Int32)) hx hb dX11_does_122 (by decide) ?_
                refine lv_iconst (v := (0 : Int32)) hx hb dX11_does_123 (by decide) ?_
                refine st_IK hx hb hK hP hD hS 2 0 rfl rfl (k := 3) (by decide) (by decide) (by decide) dX11_does_124 (fun H locs hP hD hS => ?_)
                have hP : va_P D vwCl [ob q_t 11 [.long v_t_trace, .ref q_t_text, .int v_t_typed, .ref q_t_told, .ref q_t_draft, .ref q_t_s, .ref q_t_images, .ref q_t_kept, .ref q_t_heard, .ref q_t_hours, .int v_t_noted, .int v_t_at, .int v_t_sort, .int v_t_start, .int v_t_value, .ref q_t_row, .ref q_t_best, .int v_t_bestMany, .int v_t_bestWorth, .int v_t_bestHour, .ref q_t_places, .ref q_t_pairs], ia C q_t_told 52 r_t_told, ia C q_t_s 254 (upd (upd o17 22 z18) 3 (0 : Int32))] H := hP
                have hD : va_D A [ob q_t 11 [.long v_t_trace, .ref q_t_text, .int v_t_typed, .ref q_t_told, .ref q_t_draft, .ref q_t_s, .ref q_t_images, .ref q_t_kept, .ref q_t_heard, .ref q_t_hours, .int v_t_noted, .int v_t_at, .int v_t_sort, .int v_t_start, .int v_t_value, .ref q_t_row, .ref q_t_best, .int v_t_bestMany, .int v_t_bestWorth, .int v_t_bestHour, .ref q_t_places, .ref q_t_pairs], ia C q_t_told 52 r_t_told, ia C q_t_s 254 (upd (upd o17 22 z18) 3 (0 : Int32))] := hD
                refine lv_aload_n hx hb dX11_does_125 rfl (lv_at hl 0 rfl) ?_
                obtain ⟨o19, ho19, hf⟩ := of_bind hf
                refine c_I (wr := []) (W2 := [ob q_t 11 [.long v_t_trace, .ref q_t_text, .int v_t_typed, .ref q_t_told, .ref q_t_draft, .ref q_t_s, .ref q_t_images, .ref q_t_kept, .ref q_t_heard, .ref q_t_hours, .int v_t_noted, .int v_t_at, .int v_t_sort, .int v_t_start, .int v_t_value, .ref q_t_row, .ref q_t_best, .int v_t_bestMany, .int v_t_bestWorth, .int v_t_bestHour, .ref q_t_places, .ref q_t_pairs], ia C q_t_told 52 r_t_told, ia C q_t_s 254 (upd (upd o17 22 z18) 3 (0 : Int32))]) (cV_run ⟨hx, hb, hml, hown, hts⟩ (k_X11_worthDone l D C q_t q_t_text q_t_told q_t_draft q_t_s q_t_images q_t_kept q_t_heard q_t_hours q_t_row q_t_best q_t_places q_t_pairs v_t_trace v_t_typed v_t_noted v_t_at v_t_sort v_t_start v_t_value v_t_bestMany v_t_bestWorth v_t_bestHour r_t_told (upd (upd o17 22 z18) 3 (0 : Int32)) H.size o19 ho19) gX11_does_X11_worthDone rfl ⟨rfl, rfl⟩ hd_X11_worthDone ⟨(Nat.le_of_ble_eq_true rfl), (Nat.le_of_ble_eq_true rfl)⟩ rfl hK (cut_in hK hP hD [0, 1, 2] rfl (by decide)) (ci := 11) rfl rfl rfl hl.1 rfl (Nat.le_of_ble_eq_true rfl) dX11_does_126 ⟨Nat.zero_le _, Nat.zero_le _⟩) hP hD hS hA [0, 1, 2] [] [0, 1, 2] rfl rfl (by decide) (by decide) rfl (by decide) (fun H locs hP hD hS => ?_)
                have hP : va_P D vwCl [ob q_t 11 [.long v_t_trace, .ref q_t_text, .int v_t_typed, .ref q_t_told, .ref q_t_draft, .ref q_t_s, .ref q_t_images, .ref q_t_kept, .ref q_t_heard, .ref q_t_hours, .int v_t_noted, .int v_t_at, .int v_t_sort, .int v_t_start, .int v_t_value, .ref q_t_row, .ref q_t_best, .int v_t_bestMany, .int v_t_bestWorth, .int v_t_bestHour, .ref q_t_places, .ref q_t_pairs], ia C q_t_told 52 r_t_told, ia C q_t_s 254 (upd (upd o17 22 z18) 3 (0 : Int32))] H := hP
                have hD : va_D A [ob q_t 11 [.long v_t_trace, .ref q_t_text, .int v_t_typed, .ref q_t_told, .ref q_t_draft, .ref q_t_s, .ref q_t_images, .ref q_t_kept, .ref q_t_heard, .ref q_t_hours, .int v_t_noted, .int v_t_at, .int v_t_sort, .int v_t_start, .int v_t_value, .ref q_t_row, .ref q_t_best, .int v_t_bestMany, .int v_t_bestWorth, .int v_t_bestHour, .ref q_t_places, .ref q_t_pairs], ia C q_t_told 52 r_t_told, ia C q_t_s 254 (upd (upd o17 22 z18) 3 (0 : Int32))] := hD
                obtain rfl := Option.some.inj hf
                exact ret_I hx hb hr hlocks hK hP hD hS dX11_does_129
              · have hf := of_pos hf c16
                refine lv_bipush (v := (-2 : Int32)) hx hb dX11_does_98 (by decide) ?_
                obtain rfl := Option.some.inj hf
                exact ret_I hx hb hr hlocks hK hP hD hS dX11_does_100
  · have hf := of_pos hf c2
    refine lv_iconst (v := (-1 : Int32)) hx hb dX11_does_8 (by decide) ?_
    obtain rfl := Option.some.inj hf
    exact ret_I hx hb hr hlocks hK hP hD hS dX11_does_9

def fX11_undo_40 (w1_40 : Int32) : Nat → Int32 → (Nat → Int32) → Option (Int32 × (Nat → Int32))
  | 0, _, _ => none
  | n + 1, w2_40, r_t_s_40 => (if (23 : Int32) ≤ w2_40 then some (w2_40, r_t_s_40) else chk (vin (w1_40 + w2_40) 254) (lt_ (r_t_s_40 (w1_40 + w2_40).toNatClampNeg) (fun z6 => chk (vin w2_40 254) (lt_ (w2_40 + (1 : Int32)) (fun z8 => fX11_undo_40 w1_40 n z8 (upd r_t_s_40 w2_40.toNatClampNeg z6))))))
def fX11_undo (r_t_s : Nat → Int32) : Option (Int32 × (Nat → Int32)) :=
  (if (r_t_s 23) = 0 then some ((-2 : Int32), r_t_s) else lt_ ((r_t_s 23) - (1 : Int32)) (fun z2 => lt_ ((24 : Int32) + ((23 : Int32) * ((upd r_t_s 23 z2) 23))) (fun z3 => (fX11_undo_40 z3 FU (0 : Int32) (upd r_t_s 23 z2)).bind (fun y9 => some ((y9.2 23), y9.2)))))
theorem hd_X11_undo : yX11_undo.cls = RX11 ∧ yX11_undo.cls ≠ "java/lang/invoke/MethodHandle" ∧ yX11_undo.cls ≠ "java/lang/invoke/VarHandle" ∧ (parseMethodDescriptor yX11_undo.desc).map (fun d => d.parameters.length) = some 0 := by decide +kernel
set_option maxHeartbeats 4000000 in
set_option maxRecDepth 100000 in
theorem k_X11_undo (l : Launch) (D : va_G) (C : Nat → ClassId) (q_t : Nat) (q_t_text : Nat) (q_t_told : Nat) (q_t_draft : Nat) (q_t_s : Nat) (q_t_images : Nat) (q_t_kept : Nat) (q_t_heard : Nat) (q_t_hours : Nat) (q_t_row : Nat) (q_t_best : Nat) (q_t_places : Nat) (q_t_pairs : Nat) (v_t_trace : Int64) (v_t_typed : Int32) (v_t_noted : Int32) (v_t_at : Int32) (v_t_sort : Int32) (v_t_start : Int32) (v_t_value : Int32) (v_t_bestMany : Int32) (v_t_bestWorth : Int32) (v_t_bestHour : Int32) (r_t_s : Nat → Int32) (sz : Nat) (out : Int32 × (Nat → Int32)) (hf : fX11_undo r_t_s = some out) : MI l yX11_undo wsX11_undo ({ frames := 0, cells := 0, slots := 0, locals := 0 }) D C [.ref q_t] [ob q_t 11 [.long v_t_trace, .ref q_t_text, .int v_t_typed, .ref q_t_told, .ref q_t_draft, .ref q_t_s, .ref q_t_images, .ref q_t_kept, .ref q_t_heard, .ref q_t_hours, .int v_t_noted, .int v_t_at, .int v_t_sort, .int v_t_start, .int v_t_value, .ref q_t_row, .ref q_t_best, .int v_t_bestMany, .int v_t_bestWorth, .int v_t_bestHour, .ref q_t_places, .ref q_t_pairs], ia C q_t_s 254 r_t_s] [ob q_t 11 [.long v_t_trace, .ref q_t_text, .int v_t_typed, .ref q_t_told, .ref q_t_draft, .ref q_t_s, .ref q_t_images, .ref q_t_kept, .ref q_t_heard, .ref q_t_hours, .int v_t_noted, .int v_t_at, .int v_t_sort, .int v_t_start, .int v_t_value, .ref q_t_row, .ref q_t_best, .int v_t_bestMany, .int v_t_bestWorth, .int v_t_bestHour, .ref q_t_places, .ref q_t_pairs], ia C q_t_s 254 out.2] sz (out.1) := by
  unfold fX11_undo at hf
  refine en_I (by decide) rfl (Nat.le_of_ble_eq_true rfl) ?_
  intro p e s m below meth c A ls H locs hx hb hr hlocks hml hts hown hK hP hD hS hA hl
  have hl : lv_has ls 3 [(0, .ref q_t)] := hl
  have inX11 : ∀ w ∈ u_ws RX11 TX11 22, w ∈ wsX11_undo := fun w h => List.mem_cons_of_mem _ (List.mem_append_right _ h)
  have LP40 : ∀ (Q : State → Prop) (n : Nat) (w2_40 : Int32) (w1_40 : Int32) (v_t_trace_40 : Int64) (v_t_typed_40 : Int32) (v_t_noted_40 : Int32) (v_t_at_40 : Int32) (v_t_sort_40 : Int32) (v_t_start_40 : Int32) (v_t_value_40 : Int32) (v_t_bestMany_40 : Int32) (v_t_bestWorth_40 : Int32) (v_t_bestHour_40 : Int32) (r_t_s_40 : Nat → Int32) (y_40 : Int32 × (Nat → Int32)), fX11_undo_40 w1_40 n w2_40 r_t_s_40 = some y_40 → ∀ (H : Heap) (locs : List Loc) (ls : Array Slot), va_P D vwCl [ob q_t 11 [.long v_t_trace_40, .ref q_t_text, .int v_t_typed_40, .ref q_t_told, .ref q_t_draft, .ref q_t_s, .ref q_t_images, .ref q_t_kept, .ref q_t_heard, .ref q_t_hours, .int v_t_noted_40, .int v_t_at_40, .int v_t_sort_40, .int v_t_start_40, .int v_t_value_40, .ref q_t_row, .ref q_t_best, .int v_t_bestMany_40, .int v_t_bestWorth_40, .int v_t_bestHour_40, .ref q_t_places, .ref q_t_pairs], ia C q_t_s 254 r_t_s_40] H → va_D A [ob q_t 11 [.long v_t_trace_40, .ref q_t_text, .int v_t_typed_40, .ref q_t_told, .ref q_t_draft, .ref q_t_s, .ref q_t_images, .ref q_t_kept, .ref q_t_heard, .ref q_t_hours, .int v_t_noted_40, .int v_t_at_40, .int v_t_sort_40, .int v_t_start_40, .int v_t_value_40, .ref q_t_row, .ref q_t_best, .int v_t_bestMany_40, .int v_t_bestWorth_40, .int v_t_bestHour_40, .ref q_t_places, .ref q_t_pairs], ia C q_t_s 254 r_t_s_40] → va_S A s.heap H locs → lv_has ls 3 [(2, .int w2_40), (1, .int w1_40), (0, .ref q_t)] → (∀ (H : Heap) (locs : List Loc) (ls : Array Slot), va_P D vwCl [ob q_t 11 [.long v_t_trace_40, .ref q_t_text, .int v_t_typed_40, .ref q_t_told, .ref q_t_draft, .ref q_t_s, .ref q_t_images, .ref q_t_kept, .ref q_t_heard, .ref q_t_hours, .int v_t_noted_40, .int v_t_at_40, .int v_t_sort_40, .int v_t_start_40, .int v_t_value_40, .ref q_t_row, .ref q_t_best, .int v_t_bestMany_40, .int v_t_bestWorth_40, .int v_t_bestHour_40, .ref q_t_places, .ref q_t_pairs], ia C q_t_s 254 y_40.2] H → va_D A [ob q_t 11 [.long v_t_trace_40, .ref q_t_text, .int v_t_typed_40, .ref q_t_told, .ref q_t_draft, .ref q_t_s, .ref q_t_images, .ref q_t_kept, .ref q_t_heard, .ref q_t_hours, .int v_t_noted_40, .int v_t_at_40, .int v_t_sort_40, .int v_t_start_40, .int v_t_value_40, .ref q_t_row, .ref q_t_best, .int v_t_bestMany_40, .int v_t_bestWorth_40, .int v_t_bestHour_40, .ref q_t_places, .ref q_t_pairs], ia C q_t_s 254 y_40.2] → va_S A s.heap H locs → lv_has ls 3 [(2, .int y_40.1), (1, .int w1_40), (0, .ref q_t)] → W p l e ({ frames := 0, cells := 0, slots := 0, locals := 0 } : Room) s m ([.ref q_t] : List Value).toArray below meth c H locs 0 0 Q (F0 m 66 ls [])) → W p l e ({ frames := 0, cells := 0, slots := 0, locals := 0 } : Room) s m ([.ref q_t] : List Value).toArray below meth c H locs 0 0 Q (F0 m 40 ls []) := by
    intro Q n
    induction n with
    | zero =>
      intro w2_40 w1_40 v_t_trace_40 v_t_typed_40 v_t_noted_40 v_t_at_40 v_t_sort_40 v_t_start_40 v_t_value_40 v_t_bestMany_40 v_t_bestWorth_40 v_t_bestHour_40 r_t_s_40 y_40 hf
      rw [fX11_undo_40] at hf
      cases hf
    | succ n ih =>
      intro w2_40 w1_40 v_t_trace_40 v_t_typed_40 v_t_noted_40 v_t_at_40 v_t_sort_40 v_t_start_40 v_t_value_40 v_t_bestMany_40 v_t_bestWorth_40 v_t_bestHour_40 r_t_s_40 y_40 hf H locs ls hP hD hS hl KX0
      rw [fX11_undo_40] at hf
      refine lv_iload_n hx hb dX11_undo_40 rfl (lv_at hl 0 rfl) ?_
      refine lv_bipush (v := (23 : Int32)) hx hb dX11_undo_41 (by decide) ?_
      refine lv_icmp_ge (tgt := 66) hx hb dX11_undo_43 (by decide) (fun c4 => ?_) (fun c4 => ?_)
      · have hf := of_pos hf c4
        obtain rfl := Option.some.inj hf
        exact KX0 _ _ _ hP hD hS (lv_sub hl [0, 1, 2] rfl)
      · have hf := of_neg hf c4
        refine lv_aload_n hx hb dX11_undo_46 rfl (lv_at hl 2 rfl) ?_
        refine va_get (D := D) (ci := 11) (v := .ref q_t_s) (C := RX11) (T := TX11) (N := 22) hx hb hts inX11 hown hK hP 0 rfl rfl 5 (by decide) (hts (.fieldLink RX11 19 "LentCourageModel" "s" "[I") (List.mem_of_getElem? (i := 1) rfl)) (fun _ h9 => h9) rfl dX11_undo_47 ?_
        refine lv_iload_n hx hb dX11_undo_50 rfl (lv_at hl 0 rfl) ?_
        refine lv_aload_n hx hb dX11_undo_51 rfl (lv_at hl 2 rfl) ?_
        refine va_get (D := D) (ci := 11) (v := .ref q_t_s) (C := RX11) (T := TX11) (N := 22) hx hb hts inX11 hown hK hP 0 rfl rfl 5 (by decide) (hts (.fieldLink RX11 19 "LentCourageModel" "s" "[I") (List.mem_of_getElem? (i := 1) rfl)) (fun _ h9 => h9) rfl dX11_undo_52 ?_
        refine lv_iload_n hx hb dX11_undo_55 rfl (lv_at hl 1 rfl) ?_
        refine lv_iload_n hx hb dX11_undo_56 rfl (lv_at hl 0 rfl) ?_
        refine lv_iadd hx hb dX11_undo_57 ?_
        obtain ⟨h5, hf⟩ := of_chk hf
        refine va_iald hx hb hK hP 1 0 rfl rfl h5 dX11_undo_58 ?_
        refine lv_topi (fun z6 ez6 => ?_)
        have hf := of_lt hf ez6
        obtain ⟨h7, hf⟩ := of_chk hf
        refine va_iast hx hb hK hP hD hS 1 0 rfl rfl h7 dX11_undo_59 (fun H locs hP hD hS => ?_)
        have hP : va_P D vwCl [ob q_t 11 [.long v_t_trace_40, .ref q_t_text, .int v_t_typed_40, .ref q_t_told, .ref q_t_draft, .ref q_t_s, .ref q_t_images, .ref q_t_kept, .ref q_t_heard, .ref q_t_hours, .int v_t_noted_40, .int v_t_at_40, .int v_t_sort_40, .int v_t_start_40, .int v_t_value_40, .ref q_t_row, .ref q_t_best, .int v_t_bestMany_40, .int v_t_bestWorth_40, .int v_t_bestHour_40, .ref q_t_places, .ref q_t_pairs], ia C q_t_s 254 (upd r_t_s_40 w2_40.toNatClampNeg z6)] H := hP
        have hD : va_D A [ob q_t 11 [.long v_t_trace_40, .ref q_t_text, .int v_t_typed_40, .ref q_t_told, .ref q_t_draft, .ref q_t_s, .ref q_t_images, .ref q_t_kept, .ref q_t_heard, .ref q_t_hours, .int v_t_noted_40, .int v_t_at_40, .int v_t_sort_40, .int v_t_start_40, .int v_t_value_40, .ref q_t_row, .ref q_t_best, .int v_t_bestMany_40, .int v_t_bestWorth_40, .int v_t_bestHour_40, .ref q_t_places, .ref q_t_pairs], ia C q_t_s 254 (upd r_t_s_40 w2_40.toNatClampNeg z6)] := hD
        obtain ⟨z8, ez8⟩ : ∃ y : Int32, y = (w2_40 + (1 : Int32)) := ⟨_, rfl⟩
        have hf := of_lt hf ez8
        refine lv_iinc (v := z8) (lv' := [(2, .int z8), (1, .int w1_40), (0, .ref q_t)]) hx hb dX11_undo_60 hl (k := 0) rfl (by rw [ez8]; rfl) (by decide) rfl (fun ls hl => ?_)
        refine lv_goto (tgt := 40) hx hb dX11_undo_63 (by decide) ?_
        exact ih _ _ _ _ _ _ _ _ _ _ _ _ _ _ hf H locs ls hP hD hS (lv_sub hl [0, 1, 2] rfl) KX0
  refine lv_aload_n hx hb dX11_undo_0 rfl (lv_at hl 0 rfl) ?_
  refine va_get (D := D) (ci := 11) (v := .ref q_t_s) (C := RX11) (T := TX11) (N := 22) hx hb hts inX11 hown hK hP 0 rfl rfl 5 (by decide) (hts (.fieldLink RX11 19 "LentCourageModel" "s" "[I") (List.mem_of_getElem? (i := 1) rfl)) (fun _ h9 => h9) rfl dX11_undo_1 ?_
  refine lv_bipush (v := (23 : Int32)) hx hb dX11_undo_4 (by decide) ?_
  refine ld_ialdK hx hb hK hP 1 0 rfl rfl (k := 23) (by decide) (by decide) (by decide) dX11_undo_6 ?_
  refine lv_if_ne (tgt := 13) hx hb dX11_undo_7 (by decide) (fun c1 => ?_) (fun c1 => ?_)
  · have hf := of_neg hf c1
    refine lv_aload_n hx hb dX11_undo_13 rfl (lv_at hl 0 rfl) ?_
    refine va_get (D := D) (ci := 11) (v := .ref q_t_s) (C := RX11) (T := TX11) (N := 22) hx hb hts inX11 hown hK hP 0 rfl rfl 5 (by decide) (hts (.fieldLink RX11 19 "LentCourageModel" "s" "[I") (List.mem_of_getElem? (i := 1) rfl)) (fun _ h9 => h9) rfl dX11_undo_14 ?_
    refine lv_bipush (v := (23 : Int32)) hx hb dX11_undo_17 (by decide) ?_
    refine lv_dup2_11 hx hb dX11_undo_19 rfl rfl ?_
    refine ld_ialdK hx hb hK hP 1 0 rfl rfl (k := 23) (by decide) (by decide) (by decide) dX11_undo_20 ?_
    refine lv_iconst (v := (1 : Int32)) hx hb dX11_undo_21 (by decide) ?_
    refine lv_isub hx hb dX11_undo_22 ?_
    refine lv_topi (fun z2 ez2 => ?_)
    have hf := of_lt hf ez2
    refine st_IK hx hb hK hP hD hS 1 0 rfl rfl (k := 23) (by decide) (by decide) (by decide) dX11_undo_23 (fun H locs hP hD hS => ?_)
    have hP : va_P D vwCl [ob q_t 11 [.long v_t_trace, .ref q_t_text, .int v_t_typed, .ref q_t_told, .ref q_t_draft, .ref q_t_s, .ref q_t_images, .ref q_t_kept, .ref q_t_heard, .ref q_t_hours, .int v_t_noted, .int v_t_at, .int v_t_sort, .int v_t_start, .int v_t_value, .ref q_t_row, .ref q_t_best, .int v_t_bestMany, .int v_t_bestWorth, .int v_t_bestHour, .ref q_t_places, .ref q_t_pairs], ia C q_t_s 254 (upd r_t_s 23 z2)] H := hP
    have hD : va_D A [ob q_t 11 [.long v_t_trace, .ref q_t_text, .int v_t_typed, .ref q_t_told, .ref q_t_draft, .ref q_t_s, .ref q_t_images, .ref q_t_kept, .ref q_t_heard, .ref q_t_hours, .int v_t_noted, .int v_t_at, .int v_t_sort, .int v_t_start, .int v_t_value, .ref q_t_row, .ref q_t_best, .int v_t_bestMany, .int v_t_bestWorth, .int v_t_bestHour, .ref q_t_places, .ref q_t_pairs], ia C q_t_s 254 (upd r_t_s 23 z2)] := hD
    refine lv_bipush (v := (24 : Int32)) hx hb dX11_undo_24 (by decide) ?_
    refine lv_bipush (v := (23 : Int32)) hx hb dX11_undo_26 (by decide) ?_
    refine lv_aload_n hx hb dX11_undo_28 rfl (lv_at hl 0 rfl) ?_
    refine va_get (D := D) (ci := 11) (v := .ref q_t_s) (C := RX11) (T := TX11) (N := 22) hx hb hts inX11 hown hK hP 0 rfl rfl 5 (by decide) (hts (.fieldLink RX11 19 "LentCourageModel" "s" "[I") (List.mem_of_getElem? (i := 1) rfl)) (fun _ h9 => h9) rfl dX11_undo_29 ?_
    refine lv_bipush (v := (23 : Int32)) hx hb dX11_undo_32 (by decide) ?_
    refine ld_ialdK hx hb hK hP 1 0 rfl rfl (k := 23) (by decide) (by decide) (by decide) dX11_undo_34 ?_
    refine lv_imul hx hb dX11_undo_35 ?_
    refine lv_iadd hx hb dX11_undo_36 ?_
    refine lv_topi (fun z3 ez3 => ?_)
    have hf := of_lt hf ez3
    refine lv_istore_n (lv' := [(1, .int z3), (0, .ref q_t)]) hx hb dX11_undo_37 rfl hl (by decide) rfl (fun ls hl => ?_)
    refine lv_iconst (v := (0 : Int32)) hx hb dX11_undo_38 (by decide) ?_
    refine lv_istore_n (lv' := [(2, .int (0 : Int32)), (1, .int z3), (0, .ref q_t)]) hx hb dX11_undo_39 rfl hl (by decide) rfl (fun ls hl => ?_)
    obtain ⟨y9, hy9, hf⟩ := of_bind hf
    refine LP40 _ FU _ _ _ _ _ _ _ _ _ _ _ _ _ y9 hy9 H locs ls hP hD hS (lv_sub hl [0, 1, 2] rfl) (fun H locs ls hP hD hS hl => ?_)
    refine lv_aload_n hx hb dX11_undo_66 rfl (lv_at hl 2 rfl) ?_
    refine va_get (D := D) (ci := 11) (v := .ref q_t_s) (C := RX11) (T := TX11) (N := 22) hx hb hts inX11 hown hK hP 0 rfl rfl 5 (by decide) (hts (.fieldLink RX11 19 "LentCourageModel" "s" "[I") (List.mem_of_getElem? (i := 1) rfl)) (fun _ h9 => h9) rfl dX11_undo_67 ?_
    refine lv_bipush (v := (23 : Int32)) hx hb dX11_undo_70 (by decide) ?_
    refine ld_ialdK hx hb hK hP 1 0 rfl rfl (k := 23) (by decide) (by decide) (by decide) dX11_undo_72 ?_
    obtain rfl := Option.some.inj hf
    exact ret_I hx hb hr hlocks hK hP hD hS dX11_undo_73
  · have hf := of_pos hf c1
    refine lv_bipush (v := (-2 : Int32)) hx hb dX11_undo_10 (by decide) ?_
    obtain rfl := Option.some.inj hf
    exact ret_I hx hb hr hlocks hK hP hD hS dX11_undo_12

def fX11_now_4 (r_t_s_4 : Nat → Int32) : Nat → Int32 → Int32 → Option (Int32 × Int32)
  | 0, _, _ => none
  | n + 1, w3_4, w2_4 => (if (6 : Int32) ≤ w3_4 then some (w3_4, w2_4) else chk (vin ((16 : Int32) + w3_4) 254) (lt_ (w2_4 + (r_t_s_4 ((16 : Int32) + w3_4).toNatClampNeg)) (fun z3 => lt_ (w3_4 + (1 : Int32)) (fun z4 => fX11_now_4 r_t_s_4 n z4 z3))))
def fX11_now (r_t_told : Nat → Int32) (r_t_s : Nat → Int32) (p1 : Int32) : Option (Int32) :=
  (fX11_now_4 r_t_s FU (0 : Int32) (0 : Int32)).bind (fun y5 => (if p1 = (0 : Int32) then some (r_t_s 0) else (if p1 = (1 : Int32) then some (r_t_s 1) else (if p1 = (2 : Int32) then some (r_t_s 3) else (if p1 = (3 : Int32) then (fX11_isHeld r_t_s).bind (fun o10 => some (if o10 = 0 then (0 : Int32) else ((r_t_s 0) - (r_t_s 2)))) else (if p1 = (4 : Int32) then some (r_t_s 22) else (if p1 = (5 : Int32) then (fX11_worthDone r_t_told r_t_s).bind (fun o14 => some o14) else (if p1 = (6 : Int32) then some y5.2 else some (-1 : Int32)))))))))
theorem hd_X11_now : yX11_now.cls = RX11 ∧ yX11_now.cls ≠ "java/lang/invoke/MethodHandle" ∧ yX11_now.cls ≠ "java/lang/invoke/VarHandle" ∧ (parseMethodDescriptor yX11_now.desc).map (fun d => d.parameters.length) = some 1 := by decide +kernel
set_option maxHeartbeats 4000000 in
set_option maxRecDepth 100000 in
theorem k_X11_now (l : Launch) (D : va_G) (C : Nat → ClassId) (q_t : Nat) (q_t_text : Nat) (q_t_told : Nat) (q_t_draft : Nat) (q_t_s : Nat) (q_t_images : Nat) (q_t_kept : Nat) (q_t_heard : Nat) (q_t_hours : Nat) (q_t_row : Nat) (q_t_best : Nat) (q_t_places : Nat) (q_t_pairs : Nat) (v_t_trace : Int64) (v_t_typed : Int32) (v_t_noted : Int32) (v_t_at : Int32) (v_t_sort : Int32) (v_t_start : Int32) (v_t_value : Int32) (v_t_bestMany : Int32) (v_t_bestWorth : Int32) (v_t_bestHour : Int32) (r_t_told : Nat → Int32) (r_t_s : Nat → Int32) (p1 : Int32) (sz : Nat) (out : Int32) (hf : fX11_now r_t_told r_t_s p1 = some out) : MI l yX11_now wsX11_now ({ frames := 3, cells := 0, slots := 0, locals := 64 }) D C [.ref q_t, .int p1] [ob q_t 11 [.long v_t_trace, .ref q_t_text, .int v_t_typed, .ref q_t_told, .ref q_t_draft, .ref q_t_s, .ref q_t_images, .ref q_t_kept, .ref q_t_heard, .ref q_t_hours, .int v_t_noted, .int v_t_at, .int v_t_sort, .int v_t_start, .int v_t_value, .ref q_t_row, .ref q_t_best, .int v_t_bestMany, .int v_t_bestWorth, .int v_t_bestHour, .ref q_t_places, .ref q_t_pairs], ia C q_t_told 52 r_t_told, ia C q_t_s 254 r_t_s] [ob q_t 11 [.long v_t_trace, .ref q_t_text, .int v_t_typed, .ref q_t_told, .ref q_t_draft, .ref q_t_s, .ref q_t_images, .ref q_t_kept, .ref q_t_heard, .ref q_t_hours, .int v_t_noted, .int v_t_at, .int v_t_sort, .int v_t_start, .int v_t_value, .ref q_t_row, .ref q_t_best, .int v_t_bestMany, .int v_t_bestWorth, .int v_t_bestHour, .ref q_t_places, .ref q_t_pairs], ia C q_t_told 52 r_t_told, ia C q_t_s 254 r_t_s] sz (out) := by
  unfold fX11_now at hf
  refine en_I (by decide) rfl (Nat.le_of_ble_eq_true rfl) ?_
  intro p e s m below meth c A ls H locs hx hb hr hlocks hml hts hown hK hP hD hS hA hl
  have hl : lv_has ls 4 [(0, .ref q_t), (1, .int p1)] := hl
  have inX11 : ∀ w ∈ u_ws RX11 TX11 22, w ∈ wsX11_now := fun w h => List.mem_cons_of_mem _ (List.mem_append_right _ h)
  have LP4 : ∀ (Q : State → Prop) (n : Nat) (w3_4 : Int32) (w2_4 : Int32) (w1_4 : Int32) (v_t_trace_4 : Int64) (v_t_typed_4 : Int32) (v_t_noted_4 : Int32) (v_t_at_4 : Int32) (v_t_sort_4 : Int32) (v_t_start_4 : Int32) (v_t_value_4 : Int32) (v_t_bestMany_4 : Int32) (v_t_bestWorth_4 : Int32) (v_t_bestHour_4 : Int32) (r_t_told_4 : Nat → Int32) (r_t_s_4 : Nat → Int32) (y_4 : Int32 × Int32), fX11_now_4 r_t_s_4 n w3_4 w2_4 = some y_4 → ∀ (H : Heap) (locs : List Loc) (ls : Array Slot), va_P D vwCl [ob q_t 11 [.long v_t_trace_4, .ref q_t_text, .int v_t_typed_4, .ref q_t_told, .ref q_t_draft, .ref q_t_s, .ref q_t_images, .ref q_t_kept, .ref q_t_heard, .ref q_t_hours, .int v_t_noted_4, .int v_t_at_4, .int v_t_sort_4, .int v_t_start_4, .int v_t_value_4, .ref q_t_row, .ref q_t_best, .int v_t_bestMany_4, .int v_t_bestWorth_4, .int v_t_bestHour_4, .ref q_t_places, .ref q_t_pairs], ia C q_t_told 52 r_t_told_4, ia C q_t_s 254 r_t_s_4] H → va_D A [ob q_t 11 [.long v_t_trace_4, .ref q_t_text, .int v_t_typed_4, .ref q_t_told, .ref q_t_draft, .ref q_t_s, .ref q_t_images, .ref q_t_kept, .ref q_t_heard, .ref q_t_hours, .int v_t_noted_4, .int v_t_at_4, .int v_t_sort_4, .int v_t_start_4, .int v_t_value_4, .ref q_t_row, .ref q_t_best, .int v_t_bestMany_4, .int v_t_bestWorth_4, .int v_t_bestHour_4, .ref q_t_places, .ref q_t_pairs], ia C q_t_told 52 r_t_told_4, ia C q_t_s 254 r_t_s_4] → va_S A s.heap H locs → lv_has ls 4 [(3, .int w3_4), (2, .int w2_4), (0, .ref q_t), (1, .int w1_4)] → (∀ (H : Heap) (locs : List Loc) (ls : Array Slot), va_P D vwCl [ob q_t 11 [.long v_t_trace_4, .ref q_t_text, .int v_t_typed_4, .ref q_t_told, .ref q_t_draft, .ref q_t_s, .ref q_t_images, .ref q_t_kept, .ref q_t_heard, .ref q_t_hours, .int v_t_noted_4, .int v_t_at_4, .int v_t_sort_4, .int v_t_start_4, .int v_t_value_4, .ref q_t_row, .ref q_t_best, .int v_t_bestMany_4, .int v_t_bestWorth_4, .int v_t_bestHour_4, .ref q_t_places, .ref q_t_pairs], ia C q_t_told 52 r_t_told_4, ia C q_t_s 254 r_t_s_4] H → va_D A [ob q_t 11 [.long v_t_trace_4, .ref q_t_text, .int v_t_typed_4, .ref q_t_told, .ref q_t_draft, .ref q_t_s, .ref q_t_images, .ref q_t_kept, .ref q_t_heard, .ref q_t_hours, .int v_t_noted_4, .int v_t_at_4, .int v_t_sort_4, .int v_t_start_4, .int v_t_value_4, .ref q_t_row, .ref q_t_best, .int v_t_bestMany_4, .int v_t_bestWorth_4, .int v_t_bestHour_4, .ref q_t_places, .ref q_t_pairs], ia C q_t_told 52 r_t_told_4, ia C q_t_s 254 r_t_s_4] → va_S A s.heap H locs → lv_has ls 4 [(3, .int y_4.1), (2, .int y_4.2), (0, .ref q_t), (1, .int w1_4)] → W p l e ({ frames := 3, cells := 0, slots := 0, locals := 64 } : Room) s m ([.ref q_t, .int p1] : List Value).toArray below meth c H locs 0 0 Q (F0 m 28 ls [])) → W p l e ({ frames := 3, cells := 0, slots := 0, locals := 64 } : Room) s m ([.ref q_t, .int p1] : List Value).toArray below meth c H locs 0 0 Q (F0 m 4 ls []) := by
    intro Q n
    induction n with
    | zero =>
      intro w3_4 w2_4 w1_4 v_t_trace_4 v_t_typed_4 v_t_noted_4 v_t_at_4 v_t_sort_4 v_t_start_4 v_t_value_4 v_t_bestMany_4 v_t_bestWorth_4 v_t_bestHour_4 r_t_told_4 r_t_s_4 y_4 hf
      rw [fX11_now_4] at hf
      cases hf
    | succ n ih =>
      intro w3_4 w2_4 w1_4 v_t_trace_4 v_t_typed_4 v_t_noted_4 v_t_at_4 v_t_sort_4 v_t_start_4 v_t_value_4 v_t_bestMany_4 v_t_bestWorth_4 v_t_bestHour_4 r_t_told_4 r_t_s_4 y_4 hf H locs ls hP hD hS hl KX0
      rw [fX11_now_4] at hf
      refine lv_iload_n hx hb dX11_now_4 rfl (lv_at hl 0 rfl) ?_
      refine lv_bipush (v := (6 : Int32)) hx hb dX11_now_5 (by decide) ?_
      refine lv_icmp_ge (tgt := 28) hx hb dX11_now_7 (by decide) (fun c1 => ?_) (fun c1 => ?_)
      · have hf := of_pos hf c1
        obtain rfl := Option.some.inj hf
        exact KX0 _ _ _ hP hD hS (lv_sub hl [0, 1, 2, 3] rfl)
      · have hf := of_neg hf c1
        refine lv_iload_n hx hb dX11_now_10 rfl (lv_at hl 1 rfl) ?_
        refine lv_aload_n hx hb dX11_now_11 rfl (lv_at hl 2 rfl) ?_
        refine va_get (D := D) (ci := 11) (v := .ref q_t_s) (C := RX11) (T := TX11) (N := 22) hx hb hts inX11 hown hK hP 0 rfl rfl 5 (by decide) (hts (.fieldLink RX11 19 "LentCourageModel" "s" "[I") (List.mem_of_getElem? (i := 1) rfl)) (fun _ h9 => h9) rfl dX11_now_12 ?_
        refine lv_bipush (v := (16 : Int32)) hx hb dX11_now_15 (by decide) ?_
        refine lv_iload_n hx hb dX11_now_17 rfl (lv_at hl 0 rfl) ?_
        refine lv_iadd hx hb dX11_now_18 ?_
        obtain ⟨h2, hf⟩ := of_chk hf
        refine va_iald hx hb hK hP 2 0 rfl rfl h2 dX11_now_19 ?_
        refine lv_iadd hx hb dX11_now_20 ?_
        refine lv_topi (fun z3 ez3 => ?_)
        have hf := of_lt hf ez3
        refine lv_istore_n (lv' := [(2, .int z3), (3, .int w3_4), (0, .ref q_t), (1, .int w1_4)]) hx hb dX11_now_21 rfl hl (by decide) rfl (fun ls hl => ?_)
        obtain ⟨z4, ez4⟩ : ∃ y : Int32, y = (w3_4 + (1 : Int32)) := ⟨_, rfl⟩
        have hf := of_lt hf ez4
        refine lv_iinc (v := z4) (lv' := [(3, .int z4), (2, .int z3), (0, .ref q_t), (1, .int w1_4)]) hx hb dX11_now_22 hl (k := 1) rfl (by rw [ez4]; rfl) (by decide) rfl (fun ls hl => ?_)
        refine lv_goto (tgt := 4) hx hb dX11_now_25 (by decide) ?_
        exact ih _ _ _ _ _ _ _ _ _ _ _ _ _ _ _ _ hf H locs ls hP hD hS (lv_sub hl [0, 1, 2, 3] rfl) KX0
  refine lv_iconst (v := (0 : Int32)) hx hb dX11_now_0 (by decide) ?_
  refine lv_istore_n (lv' := [(2, .int (0 : Int32)), (0, .ref q_t), (1, .int p1)]) hx hb dX11_now_1 rfl hl (by decide) rfl (fun ls hl => ?_)
  refine lv_iconst (v := (0 : Int32)) hx hb dX11_now_2 (by decide) ?_
  refine lv_istore_n (lv' := [(3, .int (0 : Int32)), (2, .int (0 : Int32)), (0, .ref q_t), (1, .int p1)]) hx hb dX11_now_3 rfl hl (by decide) rfl (fun ls hl => ?_)
  obtain ⟨y5, hy5, hf⟩ := of_bind hf
  refine LP4 _ FU _ _ _ _ _ _ _ _ _ _ _ _ _ _ _ y5 hy5 H locs ls hP hD hS (lv_sub hl [0, 1, 2, 3] rfl) (fun H locs ls hP hD hS hl => ?_)
  refine lv_iload_n hx hb dX11_now_28 rfl (lv_at hl 3 rfl) ?_
  by_cases c6 : p1 = (0 : Int32)
  · have hf := of_pos hf c6
    refine lv_tableIn (off := 43) (tgt := 72) hx hb dX11_now_29 (by rw [c6]; decide) (by rw [c6]; decide) (by rw [c6]; rfl) (by decide) ?_
    refine lv_aload_n hx hb dX11_now_72 rfl (lv_at hl 2 rfl) ?_
    refine va_get (D := D) (ci := 11) (v := .ref q_t_s) (C := RX11) (T := TX11) (N := 22) hx hb hts inX11 hown hK hP 0 rfl rfl 5 (by decide) (hts (.fieldLink RX11 19 "LentCourageModel" "s" "[I") (List.mem_of_getElem? (i := 1) rfl)) (fun _ h9 => h9) rfl dX11_now_73 ?_
    refine lv_iconst (v := (0 : Int32)) hx hb dX11_now_76 (by decide) ?_
    refine ld_ialdK hx hb hK hP 2 0 rfl rfl (k := 0) (by decide) (by decide) (by decide) dX11_now_77 ?_
    obtain rfl := Option.some.inj hf
    exact ret_I hx hb hr hlocks hK hP hD hS dX11_now_78
  · have hf := of_neg hf c6
    by_cases c7 : p1 = (1 : Int32)
    · have hf := of_pos hf c7
      refine lv_tableIn (off := 50) (tgt := 79) hx hb dX11_now_29 (by rw [c7]; decide) (by rw [c7]; decide) (by rw [c7]; rfl) (by decide) ?_
      refine lv_aload_n hx hb dX11_now_79 rfl (lv_at hl 2 rfl) ?_
      refine va_get (D := D) (ci := 11) (v := .ref q_t_s) (C := RX11) (T := TX11) (N := 22) hx hb hts inX11 hown hK hP 0 rfl rfl 5 (by decide) (hts (.fieldLink RX11 19 "LentCourageModel" "s" "[I") (List.mem_of_getElem? (i := 1) rfl)) (fun _ h9 => h9) rfl dX11_now_80 ?_
      refine lv_iconst (v := (1 : Int32)) hx hb dX11_now_83 (by decide) ?_
      refine ld_ialdK hx hb hK hP 2 0 rfl rfl (k := 1) (by decide) (by decide) (by decide) dX11_now_84 ?_
      obtain rfl := Option.some.inj hf
      exact ret_I hx hb hr hlocks hK hP hD hS dX11_now_85
    · have hf := of_neg hf c7
      by_cases c8 : p1 = (2 : Int32)
      · have hf := of_pos hf c8
        refine lv_tableIn (off := 57) (tgt := 86) hx hb dX11_now_29 (by rw [c8]; decide) (by rw [c8]; decide) (by rw [c8]; rfl) (by decide) ?_
        refine lv_aload_n hx hb dX11_now_86 rfl (lv_at hl 2 rfl) ?_
        refine va_get (D := D) (ci := 11) (v := .ref q_t_s) (C := RX11) (T := TX11) (N := 22) hx hb hts inX11 hown hK hP 0 rfl rfl 5 (by decide) (hts (.fieldLink RX11 19 "LentCourageModel" "s" "[I") (List.mem_of_getElem? (i := 1) rfl)) (fun _ h9 => h9) rfl dX11_now_87 ?_
        refine lv_iconst (v := (3 : Int32)) hx hb dX11_now_90 (by decide) ?_
        refine ld_ialdK hx hb hK hP 2 0 rfl rfl (k := 3) (by decide) (by decide) (by decide) dX11_now_91 ?_
        obtain rfl := Option.some.inj hf
        exact ret_I hx hb hr hlocks hK hP hD hS dX11_now_92
      · have hf := of_neg hf c8
        by_cases c9 : p1 = (3 : Int32)
        · have hf := of_pos hf c9
          refine lv_tableIn (off := 64) (tgt := 93) hx hb dX11_now_29 (by rw [c9]; decide) (by rw [c9]; decide) (by rw [c9]; rfl) (by decide) ?_
          refine lv_aload_n hx hb dX11_now_93 rfl (lv_at hl 2 rfl) ?_
          obtain ⟨o10, ho10, hf⟩ := of_bind hf
          refine c_I (wr := [ia C q_t_told 52 r_t_told]) (W2 := [ob q_t 11 [.long v_t_trace, .ref q_t_text, .int v_t_typed, .ref q_t_told, .ref q_t_draft, .ref q_t_s, .ref q_t_images, .ref q_t_kept, .ref q_t_heard, .ref q_t_hours, .int v_t_noted, .int v_t_at, .int v_t_sort, .int v_t_start, .int v_t_value, .ref q_t_row, .ref q_t_best, .int v_t_bestMany, .int v_t_bestWorth, .int v_t_bestHour, .ref q_t_places, .ref q_t_pairs], ia C q_t_told 52 r_t_told, ia C q_t_s 254 r_t_s]) (cV_run ⟨hx, hb, hml, hown, hts⟩ (k_X11_isHeld l D C q_t q_t_text q_t_told q_t_draft q_t_s q_t_images q_t_kept q_t_heard q_t_hours q_t_row q_t_best q_t_places q_t_pairs v_t_trace v_t_typed v_t_noted v_t_at v_t_sort v_t_start v_t_value v_t_bestMany v_t_bestWorth v_t_bestHour r_t_s H.size o10 ho10) gX11_now_X11_isHeld rfl ⟨rfl, rfl⟩ hd_X11_isHeld ⟨(Nat.le_of_ble_eq_true rfl), (Nat.le_of_ble_eq_true rfl)⟩ rfl hK (cut_in hK hP hD [0, 2] rfl (by decide)) (ci := 11) rfl rfl rfl hl.1 rfl (Nat.le_of_ble_eq_true rfl) dX11_now_94 ⟨Nat.zero_le _, Nat.zero_le _⟩) hP hD hS hA [0, 2] [1] [1, 0, 2] rfl rfl (by decide) (by decide) rfl (by decide) (fun H locs hP hD hS => ?_)
          have hP : va_P D vwCl [ob q_t 11 [.long v_t_trace, .ref q_t_text, .int v_t_typed, .ref q_t_told, .ref q_t_draft, .ref q_t_s, .ref q_t_images, .ref q_t_kept, .ref q_t_heard, .ref q_t_hours, .int v_t_noted, .int v_t_at, .int v_t_sort, .int v_t_start, .int v_t_value, .ref q_t_row, .ref q_t_best, .int v_t_bestMany, .int v_t_bestWorth, .int v_t_bestHour, .ref q_t_places, .ref q_t_pairs], ia C q_t_told 52 r_t_told, ia C q_t_s 254 r_t_s] H := hP
          have hD : va_D A [ob q_t 11 [.long v_t_trace, .ref q_t_text, .int v_t_typed, .ref q_t_told, .ref q_t_draft, .ref q_t_s, .ref q_t_images, .ref q_t_kept, .ref q_t_heard, .ref q_t_hours, .int v_t_noted, .int v_t_at, .int v_t_sort, .int v_t_start, .int v_t_value, .ref q_t_row, .ref q_t_best, .int v_t_bestMany, .int v_t_bestWorth, .int v_t_bestHour, .ref q_t_places, .ref q_t_pairs], ia C q_t_told 52 r_t_told, ia C q_t_s 254 r_t_s] := hD
          refine jp (g2 := F0 m 117 ls [.int (if o10 = 0 then (0 : Int32) else ((r_t_s 0) - (r_t_s 2)))]) ?_ (fun JP => ?_)
          · obtain rfl := Option.some.inj hf
            exact ret_I hx hb hr hlocks hK hP hD hS dX11_now_117
          · refine lv_if_eq (tgt := 116) hx hb dX11_now_97 (by decide) (fun c11 => ?_) (fun c11 => ?_)
            · refine lv_iconst (v := (0 : Int32)) hx hb dX11_now_116 (by decide) ?_
              exact W.eq (congrArg (fun x => F0 m 117 ls (Value.int x :: [])) (if_pos c11).symm) JP
            · refine lv_aload_n hx hb dX11_now_100 rfl (lv_at hl 2 rfl) ?_
              refine va_get (D := D) (ci := 11) (v := .ref q_t_s) (C := RX11) (T := TX11) (N := 22) hx hb hts inX11 hown hK hP 0 rfl rfl 5 (by decide) (hts (.fieldLink RX11 19 "LentCourageModel" "s" "[I") (List.mem_of_getElem? (i := 1) rfl)) (fun _ h9 => h9) rfl dX11_now_101 ?_
              refine lv_iconst (v := (0 : Int32)) hx hb dX11_now_104 (by decide) ?_
              refine ld_ialdK hx hb hK hP 2 0 rfl rfl (k := 0) (by decide) (by decide) (by decide) dX11_now_105 ?_
              refine lv_aload_n hx hb dX11_now_106 rfl (lv_at hl 2 rfl) ?_
              refine va_get (D := D) (ci := 11) (v := .ref q_t_s) (C := RX11) (T := TX11) (N := 22) hx hb hts inX11 hown hK hP 0 rfl rfl 5 (by decide) (hts (.fieldLink RX11 19 "LentCourageModel" "s" "[I") (List.mem_of_getElem? (i := 1) rfl)) (fun _ h9 => h9) rfl dX11_now_107 ?_
              refine lv_iconst (v := (2 : Int32)) hx hb dX11_now_110 (by decide) ?_
              refine ld_ialdK hx hb hK hP 2 0 rfl rfl (k := 2) (by decide) (by decide) (by decide) dX11_now_111 ?_
              refine lv_isub hx hb dX11_now_112 ?_
              refine lv_goto (tgt := 117) hx hb dX11_now_113 (by decide) ?_
              exact W.eq (congrArg (fun x => F0 m 117 ls (Value.int x :: [])) (if_neg c11).symm) JP
        · have hf := of_neg hf c9
          by_cases c12 : p1 = (4 : Int32)
          · have hf := of_pos hf c12
            refine lv_tableIn (off := 89) (tgt := 118) hx hb dX11_now_29 (by rw [c12]; decide) (by rw [c12]; decide) (by rw [c12]; rfl) (by decide) ?_
            refine lv_aload_n hx hb dX11_now_118 rfl (lv_at hl 2 rfl) ?_
            refine va_get (D := D) (ci := 11) (v := .ref q_t_s) (C := RX11) (T := TX11) (N := 22) hx hb hts inX11 hown hK hP 0 rfl rfl 5 (by decide) (hts (.fieldLink RX11 19 "LentCourageModel" "s" "[I") (List.mem_of_getElem? (i := 1) rfl)) (fun _ h9 => h9) rfl dX11_now_119 ?_
            refine lv_bipush (v := (22 : Int32)) hx hb dX11_now_122 (by decide) ?_
            refine ld_ialdK hx hb hK hP 2 0 rfl rfl (k := 22) (by decide) (by decide) (by decide) dX11_now_124 ?_
            obtain rfl := Option.some.inj hf
            exact ret_I hx hb hr hlocks hK hP hD hS dX11_now_125
          · have hf := of_neg hf c12
            by_cases c13 : p1 = (5 : Int32)
            · have hf := of_pos hf c13
              refine lv_tableIn (off := 97) (tgt := 126) hx hb dX11_now_29 (by rw [c13]; decide) (by rw [c13]; decide) (by rw [c13]; rfl) (by decide) ?_
              refine lv_aload_n hx hb dX11_now_126 rfl (lv_at hl 2 rfl) ?_
              obtain ⟨o14, ho14, hf⟩ := of_bind hf
              refine c_I (wr := []) (W2 := [ob q_t 11 [.long v_t_trace, .ref q_t_text, .int v_t_typed, .ref q_t_told, .ref q_t_draft, .ref q_t_s, .ref q_t_images, .ref q_t_kept, .ref q_t_heard, .ref q_t_hours, .int v_t_noted, .int v_t_at, .int v_t_sort, .int v_t_start, .int v_t_value, .ref q_t_row, .ref q_t_best, .int v_t_bestMany, .int v_t_bestWorth, .int v_t_bestHour, .ref q_t_places, .ref q_t_pairs], ia C q_t_told 52 r_t_told, ia C q_t_s 254 r_t_s]) (cV_run ⟨hx, hb, hml, hown, hts⟩ (k_X11_worthDone l D C q_t q_t_text q_t_told q_t_draft q_t_s q_t_images q_t_kept q_t_heard q_t_hours q_t_row q_t_best q_t_places q_t_pairs v_t_trace v_t_typed v_t_noted v_t_at v_t_sort v_t_start v_t_value v_t_bestMany v_t_bestWorth v_t_bestHour r_t_told r_t_s H.size o14 ho14) gX11_now_X11_worthDone rfl ⟨rfl, rfl⟩ hd_X11_worthDone ⟨(Nat.le_of_ble_eq_true rfl), (Nat.le_of_ble_eq_true rfl)⟩ rfl hK (cut_in hK hP hD [0, 1, 2] rfl (by decide)) (ci := 11) rfl rfl rfl hl.1 rfl (Nat.le_of_ble_eq_true rfl) dX11_now_127 ⟨Nat.zero_le _, Nat.zero_le _⟩) hP hD hS hA [0, 1, 2] [] [0, 1, 2] rfl rfl (by decide) (by decide) rfl (by decide) (fun H locs hP hD hS => ?_)
              have hP : va_P D vwCl [ob q_t 11 [.long v_t_trace, .ref q_t_text, .int v_t_typed, .ref q_t_told, .ref q_t_draft, .ref q_t_s, .ref q_t_images, .ref q_t_kept, .ref q_t_heard, .ref q_t_hours, .int v_t_noted, .int v_t_at, .int v_t_sort, .int v_t_start, .int v_t_value, .ref q_t_row, .ref q_t_best, .int v_t_bestMany, .int v_t_bestWorth, .int v_t_bestHour, .ref q_t_places, .ref q_t_pairs], ia C q_t_told 52 r_t_told, ia C q_t_s 254 r_t_s] H := hP
              have hD : va_D A [ob q_t 11 [.long v_t_trace, .ref q_t_text, .int v_t_typed, .ref q_t_told, .ref q_t_draft, .ref q_t_s, .ref q_t_images, .ref q_t_kept, .ref q_t_heard, .ref q_t_hours, .int v_t_noted, .int v_t_at, .int v_t_sort, .int v_t_start, .int v_t_value, .ref q_t_row, .ref q_t_best, .int v_t_bestMany, .int v_t_bestWorth, .int v_t_bestHour, .ref q_t_places, .ref q_t_pairs], ia C q_t_told 52 r_t_told, ia C q_t_s 254 r_t_s] := hD
              obtain rfl := Option.some.inj hf
              exact ret_I hx hb hr hlocks hK hP hD hS dX11_now_130
            · have hf := of_neg hf c13
              by_cases c15 : p1 = (6 : Int32)
              · have hf := of_pos hf c15
                refine lv_tableIn (off := 102) (tgt := 131) hx hb dX11_now_29 (by rw [c15]; decide) (by rw [c15]; decide) (by rw [c15]; rfl) (by decide) ?_
                refine lv_iload_n hx hb dX11_now_131 rfl (lv_at hl 1 rfl) ?_
                obtain rfl := Option.some.inj hf
                exact ret_I hx hb hr hlocks hK hP hD hS dX11_now_132
              · have hf := of_neg hf c15
                refine lv_tableOut (tgt := 133) hx hb dX11_now_29 (tOut (fun k h1 h2 => by
                    intro hk
                    have := lv_neT (a := 0) c6 (by decide)
                    have := lv_neT (a := 1) c7 (by decide)
                    have := lv_neT (a := 2) c8 (by decide)
                    have := lv_neT (a := 3) c9 (by decide)
                    have := lv_neT (a := 4) c12 (by decide)
                    have := lv_neT (a := 5) c13 (by decide)
                    have := lv_neT (a := 6) c15 (by decide)
                    omega)) (by decide) ?_
                refine lv_iconst (v := (-1 : Int32)) hx hb dX11_now_133 (by decide) ?_
                obtain rfl := Option.some.inj hf
                exact ret_I hx hb hr hlocks hK hP hD hS dX11_now_134
