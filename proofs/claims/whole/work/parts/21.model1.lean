/-! written by gen.py: 21.model1 -/
def fX11_in (p0 : Int32) (p1 : Int32) (p2 : Int32) : Option (Int32) :=
  some (if p0 < p1 then (0 : Int32) else (if p2 < p0 then (0 : Int32) else (1 : Int32)))
theorem hd_X11_in : yX11_in.cls ≠ "java/lang/invoke/MethodHandle" ∧ yX11_in.cls ≠ "java/lang/invoke/VarHandle" ∧ (parseMethodDescriptor yX11_in.desc).map (fun d => d.parameters.length) = some 3 := by decide +kernel
set_option maxHeartbeats 4000000 in
set_option maxRecDepth 100000 in
theorem k_X11_in (l : Launch) (D : va_G) (C : Nat → ClassId) (p0 : Int32) (p1 : Int32) (p2 : Int32) (sz : Nat) (out : Int32) (hf : fX11_in p0 p1 p2 = some out) : MI l yX11_in wsX11_in ({ frames := 0, cells := 0, slots := 0, locals := 0 }) D C [.int p0, .int p1, .int p2] [] [] sz (out) := by
  unfold fX11_in at hf
  refine en_I (by decide) rfl (Nat.le_of_ble_eq_true rfl) ?_
  intro p e s m below meth c A ls H locs hx hb hr hlocks hml hts hown hK hP hD hS hA hl
  have hl : lv_has ls 3 [(0, .int p0), (1, .int p1), (2, .int p2)] := hl
  refine lv_iload_n hx hb dX11_in_0 rfl (lv_at hl 0 rfl) ?_
  refine lv_iload_n hx hb dX11_in_1 rfl (lv_at hl 1 rfl) ?_
  refine jp (g2 := F0 m 15 ls [.int (if p0 < p1 then (0 : Int32) else (if p2 < p0 then (0 : Int32) else (1 : Int32)))]) ?_ (fun JP => ?_)
  · obtain rfl := Option.some.inj hf
    exact ret_Z hx hb hr hlocks (by repeat (first | exact okZ_0 | exact okZ_1 | apply okZ_ite)) hK hP hD hS dX11_in_15
  · refine lv_icmp_lt (tgt := 14) hx hb dX11_in_2 (by decide) (fun c1 => ?_) (fun c1 => ?_)
    · refine lv_iconst (v := (0 : Int32)) hx hb dX11_in_14 (by decide) ?_
      exact W.eq (congrArg (fun x => F0 m 15 ls (Value.int x :: [])) (if_pos c1).symm) JP
    · refine lv_iload_n hx hb dX11_in_5 rfl (lv_at hl 0 rfl) ?_
      refine lv_iload_n hx hb dX11_in_6 rfl (lv_at hl 2 rfl) ?_
      refine lv_icmp_gt (tgt := 14) hx hb dX11_in_7 (by decide) (fun c2 => ?_) (fun c2 => ?_)
      · refine lv_iconst (v := (0 : Int32)) hx hb dX11_in_14 (by decide) ?_
        exact W.eq (congrArg (fun x => F0 m 15 ls (Value.int x :: [])) ((if_neg c1).trans (if_pos c2)).symm) JP
      · refine lv_iconst (v := (1 : Int32)) hx hb dX11_in_10 (by decide) ?_
        refine lv_goto (tgt := 15) hx hb dX11_in_11 (by decide) ?_
        exact W.eq (congrArg (fun x => F0 m 15 ls (Value.int x :: [])) ((if_neg c1).trans (if_neg c2)).symm) JP

def fX11_has (p0 : Int32) (p1 : Int32) : Option (Int32) :=
  some (if ((p0 >>> (p1 &&& 31)) &&& (1 : Int32)) = (1 : Int32) then (1 : Int32) else (0 : Int32))
theorem hd_X11_has : yX11_has.cls ≠ "java/lang/invoke/MethodHandle" ∧ yX11_has.cls ≠ "java/lang/invoke/VarHandle" ∧ (parseMethodDescriptor yX11_has.desc).map (fun d => d.parameters.length) = some 2 := by decide +kernel
set_option maxHeartbeats 4000000 in
set_option maxRecDepth 100000 in
theorem k_X11_has (l : Launch) (D : va_G) (C : Nat → ClassId) (p0 : Int32) (p1 : Int32) (sz : Nat) (out : Int32) (hf : fX11_has p0 p1 = some out) : MI l yX11_has wsX11_has ({ frames := 0, cells := 0, slots := 0, locals := 0 }) D C [.int p0, .int p1] [] [] sz (out) := by
  unfold fX11_has at hf
  refine en_I (by decide) rfl (Nat.le_of_ble_eq_true rfl) ?_
  intro p e s m below meth c A ls H locs hx hb hr hlocks hml hts hown hK hP hD hS hA hl
  have hl : lv_has ls 2 [(0, .int p0), (1, .int p1)] := hl
  refine lv_iload_n hx hb dX11_has_0 rfl (lv_at hl 0 rfl) ?_
  refine lv_iload_n hx hb dX11_has_1 rfl (lv_at hl 1 rfl) ?_
  refine lv_ishr hx hb dX11_has_2 ?_
  refine lv_iconst (v := (1 : Int32)) hx hb dX11_has_3 (by decide) ?_
  refine lv_iand hx hb dX11_has_4 ?_
  refine lv_iconst (v := (1 : Int32)) hx hb dX11_has_5 (by decide) ?_
  refine jp (g2 := F0 m 14 ls [.int (if ((p0 >>> (p1 &&& 31)) &&& (1 : Int32)) = (1 : Int32) then (1 : Int32) else (0 : Int32))]) ?_ (fun JP => ?_)
  · obtain rfl := Option.some.inj hf
    exact ret_Z hx hb hr hlocks (by repeat (first | exact okZ_0 | exact okZ_1 | apply okZ_ite)) hK hP hD hS dX11_has_14
  · refine lv_icmp_ne (tgt := 13) hx hb dX11_has_6 (by decide) (fun c1 => ?_) (fun c1 => ?_)
    · refine lv_iconst (v := (0 : Int32)) hx hb dX11_has_13 (by decide) ?_
      exact W.eq (congrArg (fun x => F0 m 14 ls (Value.int x :: [])) (if_neg c1).symm) JP
    · refine lv_iconst (v := (1 : Int32)) hx hb dX11_has_9 (by decide) ?_
      refine lv_goto (tgt := 14) hx hb dX11_has_10 (by decide) ?_
      exact W.eq (congrArg (fun x => F0 m 14 ls (Value.int x :: [])) (if_pos c1).symm) JP

def fX11_far (p0 : Int32) (p1 : Int32) : Option (Int32) :=
  some (if p0 ≤ p1 then (p1 - p0) else (p0 - p1))
theorem hd_X11_far : yX11_far.cls ≠ "java/lang/invoke/MethodHandle" ∧ yX11_far.cls ≠ "java/lang/invoke/VarHandle" ∧ (parseMethodDescriptor yX11_far.desc).map (fun d => d.parameters.length) = some 2 := by decide +kernel
set_option maxHeartbeats 4000000 in
set_option maxRecDepth 100000 in
theorem k_X11_far (l : Launch) (D : va_G) (C : Nat → ClassId) (p0 : Int32) (p1 : Int32) (sz : Nat) (out : Int32) (hf : fX11_far p0 p1 = some out) : MI l yX11_far wsX11_far ({ frames := 0, cells := 0, slots := 0, locals := 0 }) D C [.int p0, .int p1] [] [] sz (out) := by
  unfold fX11_far at hf
  refine en_I (by decide) rfl (Nat.le_of_ble_eq_true rfl) ?_
  intro p e s m below meth c A ls H locs hx hb hr hlocks hml hts hown hK hP hD hS hA hl
  have hl : lv_has ls 2 [(0, .int p0), (1, .int p1)] := hl
  refine lv_iload_n hx hb dX11_far_0 rfl (lv_at hl 0 rfl) ?_
  refine lv_iload_n hx hb dX11_far_1 rfl (lv_at hl 1 rfl) ?_
  refine jp (g2 := F0 m 14 ls [.int (if p0 ≤ p1 then (p1 - p0) else (p0 - p1))]) ?_ (fun JP => ?_)
  · obtain rfl := Option.some.inj hf
    exact ret_I hx hb hr hlocks hK hP hD hS dX11_far_14
  · refine lv_icmp_le (tgt := 11) hx hb dX11_far_2 (by decide) (fun c1 => ?_) (fun c1 => ?_)
    · refine lv_iload_n hx hb dX11_far_11 rfl (lv_at hl 1 rfl) ?_
      refine lv_iload_n hx hb dX11_far_12 rfl (lv_at hl 0 rfl) ?_
      refine lv_isub hx hb dX11_far_13 ?_
      exact W.eq (congrArg (fun x => F0 m 14 ls (Value.int x :: [])) (if_pos c1).symm) JP
    · refine lv_iload_n hx hb dX11_far_5 rfl (lv_at hl 0 rfl) ?_
      refine lv_iload_n hx hb dX11_far_6 rfl (lv_at hl 1 rfl) ?_
      refine lv_isub hx hb dX11_far_7 ?_
      refine lv_goto (tgt := 14) hx hb dX11_far_8 (by decide) ?_
      exact W.eq (congrArg (fun x => F0 m 14 ls (Value.int x :: [])) (if_neg c1).symm) JP

def fX11_isOne (r_t_told : Nat → Int32) (p1 : Int32) : Option (Int32) :=
  (fX11_in p1 (0 : Int32) ((r_t_told 0) - (1 : Int32))).bind (fun o1 => chk (okZ o1) (some o1))
theorem hd_X11_isOne : yX11_isOne.cls = RX11 ∧ yX11_isOne.cls ≠ "java/lang/invoke/MethodHandle" ∧ yX11_isOne.cls ≠ "java/lang/invoke/VarHandle" ∧ (parseMethodDescriptor yX11_isOne.desc).map (fun d => d.parameters.length) = some 1 := by decide +kernel
set_option maxHeartbeats 4000000 in
set_option maxRecDepth 100000 in
theorem k_X11_isOne (l : Launch) (D : va_G) (C : Nat → ClassId) (q_t : Nat) (q_t_text : Nat) (q_t_told : Nat) (q_t_draft : Nat) (q_t_s : Nat) (q_t_images : Nat) (q_t_kept : Nat) (q_t_heard : Nat) (q_t_hours : Nat) (q_t_row : Nat) (q_t_best : Nat) (q_t_places : Nat) (q_t_pairs : Nat) (v_t_trace : Int64) (v_t_typed : Int32) (v_t_noted : Int32) (v_t_at : Int32) (v_t_sort : Int32) (v_t_start : Int32) (v_t_value : Int32) (v_t_bestMany : Int32) (v_t_bestWorth : Int32) (v_t_bestHour : Int32) (r_t_told : Nat → Int32) (p1 : Int32) (sz : Nat) (out : Int32) (hf : fX11_isOne r_t_told p1 = some out) : MI l yX11_isOne wsX11_isOne ({ frames := 1, cells := 0, slots := 0, locals := 22 }) D C [.ref q_t, .int p1] [ob q_t 11 [.long v_t_trace, .ref q_t_text, .int v_t_typed, .ref q_t_told, .ref q_t_draft, .ref q_t_s, .ref q_t_images, .ref q_t_kept, .ref q_t_heard, .ref q_t_hours, .int v_t_noted, .int v_t_at, .int v_t_sort, .int v_t_start, .int v_t_value, .ref q_t_row, .ref q_t_best, .int v_t_bestMany, .int v_t_bestWorth, .int v_t_bestHour, .ref q_t_places, .ref q_t_pairs], ia C q_t_told 52 r_t_told] [ob q_t 11 [.long v_t_trace, .ref q_t_text, .int v_t_typed, .ref q_t_told, .ref q_t_draft, .ref q_t_s, .ref q_t_images, .ref q_t_kept, .ref q_t_heard, .ref q_t_hours, .int v_t_noted, .int v_t_at, .int v_t_sort, .int v_t_start, .int v_t_value, .ref q_t_row, .ref q_t_best, .int v_t_bestMany, .int v_t_bestWorth, .int v_t_bestHour, .ref q_t_places, .ref q_t_pairs], ia C q_t_told 52 r_t_told] sz (out) := by
  unfold fX11_isOne at hf
  refine en_I (by decide) rfl (Nat.le_of_ble_eq_true rfl) ?_
  intro p e s m below meth c A ls H locs hx hb hr hlocks hml hts hown hK hP hD hS hA hl
  have hl : lv_has ls 2 [(0, .ref q_t), (1, .int p1)] := hl
  have inX11 : ∀ w ∈ u_ws RX11 TX11 22, w ∈ wsX11_isOne := fun w h => List.mem_cons_of_mem _ (List.mem_append_right _ h)
  refine lv_iload_n hx hb dX11_isOne_0 rfl (lv_at hl 1 rfl) ?_
  refine lv_iconst (v := (0 : Int32)) hx hb dX11_isOne_1 (by decide) ?_
  refine lv_aload_n hx hb dX11_isOne_2 rfl (lv_at hl 0 rfl) ?_
  refine va_get (D := D) (ci := 11) (v := .ref q_t_told) (C := RX11) (T := TX11) (N := 22) hx hb hts inX11 hown hK hP 0 rfl rfl 3 (by decide) (hts (.fieldLink RX11 13 "LentCourageModel" "told" "[I") (List.mem_of_getElem? (i := 1) rfl)) (fun _ h9 => h9) rfl dX11_isOne_3 ?_
  refine lv_iconst (v := (0 : Int32)) hx hb dX11_isOne_6 (by decide) ?_
  refine ld_ialdK hx hb hK hP 1 0 rfl rfl (k := 0) (by decide) (by decide) (by decide) dX11_isOne_7 ?_
  refine lv_iconst (v := (1 : Int32)) hx hb dX11_isOne_8 (by decide) ?_
  refine lv_isub hx hb dX11_isOne_9 ?_
  obtain ⟨o1, ho1, hf⟩ := of_bind hf
  refine c_I (wr := [ob q_t 11 [.long v_t_trace, .ref q_t_text, .int v_t_typed, .ref q_t_told, .ref q_t_draft, .ref q_t_s, .ref q_t_images, .ref q_t_kept, .ref q_t_heard, .ref q_t_hours, .int v_t_noted, .int v_t_at, .int v_t_sort, .int v_t_start, .int v_t_value, .ref q_t_row, .ref q_t_best, .int v_t_bestMany, .int v_t_bestWorth, .int v_t_bestHour, .ref q_t_places, .ref q_t_pairs], ia C q_t_told 52 r_t_told]) (W2 := [ob q_t 11 [.long v_t_trace, .ref q_t_text, .int v_t_typed, .ref q_t_told, .ref q_t_draft, .ref q_t_s, .ref q_t_images, .ref q_t_kept, .ref q_t_heard, .ref q_t_hours, .int v_t_noted, .int v_t_at, .int v_t_sort, .int v_t_start, .int v_t_value, .ref q_t_row, .ref q_t_best, .int v_t_bestMany, .int v_t_bestWorth, .int v_t_bestHour, .ref q_t_places, .ref q_t_pairs], ia C q_t_told 52 r_t_told]) (cS_run ⟨hx, hb, hml, hown, hts⟩ (k_X11_in l D C p1 (0 : Int32) ((r_t_told 0) - (1 : Int32)) H.size o1 ho1) gX11_isOne_X11_in rfl ⟨rfl, rfl⟩ hd_X11_in ⟨(Nat.le_of_ble_eq_true rfl), (Nat.le_of_ble_eq_true rfl)⟩ rfl hK (cut_in hK hP hD [] rfl (by decide)) hl.1 rfl (Nat.le_of_ble_eq_true rfl) dX11_isOne_10 ⟨Nat.zero_le _, Nat.zero_le _⟩) hP hD hS hA [] [0, 1] [0, 1] rfl rfl (by decide) (by decide) rfl (by decide) (fun H locs hP hD hS => ?_)
  have hP : va_P D vwCl [ob q_t 11 [.long v_t_trace, .ref q_t_text, .int v_t_typed, .ref q_t_told, .ref q_t_draft, .ref q_t_s, .ref q_t_images, .ref q_t_kept, .ref q_t_heard, .ref q_t_hours, .int v_t_noted, .int v_t_at, .int v_t_sort, .int v_t_start, .int v_t_value, .ref q_t_row, .ref q_t_best, .int v_t_bestMany, .int v_t_bestWorth, .int v_t_bestHour, .ref q_t_places, .ref q_t_pairs], ia C q_t_told 52 r_t_told] H := hP
  have hD : va_D A [ob q_t 11 [.long v_t_trace, .ref q_t_text, .int v_t_typed, .ref q_t_told, .ref q_t_draft, .ref q_t_s, .ref q_t_images, .ref q_t_kept, .ref q_t_heard, .ref q_t_hours, .int v_t_noted, .int v_t_at, .int v_t_sort, .int v_t_start, .int v_t_value, .ref q_t_row, .ref q_t_best, .int v_t_bestMany, .int v_t_bestWorth, .int v_t_bestHour, .ref q_t_places, .ref q_t_pairs], ia C q_t_told 52 r_t_told] := hD
  obtain ⟨h2, hf⟩ := of_chk hf
  obtain rfl := Option.some.inj hf
  exact ret_Z hx hb hr hlocks h2 hK hP hD hS dX11_isOne_13

def fX11_isDeed (r_t_told : Nat → Int32) (p1 : Int32) : Option (Int32) :=
  (fX11_in p1 (0 : Int32) ((r_t_told 1) - (1 : Int32))).bind (fun o1 => chk (okZ o1) (some o1))
theorem hd_X11_isDeed : yX11_isDeed.cls = RX11 ∧ yX11_isDeed.cls ≠ "java/lang/invoke/MethodHandle" ∧ yX11_isDeed.cls ≠ "java/lang/invoke/VarHandle" ∧ (parseMethodDescriptor yX11_isDeed.desc).map (fun d => d.parameters.length) = some 1 := by decide +kernel
set_option maxHeartbeats 4000000 in
set_option maxRecDepth 100000 in
theorem k_X11_isDeed (l : Launch) (D : va_G) (C : Nat → ClassId) (q_t : Nat) (q_t_text : Nat) (q_t_told : Nat) (q_t_draft : Nat) (q_t_s : Nat) (q_t_images : Nat) (q_t_kept : Nat) (q_t_heard : Nat) (q_t_hours : Nat) (q_t_row : Nat) (q_t_best : Nat) (q_t_places : Nat) (q_t_pairs : Nat) (v_t_trace : Int64) (v_t_typed : Int32) (v_t_noted : Int32) (v_t_at : Int32) (v_t_sort : Int32) (v_t_start : Int32) (v_t_value : Int32) (v_t_bestMany : Int32) (v_t_bestWorth : Int32) (v_t_bestHour : Int32) (r_t_told : Nat → Int32) (p1 : Int32) (sz : Nat) (out : Int32) (hf : fX11_isDeed r_t_told p1 = some out) : MI l yX11_isDeed wsX11_isDeed ({ frames := 1, cells := 0, slots := 0, locals := 22 }) D C [.ref q_t, .int p1] [ob q_t 11 [.long v_t_trace, .ref q_t_text, .int v_t_typed, .ref q_t_told, .ref q_t_draft, .ref q_t_s, .ref q_t_images, .ref q_t_kept, .ref q_t_heard, .ref q_t_hours, .int v_t_noted, .int v_t_at, .int v_t_sort, .int v_t_start, .int v_t_value, .ref q_t_row, .ref q_t_best, .int v_t_bestMany, .int v_t_bestWorth, .int v_t_bestHour, .ref q_t_places, .ref q_t_pairs], ia C q_t_told 52 r_t_told] [ob q_t 11 [.long v_t_trace, .ref q_t_text, .int v_t_typed, .ref q_t_told, .ref q_t_draft, .ref q_t_s, .ref q_t_images, .ref q_t_kept, .ref q_t_heard, .ref q_t_hours, .int v_t_noted, .int v_t_at, .int v_t_sort, .int v_t_start, .int v_t_value, .ref q_t_row, .ref q_t_best, .int v_t_bestMany, .int v_t_bestWorth, .int v_t_bestHour, .ref q_t_places, .ref q_t_pairs], ia C q_t_told 52 r_t_told] sz (out) := by
  unfold fX11_isDeed at hf
  refine en_I (by decide) rfl (Nat.le_of_ble_eq_true rfl) ?_
  intro p e s m below meth c A ls H locs hx hb hr hlocks hml hts hown hK hP hD hS hA hl
  have hl : lv_has ls 2 [(0, .ref q_t), (1, .int p1)] := hl
  have inX11 : ∀ w ∈ u_ws RX11 TX11 22, w ∈ wsX11_isDeed := fun w h => List.mem_cons_of_mem _ (List.mem_append_right _ h)
  refine lv_iload_n hx hb dX11_isDeed_0 rfl (lv_at hl 1 rfl) ?_
  refine lv_iconst (v := (0 : Int32)) hx hb dX11_isDeed_1 (by decide) ?_
  refine lv_aload_n hx hb dX11_isDeed_2 rfl (lv_at hl 0 rfl) ?_
  refine va_get (D := D) (ci := 11) (v := .ref q_t_told) (C := RX11) (T := TX11) (N := 22) hx hb hts inX11 hown hK hP 0 rfl rfl 3 (by decide) (hts (.fieldLink RX11 13 "LentCourageModel" "told" "[I") (List.mem_of_getElem? (i := 1) rfl)) (fun _ h9 => h9) rfl dX11_isDeed_3 ?_
  refine lv_iconst (v := (1 : Int32)) hx hb dX11_isDeed_6 (by decide) ?_
  refine ld_ialdK hx hb hK hP 1 0 rfl rfl (k := 1) (by decide) (by decide) (by decide) dX11_isDeed_7 ?_
  refine lv_iconst (v := (1 : Int32)) hx hb dX11_isDeed_8 (by decide) ?_
  refine lv_isub hx hb dX11_isDeed_9 ?_
  obtain ⟨o1, ho1, hf⟩ := of_bind hf
  refine c_I (wr := [ob q_t 11 [.long v_t_trace, .ref q_t_text, .int v_t_typed, .ref q_t_told, .ref q_t_draft, .ref q_t_s, .ref q_t_images, .ref q_t_kept, .ref q_t_heard, .ref q_t_hours, .int v_t_noted, .int v_t_at, .int v_t_sort, .int v_t_start, .int v_t_value, .ref q_t_row, .ref q_t_best, .int v_t_bestMany, .int v_t_bestWorth, .int v_t_bestHour, .ref q_t_places, .ref q_t_pairs], ia C q_t_told 52 r_t_told]) (W2 := [ob q_t 11 [.long v_t_trace, .ref q_t_text, .int v_t_typed, .ref q_t_told, .ref q_t_draft, .ref q_t_s, .ref q_t_images, .ref q_t_kept, .ref q_t_heard, .ref q_t_hours, .int v_t_noted, .int v_t_at, .int v_t_sort, .int v_t_start, .int v_t_value, .ref q_t_row, .ref q_t_best, .int v_t_bestMany, .int v_t_bestWorth, .int v_t_bestHour, .ref q_t_places, .ref q_t_pairs], ia C q_t_told 52 r_t_told]) (cS_run ⟨hx, hb, hml, hown, hts⟩ (k_X11_in l D C p1 (0 : Int32) ((r_t_told 1) - (1 : Int32)) H.size o1 ho1) gX11_isDeed_X11_in rfl ⟨rfl, rfl⟩ hd_X11_in ⟨(Nat.le_of_ble_eq_true rfl), (Nat.le_of_ble_eq_true rfl)⟩ rfl hK (cut_in hK hP hD [] rfl (by decide)) hl.1 rfl (Nat.le_of_ble_eq_true rfl) dX11_isDeed_10 ⟨Nat.zero_le _, Nat.zero_le _⟩) hP hD hS hA [] [0, 1] [0, 1] rfl rfl (by decide) (by decide) rfl (by decide) (fun H locs hP hD hS => ?_)
  have hP : va_P D vwCl [ob q_t 11 [.long v_t_trace, .ref q_t_text, .int v_t_typed, .ref q_t_told, .ref q_t_draft, .ref q_t_s, .ref q_t_images, .ref q_t_kept, .ref q_t_heard, .ref q_t_hours, .int v_t_noted, .int v_t_at, .int v_t_sort, .int v_t_start, .int v_t_value, .ref q_t_row, .ref q_t_best, .int v_t_bestMany, .int v_t_bestWorth, .int v_t_bestHour, .ref q_t_places, .ref q_t_pairs], ia C q_t_told 52 r_t_told] H := hP
  have hD : va_D A [ob q_t 11 [.long v_t_trace, .ref q_t_text, .int v_t_typed, .ref q_t_told, .ref q_t_draft, .ref q_t_s, .ref q_t_images, .ref q_t_kept, .ref q_t_heard, .ref q_t_hours, .int v_t_noted, .int v_t_at, .int v_t_sort, .int v_t_start, .int v_t_value, .ref q_t_row, .ref q_t_best, .int v_t_bestMany, .int v_t_bestWorth, .int v_t_bestHour, .ref q_t_places, .ref q_t_pairs], ia C q_t_told 52 r_t_told] := hD
  obtain ⟨h2, hf⟩ := of_chk hf
  obtain rfl := Option.some.inj hf
  exact ret_Z hx hb hr hlocks h2 hK hP hD hS dX11_isDeed_13

def fX11_type (v_t_typed : Int32) (r_t_text : Nat → Int32) (p1 : Int32) : Option (Int32 × Int32 × (Nat → Int32)) :=
  (fX11_in p1 (0 : Int32) (255 : Int32)).bind (fun o1 => (if o1 = 0 then some ((-1 : Int32), v_t_typed, r_t_text) else (if v_t_typed = (180 : Int32) then some ((-3 : Int32), v_t_typed, r_t_text) else chk (vin v_t_typed 180) (lt_ (v_t_typed + (1 : Int32)) (fun z5 => some (z5, z5, (upd r_t_text v_t_typed.toNatClampNeg p1)))))))
theorem hd_X11_type : yX11_type.cls = RX11 ∧ yX11_type.cls ≠ "java/lang/invoke/MethodHandle" ∧ yX11_type.cls ≠ "java/lang/invoke/VarHandle" ∧ (parseMethodDescriptor yX11_type.desc).map (fun d => d.parameters.length) = some 1 := by decide +kernel
set_option maxHeartbeats 4000000 in
set_option maxRecDepth 100000 in
theorem k_X11_type (l : Launch) (D : va_G) (C : Nat → ClassId) (q_t : Nat) (q_t_text : Nat) (q_t_told : Nat) (q_t_draft : Nat) (q_t_s : Nat) (q_t_images : Nat) (q_t_kept : Nat) (q_t_heard : Nat) (q_t_hours : Nat) (q_t_row : Nat) (q_t_best : Nat) (q_t_places : Nat) (q_t_pairs : Nat) (v_t_trace : Int64) (v_t_typed : Int32) (v_t_noted : Int32) (v_t_at : Int32) (v_t_sort : Int32) (v_t_start : Int32) (v_t_value : Int32) (v_t_bestMany : Int32) (v_t_bestWorth : Int32) (v_t_bestHour : Int32) (r_t_text : Nat → Int32) (p1 : Int32) (sz : Nat) (out : Int32 × Int32 × (Nat → Int32)) (hf : fX11_type v_t_typed r_t_text p1 = some out) : MI l yX11_type wsX11_type ({ frames := 1, cells := 0, slots := 0, locals := 22 }) D C [.ref q_t, .int p1] [ob q_t 11 [.long v_t_trace, .ref q_t_text, .int v_t_typed, .ref q_t_told, .ref q_t_draft, .ref q_t_s, .ref q_t_images, .ref q_t_kept, .ref q_t_heard, .ref q_t_hours, .int v_t_noted, .int v_t_at, .int v_t_sort, .int v_t_start, .int v_t_value, .ref q_t_row, .ref q_t_best, .int v_t_bestMany, .int v_t_bestWorth, .int v_t_bestHour, .ref q_t_places, .ref q_t_pairs], ia C q_t_text 180 r_t_text] [ob q_t 11 [.long v_t_trace, .ref q_t_text, .int out.2.1, .ref q_t_told, .ref q_t_draft, .ref q_t_s, .ref q_t_images, .ref q_t_kept, .ref q_t_heard, .ref q_t_hours, .int v_t_noted, .int v_t_at, .int v_t_sort, .int v_t_start, .int v_t_value, .ref q_t_row, .ref q_t_best, .int v_t_bestMany, .int v_t_bestWorth, .int v_t_bestHour, .ref q_t_places, .ref q_t_pairs], ia C q_t_text 180 out.2.2] sz (out.1) := by
  unfold fX11_type at hf
  refine en_I (by decide) rfl (Nat.le_of_ble_eq_true rfl) ?_
  intro p e s m below meth c A ls H locs hx hb hr hlocks hml hts hown hK hP hD hS hA hl
  have hl : lv_has ls 2 [(0, .ref q_t), (1, .int p1)] := hl
  have inX11 : ∀ w ∈ u_ws RX11 TX11 22, w ∈ wsX11_type := fun w h => List.mem_cons_of_mem _ (List.mem_append_right _ h)
  refine lv_iload_n hx hb dX11_type_0 rfl (lv_at hl 1 rfl) ?_
  refine lv_iconst (v := (0 : Int32)) hx hb dX11_type_1 (by decide) ?_
  refine lv_sipush (v := (255 : Int32)) hx hb dX11_type_2 (by decide) ?_
  obtain ⟨o1, ho1, hf⟩ := of_bind hf
  refine c_I (wr := [ob q_t 11 [.long v_t_trace, .ref q_t_text, .int v_t_typed, .ref q_t_told, .ref q_t_draft, .ref q_t_s, .ref q_t_images, .ref q_t_kept, .ref q_t_heard, .ref q_t_hours, .int v_t_noted, .int v_t_at, .int v_t_sort, .int v_t_start, .int v_t_value, .ref q_t_row, .ref q_t_best, .int v_t_bestMany, .int v_t_bestWorth, .int v_t_bestHour, .ref q_t_places, .ref q_t_pairs], ia C q_t_text 180 r_t_text]) (W2 := [ob q_t 11 [.long v_t_trace, .ref q_t_text, .int v_t_typed, .ref q_t_told, .ref q_t_draft, .ref q_t_s, .ref q_t_images, .ref q_t_kept, .ref q_t_heard, .ref q_t_hours, .int v_t_noted, .int v_t_at, .int v_t_sort, .int v_t_start, .int v_t_value, .ref q_t_row, .ref q_t_best, .int v_t_bestMany, .int v_t_bestWorth, .int v_t_bestHour, .ref q_t_places, .ref q_t_pairs], ia C q_t_text 180 r_t_text]) (cS_run ⟨hx, hb, hml, hown, hts⟩ (k_X11_in l D C p1 (0 : Int32) (255 : Int32) H.size o1 ho1) gX11_type_X11_in rfl ⟨rfl, rfl⟩ hd_X11_in ⟨(Nat.le_of_ble_eq_true rfl), (Nat.le_of_ble_eq_true rfl)⟩ rfl hK (cut_in hK hP hD [] rfl (by decide)) hl.1 rfl (Nat.le_of_ble_eq_true rfl) dX11_type_5 ⟨Nat.zero_le _, Nat.zero_le _⟩) hP hD hS hA [] [0, 1] [0, 1] rfl rfl (by decide) (by decide) rfl (by decide) (fun H locs hP hD hS => ?_)
  have hP : va_P D vwCl [ob q_t 11 [.long v_t_trace, .ref q_t_text, .int v_t_typed, .ref q_t_told, .ref q_t_draft, .ref q_t_s, .ref q_t_images, .ref q_t_kept, .ref q_t_heard, .ref q_t_hours, .int v_t_noted, .int v_t_at, .int v_t_sort, .int v_t_start, .int v_t_value, .ref q_t_row, .ref q_t_best, .int v_t_bestMany, .int v_t_bestWorth, .int v_t_bestHour, .ref q_t_places, .ref q_t_pairs], ia C q_t_text 180 r_t_text] H := hP
  have hD : va_D A [ob q_t 11 [.long v_t_trace, .ref q_t_text, .int v_t_typed, .ref q_t_told, .ref q_t_draft, .ref q_t_s, .ref q_t_images, .ref q_t_kept, .ref q_t_heard, .ref q_t_hours, .int v_t_noted, .int v_t_at, .int v_t_sort, .int v_t_start, .int v_t_value, .ref q_t_row, .ref q_t_best, .int v_t_bestMany, .int v_t_bestWorth, .int v_t_bestHour, .ref q_t_places, .ref q_t_pairs], ia C q_t_text 180 r_t_text] := hD
  refine lv_if_ne (tgt := 13) hx hb dX11_type_8 (by decide) (fun c2 => ?_) (fun c2 => ?_)
  · have hf := of_neg hf c2
    refine lv_aload_n hx hb dX11_type_13 rfl (lv_at hl 0 rfl) ?_
    refine va_get (D := D) (ci := 11) (v := .int v_t_typed) (C := RX11) (T := TX11) (N := 22) hx hb hts inX11 hown hK hP 0 rfl rfl 2 (by decide) (hts (.fieldLink RX11 58 "LentCourageModel" "typed" "I") (List.mem_of_getElem? (i := 1) rfl)) (fun _ h9 => h9) rfl dX11_type_14 ?_
    refine lv_sipush (v := (180 : Int32)) hx hb dX11_type_17 (by decide) ?_
    refine lv_icmp_ne (tgt := 26) hx hb dX11_type_20 (by decide) (fun c3 => ?_) (fun c3 => ?_)
    · have hf := of_neg hf c3
      refine lv_aload_n hx hb dX11_type_26 rfl (lv_at hl 0 rfl) ?_
      refine va_get (D := D) (ci := 11) (v := .ref q_t_text) (C := RX11) (T := TX11) (N := 22) hx hb hts inX11 hown hK hP 0 rfl rfl 1 (by decide) (hts (.fieldLink RX11 7 "LentCourageModel" "text" "[I") (List.mem_of_getElem? (i := 2) rfl)) (fun _ h9 => h9) rfl dX11_type_27 ?_
      refine lv_aload_n hx hb dX11_type_30 rfl (lv_at hl 0 rfl) ?_
      refine va_get (D := D) (ci := 11) (v := .int v_t_typed) (C := RX11) (T := TX11) (N := 22) hx hb hts inX11 hown hK hP 0 rfl rfl 2 (by decide) (hts (.fieldLink RX11 58 "LentCourageModel" "typed" "I") (List.mem_of_getElem? (i := 1) rfl)) (fun _ h9 => h9) rfl dX11_type_31 ?_
      refine lv_iload_n hx hb dX11_type_34 rfl (lv_at hl 1 rfl) ?_
      obtain ⟨h4, hf⟩ := of_chk hf
      refine va_iast hx hb hK hP hD hS 1 0 rfl rfl h4 dX11_type_35 (fun H locs hP hD hS => ?_)
      have hP : va_P D vwCl [ob q_t 11 [.long v_t_trace, .ref q_t_text, .int v_t_typed, .ref q_t_told, .ref q_t_draft, .ref q_t_s, .ref q_t_images, .ref q_t_kept, .ref q_t_heard, .ref q_t_hours, .int v_t_noted, .int v_t_at, .int v_t_sort, .int v_t_start, .int v_t_value, .ref q_t_row, .ref q_t_best, .int v_t_bestMany, .int v_t_bestWorth, .int v_t_bestHour, .ref q_t_places, .ref q_t_pairs], ia C q_t_text 180 (upd r_t_text v_t_typed.toNatClampNeg p1)] H := hP
      have hD : va_D A [ob q_t 11 [.long v_t_trace, .ref q_t_text, .int v_t_typed, .ref q_t_told, .ref q_t_draft, .ref q_t_s, .ref q_t_images, .ref q_t_kept, .ref q_t_heard, .ref q_t_hours, .int v_t_noted, .int v_t_at, .int v_t_sort, .int v_t_start, .int v_t_value, .ref q_t_row, .ref q_t_best, .int v_t_bestMany, .int v_t_bestWorth, .int v_t_bestHour, .ref q_t_places, .ref q_t_pairs], ia C q_t_text 180 (upd r_t_text v_t_typed.toNatClampNeg p1)] := hD
      refine lv_aload_n hx hb dX11_type_36 rfl (lv_at hl 0 rfl) ?_
      refine lv_dup hx hb dX11_type_37 rfl ?_
      refine va_get (D := D) (ci := 11) (v := .int v_t_typed) (C := RX11) (T := TX11) (N := 22) hx hb hts inX11 hown hK hP 0 rfl rfl 2 (by decide) (hts (.fieldLink RX11 58 "LentCourageModel" "typed" "I") (List.mem_of_getElem? (i := 1) rfl)) (fun _ h9 => h9) rfl dX11_type_38 ?_
      refine lv_iconst (v := (1 : Int32)) hx hb dX11_type_41 (by decide) ?_
      refine lv_iadd hx hb dX11_type_42 ?_
      refine lv_topi (fun z5 ez5 => ?_)
      have hf := of_lt hf ez5
      refine va_put (D := D) (ci := 11) (v := .int z5) (ty := .int) (C := RX11) (T := TX11) (N := 22) hx hb hts inX11 tyX11 tyX11_ok nmX11 hown hK hP hD hS 0 rfl rfl 2 (by decide) (hts (.fieldLink RX11 58 "LentCourageModel" "typed" "I") (List.mem_of_getElem? (i := 1) rfl)) (fun _ h9 => h9) rfl (tyX11_ok 2 (by decide)) rfl rfl (Nat.le_of_ble_eq_true rfl) dX11_type_43 (fun H locs hP hD hS => ?_)
      have hP : va_P D vwCl [ob q_t 11 [.long v_t_trace, .ref q_t_text, .int z5, .ref q_t_told, .ref q_t_draft, .ref q_t_s, .ref q_t_images, .ref q_t_kept, .ref q_t_heard, .ref q_t_hours, .int v_t_noted, .int v_t_at, .int v_t_sort, .int v_t_start, .int v_t_value, .ref q_t_row, .ref q_t_best, .int v_t_bestMany, .int v_t_bestWorth, .int v_t_bestHour, .ref q_t_places, .ref q_t_pairs], ia C q_t_text 180 (upd r_t_text v_t_typed.toNatClampNeg p1)] H := hP
      have hD : va_D A [ob q_t 11 [.long v_t_trace, .ref q_t_text, .int z5, .ref q_t_told, .ref q_t_draft, .ref q_t_s, .ref q_t_images, .ref q_t_kept, .ref q_t_heard, .ref q_t_hours, .int v_t_noted, .int v_t_at, .int v_t_sort, .int v_t_start, .int v_t_value, .ref q_t_row, .ref q_t_best, .int v_t_bestMany, .int v_t_bestWorth, .int v_t_bestHour, .ref q_t_places, .ref q_t_pairs], ia C q_t_text 180 (upd r_t_text v_t_typed.toNatClampNeg p1)] := hD
      refine lv_aload_n hx hb dX11_type_46 rfl (lv_at hl 0 rfl) ?_
      refine va_get (D := D) (ci := 11) (v := .int z5) (C := RX11) (T := TX11) (N := 22) hx hb hts inX11 hown hK hP 0 rfl rfl 2 (by decide) (hts (.fieldLink RX11 58 "LentCourageModel" "typed" "I") (List.mem_of_getElem? (i := 1) rfl)) (fun _ h9 => h9) rfl dX11_type_47 ?_
      obtain rfl := Option.some.inj hf
      exact ret_I hx hb hr hlocks hK hP hD hS dX11_type_50
    · have hf := of_pos hf c3
      refine lv_bipush (v := (-3 : Int32)) hx hb dX11_type_23 (by decide) ?_
      obtain rfl := Option.some.inj hf
      exact ret_I hx hb hr hlocks hK hP hD hS dX11_type_25
  · have hf := of_pos hf c2
    refine lv_iconst (v := (-1 : Int32)) hx hb dX11_type_11 (by decide) ?_
    obtain rfl := Option.some.inj hf
    exact ret_I hx hb hr hlocks hK hP hD hS dX11_type_12

def fX11_clear (v_t_typed : Int32) : Option (Int32 × Int32) :=
  some (v_t_typed, (0 : Int32))
theorem hd_X11_clear : yX11_clear.cls = RX11 ∧ yX11_clear.cls ≠ "java/lang/invoke/MethodHandle" ∧ yX11_clear.cls ≠ "java/lang/invoke/VarHandle" ∧ (parseMethodDescriptor yX11_clear.desc).map (fun d => d.parameters.length) = some 0 := by decide +kernel
set_option maxHeartbeats 4000000 in
set_option maxRecDepth 100000 in
theorem k_X11_clear (l : Launch) (D : va_G) (C : Nat → ClassId) (q_t : Nat) (q_t_text : Nat) (q_t_told : Nat) (q_t_draft : Nat) (q_t_s : Nat) (q_t_images : Nat) (q_t_kept : Nat) (q_t_heard : Nat) (q_t_hours : Nat) (q_t_row : Nat) (q_t_best : Nat) (q_t_places : Nat) (q_t_pairs : Nat) (v_t_trace : Int64) (v_t_typed : Int32) (v_t_noted : Int32) (v_t_at : Int32) (v_t_sort : Int32) (v_t_start : Int32) (v_t_value : Int32) (v_t_bestMany : Int32) (v_t_bestWorth : Int32) (v_t_bestHour : Int32) (sz : Nat) (out : Int32 × Int32) (hf : fX11_clear v_t_typed = some out) : MI l yX11_clear wsX11_clear ({ frames := 0, cells := 0, slots := 0, locals := 0 }) D C [.ref q_t] [ob q_t 11 [.long v_t_trace, .ref q_t_text, .int v_t_typed, .ref q_t_told, .ref q_t_draft, .ref q_t_s, .ref q_t_images, .ref q_t_kept, .ref q_t_heard, .ref q_t_hours, .int v_t_noted, .int v_t_at, .int v_t_sort, .int v_t_start, .int v_t_value, .ref q_t_row, .ref q_t_best, .int v_t_bestMany, .int v_t_bestWorth, .int v_t_bestHour, .ref q_t_places, .ref q_t_pairs]] [ob q_t 11 [.long v_t_trace, .ref q_t_text, .int out.2, .ref q_t_told, .ref q_t_draft, .ref q_t_s, .ref q_t_images, .ref q_t_kept, .ref q_t_heard, .ref q_t_hours, .int v_t_noted, .int v_t_at, .int v_t_sort, .int v_t_start, .int v_t_value, .ref q_t_row, .ref q_t_best, .int v_t_bestMany, .int v_t_bestWorth, .int v_t_bestHour, .ref q_t_places, .ref q_t_pairs]] sz (out.1) := by
  unfold fX11_clear at hf
  refine en_I (by decide) rfl (Nat.le_of_ble_eq_true rfl) ?_
  intro p e s m below meth c A ls H locs hx hb hr hlocks hml hts hown hK hP hD hS hA hl
  have hl : lv_has ls 2 [(0, .ref q_t)] := hl
  have inX11 : ∀ w ∈ u_ws RX11 TX11 22, w ∈ wsX11_clear := fun w h => List.mem_cons_of_mem _ (List.mem_append_right _ h)
  refine lv_aload_n hx hb dX11_clear_0 rfl (lv_at hl 0 rfl) ?_
  refine va_get (D := D) (ci := 11) (v := .int v_t_typed) (C := RX11) (T := TX11) (N := 22) hx hb hts inX11 hown hK hP 0 rfl rfl 2 (by decide) (hts (.fieldLink RX11 58 "LentCourageModel" "typed" "I") (List.mem_of_getElem? (i := 1) rfl)) (fun _ h9 => h9) rfl dX11_clear_1 ?_
  refine lv_istore_n (lv' := [(1, .int v_t_typed), (0, .ref q_t)]) hx hb dX11_clear_4 rfl hl (by decide) rfl (fun ls hl => ?_)
  refine lv_aload_n hx hb dX11_clear_5 rfl (lv_at hl 1 rfl) ?_
  refine lv_iconst (v := (0 : Int32)) hx hb dX11_clear_6 (by decide) ?_
  refine va_put (D := D) (ci := 11) (v := .int (0 : Int32)) (ty := .int) (C := RX11) (T := TX11) (N := 22) hx hb hts inX11 tyX11 tyX11_ok nmX11 hown hK hP hD hS 0 rfl rfl 2 (by decide) (hts (.fieldLink RX11 58 "LentCourageModel" "typed" "I") (List.mem_of_getElem? (i := 1) rfl)) (fun _ h9 => h9) rfl (tyX11_ok 2 (by decide)) rfl rfl (Nat.le_of_ble_eq_true rfl) dX11_clear_7 (fun H locs hP hD hS => ?_)
  have hP : va_P D vwCl [ob q_t 11 [.long v_t_trace, .ref q_t_text, .int (0 : Int32), .ref q_t_told, .ref q_t_draft, .ref q_t_s, .ref q_t_images, .ref q_t_kept, .ref q_t_heard, .ref q_t_hours, .int v_t_noted, .int v_t_at, .int v_t_sort, .int v_t_start, .int v_t_value, .ref q_t_row, .ref q_t_best, .int v_t_bestMany, .int v_t_bestWorth, .int v_t_bestHour, .ref q_t_places, .ref q_t_pairs]] H := hP
  have hD : va_D A [ob q_t 11 [.long v_t_trace, .ref q_t_text, .int (0 : Int32), .ref q_t_told, .ref q_t_draft, .ref q_t_s, .ref q_t_images, .ref q_t_kept, .ref q_t_heard, .ref q_t_hours, .int v_t_noted, .int v_t_at, .int v_t_sort, .int v_t_start, .int v_t_value, .ref q_t_row, .ref q_t_best, .int v_t_bestMany, .int v_t_bestWorth, .int v_t_bestHour, .ref q_t_places, .ref q_t_pairs]] := hD
  refine lv_iload_n hx hb dX11_clear_10 rfl (lv_at hl 0 rfl) ?_
  obtain rfl := Option.some.inj hf
  exact ret_I hx hb hr hlocks hK hP hD hS dX11_clear_11

def fX11_letterAt (v_t_typed : Int32) (r_t_text : Nat → Int32) (p1 : Int32) : Option (Int32) :=
  ((if v_t_typed ≤ p1 then some (-1 : Int32) else chk (vin p1 180) (some (r_t_text p1.toNatClampNeg)))).bind (fun j1 => some j1)
theorem hd_X11_letterAt : yX11_letterAt.cls = RX11 ∧ yX11_letterAt.cls ≠ "java/lang/invoke/MethodHandle" ∧ yX11_letterAt.cls ≠ "java/lang/invoke/VarHandle" ∧ (parseMethodDescriptor yX11_letterAt.desc).map (fun d => d.parameters.length) = some 1 := by decide +kernel
set_option maxHeartbeats 4000000 in
set_option maxRecDepth 100000 in
theorem k_X11_letterAt (l : Launch) (D : va_G) (C : Nat → ClassId) (q_t : Nat) (q_t_text : Nat) (q_t_told : Nat) (q_t_draft : Nat) (q_t_s : Nat) (q_t_images : Nat) (q_t_kept : Nat) (q_t_heard : Nat) (q_t_hours : Nat) (q_t_row : Nat) (q_t_best : Nat) (q_t_places : Nat) (q_t_pairs : Nat) (v_t_trace : Int64) (v_t_typed : Int32) (v_t_noted : Int32) (v_t_at : Int32) (v_t_sort : Int32) (v_t_start : Int32) (v_t_value : Int32) (v_t_bestMany : Int32) (v_t_bestWorth : Int32) (v_t_bestHour : Int32) (r_t_text : Nat → Int32) (p1 : Int32) (sz : Nat) (out : Int32) (hf : fX11_letterAt v_t_typed r_t_text p1 = some out) : MI l yX11_letterAt wsX11_letterAt ({ frames := 0, cells := 0, slots := 0, locals := 0 }) D C [.ref q_t, .int p1] [ob q_t 11 [.long v_t_trace, .ref q_t_text, .int v_t_typed, .ref q_t_told, .ref q_t_draft, .ref q_t_s, .ref q_t_images, .ref q_t_kept, .ref q_t_heard, .ref q_t_hours, .int v_t_noted, .int v_t_at, .int v_t_sort, .int v_t_start, .int v_t_value, .ref q_t_row, .ref q_t_best, .int v_t_bestMany, .int v_t_bestWorth, .int v_t_bestHour, .ref q_t_places, .ref q_t_pairs], ia C q_t_text 180 r_t_text] [ob q_t 11 [.long v_t_trace, .ref q_t_text, .int v_t_typed, .ref q_t_told, .ref q_t_draft, .ref q_t_s, .ref q_t_images, .ref q_t_kept, .ref q_t_heard, .ref q_t_hours, .int v_t_noted, .int v_t_at, .int v_t_sort, .int v_t_start, .int v_t_value, .ref q_t_row, .ref q_t_best, .int v_t_bestMany, .int v_t_bestWorth, .int v_t_bestHour, .ref q_t_places, .ref q_t_pairs], ia C q_t_text 180 r_t_text] sz (out) := by
  unfold fX11_letterAt at hf
  refine en_I (by decide) rfl (Nat.le_of_ble_eq_true rfl) ?_
  intro p e s m below meth c A ls H locs hx hb hr hlocks hml hts hown hK hP hD hS hA hl
  have hl : lv_has ls 2 [(0, .ref q_t), (1, .int p1)] := hl
  have inX11 : ∀ w ∈ u_ws RX11 TX11 22, w ∈ wsX11_letterAt := fun w h => List.mem_cons_of_mem _ (List.mem_append_right _ h)
  refine lv_iload_n hx hb dX11_letterAt_0 rfl (lv_at hl 1 rfl) ?_
  refine lv_aload_n hx hb dX11_letterAt_1 rfl (lv_at hl 0 rfl) ?_
  refine va_get (D := D) (ci := 11) (v := .int v_t_typed) (C := RX11) (T := TX11) (N := 22) hx hb hts inX11 hown hK hP 0 rfl rfl 2 (by decide) (hts (.fieldLink RX11 58 "LentCourageModel" "typed" "I") (List.mem_of_getElem? (i := 1) rfl)) (fun _ h9 => h9) rfl dX11_letterAt_2 ?_
  obtain ⟨j1, hrj1, hf⟩ := of_bind hf
  refine jn (fun H L g => ∃ ls, g = F0 m 18 ls [.int j1] ∧ va_P D vwCl [ob q_t 11 [.long v_t_trace, .ref q_t_text, .int v_t_typed, .ref q_t_told, .ref q_t_draft, .ref q_t_s, .ref q_t_images, .ref q_t_kept, .ref q_t_heard, .ref q_t_hours, .int v_t_noted, .int v_t_at, .int v_t_sort, .int v_t_start, .int v_t_value, .ref q_t_row, .ref q_t_best, .int v_t_bestMany, .int v_t_bestWorth, .int v_t_bestHour, .ref q_t_places, .ref q_t_pairs], ia C q_t_text 180 r_t_text] H ∧ va_D A [ob q_t 11 [.long v_t_trace, .ref q_t_text, .int v_t_typed, .ref q_t_told, .ref q_t_draft, .ref q_t_s, .ref q_t_images, .ref q_t_kept, .ref q_t_heard, .ref q_t_hours, .int v_t_noted, .int v_t_at, .int v_t_sort, .int v_t_start, .int v_t_value, .ref q_t_row, .ref q_t_best, .int v_t_bestMany, .int v_t_bestWorth, .int v_t_bestHour, .ref q_t_places, .ref q_t_pairs], ia C q_t_text 180 r_t_text] ∧ va_S A s.heap H L ∧ lv_has ls 2 [(0, .ref q_t), (1, .int p1)]) (fun H locs g hI => ?_) (fun Jj1 => ?_)
  · obtain ⟨ls, rfl, hP, hD, hS, hl⟩ := hI
    obtain rfl := Option.some.inj hf
    exact ret_I hx hb hr hlocks hK hP hD hS dX11_letterAt_18
  · have hf := hrj1
    refine lv_icmp_ge (tgt := 17) hx hb dX11_letterAt_5 (by decide) (fun c2 => ?_) (fun c2 => ?_)
    · have hf := of_pos hf c2
      refine lv_iconst (v := (-1 : Int32)) hx hb dX11_letterAt_17 (by decide) ?_
      obtain rfl := Option.some.inj hf
      exact Jj1 _ _ _ ⟨_, rfl, hP, hD, hS, lv_sub hl [0, 1] rfl⟩
    · have hf := of_neg hf c2
      refine lv_aload_n hx hb dX11_letterAt_8 rfl (lv_at hl 0 rfl) ?_
      refine va_get (D := D) (ci := 11) (v := .ref q_t_text) (C := RX11) (T := TX11) (N := 22) hx hb hts inX11 hown hK hP 0 rfl rfl 1 (by decide) (hts (.fieldLink RX11 7 "LentCourageModel" "text" "[I") (List.mem_of_getElem? (i := 2) rfl)) (fun _ h9 => h9) rfl dX11_letterAt_9 ?_
      refine lv_iload_n hx hb dX11_letterAt_12 rfl (lv_at hl 1 rfl) ?_
      obtain ⟨h3, hf⟩ := of_chk hf
      refine va_iald hx hb hK hP 1 0 rfl rfl h3 dX11_letterAt_13 ?_
      refine lv_goto (tgt := 18) hx hb dX11_letterAt_14 (by decide) ?_
      obtain rfl := Option.some.inj hf
      exact Jj1 _ _ _ ⟨_, rfl, hP, hD, hS, lv_sub hl [0, 1] rfl⟩

def fX11_isLetter (p0 : Int32) : Option (Int32) :=
  (fX11_in p0 (97 : Int32) (122 : Int32)).bind (fun o1 => chk (okZ o1) (some o1))
theorem hd_X11_isLetter : yX11_isLetter.cls ≠ "java/lang/invoke/MethodHandle" ∧ yX11_isLetter.cls ≠ "java/lang/invoke/VarHandle" ∧ (parseMethodDescriptor yX11_isLetter.desc).map (fun d => d.parameters.length) = some 1 := by decide +kernel
set_option maxHeartbeats 4000000 in
set_option maxRecDepth 100000 in
theorem k_X11_isLetter (l : Launch) (D : va_G) (C : Nat → ClassId) (p0 : Int32) (sz : Nat) (out : Int32) (hf : fX11_isLetter p0 = some out) : MI l yX11_isLetter wsX11_isLetter ({ frames := 1, cells := 0, slots := 0, locals := 22 }) D C [.int p0] [] [] sz (out) := by
  unfold fX11_isLetter at hf
  refine en_I (by decide) rfl (Nat.le_of_ble_eq_true rfl) ?_
  intro p e s m below meth c A ls H locs hx hb hr hlocks hml hts hown hK hP hD hS hA hl
  have hl : lv_has ls 1 [(0, .int p0)] := hl
  refine lv_iload_n hx hb dX11_isLetter_0 rfl (lv_at hl 0 rfl) ?_
  refine lv_bipush (v := (97 : Int32)) hx hb dX11_isLetter_1 (by decide) ?_
  refine lv_bipush (v := (122 : Int32)) hx hb dX11_isLetter_3 (by decide) ?_
  obtain ⟨o1, ho1, hf⟩ := of_bind hf
  refine c_I (wr := []) (W2 := []) (cS_run ⟨hx, hb, hml, hown, hts⟩ (k_X11_in l D C p0 (97 : Int32) (122 : Int32) H.size o1 ho1) gX11_isLetter_X11_in rfl ⟨rfl, rfl⟩ hd_X11_in ⟨(Nat.le_of_ble_eq_true rfl), (Nat.le_of_ble_eq_true rfl)⟩ rfl hK (cut_in hK hP hD [] rfl (by decide)) hl.1 rfl (Nat.le_of_ble_eq_true rfl) dX11_isLetter_5 ⟨Nat.zero_le _, Nat.zero_le _⟩) hP hD hS hA [] [] [] rfl rfl (by decide) (by decide) rfl (by decide) (fun H locs hP hD hS => ?_)
  have hP : va_P D vwCl [] H := hP
  have hD : va_D A [] := hD
  obtain ⟨h2, hf⟩ := of_chk hf
  obtain rfl := Option.some.inj hf
  exact ret_Z hx hb hr hlocks h2 hK hP hD hS dX11_isLetter_8

def fX11_isDigit (p0 : Int32) : Option (Int32) :=
  (fX11_in p0 (48 : Int32) (57 : Int32)).bind (fun o1 => chk (okZ o1) (some o1))
theorem hd_X11_isDigit : yX11_isDigit.cls ≠ "java/lang/invoke/MethodHandle" ∧ yX11_isDigit.cls ≠ "java/lang/invoke/VarHandle" ∧ (parseMethodDescriptor yX11_isDigit.desc).map (fun d => d.parameters.length) = some 1 := by decide +kernel
set_option maxHeartbeats 4000000 in
set_option maxRecDepth 100000 in
theorem k_X11_isDigit (l : Launch) (D : va_G) (C : Nat → ClassId) (p0 : Int32) (sz : Nat) (out : Int32) (hf : fX11_isDigit p0 = some out) : MI l yX11_isDigit wsX11_isDigit ({ frames := 1, cells := 0, slots := 0, locals := 22 }) D C [.int p0] [] [] sz (out) := by
  unfold fX11_isDigit at hf
  refine en_I (by decide) rfl (Nat.le_of_ble_eq_true rfl) ?_
  intro p e s m below meth c A ls H locs hx hb hr hlocks hml hts hown hK hP hD hS hA hl
  have hl : lv_has ls 1 [(0, .int p0)] := hl
  refine lv_iload_n hx hb dX11_isDigit_0 rfl (lv_at hl 0 rfl) ?_
  refine lv_bipush (v := (48 : Int32)) hx hb dX11_isDigit_1 (by decide) ?_
  refine lv_bipush (v := (57 : Int32)) hx hb dX11_isDigit_3 (by decide) ?_
  obtain ⟨o1, ho1, hf⟩ := of_bind hf
  refine c_I (wr := []) (W2 := []) (cS_run ⟨hx, hb, hml, hown, hts⟩ (k_X11_in l D C p0 (48 : Int32) (57 : Int32) H.size o1 ho1) gX11_isDigit_X11_in rfl ⟨rfl, rfl⟩ hd_X11_in ⟨(Nat.le_of_ble_eq_true rfl), (Nat.le_of_ble_eq_true rfl)⟩ rfl hK (cut_in hK hP hD [] rfl (by decide)) hl.1 rfl (Nat.le_of_ble_eq_true rfl) dX11_isDigit_5 ⟨Nat.zero_le _, Nat.zero_le _⟩) hP hD hS hA [] [] [] rfl rfl (by decide) (by decide) rfl (by decide) (fun H locs hP hD hS => ?_)
  have hP : va_P D vwCl [] H := hP
  have hD : va_D A [] := hD
  obtain ⟨h2, hf⟩ := of_chk hf
  obtain rfl := Option.some.inj hf
  exact ret_Z hx hb hr hlocks h2 hK hP hD hS dX11_isDigit_8

def fX11_token_0 (v_t_typed_0 : Int32) (r_t_text_0 : Nat → Int32) : Nat → Int32 → Option (Int32)
  | 0, _ => none
  | n + 1, v_t_at_0 => (fX11_letterAt v_t_typed_0 r_t_text_0 v_t_at_0).bind (fun o1 => (if o1 = (32 : Int32) then lt_ (v_t_at_0 + (1 : Int32)) (fun z3 => fX11_token_0 v_t_typed_0 r_t_text_0 n z3) else some v_t_at_0))
def fX11_token_114 (v_t_typed_114 : Int32) (v_t_sort_114 : Int32) (r_t_text_114 : Nat → Int32) : Nat → Int32 → Int32 → Option (Int32 × Int32)
  | 0, _, _ => none
  | n + 1, v_t_at_114, v_t_value_114 => (if v_t_sort_114 = (1 : Int32) then (fX11_letterAt v_t_typed_114 r_t_text_114 v_t_at_114).bind (fun o16 => (fX11_isLetter o16).bind (fun o17 => (if o17 = 0 then some (v_t_at_114, v_t_value_114) else lt_ (v_t_at_114 + (1 : Int32)) (fun z19 => fX11_token_114 v_t_typed_114 v_t_sort_114 r_t_text_114 n z19 (0 : Int32))))) else some (v_t_at_114, v_t_value_114))
def fX11_token_170 (w1_170 : Int32) (v_t_typed_170 : Int32) (r_t_text_170 : Nat → Int32) : Nat → Int32 → Int32 → Option (Int32 × Int32)
  | 0, _, _ => none
  | n + 1, v_t_at_170, v_t_value_170 => (fX11_letterAt v_t_typed_170 r_t_text_170 v_t_at_170).bind (fun o23 => (fX11_isDigit o23).bind (fun o24 => (if o24 = 0 then some (v_t_at_170, v_t_value_170) else ((if w1_170 = (48 : Int32) then some (1000 : Int32) else (if v_t_value_170 ≤ (99 : Int32) then chk (vin v_t_at_170 180) (some ((((10 : Int32) * v_t_value_170) + (r_t_text_170 v_t_at_170.toNatClampNeg)) - (48 : Int32))) else some (1000 : Int32)))).bind (fun j26 => lt_ (v_t_at_170 + (1 : Int32)) (fun z30 => fX11_token_170 w1_170 v_t_typed_170 r_t_text_170 n z30 j26)))))
def fX11_token (v_t_typed : Int32) (v_t_at : Int32) (r_t_text : Nat → Int32) : Option (Int32 × Int32 × Int32 × Int32) :=
  (fX11_token_0 v_t_typed r_t_text FU v_t_at).bind (fun y4 => (fX11_letterAt v_t_typed r_t_text y4).bind (fun o5 => ((if 0 ≤ o5 then (fX11_isLetter o5).bind (fun o8 => (if o8 = 0 then (fX11_isDigit o5).bind (fun o10 => (if o10 = 0 then (if o5 = (59 : Int32) then some (3 : Int32) else some (4 : Int32)) else some (2 : Int32))) else some (1 : Int32))) else some (0 : Int32))).bind (fun j6 => lt_ (y4 + (if j6 = 0 then (0 : Int32) else (1 : Int32))) (fun z14 => (fX11_token_114 v_t_typed j6 r_t_text FU z14 o5).bind (fun y20 => (if j6 = (2 : Int32) then lt_ (o5 - (48 : Int32)) (fun z22 => (fX11_token_170 o5 v_t_typed r_t_text FU y20.1 z22).bind (fun y31 => some (y31.1, j6, y4, y31.2))) else some (y20.1, j6, y4, y20.2)))))))
theorem hd_X11_token : yX11_token.cls = RX11 ∧ yX11_token.cls ≠ "java/lang/invoke/MethodHandle" ∧ yX11_token.cls ≠ "java/lang/invoke/VarHandle" ∧ (parseMethodDescriptor yX11_token.desc).map (fun d => d.parameters.length) = some 0 := by decide +kernel
set_option maxHeartbeats 4000000 in
set_option maxRecDepth 100000 in
theorem k_X11_token (l : Launch) (D : va_G) (C : Nat → ClassId) (q_t : Nat) (q_t_text : Nat) (q_t_told : Nat) (q_t_draft : Nat) (q_t_s : Nat) (q_t_images : Nat) (q_t_kept : Nat) (q_t_heard : Nat) (q_t_hours : Nat) (q_t_row : Nat) (q_t_best : Nat) (q_t_places : Nat) (q_t_pairs : Nat) (v_t_trace : Int64) (v_t_typed : Int32) (v_t_noted : Int32) (v_t_at : Int32) (v_t_sort : Int32) (v_t_start : Int32) (v_t_value : Int32) (v_t_bestMany : Int32) (v_t_bestWorth : Int32) (v_t_bestHour : Int32) (r_t_text : Nat → Int32) (sz : Nat) (out : Int32 × Int32 × Int32 × Int32) (hf : fX11_token v_t_typed v_t_at r_t_text = some out) : MV l yX11_token wsX11_token ({ frames := 2, cells := 0, slots := 0, locals := 42 }) D C [.ref q_t] [ob q_t 11 [.long v_t_trace, .ref q_t_text, .int v_t_typed, .ref q_t_told, .ref q_t_draft, .ref q_t_s, .ref q_t_images, .ref q_t_kept, .ref q_t_heard, .ref q_t_hours, .int v_t_noted, .int v_t_at, .int v_t_sort, .int v_t_start, .int v_t_value, .ref q_t_row, .ref q_t_best, .int v_t_bestMany, .int v_t_bestWorth, .int v_t_bestHour, .ref q_t_places, .ref q_t_pairs], ia C q_t_text 180 r_t_text] [ob q_t 11 [.long v_t_trace, .ref q_t_text, .int v_t_typed, .ref q_t_told, .ref q_t_draft, .ref q_t_s, .ref q_t_images, .ref q_t_kept, .ref q_t_heard, .ref q_t_hours, .int v_t_noted, .int out.1, .int out.2.1, .int out.2.2.1, .int out.2.2.2, .ref q_t_row, .ref q_t_best, .int v_t_bestMany, .int v_t_bestWorth, .int v_t_bestHour, .ref q_t_places, .ref q_t_pairs], ia C q_t_text 180 r_t_text] sz := by
  unfold fX11_token at hf
  refine en_V (by decide) rfl (Nat.le_of_ble_eq_true rfl) ?_
  intro p e s m below meth c A ls H locs hx hb hr hlocks hml hts hown hK hP hD hS hA hl
  have hl : lv_has ls 2 [(0, .ref q_t)] := hl
  have inX11 : ∀ w ∈ u_ws RX11 TX11 22, w ∈ wsX11_token := fun w h => List.mem_cons_of_mem _ (List.mem_append_right _ h)
  have LP0 : ∀ (Q : State → Prop) (n : Nat) (v_t_trace_0 : Int64) (v_t_typed_0 : Int32) (v_t_noted_0 : Int32) (v_t_at_0 : Int32) (v_t_sort_0 : Int32) (v_t_start_0 : Int32) (v_t_value_0 : Int32) (v_t_bestMany_0 : Int32) (v_t_bestWorth_0 : Int32) (v_t_bestHour_0 : Int32) (r_t_text_0 : Nat → Int32) (y_0 : Int32), fX11_token_0 v_t_typed_0 r_t_text_0 n v_t_at_0 = some y_0 → ∀ (H : Heap) (locs : List Loc) (ls : Array Slot), va_P D vwCl [ob q_t 11 [.long v_t_trace_0, .ref q_t_text, .int v_t_typed_0, .ref q_t_told, .ref q_t_draft, .ref q_t_s, .ref q_t_images, .ref q_t_kept, .ref q_t_heard, .ref q_t_hours, .int v_t_noted_0, .int v_t_at_0, .int v_t_sort_0, .int v_t_start_0, .int v_t_value_0, .ref q_t_row, .ref q_t_best, .int v_t_bestMany_0, .int v_t_bestWorth_0, .int v_t_bestHour_0, .ref q_t_places, .ref q_t_pairs], ia C q_t_text 180 r_t_text_0] H → va_D A [ob q_t 11 [.long v_t_trace_0, .ref q_t_text, .int v_t_typed_0, .ref q_t_told, .ref q_t_draft, .ref q_t_s, .ref q_t_images, .ref q_t_kept, .ref q_t_heard, .ref q_t_hours, .int v_t_noted_0, .int v_t_at_0, .int v_t_sort_0, .int v_t_start_0, .int v_t_value_0, .ref q_t_row, .ref q_t_best, .int v_t_bestMany_0, .int v_t_bestWorth_0, .int v_t_bestHour_0, .ref q_t_places, .ref q_t_pairs], ia C q_t_text 180 r_t_text_0] → va_S A s.heap H locs → lv_has ls 2 [(0, .ref q_t)] → (∀ (H : Heap) (locs : List Loc) (ls : Array Slot), va_P D vwCl [ob q_t 11 [.long v_t_trace_0, .ref q_t_text, .int v_t_typed_0, .ref q_t_told, .ref q_t_draft, .ref q_t_s, .ref q_t_images, .ref q_t_kept, .ref q_t_heard, .ref q_t_hours, .int v_t_noted_0, .int y_0, .int v_t_sort_0, .int v_t_start_0, .int v_t_value_0, .ref q_t_row, .ref q_t_best, .int v_t_bestMany_0, .int v_t_bestWorth_0, .int v_t_bestHour_0, .ref q_t_places, .ref q_t_pairs], ia C q_t_text 180 r_t_text_0] H → va_D A [ob q_t 11 [.long v_t_trace_0, .ref q_t_text, .int v_t_typed_0, .ref q_t_told, .ref q_t_draft, .ref q_t_s, .ref q_t_images, .ref q_t_kept, .ref q_t_heard, .ref q_t_hours, .int v_t_noted_0, .int y_0, .int v_t_sort_0, .int v_t_start_0, .int v_t_value_0, .ref q_t_row, .ref q_t_best, .int v_t_bestMany_0, .int v_t_bestWorth_0, .int v_t_bestHour_0, .ref q_t_places, .ref q_t_pairs], ia C q_t_text 180 r_t_text_0] → va_S A s.heap H locs → lv_has ls 2 [(0, .ref q_t)] → W p l e ({ frames := 2, cells := 0, slots := 0, locals := 42 } : Room) s m ([.ref q_t] : List Value).toArray below meth c H locs 0 0 Q (F0 m 26 ls [])) → W p l e ({ frames := 2, cells := 0, slots := 0, locals := 42 } : Room) s m ([.ref q_t] : List Value).toArray below meth c H locs 0 0 Q (F0 m 0 ls []) := by
    intro Q n
    induction n with
    | zero =>
      intro v_t_trace_0 v_t_typed_0 v_t_noted_0 v_t_at_0 v_t_sort_0 v_t_start_0 v_t_value_0 v_t_bestMany_0 v_t_bestWorth_0 v_t_bestHour_0 r_t_text_0 y_0 hf
      rw [fX11_token_0] at hf
      cases hf
    | succ n ih =>
      intro v_t_trace_0 v_t_typed_0 v_t_noted_0 v_t_at_0 v_t_sort_0 v_t_start_0 v_t_value_0 v_t_bestMany_0 v_t_bestWorth_0 v_t_bestHour_0 r_t_text_0 y_0 hf H locs ls hP hD hS hl KX0
      rw [fX11_token_0] at hf
      refine lv_aload_n hx hb dX11_token_0 rfl (lv_at hl 0 rfl) ?_
      refine lv_aload_n hx hb dX11_token_1 rfl (lv_at hl 0 rfl) ?_
      refine va_get (D := D) (ci := 11) (v := .int v_t_at_0) (C := RX11) (T := TX11) (N := 22) hx hb hts inX11 hown hK hP 0 rfl rfl 11 (by decide) (hts (.fieldLink RX11 62 "LentCourageModel" "at" "I") (List.mem_of_getElem? (i := 1) rfl)) (fun _ h9 => h9) rfl dX11_token_2 ?_
      obtain ⟨o1, ho1, hf⟩ := of_bind hf
      refine c_I (wr := []) (W2 := [ob q_t 11 [.long v_t_trace_0, .ref q_t_text, .int v_t_typed_0, .ref q_t_told, .ref q_t_draft, .ref q_t_s, .ref q_t_images, .ref q_t_kept, .ref q_t_heard, .ref q_t_hours, .int v_t_noted_0, .int v_t_at_0, .int v_t_sort_0, .int v_t_start_0, .int v_t_value_0, .ref q_t_row, .ref q_t_best, .int v_t_bestMany_0, .int v_t_bestWorth_0, .int v_t_bestHour_0, .ref q_t_places, .ref q_t_pairs], ia C q_t_text 180 r_t_text_0]) (cV_run ⟨hx, hb, hml, hown, hts⟩ (k_X11_letterAt l D C q_t q_t_text q_t_told q_t_draft q_t_s q_t_images q_t_kept q_t_heard q_t_hours q_t_row q_t_best q_t_places q_t_pairs v_t_trace_0 v_t_typed_0 v_t_noted_0 v_t_at_0 v_t_sort_0 v_t_start_0 v_t_value_0 v_t_bestMany_0 v_t_bestWorth_0 v_t_bestHour_0 r_t_text_0 v_t_at_0 H.size o1 ho1) gX11_token_X11_letterAt rfl ⟨rfl, rfl⟩ hd_X11_letterAt ⟨(Nat.le_of_ble_eq_true rfl), (Nat.le_of_ble_eq_true rfl)⟩ rfl hK (cut_in hK hP hD [0, 1] rfl (by decide)) (ci := 11) rfl rfl rfl hl.1 rfl (Nat.le_of_ble_eq_true rfl) dX11_token_5 ⟨Nat.zero_le _, Nat.zero_le _⟩) hP hD hS hA [0, 1] [] [0, 1] rfl rfl (by decide) (by decide) rfl (by decide) (fun H locs hP hD hS => ?_)
      have hP : va_P D vwCl [ob q_t 11 [.long v_t_trace_0, .ref q_t_text, .int v_t_typed_0, .ref q_t_told, .ref q_t_draft, .ref q_t_s, .ref q_t_images, .ref q_t_kept, .ref q_t_heard, .ref q_t_hours, .int v_t_noted_0, .int v_t_at_0, .int v_t_sort_0, .int v_t_start_0, .int v_t_value_0, .ref q_t_row, .ref q_t_best, .int v_t_bestMany_0, .int v_t_bestWorth_0, .int v_t_bestHour_0, .ref q_t_places, .ref q_t_pairs], ia C q_t_text 180 r_t_text_0] H := hP
      have hD : va_D A [ob q_t 11 [.long v_t_trace_0, .ref q_t_text, .int v_t_typed_0, .ref q_t_told, .ref q_t_draft, .ref q_t_s, .ref q_t_images, .ref q_t_kept, .ref q_t_heard, .ref q_t_hours, .int v_t_noted_0, .int v_t_at_0, .int v_t_sort_0, .int v_t_start_0, .int v_t_value_0, .ref q_t_row, .ref q_t_best, .int v_t_bestMany_0, .int v_t_bestWorth_0, .int v_t_bestHour_0, .ref q_t_places, .ref q_t_pairs], ia C q_t_text 180 r_t_text_0] := hD
      refine lv_bipush (v := (32 : Int32)) hx hb dX11_token_8 (by decide) ?_
      refine lv_icmp_ne (tgt := 26) hx hb dX11_token_10 (by decide) (fun c2 => ?_) (fun c2 => ?_)
      · have hf := of_neg hf c2
        obtain rfl := Option.some.inj hf
        exact KX0 _ _ _ hP hD hS (lv_sub hl [0] rfl)
      · have hf := of_pos hf c2
        refine lv_aload_n hx hb dX11_token_13 rfl (lv_at hl 0 rfl) ?_
        refine lv_dup hx hb dX11_token_14 rfl ?_
        refine va_get (D := D) (ci := 11) (v := .int v_t_at_0) (C := RX11) (T := TX11) (N := 22) hx hb hts inX11 hown hK hP 0 rfl rfl 11 (by decide) (hts (.fieldLink RX11 62 "LentCourageModel" "at" "I") (List.mem_of_getElem? (i := 1) rfl)) (fun _ h9 => h9) rfl dX11_token_15 ?_
        refine lv_iconst (v := (1 : Int32)) hx hb dX11_token_18 (by decide) ?_
        refine lv_iadd hx hb dX11_token_19 ?_
        refine lv_topi (fun z3 ez3 => ?_)
        have hf := of_lt hf ez3
        refine va_put (D := D) (ci := 11) (v := .int z3) (ty := .int) (C := RX11) (T := TX11) (N := 22) hx hb hts inX11 tyX11 tyX11_ok nmX11 hown hK hP hD hS 0 rfl rfl 11 (by decide) (hts (.fieldLink RX11 62 "LentCourageModel" "at" "I") (List.mem_of_getElem? (i := 1) rfl)) (fun _ h9 => h9) rfl (tyX11_ok 11 (by decide)) rfl rfl (Nat.le_of_ble_eq_true rfl) dX11_token_20 (fun H locs hP hD hS => ?_)
        have hP : va_P D vwCl [ob q_t 11 [.long v_t_trace_0, .ref q_t_text, .int v_t_typed_0, .ref q_t_told, .ref q_t_draft, .ref q_t_s, .ref q_t_images, .ref q_t_kept, .ref q_t_heard, .ref q_t_hours, .int v_t_noted_0, .int z3, .int v_t_sort_0, .int v_t_start_0, .int v_t_value_0, .ref q_t_row, .ref q_t_best, .int v_t_bestMany_0, .int v_t_bestWorth_0, .int v_t_bestHour_0, .ref q_t_places, .ref q_t_pairs], ia C q_t_text 180 r_t_text_0] H := hP
        have hD : va_D A [ob q_t 11 [.long v_t_trace_0, .ref q_t_text, .int v_t_typed_0, .ref q_t_told, .ref q_t_draft, .ref q_t_s, .ref q_t_images, .ref q_t_kept, .ref q_t_heard, .ref q_t_hours, .int v_t_noted_0, .int z3, .int v_t_sort_0, .int v_t_start_0, .int v_t_value_0, .ref q_t_row, .ref q_t_best, .int v_t_bestMany_0, .int v_t_bestWorth_0, .int v_t_bestHour_0, .ref q_t_places, .ref q_t_pairs], ia C q_t_text 180 r_t_text_0] := hD
        refine lv_goto (tgt := 0) hx hb dX11_token_23 (by decide) ?_
        exact ih _ _ _ _ _ _ _ _ _ _ _ _ hf H locs ls hP hD hS (lv_sub hl [0] rfl) KX0
  have LP114 : ∀ (Q : State → Prop) (n : Nat) (w1_114 : Int32) (v_t_trace_114 : Int64) (v_t_typed_114 : Int32) (v_t_noted_114 : Int32) (v_t_at_114 : Int32) (v_t_sort_114 : Int32) (v_t_start_114 : Int32) (v_t_value_114 : Int32) (v_t_bestMany_114 : Int32) (v_t_bestWorth_114 : Int32) (v_t_bestHour_114 : Int32) (r_t_text_114 : Nat → Int32) (y_114 : Int32 × Int32), fX11_token_114 v_t_typed_114 v_t_sort_114 r_t_text_114 n v_t_at_114 v_t_value_114 = some y_114 → ∀ (H : Heap) (locs : List Loc) (ls : Array Slot), va_P D vwCl [ob q_t 11 [.long v_t_trace_114, .ref q_t_text, .int v_t_typed_114, .ref q_t_told, .ref q_t_draft, .ref q_t_s, .ref q_t_images, .ref q_t_kept, .ref q_t_heard, .ref q_t_hours, .int v_t_noted_114, .int v_t_at_114, .int v_t_sort_114, .int v_t_start_114, .int v_t_value_114, .ref q_t_row, .ref q_t_best, .int v_t_bestMany_114, .int v_t_bestWorth_114, .int v_t_bestHour_114, .ref q_t_places, .ref q_t_pairs], ia C q_t_text 180 r_t_text_114] H → va_D A [ob q_t 11 [.long v_t_trace_114, .ref q_t_text, .int v_t_typed_114, .ref q_t_told, .ref q_t_draft, .ref q_t_s, .ref q_t_images, .ref q_t_kept, .ref q_t_heard, .ref q_t_hours, .int v_t_noted_114, .int v_t_at_114, .int v_t_sort_114, .int v_t_start_114, .int v_t_value_114, .ref q_t_row, .ref q_t_best, .int v_t_bestMany_114, .int v_t_bestWorth_114, .int v_t_bestHour_114, .ref q_t_places, .ref q_t_pairs], ia C q_t_text 180 r_t_text_114] → va_S A s.heap H locs → lv_has ls 2 [(1, .int w1_114), (0, .ref q_t)] → (∀ (H : Heap) (locs : List Loc) (ls : Array Slot), va_P D vwCl [ob q_t 11 [.long v_t_trace_114, .ref q_t_text, .int v_t_typed_114, .ref q_t_told, .ref q_t_draft, .ref q_t_s, .ref q_t_images, .ref q_t_kept, .ref q_t_heard, .ref q_t_hours, .int v_t_noted_114, .int y_114.1, .int v_t_sort_114, .int v_t_start_114, .int y_114.2, .ref q_t_row, .ref q_t_best, .int v_t_bestMany_114, .int v_t_bestWorth_114, .int v_t_bestHour_114, .ref q_t_places, .ref q_t_pairs], ia C q_t_text 180 r_t_text_114] H → va_D A [ob q_t 11 [.long v_t_trace_114, .ref q_t_text, .int v_t_typed_114, .ref q_t_told, .ref q_t_draft, .ref q_t_s, .ref q_t_images, .ref q_t_kept, .ref q_t_heard, .ref q_t_hours, .int v_t_noted_114, .int y_114.1, .int v_t_sort_114, .int v_t_start_114, .int y_114.2, .ref q_t_row, .ref q_t_best, .int v_t_bestMany_114, .int v_t_bestWorth_114, .int v_t_bestHour_114, .ref q_t_places, .ref q_t_pairs], ia C q_t_text 180 r_t_text_114] → va_S A s.heap H locs → lv_has ls 2 [(1, .int w1_114), (0, .ref q_t)] → W p l e ({ frames := 2, cells := 0, slots := 0, locals := 42 } : Room) s m ([.ref q_t] : List Value).toArray below meth c H locs 0 0 Q (F0 m 154 ls [])) → W p l e ({ frames := 2, cells := 0, slots := 0, locals := 42 } : Room) s m ([.ref q_t] : List Value).toArray below meth c H locs 0 0 Q (F0 m 114 ls []) := by
    intro Q n
    induction n with
    | zero =>
      intro w1_114 v_t_trace_114 v_t_typed_114 v_t_noted_114 v_t_at_114 v_t_sort_114 v_t_start_114 v_t_value_114 v_t_bestMany_114 v_t_bestWorth_114 v_t_bestHour_114 r_t_text_114 y_114 hf
      rw [fX11_token_114] at hf
      cases hf
    | succ n ih =>
      intro w1_114 v_t_trace_114 v_t_typed_114 v_t_noted_114 v_t_at_114 v_t_sort_114 v_t_start_114 v_t_value_114 v_t_bestMany_114 v_t_bestWorth_114 v_t_bestHour_114 r_t_text_114 y_114 hf H locs ls hP hD hS hl KX0
      rw [fX11_token_114] at hf
      refine lv_aload_n hx hb dX11_token_114 rfl (lv_at hl 1 rfl) ?_
      refine va_get (D := D) (ci := 11) (v := .int v_t_sort_114) (C := RX11) (T := TX11) (N := 22) hx hb hts inX11 hown hK hP 0 rfl rfl 12 (by decide) (hts (.fieldLink RX11 79 "LentCourageModel" "sort" "I") (List.mem_of_getElem? (i := 3) rfl)) (fun _ h9 => h9) rfl dX11_token_115 ?_
      refine lv_iconst (v := (1 : Int32)) hx hb dX11_token_118 (by decide) ?_
      refine lv_icmp_ne (tgt := 154) hx hb dX11_token_119 (by decide) (fun c15 => ?_) (fun c15 => ?_)
      · have hf := of_neg hf c15
        obtain rfl := Option.some.inj hf
        exact KX0 _ _ _ hP hD hS (lv_sub hl [0, 1] rfl)
      · have hf := of_pos hf c15
        refine lv_aload_n hx hb dX11_token_122 rfl (lv_at hl 1 rfl) ?_
        refine lv_aload_n hx hb dX11_token_123 rfl (lv_at hl 1 rfl) ?_
        refine va_get (D := D) (ci := 11) (v := .int v_t_at_114) (C := RX11) (T := TX11) (N := 22) hx hb hts inX11 hown hK hP 0 rfl rfl 11 (by decide) (hts (.fieldLink RX11 62 "LentCourageModel" "at" "I") (List.mem_of_getElem? (i := 1) rfl)) (fun _ h9 => h9) rfl dX11_token_124 ?_
        obtain ⟨o16, ho16, hf⟩ := of_bind hf
        refine c_I (wr := []) (W2 := [ob q_t 11 [.long v_t_trace_114, .ref q_t_text, .int v_t_typed_114, .ref q_t_told, .ref q_t_draft, .ref q_t_s, .ref q_t_images, .ref q_t_kept, .ref q_t_heard, .ref q_t_hours, .int v_t_noted_114, .int v_t_at_114, .int v_t_sort_114, .int v_t_start_114, .int v_t_value_114, .ref q_t_row, .ref q_t_best, .int v_t_bestMany_114, .int v_t_bestWorth_114, .int v_t_bestHour_114, .ref q_t_places, .ref q_t_pairs], ia C q_t_text 180 r_t_text_114]) (cV_run ⟨hx, hb, hml, hown, hts⟩ (k_X11_letterAt l D C q_t q_t_text q_t_told q_t_draft q_t_s q_t_images q_t_kept q_t_heard q_t_hours q_t_row q_t_best q_t_places q_t_pairs v_t_trace_114 v_t_typed_114 v_t_noted_114 v_t_at_114 v_t_sort_114 v_t_start_114 v_t_value_114 v_t_bestMany_114 v_t_bestWorth_114 v_t_bestHour_114 r_t_text_114 v_t_at_114 H.size o16 ho16) gX11_token_X11_letterAt rfl ⟨rfl, rfl⟩ hd_X11_letterAt ⟨(Nat.le_of_ble_eq_true rfl), (Nat.le_of_ble_eq_true rfl)⟩ rfl hK (cut_in hK hP hD [0, 1] rfl (by decide)) (ci := 11) rfl rfl rfl hl.1 rfl (Nat.le_of_ble_eq_true rfl) dX11_token_127 ⟨Nat.zero_le _, Nat.zero_le _⟩) hP hD hS hA [0, 1] [] [0, 1] rfl rfl (by decide) (by decide) rfl (by decide) (fun H locs hP hD hS => ?_)
        have hP : va_P D vwCl [ob q_t 11 [.long v_t_trace_114, .ref q_t_text, .int v_t_typed_114, .ref q_t_told, .ref q_t_draft, .ref q_t_s, .ref q_t_images, .ref q_t_kept, .ref q_t_heard, .ref q_t_hours, .int v_t_noted_114, .int v_t_at_114, .int v_t_sort_114, .int v_t_start_114, .int v_t_value_114, .ref q_t_row, .ref q_t_best, .int v_t_bestMany_114, .int v_t_bestWorth_114, .int v_t_bestHour_114, .ref q_t_places, .ref q_t_pairs], ia C q_t_text 180 r_t_text_114] H := hP
        have hD : va_D A [ob q_t 11 [.long v_t_trace_114, .ref q_t_text, .int v_t_typed_114, .ref q_t_told, .ref q_t_draft, .ref q_t_s, .ref q_t_images, .ref q_t_kept, .ref q_t_heard, .ref q_t_hours, .int v_t_noted_114, .int v_t_at_114, .int v_t_sort_114, .int v_t_start_114, .int v_t_value_114, .ref q_t_row, .ref q_t_best, .int v_t_bestMany_114, .int v_t_bestWorth_114, .int v_t_bestHour_114, .ref q_t_places, .ref q_t_pairs], ia C q_t_text 180 r_t_text_114] := hD
        obtain ⟨o17, ho17, hf⟩ := of_bind hf
        refine c_I (wr := [ob q_t 11 [.long v_t_trace_114, .ref q_t_text, .int v_t_typed_114, .ref q_t_told, .ref q_t_draft, .ref q_t_s, .ref q_t_images, .ref q_t_kept, .ref q_t_heard, .ref q_t_hours, .int v_t_noted_114, .int v_t_at_114, .int v_t_sort_114, .int v_t_start_114, .int v_t_value_114, .ref q_t_row, .ref q_t_best, .int v_t_bestMany_114, .int v_t_bestWorth_114, .int v_t_bestHour_114, .ref q_t_places, .ref q_t_pairs], ia C q_t_text 180 r_t_text_114]) (W2 := [ob q_t 11 [.long v_t_trace_114, .ref q_t_text, .int v_t_typed_114, .ref q_t_told, .ref q_t_draft, .ref q_t_s, .ref q_t_images, .ref q_t_kept, .ref q_t_heard, .ref q_t_hours, .int v_t_noted_114, .int v_t_at_114, .int v_t_sort_114, .int v_t_start_114, .int v_t_value_114, .ref q_t_row, .ref q_t_best, .int v_t_bestMany_114, .int v_t_bestWorth_114, .int v_t_bestHour_114, .ref q_t_places, .ref q_t_pairs], ia C q_t_text 180 r_t_text_114]) (cS_run ⟨hx, hb, hml, hown, hts⟩ (k_X11_isLetter l D C o16 H.size o17 ho17) gX11_token_X11_isLetter rfl ⟨rfl, rfl⟩ hd_X11_isLetter ⟨(Nat.le_of_ble_eq_true rfl), (Nat.le_of_ble_eq_true rfl)⟩ rfl hK (cut_in hK hP hD [] rfl (by decide)) hl.1 rfl (Nat.le_of_ble_eq_true rfl) dX11_token_130 ⟨Nat.zero_le _, Nat.zero_le _⟩) hP hD hS hA [] [0, 1] [0, 1] rfl rfl (by decide) (by decide) rfl (by decide) (fun H locs hP hD hS => ?_)
        have hP : va_P D vwCl [ob q_t 11 [.long v_t_trace_114, .ref q_t_text, .int v_t_typed_114, .ref q_t_told, .ref q_t_draft, .ref q_t_s, .ref q_t_images, .ref q_t_kept, .ref q_t_heard, .ref q_t_hours, .int v_t_noted_114, .int v_t_at_114, .int v_t_sort_114, .int v_t_start_114, .int v_t_value_114, .ref q_t_row, .ref q_t_best, .int v_t_bestMany_114, .int v_t_bestWorth_114, .int v_t_bestHour_114, .ref q_t_places, .ref q_t_pairs], ia C q_t_text 180 r_t_text_114] H := hP
        have hD : va_D A [ob q_t 11 [.long v_t_trace_114, .ref q_t_text, .int v_t_typed_114, .ref q_t_told, .ref q_t_draft, .ref q_t_s, .ref q_t_images, .ref q_t_kept, .ref q_t_heard, .ref q_t_hours, .int v_t_noted_114, .int v_t_at_114, .int v_t_sort_114, .int v_t_start_114, .int v_t_value_114, .ref q_t_row, .ref q_t_best, .int v_t_bestMany_114, .int v_t_bestWorth_114, .int v_t_bestHour_114, .ref q_t_places, .ref q_t_pairs], ia C q_t_text 180 r_t_text_114] := hD
        refine lv_if_eq (tgt := 154) hx hb dX11_token_133 (by decide) (fun c18 => ?_) (fun c18 => ?_)
        · have hf := of_pos hf c18
          obtain rfl := Option.some.inj hf
          exact KX0 _ _ _ hP hD hS (lv_sub hl [0, 1] rfl)
        · have hf := of_neg hf c18
          refine lv_aload_n hx hb dX11_token_136 rfl (lv_at hl 1 rfl) ?_
          refine lv_iconst (v := (0 : Int32)) hx hb dX11_token_137 (by decide) ?_
          refine va_put (D := D) (ci := 11) (v := .int (0 : Int32)) (ty := .int) (C := RX11) (T := TX11) (N := 22) hx hb hts inX11 tyX11 tyX11_ok nmX11 hown hK hP hD hS 0 rfl rfl 14 (by decide) (hts (.fieldLink RX11 82 "LentCourageModel" "value" "I") (List.mem_of_getElem? (i := 4) rfl)) (fun _ h9 => h9) rfl (tyX11_ok 14 (by decide)) rfl rfl (Nat.le_of_ble_eq_true rfl) dX11_token_138 (fun H locs hP hD hS => ?_)
          have hP : va_P D vwCl [ob q_t 11 [.long v_t_trace_114, .ref q_t_text, .int v_t_typed_114, .ref q_t_told, .ref q_t_draft, .ref q_t_s, .ref q_t_images, .ref q_t_kept, .ref q_t_heard, .ref q_t_hours, .int v_t_noted_114, .int v_t_at_114, .int v_t_sort_114, .int v_t_start_114, .int (0 : Int32), .ref q_t_row, .ref q_t_best, .int v_t_bestMany_114, .int v_t_bestWorth_114, .int v_t_bestHour_114, .ref q_t_places, .ref q_t_pairs], ia C q_t_text 180 r_t_text_114] H := hP
          have hD : va_D A [ob q_t 11 [.long v_t_trace_114, .ref q_t_text, .int v_t_typed_114, .ref q_t_told, .ref q_t_draft, .ref q_t_s, .ref q_t_images, .ref q_t_kept, .ref q_t_heard, .ref q_t_hours, .int v_t_noted_114, .int v_t_at_114, .int v_t_sort_114, .int v_t_start_114, .int (0 : Int32), .ref q_t_row, .ref q_t_best, .int v_t_bestMany_114, .int v_t_bestWorth_114, .int v_t_bestHour_114, .ref q_t_places, .ref q_t_pairs], ia C q_t_text 180 r_t_text_114] := hD
          refine lv_aload_n hx hb dX11_token_141 rfl (lv_at hl 1 rfl) ?_
          refine lv_dup hx hb dX11_token_142 rfl ?_
          refine va_get (D := D) (ci := 11) (v := .int v_t_at_114) (C := RX11) (T := TX11) (N := 22) hx hb hts inX11 hown hK hP 0 rfl rfl 11 (by decide) (hts (.fieldLink RX11 62 "LentCourageModel" "at" "I") (List.mem_of_getElem? (i := 1) rfl)) (fun _ h9 => h9) rfl dX11_token_143 ?_
          refine lv_iconst (v := (1 : Int32)) hx hb dX11_token_146 (by decide) ?_
          refine lv_iadd hx hb dX11_token_147 ?_
          refine lv_topi (fun z19 ez19 => ?_)
          have hf := of_lt hf ez19
          refine va_put (D := D) (ci := 11) (v := .int z19) (ty := .int) (C := RX11) (T := TX11) (N := 22) hx hb hts inX11 tyX11 tyX11_ok nmX11 hown hK hP hD hS 0 rfl rfl 11 (by decide) (hts (.fieldLink RX11 62 "LentCourageModel" "at" "I") (List.mem_of_getElem? (i := 1) rfl)) (fun _ h9 => h9) rfl (tyX11_ok 11 (by decide)) rfl rfl (Nat.le_of_ble_eq_true rfl) dX11_token_148 (fun H locs hP hD hS => ?_)
          have hP : va_P D vwCl [ob q_t 11 [.long v_t_trace_114, .ref q_t_text, .int v_t_typed_114, .ref q_t_told, .ref q_t_draft, .ref q_t_s, .ref q_t_images, .ref q_t_kept, .ref q_t_heard, .ref q_t_hours, .int v_t_noted_114, .int z19, .int v_t_sort_114, .int v_t_start_114, .int (0 : Int32), .ref q_t_row, .ref q_t_best, .int v_t_bestMany_114, .int v_t_bestWorth_114, .int v_t_bestHour_114, .ref q_t_places, .ref q_t_pairs], ia C q_t_text 180 r_t_text_114] H := hP
          have hD : va_D A [ob q_t 11 [.long v_t_trace_114, .ref q_t_text, .int v_t_typed_114, .ref q_t_told, .ref q_t_draft, .ref q_t_s, .ref q_t_images, .ref q_t_kept, .ref q_t_heard, .ref q_t_hours, .int v_t_noted_114, .int z19, .int v_t_sort_114, .int v_t_start_114, .int (0 : Int32), .ref q_t_row, .ref q_t_best, .int v_t_bestMany_114, .int v_t_bestWorth_114, .int v_t_bestHour_114, .ref q_t_places, .ref q_t_pairs], ia C q_t_text 180 r_t_text_114] := hD
          refine lv_goto (tgt := 114) hx hb dX11_token_151 (by decide) ?_
          exact ih _ _ _ _ _ _ _ _ _ _ _ _ _ hf H locs ls hP hD hS (lv_sub hl [0, 1] rfl) KX0
  have LP170 : ∀ (Q : State → Prop) (n : Nat) (w1_170 : Int32) (v_t_trace_170 : Int64) (v_t_typed_170 : Int32) (v_t_noted_170 : Int32) (v_t_at_170 : Int32) (v_t_sort_170 : Int32) (v_t_start_170 : Int32) (v_t_value_170 : Int32) (v_t_bestMany_170 : Int32) (v_t_bestWorth_170 : Int32) (v_t_bestHour_170 : Int32) (r_t_text_170 : Nat → Int32) (y_170 : Int32 × Int32), fX11_token_170 w1_170 v_t_typed_170 r_t_text_170 n v_t_at_170 v_t_value_170 = some y_170 → ∀ (H : Heap) (locs : List Loc) (ls : Array Slot), va_P D vwCl [ob q_t 11 [.long v_t_trace_170, .ref q_t_text, .int v_t_typed_170, .ref q_t_told, .ref q_t_draft, .ref q_t_s, .ref q_t_images, .ref q_t_kept, .ref q_t_heard, .ref q_t_hours, .int v_t_noted_170, .int v_t_at_170, .int v_t_sort_170, .int v_t_start_170, .int v_t_value_170, .ref q_t_row, .ref q_t_best, .int v_t_bestMany_170, .int v_t_bestWorth_170, .int v_t_bestHour_170, .ref q_t_places, .ref q_t_pairs], ia C q_t_text 180 r_t_text_170] H → va_D A [ob q_t 11 [.long v_t_trace_170, .ref q_t_text, .int v_t_typed_170, .ref q_t_told, .ref q_t_draft, .ref q_t_s, .ref q_t_images, .ref q_t_kept, .ref q_t_heard, .ref q_t_hours, .int v_t_noted_170, .int v_t_at_170, .int v_t_sort_170, .int v_t_start_170, .int v_t_value_170, .ref q_t_row, .ref q_t_best, .int v_t_bestMany_170, .int v_t_bestWorth_170, .int v_t_bestHour_170, .ref q_t_places, .ref q_t_pairs], ia C q_t_text 180 r_t_text_170] → va_S A s.heap H locs → lv_has ls 2 [(1, .int w1_170), (0, .ref q_t)] → (∀ (H : Heap) (locs : List Loc) (ls : Array Slot), va_P D vwCl [ob q_t 11 [.long v_t_trace_170, .ref q_t_text, .int v_t_typed_170, .ref q_t_told, .ref q_t_draft, .ref q_t_s, .ref q_t_images, .ref q_t_kept, .ref q_t_heard, .ref q_t_hours, .int v_t_noted_170, .int y_170.1, .int v_t_sort_170, .int v_t_start_170, .int y_170.2, .ref q_t_row, .ref q_t_best, .int v_t_bestMany_170, .int v_t_bestWorth_170, .int v_t_bestHour_170, .ref q_t_places, .ref q_t_pairs], ia C q_t_text 180 r_t_text_170] H → va_D A [ob q_t 11 [.long v_t_trace_170, .ref q_t_text, .int v_t_typed_170, .ref q_t_told, .ref q_t_draft, .ref q_t_s, .ref q_t_images, .ref q_t_kept, .ref q_t_heard, .ref q_t_hours, .int v_t_noted_170, .int y_170.1, .int v_t_sort_170, .int v_t_start_170, .int y_170.2, .ref q_t_row, .ref q_t_best, .int v_t_bestMany_170, .int v_t_bestWorth_170, .int v_t_bestHour_170, .ref q_t_places, .ref q_t_pairs], ia C q_t_text 180 r_t_text_170] → va_S A s.heap H locs → lv_has ls 2 [(1, .int w1_170), (0, .ref q_t)] → W p l e ({ frames := 2, cells := 0, slots := 0, locals := 42 } : Room) s m ([.ref q_t] : List Value).toArray below meth c H locs 0 0 Q (F0 m 242 ls [])) → W p l e ({ frames := 2, cells := 0, slots := 0, locals := 42 } : Room) s m ([.ref q_t] : List Value).toArray below meth c H locs 0 0 Q (F0 m 170 ls []) := by
    intro Q n
    induction n with
    | zero =>
      intro w1_170 v_t_trace_170 v_t_typed_170 v_t_noted_170 v_t_at_170 v_t_sort_170 v_t_start_170 v_t_value_170 v_t_bestMany_170 v_t_bestWorth_170 v_t_bestHour_170 r_t_text_170 y_170 hf
      rw [fX11_token_170] at hf
      cases hf
    | succ n ih =>
      intro w1_170 v_t_trace_170 v_t_typed_170 v_t_noted_170 v_t_at_170 v_t_sort_170 v_t_start_170 v_t_value_170 v_t_bestMany_170 v_t_bestWorth_170 v_t_bestHour_170 r_t_text_170 y_170 hf H locs ls hP hD hS hl KX0
      rw [fX11_token_170] at hf
      refine lv_aload_n hx hb dX11_token_170 rfl (lv_at hl 1 rfl) ?_
      refine lv_aload_n hx hb dX11_token_171 rfl (lv_at hl 1 rfl) ?_
      refine va_get (D := D) (ci := 11) (v := .int v_t_at_170) (C := RX11) (T := TX11) (N := 22) hx hb hts inX11 hown hK hP 0 rfl rfl 11 (by decide) (hts (.fieldLink RX11 62 "LentCourageModel" "at" "I") (List.mem_of_getElem? (i := 1) rfl)) (fun _ h9 => h9) rfl dX11_token_172 ?_
      obtain ⟨o23, ho23, hf⟩ := of_bind hf
      refine c_I (wr := []) (W2 := [ob q_t 11 [.long v_t_trace_170, .ref q_t_text, .int v_t_typed_170, .ref q_t_told, .ref q_t_draft, .ref q_t_s, .ref q_t_images, .ref q_t_kept, .ref q_t_heard, .ref q_t_hours, .int v_t_noted_170, .int v_t_at_170, .int v_t_sort_170, .int v_t_start_170, .int v_t_value_170, .ref q_t_row, .ref q_t_best, .int v_t_bestMany_170, .int v_t_bestWorth_170, .int v_t_bestHour_170, .ref q_t_places, .ref q_t_pairs], ia C q_t_text 180 r_t_text_170]) (cV_run ⟨hx, hb, hml, hown, hts⟩ (k_X11_letterAt l D C q_t q_t_text q_t_told q_t_draft q_t_s q_t_images q_t_kept q_t_heard q_t_hours q_t_row q_t_best q_t_places q_t_pairs v_t_trace_170 v_t_typed_170 v_t_noted_170 v_t_at_170 v_t_sort_170 v_t_start_170 v_t_value_170 v_t_bestMany_170 v_t_bestWorth_170 v_t_bestHour_170 r_t_text_170 v_t_at_170 H.size o23 ho23) gX11_token_X11_letterAt rfl ⟨rfl, rfl⟩ hd_X11_letterAt ⟨(Nat.le_of_ble_eq_true rfl), (Nat.le_of_ble_eq_true rfl)⟩ rfl hK (cut_in hK hP hD [0, 1] rfl (by decide)) (ci := 11) rfl rfl rfl hl.1 rfl (Nat.le_of_ble_eq_true rfl) dX11_token_175 ⟨Nat.zero_le _, Nat.zero_le _⟩) hP hD hS hA [0, 1] [] [0, 1] rfl rfl (by decide) (by decide) rfl (by decide) (fun H locs hP hD hS => ?_)
      have hP : va_P D vwCl [ob q_t 11 [.long v_t_trace_170, .ref q_t_text, .int v_t_typed_170, .ref q_t_told, .ref q_t_draft, .ref q_t_s, .ref q_t_images, .ref q_t_kept, .ref q_t_heard, .ref q_t_hours, .int v_t_noted_170, .int v_t_at_170, .int v_t_sort_170, .int v_t_start_170, .int v_t_value_170, .ref q_t_row, .ref q_t_best, .int v_t_bestMany_170, .int v_t_bestWorth_170, .int v_t_bestHour_170, .ref q_t_places, .ref q_t_pairs], ia C q_t_text 180 r_t_text_170] H := hP
      have hD : va_D A [ob q_t 11 [.long v_t_trace_170, .ref q_t_text, .int v_t_typed_170, .ref q_t_told, .ref q_t_draft, .ref q_t_s, .ref q_t_images, .ref q_t_kept, .ref q_t_heard, .ref q_t_hours, .int v_t_noted_170, .int v_t_at_170, .int v_t_sort_170, .int v_t_start_170, .int v_t_value_170, .ref q_t_row, .ref q_t_best, .int v_t_bestMany_170, .int v_t_bestWorth_170, .int v_t_bestHour_170, .ref q_t_places, .ref q_t_pairs], ia C q_t_text 180 r_t_text_170] := hD
      obtain ⟨o24, ho24, hf⟩ := of_bind hf
      refine c_I (wr := [ob q_t 11 [.long v_t_trace_170, .ref q_t_text, .int v_t_typed_170, .ref q_t_told, .ref q_t_draft, .ref q_t_s, .ref q_t_images, .ref q_t_kept, .ref q_t_heard, .ref q_t_hours, .int v_t_noted_170, .int v_t_at_170, .int v_t_sort_170, .int v_t_start_170, .int v_t_value_170, .ref q_t_row, .ref q_t_best, .int v_t_bestMany_170, .int v_t_bestWorth_170, .int v_t_bestHour_170, .ref q_t_places, .ref q_t_pairs], ia C q_t_text 180 r_t_text_170]) (W2 := [ob q_t 11 [.long v_t_trace_170, .ref q_t_text, .int v_t_typed_170, .ref q_t_told, .ref q_t_draft, .ref q_t_s, .ref q_t_images, .ref q_t_kept, .ref q_t_heard, .ref q_t_hours, .int v_t_noted_170, .int v_t_at_170, .int v_t_sort_170, .int v_t_start_170, .int v_t_value_170, .ref q_t_row, .ref q_t_best, .int v_t_bestMany_170, .int v_t_bestWorth_170, .int v_t_bestHour_170, .ref q_t_places, .ref q_t_pairs], ia C q_t_text 180 r_t_text_170]) (cS_run ⟨hx, hb, hml, hown, hts⟩ (k_X11_isDigit l D C o23 H.size o24 ho24) gX11_token_X11_isDigit rfl ⟨rfl, rfl⟩ hd_X11_isDigit ⟨(Nat.le_of_ble_eq_true rfl), (Nat.le_of_ble_eq_true rfl)⟩ rfl hK (cut_in hK hP hD [] rfl (by decide)) hl.1 rfl (Nat.le_of_ble_eq_true rfl) dX11_token_178 ⟨Nat.zero_le _, Nat.zero_le _⟩) hP hD hS hA [] [0, 1] [0, 1] rfl rfl (by decide) (by decide) rfl (by decide) (fun H locs hP hD hS => ?_)
      have hP : va_P D vwCl [ob q_t 11 [.long v_t_trace_170, .ref q_t_text, .int v_t_typed_170, .ref q_t_told, .ref q_t_draft, .ref q_t_s, .ref q_t_images, .ref q_t_kept, .ref q_t_heard, .ref q_t_hours, .int v_t_noted_170, .int v_t_at_170, .int v_t_sort_170, .int v_t_start_170, .int v_t_value_170, .ref q_t_row, .ref q_t_best, .int v_t_bestMany_170, .int v_t_bestWorth_170, .int v_t_bestHour_170, .ref q_t_places, .ref q_t_pairs], ia C q_t_text 180 r_t_text_170] H := hP
      have hD : va_D A [ob q_t 11 [.long v_t_trace_170, .ref q_t_text, .int v_t_typed_170, .ref q_t_told, .ref q_t_draft, .ref q_t_s, .ref q_t_images, .ref q_t_kept, .ref q_t_heard, .ref q_t_hours, .int v_t_noted_170, .int v_t_at_170, .int v_t_sort_170, .int v_t_start_170, .int v_t_value_170, .ref q_t_row, .ref q_t_best, .int v_t_bestMany_170, .int v_t_bestWorth_170, .int v_t_bestHour_170, .ref q_t_places, .ref q_t_pairs], ia C q_t_text 180 r_t_text_170] := hD
      refine lv_if_eq (tgt := 242) hx hb dX11_token_181 (by decide) (fun c25 => ?_) (fun c25 => ?_)
      · have hf := of_pos hf c25
        obtain rfl := Option.some.inj hf
        exact KX0 _ _ _ hP hD hS (lv_sub hl [0, 1] rfl)
      · have hf := of_neg hf c25
        refine lv_aload_n hx hb dX11_token_184 rfl (lv_at hl 1 rfl) ?_
        refine lv_iload_n hx hb dX11_token_185 rfl (lv_at hl 0 rfl) ?_
        refine lv_bipush (v := (48 : Int32)) hx hb dX11_token_186 (by decide) ?_
        obtain ⟨j26, hrj26, hf⟩ := of_bind hf
        refine jn (fun H L g => ∃ ls, g = F0 m 226 ls [.int j26, .ref q_t] ∧ va_P D vwCl [ob q_t 11 [.long v_t_trace_170, .ref q_t_text, .int v_t_typed_170, .ref q_t_told, .ref q_t_draft, .ref q_t_s, .ref q_t_images, .ref q_t_kept, .ref q_t_heard, .ref q_t_hours, .int v_t_noted_170, .int v_t_at_170, .int v_t_sort_170, .int v_t_start_170, .int v_t_value_170, .ref q_t_row, .ref q_t_best, .int v_t_bestMany_170, .int v_t_bestWorth_170, .int v_t_bestHour_170, .ref q_t_places, .ref q_t_pairs], ia C q_t_text 180 r_t_text_170] H ∧ va_D A [ob q_t 11 [.long v_t_trace_170, .ref q_t_text, .int v_t_typed_170, .ref q_t_told, .ref q_t_draft, .ref q_t_s, .ref q_t_images, .ref q_t_kept, .ref q_t_heard, .ref q_t_hours, .int v_t_noted_170, .int v_t_at_170, .int v_t_sort_170, .int v_t_start_170, .int v_t_value_170, .ref q_t_row, .ref q_t_best, .int v_t_bestMany_170, .int v_t_bestWorth_170, .int v_t_bestHour_170, .ref q_t_places, .ref q_t_pairs], ia C q_t_text 180 r_t_text_170] ∧ va_S A s.heap H L ∧ lv_has ls 2 [(1, .int w1_170), (0, .ref q_t)]) (fun H locs g hI => ?_) (fun Jj26 => ?_)
        · obtain ⟨ls, rfl, hP, hD, hS, hl⟩ := hI
          refine va_put (D := D) (ci := 11) (v := .int j26) (ty := .int) (C := RX11) (T := TX11) (N := 22) hx hb hts inX11 tyX11 tyX11_ok nmX11 hown hK hP hD hS 0 rfl rfl 14 (by decide) (hts (.fieldLink RX11 82 "LentCourageModel" "value" "I") (List.mem_of_getElem? (i := 4) rfl)) (fun _ h9 => h9) rfl (tyX11_ok 14 (by decide)) rfl rfl (Nat.le_of_ble_eq_true rfl) dX11_token_226 (fun H locs hP hD hS => ?_)
          have hP : va_P D vwCl [ob q_t 11 [.long v_t_trace_170, .ref q_t_text, .int v_t_typed_170, .ref q_t_told, .ref q_t_draft, .ref q_t_s, .ref q_t_images, .ref q_t_kept, .ref q_t_heard, .ref q_t_hours, .int v_t_noted_170, .int v_t_at_170, .int v_t_sort_170, .int v_t_start_170, .int j26, .ref q_t_row, .ref q_t_best, .int v_t_bestMany_170, .int v_t_bestWorth_170, .int v_t_bestHour_170, .ref q_t_places, .ref q_t_pairs], ia C q_t_text 180 r_t_text_170] H := hP
          have hD : va_D A [ob q_t 11 [.long v_t_trace_170, .ref q_t_text, .int v_t_typed_170, .ref q_t_told, .ref q_t_draft, .ref q_t_s, .ref q_t_images, .ref q_t_kept, .ref q_t_heard, .ref q_t_hours, .int v_t_noted_170, .int v_t_at_170, .int v_t_sort_170, .int v_t_start_170, .int j26, .ref q_t_row, .ref q_t_best, .int v_t_bestMany_170, .int v_t_bestWorth_170, .int v_t_bestHour_170, .ref q_t_places, .ref q_t_pairs], ia C q_t_text 180 r_t_text_170] := hD
          refine lv_aload_n hx hb dX11_token_229 rfl (lv_at hl 1 rfl) ?_
          refine lv_dup hx hb dX11_token_230 rfl ?_
          refine va_get (D := D) (ci := 11) (v := .int v_t_at_170) (C := RX11) (T := TX11) (N := 22) hx hb hts inX11 hown hK hP 0 rfl rfl 11 (by decide) (hts (.fieldLink RX11 62 "LentCourageModel" "at" "I") (List.mem_of_getElem? (i := 1) rfl)) (fun _ h9 => h9) rfl dX11_token_231 ?_
          refine lv_iconst (v := (1 : Int32)) hx hb dX11_token_234 (by decide) ?_
          refine lv_iadd hx hb dX11_token_235 ?_
          refine lv_topi (fun z30 ez30 => ?_)
          have hf := of_lt hf ez30
          refine va_put (D := D) (ci := 11) (v := .int z30) (ty := .int) (C := RX11) (T := TX11) (N := 22) hx hb hts inX11 tyX11 tyX11_ok nmX11 hown hK hP hD hS 0 rfl rfl 11 (by decide) (hts (.fieldLink RX11 62 "LentCourageModel" "at" "I") (List.mem_of_getElem? (i := 1) rfl)) (fun _ h9 => h9) rfl (tyX11_ok 11 (by decide)) rfl rfl (Nat.le_of_ble_eq_true rfl) dX11_token_236 (fun H locs hP hD hS => ?_)
          have hP : va_P D vwCl [ob q_t 11 [.long v_t_trace_170, .ref q_t_text, .int v_t_typed_170, .ref q_t_told, .ref q_t_draft, .ref q_t_s, .ref q_t_images, .ref q_t_kept, .ref q_t_heard, .ref q_t_hours, .int v_t_noted_170, .int z30, .int v_t_sort_170, .int v_t_start_170, .int j26, .ref q_t_row, .ref q_t_best, .int v_t_bestMany_170, .int v_t_bestWorth_170, .int v_t_bestHour_170, .ref q_t_places, .ref q_t_pairs], ia C q_t_text 180 r_t_text_170] H := hP
          have hD : va_D A [ob q_t 11 [.long v_t_trace_170, .ref q_t_text, .int v_t_typed_170, .ref q_t_told, .ref q_t_draft, .ref q_t_s, .ref q_t_images, .ref q_t_kept, .ref q_t_heard, .ref q_t_hours, .int v_t_noted_170, .int z30, .int v_t_sort_170, .int v_t_start_170, .int j26, .ref q_t_row, .ref q_t_best, .int v_t_bestMany_170, .int v_t_bestWorth_170, .int v_t_bestHour_170, .ref q_t_places, .ref q_t_pairs], ia C q_t_text 180 r_t_text_170] := hD
          refine lv_goto (tgt := 170) hx hb dX11_token_239 (by decide) ?_
          exact ih _ _ _ _ _ _ _ _ _ _ _ _ _ hf H locs ls hP hD hS (lv_sub hl [0, 1] rfl) KX0
        · have hf := hrj26
          refine lv_icmp_eq (tgt := 200) hx hb dX11_token_188 (by decide) (fun c27 => ?_) (fun c27 => ?_)
          · have hf := of_pos hf c27
            refine lv_sipush (v := (1000 : Int32)) hx hb dX11_token_200 (by decide) ?_
            refine lv_goto (tgt := 226) hx hb dX11_token_203 (by decide) ?_
            obtain rfl := Option.some.inj hf
            exact Jj26 _ _ _ ⟨_, rfl, hP, hD, hS, lv_sub hl [0, 1] rfl⟩
          · have hf := of_neg hf c27
            refine lv_aload_n hx hb dX11_token_191 rfl (lv_at hl 1 rfl) ?_
            refine va_get (D := D) (ci := 11) (v := .int v_t_value_170) (C := RX11) (T := TX11) (N := 22) hx hb hts inX11 hown hK hP 0 rfl rfl 14 (by decide) (hts (.fieldLink RX11 82 "LentCourageModel" "value" "I") (List.mem_of_getElem? (i := 4) rfl)) (fun _ h9 => h9) rfl dX11_token_192 ?_
            refine lv_bipush (v := (99 : Int32)) hx hb dX11_token_195 (by decide) ?_
            refine lv_icmp_le (tgt := 206) hx hb dX11_token_197 (by decide) (fun c28 => ?_) (fun c28 => ?_)
            · have hf := of_pos hf c28
              refine lv_bipush (v := (10 : Int32)) hx hb dX11_token_206 (by decide) ?_
              refine lv_aload_n hx hb dX11_token_208 rfl (lv_at hl 1 rfl) ?_
              refine va_get (D := D) (ci := 11) (v := .int v_t_value_170) (C := RX11) (T := TX11) (N := 22) hx hb hts inX11 hown hK hP 0 rfl rfl 14 (by decide) (hts (.fieldLink RX11 82 "LentCourageModel" "value" "I") (List.mem_of_getElem? (i := 4) rfl)) (fun _ h9 => h9) rfl dX11_token_209 ?_
              refine lv_imul hx hb dX11_token_212 ?_
              refine lv_aload_n hx hb dX11_token_213 rfl (lv_at hl 1 rfl) ?_
              refine va_get (D := D) (ci := 11) (v := .ref q_t_text) (C := RX11) (T := TX11) (N := 22) hx hb hts inX11 hown hK hP 0 rfl rfl 1 (by decide) (hts (.fieldLink RX11 7 "LentCourageModel" "text" "[I") (List.mem_of_getElem? (i := 5) rfl)) (fun _ h9 => h9) rfl dX11_token_214 ?_
              refine lv_aload_n hx hb dX11_token_217 rfl (lv_at hl 1 rfl) ?_
              refine va_get (D := D) (ci := 11) (v := .int v_t_at_170) (C := RX11) (T := TX11) (N := 22) hx hb hts inX11 hown hK hP 0 rfl rfl 11 (by decide) (hts (.fieldLink RX11 62 "LentCourageModel" "at" "I") (List.mem_of_getElem? (i := 1) rfl)) (fun _ h9 => h9) rfl dX11_token_218 ?_
              obtain ⟨h29, hf⟩ := of_chk hf
              refine va_iald hx hb hK hP 1 0 rfl rfl h29 dX11_token_221 ?_
              refine lv_iadd hx hb dX11_token_222 ?_
              refine lv_bipush (v := (48 : Int32)) hx hb dX11_token_223 (by decide) ?_
              refine lv_isub hx hb dX11_token_225 ?_
              obtain rfl := Option.some.inj hf
              exact Jj26 _ _ _ ⟨_, rfl, hP, hD, hS, lv_sub hl [0, 1] rfl⟩
            · have hf := of_neg hf c28
              refine lv_sipush (v := (1000 : Int32)) hx hb dX11_token_200 (by decide) ?_
              refine lv_goto (tgt := 226) hx hb dX11_token_203 (by decide) ?_
              obtain rfl := Option.some.inj hf
              exact Jj26 _ _ _ ⟨_, rfl, hP, hD, hS, lv_sub hl [0, 1] rfl⟩
  obtain ⟨y4, hy4, hf⟩ := of_bind hf
  refine LP0 _ FU _ _ _ _ _ _ _ _ _ _ _ y4 hy4 H locs ls hP hD hS (lv_sub hl [0] rfl) (fun H locs ls hP hD hS hl => ?_)
  refine lv_aload_n hx hb dX11_token_26 rfl (lv_at hl 0 rfl) ?_
  refine lv_aload_n hx hb dX11_token_27 rfl (lv_at hl 0 rfl) ?_
  refine va_get (D := D) (ci := 11) (v := .int y4) (C := RX11) (T := TX11) (N := 22) hx hb hts inX11 hown hK hP 0 rfl rfl 11 (by decide) (hts (.fieldLink RX11 62 "LentCourageModel" "at" "I") (List.mem_of_getElem? (i := 1) rfl)) (fun _ h9 => h9) rfl dX11_token_28 ?_
  refine va_put (D := D) (ci := 11) (v := .int y4) (ty := .int) (C := RX11) (T := TX11) (N := 22) hx hb hts inX11 tyX11 tyX11_ok nmX11 hown hK hP hD hS 0 rfl rfl 13 (by decide) (hts (.fieldLink RX11 69 "LentCourageModel" "start" "I") (List.mem_of_getElem? (i := 2) rfl)) (fun _ h9 => h9) rfl (tyX11_ok 13 (by decide)) rfl rfl (Nat.le_of_ble_eq_true rfl) dX11_token_31 (fun H locs hP hD hS => ?_)
  have hP : va_P D vwCl [ob q_t 11 [.long v_t_trace, .ref q_t_text, .int v_t_typed, .ref q_t_told, .ref q_t_draft, .ref q_t_s, .ref q_t_images, .ref q_t_kept, .ref q_t_heard, .ref q_t_hours, .int v_t_noted, .int y4, .int v_t_sort, .int y4, .int v_t_value, .ref q_t_row, .ref q_t_best, .int v_t_bestMany, .int v_t_bestWorth, .int v_t_bestHour, .ref q_t_places, .ref q_t_pairs], ia C q_t_text 180 r_t_text] H := hP
  have hD : va_D A [ob q_t 11 [.long v_t_trace, .ref q_t_text, .int v_t_typed, .ref q_t_told, .ref q_t_draft, .ref q_t_s, .ref q_t_images, .ref q_t_kept, .ref q_t_heard, .ref q_t_hours, .int v_t_noted, .int y4, .int v_t_sort, .int y4, .int v_t_value, .ref q_t_row, .ref q_t_best, .int v_t_bestMany, .int v_t_bestWorth, .int v_t_bestHour, .ref q_t_places, .ref q_t_pairs], ia C q_t_text 180 r_t_text] := hD
  refine lv_aload_n hx hb dX11_token_34 rfl (lv_at hl 0 rfl) ?_
  refine lv_aload_n hx hb dX11_token_35 rfl (lv_at hl 0 rfl) ?_
  refine va_get (D := D) (ci := 11) (v := .int y4) (C := RX11) (T := TX11) (N := 22) hx hb hts inX11 hown hK hP 0 rfl rfl 11 (by decide) (hts (.fieldLink RX11 62 "LentCourageModel" "at" "I") (List.mem_of_getElem? (i := 1) rfl)) (fun _ h9 => h9) rfl dX11_token_36 ?_
  obtain ⟨o5, ho5, hf⟩ := of_bind hf
  refine c_I (wr := []) (W2 := [ob q_t 11 [.long v_t_trace, .ref q_t_text, .int v_t_typed, .ref q_t_told, .ref q_t_draft, .ref q_t_s, .ref q_t_images, .ref q_t_kept, .ref q_t_heard, .ref q_t_hours, .int v_t_noted, .int y4, .int v_t_sort, .int y4, .int v_t_value, .ref q_t_row, .ref q_t_best, .int v_t_bestMany, .int v_t_bestWorth, .int v_t_bestHour, .ref q_t_places, .ref q_t_pairs], ia C q_t_text 180 r_t_text]) (cV_run ⟨hx, hb, hml, hown, hts⟩ (k_X11_letterAt l D C q_t q_t_text q_t_told q_t_draft q_t_s q_t_images q_t_kept q_t_heard q_t_hours q_t_row q_t_best q_t_places q_t_pairs v_t_trace v_t_typed v_t_noted y4 v_t_sort y4 v_t_value v_t_bestMany v_t_bestWorth v_t_bestHour r_t_text y4 H.size o5 ho5) gX11_token_X11_letterAt rfl ⟨rfl, rfl⟩ hd_X11_letterAt ⟨(Nat.le_of_ble_eq_true rfl), (Nat.le_of_ble_eq_true rfl)⟩ rfl hK (cut_in hK hP hD [0, 1] rfl (by decide)) (ci := 11) rfl rfl rfl hl.1 rfl (Nat.le_of_ble_eq_true rfl) dX11_token_39 ⟨Nat.zero_le _, Nat.zero_le _⟩) hP hD hS hA [0, 1] [] [0, 1] rfl rfl (by decide) (by decide) rfl (by decide) (fun H locs hP hD hS => ?_)
  have hP : va_P D vwCl [ob q_t 11 [.long v_t_trace, .ref q_t_text, .int v_t_typed, .ref q_t_told, .ref q_t_draft, .ref q_t_s, .ref q_t_images, .ref q_t_kept, .ref q_t_heard, .ref q_t_hours, .int v_t_noted, .int y4, .int v_t_sort, .int y4, .int v_t_value, .ref q_t_row, .ref q_t_best, .int v_t_bestMany, .int v_t_bestWorth, .int v_t_bestHour, .ref q_t_places, .ref q_t_pairs], ia C q_t_text 180 r_t_text] H := hP
  have hD : va_D A [ob q_t 11 [.long v_t_trace, .ref q_t_text, .int v_t_typed, .ref q_t_told, .ref q_t_draft, .ref q_t_s, .ref q_t_images, .ref q_t_kept, .ref q_t_heard, .ref q_t_hours, .int v_t_noted, .int y4, .int v_t_sort, .int y4, .int v_t_value, .ref q_t_row, .ref q_t_best, .int v_t_bestMany, .int v_t_bestWorth, .int v_t_bestHour, .ref q_t_places, .ref q_t_pairs], ia C q_t_text 180 r_t_text] := hD
  refine lv_istore_n (lv' := [(1, .int o5), (0, .ref q_t)]) hx hb dX11_token_42 rfl hl (by decide) rfl (fun ls hl => ?_)
  refine lv_aload_n hx hb dX11_token_43 rfl (lv_at hl 1 rfl) ?_
  refine lv_iload_n hx hb dX11_token_44 rfl (lv_at hl 0 rfl) ?_
  obtain ⟨j6, hrj6, hf⟩ := of_bind hf
  refine jn (fun H L g => ∃ ls, g = F0 m 85 ls [.int j6, .ref q_t] ∧ va_P D vwCl [ob q_t 11 [.long v_t_trace, .ref q_t_text, .int v_t_typed, .ref q_t_told, .ref q_t_draft, .ref q_t_s, .ref q_t_images, .ref q_t_kept, .ref q_t_heard, .ref q_t_hours, .int v_t_noted, .int y4, .int v_t_sort, .int y4, .int v_t_value, .ref q_t_row, .ref q_t_best, .int v_t_bestMany, .int v_t_bestWorth, .int v_t_bestHour, .ref q_t_places, .ref q_t_pairs], ia C q_t_text 180 r_t_text] H ∧ va_D A [ob q_t 11 [.long v_t_trace, .ref q_t_text, .int v_t_typed, .ref q_t_told, .ref q_t_draft, .ref q_t_s, .ref q_t_images, .ref q_t_kept, .ref q_t_heard, .ref q_t_hours, .int v_t_noted, .int y4, .int v_t_sort, .int y4, .int v_t_value, .ref q_t_row, .ref q_t_best, .int v_t_bestMany, .int v_t_bestWorth, .int v_t_bestHour, .ref q_t_places, .ref q_t_pairs], ia C q_t_text 180 r_t_text] ∧ va_S A s.heap H L ∧ lv_has ls 2 [(1, .int o5), (0, .ref q_t)]) (fun H locs g hI => ?_) (fun Jj6 => ?_)
  · obtain ⟨ls, rfl, hP, hD, hS, hl⟩ := hI
    refine va_put (D := D) (ci := 11) (v := .int j6) (ty := .int) (C := RX11) (T := TX11) (N := 22) hx hb hts inX11 tyX11 tyX11_ok nmX11 hown hK hP hD hS 0 rfl rfl 12 (by decide) (hts (.fieldLink RX11 79 "LentCourageModel" "sort" "I") (List.mem_of_getElem? (i := 3) rfl)) (fun _ h9 => h9) rfl (tyX11_ok 12 (by decide)) rfl rfl (Nat.le_of_ble_eq_true rfl) dX11_token_85 (fun H locs hP hD hS => ?_)
    have hP : va_P D vwCl [ob q_t 11 [.long v_t_trace, .ref q_t_text, .int v_t_typed, .ref q_t_told, .ref q_t_draft, .ref q_t_s, .ref q_t_images, .ref q_t_kept, .ref q_t_heard, .ref q_t_hours, .int v_t_noted, .int y4, .int j6, .int y4, .int v_t_value, .ref q_t_row, .ref q_t_best, .int v_t_bestMany, .int v_t_bestWorth, .int v_t_bestHour, .ref q_t_places, .ref q_t_pairs], ia C q_t_text 180 r_t_text] H := hP
    have hD : va_D A [ob q_t 11 [.long v_t_trace, .ref q_t_text, .int v_t_typed, .ref q_t_told, .ref q_t_draft, .ref q_t_s, .ref q_t_images, .ref q_t_kept, .ref q_t_heard, .ref q_t_hours, .int v_t_noted, .int y4, .int j6, .int y4, .int v_t_value, .ref q_t_row, .ref q_t_best, .int v_t_bestMany, .int v_t_bestWorth, .int v_t_bestHour, .ref q_t_places, .ref q_t_pairs], ia C q_t_text 180 r_t_text] := hD
    refine lv_aload_n hx hb dX11_token_88 rfl (lv_at hl 1 rfl) ?_
    refine lv_iload_n hx hb dX11_token_89 rfl (lv_at hl 0 rfl) ?_
    refine va_put (D := D) (ci := 11) (v := .int o5) (ty := .int) (C := RX11) (T := TX11) (N := 22) hx hb hts inX11 tyX11 tyX11_ok nmX11 hown hK hP hD hS 0 rfl rfl 14 (by decide) (hts (.fieldLink RX11 82 "LentCourageModel" "value" "I") (List.mem_of_getElem? (i := 4) rfl)) (fun _ h9 => h9) rfl (tyX11_ok 14 (by decide)) rfl rfl (Nat.le_of_ble_eq_true rfl) dX11_token_90 (fun H locs hP hD hS => ?_)
    have hP : va_P D vwCl [ob q_t 11 [.long v_t_trace, .ref q_t_text, .int v_t_typed, .ref q_t_told, .ref q_t_draft, .ref q_t_s, .ref q_t_images, .ref q_t_kept, .ref q_t_heard, .ref q_t_hours, .int v_t_noted, .int y4, .int j6, .int y4, .int o5, .ref q_t_row, .ref q_t_best, .int v_t_bestMany, .int v_t_bestWorth, .int v_t_bestHour, .ref q_t_places, .ref q_t_pairs], ia C q_t_text 180 r_t_text] H := hP
    have hD : va_D A [ob q_t 11 [.long v_t_trace, .ref q_t_text, .int v_t_typed, .ref q_t_told, .ref q_t_draft, .ref q_t_s, .ref q_t_images, .ref q_t_kept, .ref q_t_heard, .ref q_t_hours, .int v_t_noted, .int y4, .int j6, .int y4, .int o5, .ref q_t_row, .ref q_t_best, .int v_t_bestMany, .int v_t_bestWorth, .int v_t_bestHour, .ref q_t_places, .ref q_t_pairs], ia C q_t_text 180 r_t_text] := hD
    refine lv_aload_n hx hb dX11_token_93 rfl (lv_at hl 1 rfl) ?_
    refine lv_dup hx hb dX11_token_94 rfl ?_
    refine va_get (D := D) (ci := 11) (v := .int y4) (C := RX11) (T := TX11) (N := 22) hx hb hts inX11 hown hK hP 0 rfl rfl 11 (by decide) (hts (.fieldLink RX11 62 "LentCourageModel" "at" "I") (List.mem_of_getElem? (i := 1) rfl)) (fun _ h9 => h9) rfl dX11_token_95 ?_
    refine lv_aload_n hx hb dX11_token_98 rfl (lv_at hl 1 rfl) ?_
    refine va_get (D := D) (ci := 11) (v := .int j6) (C := RX11) (T := TX11) (N := 22) hx hb hts inX11 hown hK hP 0 rfl rfl 12 (by decide) (hts (.fieldLink RX11 79 "LentCourageModel" "sort" "I") (List.mem_of_getElem? (i := 3) rfl)) (fun _ h9 => h9) rfl dX11_token_99 ?_
    refine jp (g2 := F0 m 110 ls [.int (if j6 = 0 then (0 : Int32) else (1 : Int32)), .int y4, .ref q_t]) ?_ (fun JP => ?_)
    · refine lv_iadd hx hb dX11_token_110 ?_
      refine lv_topi (fun z14 ez14 => ?_)
      have hf := of_lt hf ez14
      refine va_put (D := D) (ci := 11) (v := .int z14) (ty := .int) (C := RX11) (T := TX11) (N := 22) hx hb hts inX11 tyX11 tyX11_ok nmX11 hown hK hP hD hS 0 rfl rfl 11 (by decide) (hts (.fieldLink RX11 62 "LentCourageModel" "at" "I") (List.mem_of_getElem? (i := 1) rfl)) (fun _ h9 => h9) rfl (tyX11_ok 11 (by decide)) rfl rfl (Nat.le_of_ble_eq_true rfl) dX11_token_111 (fun H locs hP hD hS => ?_)
      have hP : va_P D vwCl [ob q_t 11 [.long v_t_trace, .ref q_t_text, .int v_t_typed, .ref q_t_told, .ref q_t_draft, .ref q_t_s, .ref q_t_images, .ref q_t_kept, .ref q_t_heard, .ref q_t_hours, .int v_t_noted, .int z14, .int j6, .int y4, .int o5, .ref q_t_row, .ref q_t_best, .int v_t_bestMany, .int v_t_bestWorth, .int v_t_bestHour, .ref q_t_places, .ref q_t_pairs], ia C q_t_text 180 r_t_text] H := hP
      have hD : va_D A [ob q_t 11 [.long v_t_trace, .ref q_t_text, .int v_t_typed, .ref q_t_told, .ref q_t_draft, .ref q_t_s, .ref q_t_images, .ref q_t_kept, .ref q_t_heard, .ref q_t_hours, .int v_t_noted, .int z14, .int j6, .int y4, .int o5, .ref q_t_row, .ref q_t_best, .int v_t_bestMany, .int v_t_bestWorth, .int v_t_bestHour, .ref q_t_places, .ref q_t_pairs], ia C q_t_text 180 r_t_text] := hD
      obtain ⟨y20, hy20, hf⟩ := of_bind hf
      refine LP114 _ FU _ _ _ _ _ _ _ _ _ _ _ _ y20 hy20 H locs ls hP hD hS (lv_sub hl [0, 1] rfl) (fun H locs ls hP hD hS hl => ?_)
      refine lv_aload_n hx hb dX11_token_154 rfl (lv_at hl 1 rfl) ?_
      refine va_get (D := D) (ci := 11) (v := .int j6) (C := RX11) (T := TX11) (N := 22) hx hb hts inX11 hown hK hP 0 rfl rfl 12 (by decide) (hts (.fieldLink RX11 79 "LentCourageModel" "sort" "I") (List.mem_of_getElem? (i := 3) rfl)) (fun _ h9 => h9) rfl dX11_token_155 ?_
      refine lv_iconst (v := (2 : Int32)) hx hb dX11_token_158 (by decide) ?_
      refine lv_icmp_ne (tgt := 242) hx hb dX11_token_159 (by decide) (fun c21 => ?_) (fun c21 => ?_)
      · have hf := of_neg hf c21
        obtain rfl := Option.some.inj hf
        exact ret_V hx hb hr hlocks hK hP hD hS dX11_token_242
      · have hf := of_pos hf c21
        refine lv_aload_n hx hb dX11_token_162 rfl (lv_at hl 1 rfl) ?_
        refine lv_iload_n hx hb dX11_token_163 rfl (lv_at hl 0 rfl) ?_
        refine lv_bipush (v := (48 : Int32)) hx hb dX11_token_164 (by decide) ?_
        refine lv_isub hx hb dX11_token_166 ?_
        refine lv_topi (fun z22 ez22 => ?_)
        have hf := of_lt hf ez22
        refine va_put (D := D) (ci := 11) (v := .int z22) (ty := .int) (C := RX11) (T := TX11) (N := 22) hx hb hts inX11 tyX11 tyX11_ok nmX11 hown hK hP hD hS 0 rfl rfl 14 (by decide) (hts (.fieldLink RX11 82 "LentCourageModel" "value" "I") (List.mem_of_getElem? (i := 4) rfl)) (fun _ h9 => h9) rfl (tyX11_ok 14 (by decide)) rfl rfl (Nat.le_of_ble_eq_true rfl) dX11_token_167 (fun H locs hP hD hS => ?_)
        have hP : va_P D vwCl [ob q_t 11 [.long v_t_trace, .ref q_t_text, .int v_t_typed, .ref q_t_told, .ref q_t_draft, .ref q_t_s, .ref q_t_images, .ref q_t_kept, .ref q_t_heard, .ref q_t_hours, .int v_t_noted, .int y20.1, .int j6, .int y4, .int z22, .ref q_t_row, .ref q_t_best, .int v_t_bestMany, .int v_t_bestWorth, .int v_t_bestHour, .ref q_t_places, .ref q_t_pairs], ia C q_t_text 180 r_t_text] H := hP
        have hD : va_D A [ob q_t 11 [.long v_t_trace, .ref q_t_text, .int v_t_typed, .ref q_t_told, .ref q_t_draft, .ref q_t_s, .ref q_t_images, .ref q_t_kept, .ref q_t_heard, .ref q_t_hours, .int v_t_noted, .int y20.1, .int j6, .int y4, .int z22, .ref q_t_row, .ref q_t_best, .int v_t_bestMany, .int v_t_bestWorth, .int v_t_bestHour, .ref q_t_places, .ref q_t_pairs], ia C q_t_text 180 r_t_text] := hD
        obtain ⟨y31, hy31, hf⟩ := of_bind hf
        refine LP170 _ FU _ _ _ _ _ _ _ _ _ _ _ _ y31 hy31 H locs ls hP hD hS (lv_sub hl [0, 1] rfl) (fun H locs ls hP hD hS hl => ?_)
        obtain rfl := Option.some.inj hf
        exact ret_V hx hb hr hlocks hK hP hD hS dX11_token_242
    · refine lv_if_ne (tgt := 109) hx hb dX11_token_102 (by decide) (fun c13 => ?_) (fun c13 => ?_)
      · refine lv_iconst (v := (1 : Int32)) hx hb dX11_token_109 (by decide) ?_
        exact W.eq (congrArg (fun x => F0 m 110 ls (Value.int x :: [.int y4, .ref q_t])) (if_neg c13).symm) JP
      · refine lv_iconst (v := (0 : Int32)) hx hb dX11_token_105 (by decide) ?_
        refine lv_goto (tgt := 110) hx hb dX11_token_106 (by decide) ?_
        exact W.eq (congrArg (fun x => F0 m 110 ls (Value.int x :: [.int y4, .ref q_t])) (if_pos c13).symm) JP
  · have hf := hrj6
    refine lv_if_ge (tgt := 52) hx hb dX11_token_45 (by decide) (fun c7 => ?_) (fun c7 => ?_)
    · have hf := of_pos hf c7
      refine lv_iload_n hx hb dX11_token_52 rfl (lv_at hl 0 rfl) ?_
      obtain ⟨o8, ho8, hf⟩ := of_bind hf
      refine c_I (wr := [ob q_t 11 [.long v_t_trace, .ref q_t_text, .int v_t_typed, .ref q_t_told, .ref q_t_draft, .ref q_t_s, .ref q_t_images, .ref q_t_kept, .ref q_t_heard, .ref q_t_hours, .int v_t_noted, .int y4, .int v_t_sort, .int y4, .int v_t_value, .ref q_t_row, .ref q_t_best, .int v_t_bestMany, .int v_t_bestWorth, .int v_t_bestHour, .ref q_t_places, .ref q_t_pairs], ia C q_t_text 180 r_t_text]) (W2 := [ob q_t 11 [.long v_t_trace, .ref q_t_text, .int v_t_typed, .ref q_t_told, .ref q_t_draft, .ref q_t_s, .ref q_t_images, .ref q_t_kept, .ref q_t_heard, .ref q_t_hours, .int v_t_noted, .int y4, .int v_t_sort, .int y4, .int v_t_value, .ref q_t_row, .ref q_t_best, .int v_t_bestMany, .int v_t_bestWorth, .int v_t_bestHour, .ref q_t_places, .ref q_t_pairs], ia C q_t_text 180 r_t_text]) (cS_run ⟨hx, hb, hml, hown, hts⟩ (k_X11_isLetter l D C o5 H.size o8 ho8) gX11_token_X11_isLetter rfl ⟨rfl, rfl⟩ hd_X11_isLetter ⟨(Nat.le_of_ble_eq_true rfl), (Nat.le_of_ble_eq_true rfl)⟩ rfl hK (cut_in hK hP hD [] rfl (by decide)) hl.1 rfl (Nat.le_of_ble_eq_true rfl) dX11_token_53 ⟨Nat.zero_le _, Nat.zero_le _⟩) hP hD hS hA [] [0, 1] [0, 1] rfl rfl (by decide) (by decide) rfl (by decide) (fun H locs hP hD hS => ?_)
      have hP : va_P D vwCl [ob q_t 11 [.long v_t_trace, .ref q_t_text, .int v_t_typed, .ref q_t_told, .ref q_t_draft, .ref q_t_s, .ref q_t_images, .ref q_t_kept, .ref q_t_heard, .ref q_t_hours, .int v_t_noted, .int y4, .int v_t_sort, .int y4, .int v_t_value, .ref q_t_row, .ref q_t_best, .int v_t_bestMany, .int v_t_bestWorth, .int v_t_bestHour, .ref q_t_places, .ref q_t_pairs], ia C q_t_text 180 r_t_text] H := hP
      have hD : va_D A [ob q_t 11 [.long v_t_trace, .ref q_t_text, .int v_t_typed, .ref q_t_told, .ref q_t_draft, .ref q_t_s, .ref q_t_images, .ref q_t_kept, .ref q_t_heard, .ref q_t_hours, .int v_t_noted, .int y4, .int v_t_sort, .int y4, .int v_t_value, .ref q_t_row, .ref q_t_best, .int v_t_bestMany, .int v_t_bestWorth, .int v_t_bestHour, .ref q_t_places, .ref q_t_pairs], ia C q_t_text 180 r_t_text] := hD
      refine lv_if_eq (tgt := 63) hx hb dX11_token_56 (by decide) (fun c9 => ?_) (fun c9 => ?_)
      · have hf := of_pos hf c9
        refine lv_iload_n hx hb dX11_token_63 rfl (lv_at hl 0 rfl) ?_
        obtain ⟨o10, ho10, hf⟩ := of_bind hf
        refine c_I (wr := [ob q_t 11 [.long v_t_trace, .ref q_t_text, .int v_t_typed, .ref q_t_told, .ref q_t_draft, .ref q_t_s, .ref q_t_images, .ref q_t_kept, .ref q_t_heard, .ref q_t_hours, .int v_t_noted, .int y4, .int v_t_sort, .int y4, .int v_t_value, .ref q_t_row, .ref q_t_best, .int v_t_bestMany, .int v_t_bestWorth, .int v_t_bestHour, .ref q_t_places, .ref q_t_pairs], ia C q_t_text 180 r_t_text]) (W2 := [ob q_t 11 [.long v_t_trace, .ref q_t_text, .int v_t_typed, .ref q_t_told, .ref q_t_draft, .ref q_t_s, .ref q_t_images, .ref q_t_kept, .ref q_t_heard, .ref q_t_hours, .int v_t_noted, .int y4, .int v_t_sort, .int y4, .int v_t_value, .ref q_t_row, .ref q_t_best, .int v_t_bestMany, .int v_t_bestWorth, .int v_t_bestHour, .ref q_t_places, .ref q_t_pairs], ia C q_t_text 180 r_t_text]) (cS_run ⟨hx, hb, hml, hown, hts⟩ (k_X11_isDigit l D C o5 H.size o10 ho10) gX11_token_X11_isDigit rfl ⟨rfl, rfl⟩ hd_X11_isDigit ⟨(Nat.le_of_ble_eq_true rfl), (Nat.le_of_ble_eq_true rfl)⟩ rfl hK (cut_in hK hP hD [] rfl (by decide)) hl.1 rfl (Nat.le_of_ble_eq_true rfl) dX11_token_64 ⟨Nat.zero_le _, Nat.zero_le _⟩) hP hD hS hA [] [0, 1] [0, 1] rfl rfl (by decide) (by decide) rfl (by decide) (fun H locs hP hD hS => ?_)
        have hP : va_P D vwCl [ob q_t 11 [.long v_t_trace, .ref q_t_text, .int v_t_typed, .ref q_t_told, .ref q_t_draft, .ref q_t_s, .ref q_t_images, .ref q_t_kept, .ref q_t_heard, .ref q_t_hours, .int v_t_noted, .int y4, .int v_t_sort, .int y4, .int v_t_value, .ref q_t_row, .ref q_t_best, .int v_t_bestMany, .int v_t_bestWorth, .int v_t_bestHour, .ref q_t_places, .ref q_t_pairs], ia C q_t_text 180 r_t_text] H := hP
        have hD : va_D A [ob q_t 11 [.long v_t_trace, .ref q_t_text, .int v_t_typed, .ref q_t_told, .ref q_t_draft, .ref q_t_s, .ref q_t_images, .ref q_t_kept, .ref q_t_heard, .ref q_t_hours, .int v_t_noted, .int y4, .int v_t_sort, .int y4, .int v_t_value, .ref q_t_row, .ref q_t_best, .int v_t_bestMany, .int v_t_bestWorth, .int v_t_bestHour, .ref q_t_places, .ref q_t_pairs], ia C q_t_text 180 r_t_text] := hD
        refine lv_if_eq (tgt := 74) hx hb dX11_token_67 (by decide) (fun c11 => ?_) (fun c11 => ?_)
        · have hf := of_pos hf c11
          refine lv_iload_n hx hb dX11_token_74 rfl (lv_at hl 0 rfl) ?_
          refine lv_bipush (v := (59 : Int32)) hx hb dX11_token_75 (by decide) ?_
          refine lv_icmp_ne (tgt := 84) hx hb dX11_token_77 (by decide) (fun c12 => ?_) (fun c12 => ?_)
          · have hf := of_neg hf c12
            refine lv_iconst (v := (4 : Int32)) hx hb dX11_token_84 (by decide) ?_
            obtain rfl := Option.some.inj hf
            exact Jj6 _ _ _ ⟨_, rfl, hP, hD, hS, lv_sub hl [0, 1] rfl⟩
          · have hf := of_pos hf c12
            refine lv_iconst (v := (3 : Int32)) hx hb dX11_token_80 (by decide) ?_
            refine lv_goto (tgt := 85) hx hb dX11_token_81 (by decide) ?_
            obtain rfl := Option.some.inj hf
            exact Jj6 _ _ _ ⟨_, rfl, hP, hD, hS, lv_sub hl [0, 1] rfl⟩
        · have hf := of_neg hf c11
          refine lv_iconst (v := (2 : Int32)) hx hb dX11_token_70 (by decide) ?_
          refine lv_goto (tgt := 85) hx hb dX11_token_71 (by decide) ?_
          obtain rfl := Option.some.inj hf
          exact Jj6 _ _ _ ⟨_, rfl, hP, hD, hS, lv_sub hl [0, 1] rfl⟩
      · have hf := of_neg hf c9
        refine lv_iconst (v := (1 : Int32)) hx hb dX11_token_59 (by decide) ?_
        refine lv_goto (tgt := 85) hx hb dX11_token_60 (by decide) ?_
        obtain rfl := Option.some.inj hf
        exact Jj6 _ _ _ ⟨_, rfl, hP, hD, hS, lv_sub hl [0, 1] rfl⟩
    · have hf := of_neg hf c7
      refine lv_iconst (v := (0 : Int32)) hx hb dX11_token_48 (by decide) ?_
      refine lv_goto (tgt := 85) hx hb dX11_token_49 (by decide) ?_
      obtain rfl := Option.some.inj hf
      exact Jj6 _ _ _ ⟨_, rfl, hP, hD, hS, lv_sub hl [0, 1] rfl⟩

def fX11_number (v_t_typed : Int32) (v_t_at : Int32) (r_t_text : Nat → Int32) (r_t_draft : Nat → Int32) (p1 : Int32) (p2 : Int32) (p3 : Int32) : Option (Int32 × Int32 × Int32 × Int32 × Int32 × (Nat → Int32)) :=
  (fX11_token v_t_typed v_t_at r_t_text).bind (fun o1 => chk (vin p1 52) (((if o1.2.1 = (2 : Int32) then (fX11_in o1.2.2.2 p2 p3).bind (fun o5 => (if o5 = 0 then some (0 : Int32) else some (1 : Int32))) else some (0 : Int32))).bind (fun j3 => chk (okZ j3) (some (j3, o1.1, o1.2.1, o1.2.2.1, o1.2.2.2, (upd r_t_draft p1.toNatClampNeg o1.2.2.2))))))
theorem hd_X11_number : yX11_number.cls = RX11 ∧ yX11_number.cls ≠ "java/lang/invoke/MethodHandle" ∧ yX11_number.cls ≠ "java/lang/invoke/VarHandle" ∧ (parseMethodDescriptor yX11_number.desc).map (fun d => d.parameters.length) = some 3 := by decide +kernel
set_option maxHeartbeats 4000000 in
set_option maxRecDepth 100000 in
theorem k_X11_number (l : Launch) (D : va_G) (C : Nat → ClassId) (q_t : Nat) (q_t_text : Nat) (q_t_told : Nat) (q_t_draft : Nat) (q_t_s : Nat) (q_t_images : Nat) (q_t_kept : Nat) (q_t_heard : Nat) (q_t_hours : Nat) (q_t_row : Nat) (q_t_best : Nat) (q_t_places : Nat) (q_t_pairs : Nat) (v_t_trace : Int64) (v_t_typed : Int32) (v_t_noted : Int32) (v_t_at : Int32) (v_t_sort : Int32) (v_t_start : Int32) (v_t_value : Int32) (v_t_bestMany : Int32) (v_t_bestWorth : Int32) (v_t_bestHour : Int32) (r_t_text : Nat → Int32) (r_t_draft : Nat → Int32) (p1 : Int32) (p2 : Int32) (p3 : Int32) (sz : Nat) (out : Int32 × Int32 × Int32 × Int32 × Int32 × (Nat → Int32)) (hf : fX11_number v_t_typed v_t_at r_t_text r_t_draft p1 p2 p3 = some out) : MI l yX11_number wsX11_number ({ frames := 3, cells := 0, slots := 0, locals := 63 }) D C [.ref q_t, .int p1, .int p2, .int p3] [ob q_t 11 [.long v_t_trace, .ref q_t_text, .int v_t_typed, .ref q_t_told, .ref q_t_draft, .ref q_t_s, .ref q_t_images, .ref q_t_kept, .ref q_t_heard, .ref q_t_hours, .int v_t_noted, .int v_t_at, .int v_t_sort, .int v_t_start, .int v_t_value, .ref q_t_row, .ref q_t_best, .int v_t_bestMany, .int v_t_bestWorth, .int v_t_bestHour, .ref q_t_places, .ref q_t_pairs], ia C q_t_text 180 r_t_text, ia C q_t_draft 52 r_t_draft] [ob q_t 11 [.long v_t_trace, .ref q_t_text, .int v_t_typed, .ref q_t_told, .ref q_t_draft, .ref q_t_s, .ref q_t_images, .ref q_t_kept, .ref q_t_heard, .ref q_t_hours, .int v_t_noted, .int out.2.1, .int out.2.2.1, .int out.2.2.2.1, .int out.2.2.2.2.1, .ref q_t_row, .ref q_t_best, .int v_t_bestMany, .int v_t_bestWorth, .int v_t_bestHour, .ref q_t_places, .ref q_t_pairs], ia C q_t_text 180 r_t_text, ia C q_t_draft 52 out.2.2.2.2.2] sz (out.1) := by
  unfold fX11_number at hf
  refine en_I (by decide) rfl (Nat.le_of_ble_eq_true rfl) ?_
  intro p e s m below meth c A ls H locs hx hb hr hlocks hml hts hown hK hP hD hS hA hl
  have hl : lv_has ls 4 [(0, .ref q_t), (1, .int p1), (2, .int p2), (3, .int p3)] := hl
  have inX11 : ∀ w ∈ u_ws RX11 TX11 22, w ∈ wsX11_number := fun w h => List.mem_cons_of_mem _ (List.mem_append_right _ h)
  refine lv_aload_n hx hb dX11_number_0 rfl (lv_at hl 0 rfl) ?_
  obtain ⟨o1, ho1, hf⟩ := of_bind hf
  refine c_V (wr := [ia C q_t_draft 52 r_t_draft]) (W2 := [ob q_t 11 [.long v_t_trace, .ref q_t_text, .int v_t_typed, .ref q_t_told, .ref q_t_draft, .ref q_t_s, .ref q_t_images, .ref q_t_kept, .ref q_t_heard, .ref q_t_hours, .int v_t_noted, .int o1.1, .int o1.2.1, .int o1.2.2.1, .int o1.2.2.2, .ref q_t_row, .ref q_t_best, .int v_t_bestMany, .int v_t_bestWorth, .int v_t_bestHour, .ref q_t_places, .ref q_t_pairs], ia C q_t_text 180 r_t_text, ia C q_t_draft 52 r_t_draft]) (cV_run ⟨hx, hb, hml, hown, hts⟩ (k_X11_token l D C q_t q_t_text q_t_told q_t_draft q_t_s q_t_images q_t_kept q_t_heard q_t_hours q_t_row q_t_best q_t_places q_t_pairs v_t_trace v_t_typed v_t_noted v_t_at v_t_sort v_t_start v_t_value v_t_bestMany v_t_bestWorth v_t_bestHour r_t_text H.size o1 ho1) gX11_number_X11_token rfl ⟨rfl, rfl⟩ hd_X11_token ⟨(Nat.le_of_ble_eq_true rfl), (Nat.le_of_ble_eq_true rfl)⟩ rfl hK (cut_in hK hP hD [0, 1] rfl (by decide)) (ci := 11) rfl rfl rfl hl.1 rfl (Nat.le_of_ble_eq_true rfl) dX11_number_1 ⟨Nat.zero_le _, Nat.zero_le _⟩) hP hD hS hA [0, 1] [2] [1, 2, 0] rfl rfl (by decide) (by decide) rfl (by decide) (fun H locs hP hD hS => ?_)
  have hP : va_P D vwCl [ob q_t 11 [.long v_t_trace, .ref q_t_text, .int v_t_typed, .ref q_t_told, .ref q_t_draft, .ref q_t_s, .ref q_t_images, .ref q_t_kept, .ref q_t_heard, .ref q_t_hours, .int v_t_noted, .int o1.1, .int o1.2.1, .int o1.2.2.1, .int o1.2.2.2, .ref q_t_row, .ref q_t_best, .int v_t_bestMany, .int v_t_bestWorth, .int v_t_bestHour, .ref q_t_places, .ref q_t_pairs], ia C q_t_text 180 r_t_text, ia C q_t_draft 52 r_t_draft] H := hP
  have hD : va_D A [ob q_t 11 [.long v_t_trace, .ref q_t_text, .int v_t_typed, .ref q_t_told, .ref q_t_draft, .ref q_t_s, .ref q_t_images, .ref q_t_kept, .ref q_t_heard, .ref q_t_hours, .int v_t_noted, .int o1.1, .int o1.2.1, .int o1.2.2.1, .int o1.2.2.2, .ref q_t_row, .ref q_t_best, .int v_t_bestMany, .int v_t_bestWorth, .int v_t_bestHour, .ref q_t_places, .ref q_t_pairs], ia C q_t_text 180 r_t_text, ia C q_t_draft 52 r_t_draft] := hD
  refine lv_aload_n hx hb dX11_number_4 rfl (lv_at hl 0 rfl) ?_
  refine va_get (D := D) (ci := 11) (v := .ref q_t_draft) (C := RX11) (T := TX11) (N := 22) hx hb hts inX11 hown hK hP 0 rfl rfl 4 (by decide) (hts (.fieldLink RX11 16 "LentCourageModel" "draft" "[I") (List.mem_of_getElem? (i := 1) rfl)) (fun _ h9 => h9) rfl dX11_number_5 ?_
  refine lv_iload_n hx hb dX11_number_8 rfl (lv_at hl 1 rfl) ?_
  refine lv_aload_n hx hb dX11_number_9 rfl (lv_at hl 0 rfl) ?_
  refine va_get (D := D) (ci := 11) (v := .int o1.2.2.2) (C := RX11) (T := TX11) (N := 22) hx hb hts inX11 hown hK hP 0 rfl rfl 14 (by decide) (hts (.fieldLink RX11 82 "LentCourageModel" "value" "I") (List.mem_of_getElem? (i := 2) rfl)) (fun _ h9 => h9) rfl dX11_number_10 ?_
  obtain ⟨h2, hf⟩ := of_chk hf
  refine va_iast hx hb hK hP hD hS 2 0 rfl rfl h2 dX11_number_13 (fun H locs hP hD hS => ?_)
  have hP : va_P D vwCl [ob q_t 11 [.long v_t_trace, .ref q_t_text, .int v_t_typed, .ref q_t_told, .ref q_t_draft, .ref q_t_s, .ref q_t_images, .ref q_t_kept, .ref q_t_heard, .ref q_t_hours, .int v_t_noted, .int o1.1, .int o1.2.1, .int o1.2.2.1, .int o1.2.2.2, .ref q_t_row, .ref q_t_best, .int v_t_bestMany, .int v_t_bestWorth, .int v_t_bestHour, .ref q_t_places, .ref q_t_pairs], ia C q_t_text 180 r_t_text, ia C q_t_draft 52 (upd r_t_draft p1.toNatClampNeg o1.2.2.2)] H := hP
  have hD : va_D A [ob q_t 11 [.long v_t_trace, .ref q_t_text, .int v_t_typed, .ref q_t_told, .ref q_t_draft, .ref q_t_s, .ref q_t_images, .ref q_t_kept, .ref q_t_heard, .ref q_t_hours, .int v_t_noted, .int o1.1, .int o1.2.1, .int o1.2.2.1, .int o1.2.2.2, .ref q_t_row, .ref q_t_best, .int v_t_bestMany, .int v_t_bestWorth, .int v_t_bestHour, .ref q_t_places, .ref q_t_pairs], ia C q_t_text 180 r_t_text, ia C q_t_draft 52 (upd r_t_draft p1.toNatClampNeg o1.2.2.2)] := hD
  refine lv_aload_n hx hb dX11_number_14 rfl (lv_at hl 0 rfl) ?_
  refine va_get (D := D) (ci := 11) (v := .int o1.2.1) (C := RX11) (T := TX11) (N := 22) hx hb hts inX11 hown hK hP 0 rfl rfl 12 (by decide) (hts (.fieldLink RX11 79 "LentCourageModel" "sort" "I") (List.mem_of_getElem? (i := 3) rfl)) (fun _ h9 => h9) rfl dX11_number_15 ?_
  refine lv_iconst (v := (2 : Int32)) hx hb dX11_number_18 (by decide) ?_
  obtain ⟨j3, hrj3, hf⟩ := of_bind hf
  refine jn (fun H L g => ∃ ls, g = F0 m 39 ls [.int j3] ∧ va_P D vwCl [ob q_t 11 [.long v_t_trace, .ref q_t_text, .int v_t_typed, .ref q_t_told, .ref q_t_draft, .ref q_t_s, .ref q_t_images, .ref q_t_kept, .ref q_t_heard, .ref q_t_hours, .int v_t_noted, .int o1.1, .int o1.2.1, .int o1.2.2.1, .int o1.2.2.2, .ref q_t_row, .ref q_t_best, .int v_t_bestMany, .int v_t_bestWorth, .int v_t_bestHour, .ref q_t_places, .ref q_t_pairs], ia C q_t_text 180 r_t_text, ia C q_t_draft 52 (upd r_t_draft p1.toNatClampNeg o1.2.2.2)] H ∧ va_D A [ob q_t 11 [.long v_t_trace, .ref q_t_text, .int v_t_typed, .ref q_t_told, .ref q_t_draft, .ref q_t_s, .ref q_t_images, .ref q_t_kept, .ref q_t_heard, .ref q_t_hours, .int v_t_noted, .int o1.1, .int o1.2.1, .int o1.2.2.1, .int o1.2.2.2, .ref q_t_row, .ref q_t_best, .int v_t_bestMany, .int v_t_bestWorth, .int v_t_bestHour, .ref q_t_places, .ref q_t_pairs], ia C q_t_text 180 r_t_text, ia C q_t_draft 52 (upd r_t_draft p1.toNatClampNeg o1.2.2.2)] ∧ va_S A s.heap H L ∧ lv_has ls 4 [(0, .ref q_t), (1, .int p1), (2, .int p2), (3, .int p3)]) (fun H locs g hI => ?_) (fun Jj3 => ?_)
  · obtain ⟨ls, rfl, hP, hD, hS, hl⟩ := hI
    obtain ⟨h7, hf⟩ := of_chk hf
    obtain rfl := Option.some.inj hf
    exact ret_Z hx hb hr hlocks h7 hK hP hD hS dX11_number_39
  · have hf := hrj3
    refine lv_icmp_ne (tgt := 38) hx hb dX11_number_19 (by decide) (fun c4 => ?_) (fun c4 => ?_)
    · have hf := of_neg hf c4
      refine lv_iconst (v := (0 : Int32)) hx hb dX11_number_38 (by decide) ?_
      obtain rfl := Option.some.inj hf
      exact Jj3 _ _ _ ⟨_, rfl, hP, hD, hS, lv_sub hl [0, 1, 2, 3] rfl⟩
    · have hf := of_pos hf c4
      refine lv_aload_n hx hb dX11_number_22 rfl (lv_at hl 0 rfl) ?_
      refine va_get (D := D) (ci := 11) (v := .int o1.2.2.2) (C := RX11) (T := TX11) (N := 22) hx hb hts inX11 hown hK hP 0 rfl rfl 14 (by decide) (hts (.fieldLink RX11 82 "LentCourageModel" "value" "I") (List.mem_of_getElem? (i := 2) rfl)) (fun _ h9 => h9) rfl dX11_number_23 ?_
      refine lv_iload_n hx hb dX11_number_26 rfl (lv_at hl 2 rfl) ?_
      refine lv_iload_n hx hb dX11_number_27 rfl (lv_at hl 3 rfl) ?_
      obtain ⟨o5, ho5, hf⟩ := of_bind hf
      refine c_I (wr := [ob q_t 11 [.long v_t_trace, .ref q_t_text, .int v_t_typed, .ref q_t_told, .ref q_t_draft, .ref q_t_s, .ref q_t_images, .ref q_t_kept, .ref q_t_heard, .ref q_t_hours, .int v_t_noted, .int o1.1, .int o1.2.1, .int o1.2.2.1, .int o1.2.2.2, .ref q_t_row, .ref q_t_best, .int v_t_bestMany, .int v_t_bestWorth, .int v_t_bestHour, .ref q_t_places, .ref q_t_pairs], ia C q_t_text 180 r_t_text, ia C q_t_draft 52 (upd r_t_draft p1.toNatClampNeg o1.2.2.2)]) (W2 := [ob q_t 11 [.long v_t_trace, .ref q_t_text, .int v_t_typed, .ref q_t_told, .ref q_t_draft, .ref q_t_s, .ref q_t_images, .ref q_t_kept, .ref q_t_heard, .ref q_t_hours, .int v_t_noted, .int o1.1, .int o1.2.1, .int o1.2.2.1, .int o1.2.2.2, .ref q_t_row, .ref q_t_best, .int v_t_bestMany, .int v_t_bestWorth, .int v_t_bestHour, .ref q_t_places, .ref q_t_pairs], ia C q_t_text 180 r_t_text, ia C q_t_draft 52 (upd r_t_draft p1.toNatClampNeg o1.2.2.2)]) (cS_run ⟨hx, hb, hml, hown, hts⟩ (k_X11_in l D C o1.2.2.2 p2 p3 H.size o5 ho5) gX11_number_X11_in rfl ⟨rfl, rfl⟩ hd_X11_in ⟨(Nat.le_of_ble_eq_true rfl), (Nat.le_of_ble_eq_true rfl)⟩ rfl hK (cut_in hK hP hD [] rfl (by decide)) hl.1 rfl (Nat.le_of_ble_eq_true rfl) dX11_number_28 ⟨Nat.zero_le _, Nat.zero_le _⟩) hP hD hS hA [] [0, 1, 2] [0, 1, 2] rfl rfl (by decide) (by decide) rfl (by decide) (fun H locs hP hD hS => ?_)
      have hP : va_P D vwCl [ob q_t 11 [.long v_t_trace, .ref q_t_text, .int v_t_typed, .ref q_t_told, .ref q_t_draft, .ref q_t_s, .ref q_t_images, .ref q_t_kept, .ref q_t_heard, .ref q_t_hours, .int v_t_noted, .int o1.1, .int o1.2.1, .int o1.2.2.1, .int o1.2.2.2, .ref q_t_row, .ref q_t_best, .int v_t_bestMany, .int v_t_bestWorth, .int v_t_bestHour, .ref q_t_places, .ref q_t_pairs], ia C q_t_text 180 r_t_text, ia C q_t_draft 52 (upd r_t_draft p1.toNatClampNeg o1.2.2.2)] H := hP
      have hD : va_D A [ob q_t 11 [.long v_t_trace, .ref q_t_text, .int v_t_typed, .ref q_t_told, .ref q_t_draft, .ref q_t_s, .ref q_t_images, .ref q_t_kept, .ref q_t_heard, .ref q_t_hours, .int v_t_noted, .int o1.1, .int o1.2.1, .int o1.2.2.1, .int o1.2.2.2, .ref q_t_row, .ref q_t_best, .int v_t_bestMany, .int v_t_bestWorth, .int v_t_bestHour, .ref q_t_places, .ref q_t_pairs], ia C q_t_text 180 r_t_text, ia C q_t_draft 52 (upd r_t_draft p1.toNatClampNeg o1.2.2.2)] := hD
      refine lv_if_eq (tgt := 38) hx hb dX11_number_31 (by decide) (fun c6 => ?_) (fun c6 => ?_)
      · have hf := of_pos hf c6
        refine lv_iconst (v := (0 : Int32)) hx hb dX11_number_38 (by decide) ?_
        obtain rfl := Option.some.inj hf
        exact Jj3 _ _ _ ⟨_, rfl, hP, hD, hS, lv_sub hl [0, 1, 2, 3] rfl⟩
      · have hf := of_neg hf c6
        refine lv_iconst (v := (1 : Int32)) hx hb dX11_number_34 (by decide) ?_
        refine lv_goto (tgt := 39) hx hb dX11_number_35 (by decide) ?_
        obtain rfl := Option.some.inj hf
        exact Jj3 _ _ _ ⟨_, rfl, hP, hD, hS, lv_sub hl [0, 1, 2, 3] rfl⟩

def fX11_once (v_t_typed : Int32) (v_t_at : Int32) (v_t_sort : Int32) (v_t_start : Int32) (v_t_value : Int32) (r_t_text : Nat → Int32) (r_t_draft : Nat → Int32) (p1 : Int32) (p2 : Int32) (p3 : Int32) : Option (Int32 × Int32 × Int32 × Int32 × Int32 × (Nat → Int32)) :=
  (if ((r_t_draft 5) &&& p1) = 0 then lt_ ((r_t_draft 5) ||| p1) (fun z2 => (fX11_number v_t_typed v_t_at r_t_text (upd r_t_draft 5 z2) p2 (0 : Int32) p3).bind (fun o3 => chk (okZ o3.1) (some (o3.1, o3.2.1, o3.2.2.1, o3.2.2.2.1, o3.2.2.2.2.1, o3.2.2.2.2.2)))) else some ((0 : Int32), v_t_at, v_t_sort, v_t_start, v_t_value, r_t_draft))
theorem hd_X11_once : yX11_once.cls = RX11 ∧ yX11_once.cls ≠ "java/lang/invoke/MethodHandle" ∧ yX11_once.cls ≠ "java/lang/invoke/VarHandle" ∧ (parseMethodDescriptor yX11_once.desc).map (fun d => d.parameters.length) = some 3 := by decide +kernel
set_option maxHeartbeats 4000000 in
set_option maxRecDepth 100000 in
theorem k_X11_once (l : Launch) (D : va_G) (C : Nat → ClassId) (q_t : Nat) (q_t_text : Nat) (q_t_told : Nat) (q_t_draft : Nat) (q_t_s : Nat) (q_t_images : Nat) (q_t_kept : Nat) (q_t_heard : Nat) (q_t_hours : Nat) (q_t_row : Nat) (q_t_best : Nat) (q_t_places : Nat) (q_t_pairs : Nat) (v_t_trace : Int64) (v_t_typed : Int32) (v_t_noted : Int32) (v_t_at : Int32) (v_t_sort : Int32) (v_t_start : Int32) (v_t_value : Int32) (v_t_bestMany : Int32) (v_t_bestWorth : Int32) (v_t_bestHour : Int32) (r_t_text : Nat → Int32) (r_t_draft : Nat → Int32) (p1 : Int32) (p2 : Int32) (p3 : Int32) (sz : Nat) (out : Int32 × Int32 × Int32 × Int32 × Int32 × (Nat → Int32)) (hf : fX11_once v_t_typed v_t_at v_t_sort v_t_start v_t_value r_t_text r_t_draft p1 p2 p3 = some out) : MI l yX11_once wsX11_once ({ frames := 4, cells := 0, slots := 0, locals := 86 }) D C [.ref q_t, .int p1, .int p2, .int p3] [ob q_t 11 [.long v_t_trace, .ref q_t_text, .int v_t_typed, .ref q_t_told, .ref q_t_draft, .ref q_t_s, .ref q_t_images, .ref q_t_kept, .ref q_t_heard, .ref q_t_hours, .int v_t_noted, .int v_t_at, .int v_t_sort, .int v_t_start, .int v_t_value, .ref q_t_row, .ref q_t_best, .int v_t_bestMany, .int v_t_bestWorth, .int v_t_bestHour, .ref q_t_places, .ref q_t_pairs], ia C q_t_text 180 r_t_text, ia C q_t_draft 52 r_t_draft] [ob q_t 11 [.long v_t_trace, .ref q_t_text, .int v_t_typed, .ref q_t_told, .ref q_t_draft, .ref q_t_s, .ref q_t_images, .ref q_t_kept, .ref q_t_heard, .ref q_t_hours, .int v_t_noted, .int out.2.1, .int out.2.2.1, .int out.2.2.2.1, .int out.2.2.2.2.1, .ref q_t_row, .ref q_t_best, .int v_t_bestMany, .int v_t_bestWorth, .int v_t_bestHour, .ref q_t_places, .ref q_t_pairs], ia C q_t_text 180 r_t_text, ia C q_t_draft 52 out.2.2.2.2.2] sz (out.1) := by
  unfold fX11_once at hf
  refine en_I (by decide) rfl (Nat.le_of_ble_eq_true rfl) ?_
  intro p e s m below meth c A ls H locs hx hb hr hlocks hml hts hown hK hP hD hS hA hl
  have hl : lv_has ls 4 [(0, .ref q_t), (1, .int p1), (2, .int p2), (3, .int p3)] := hl
  have inX11 : ∀ w ∈ u_ws RX11 TX11 22, w ∈ wsX11_once := fun w h => List.mem_cons_of_mem _ (List.mem_append_right _ h)
  refine lv_aload_n hx hb dX11_once_0 rfl (lv_at hl 0 rfl) ?_
  refine va_get (D := D) (ci := 11) (v := .ref q_t_draft) (C := RX11) (T := TX11) (N := 22) hx hb hts inX11 hown hK hP 0 rfl rfl 4 (by decide) (hts (.fieldLink RX11 16 "LentCourageModel" "draft" "[I") (List.mem_of_getElem? (i := 1) rfl)) (fun _ h9 => h9) rfl dX11_once_1 ?_
  refine lv_iconst (v := (5 : Int32)) hx hb dX11_once_4 (by decide) ?_
  refine ld_ialdK hx hb hK hP 2 0 rfl rfl (k := 5) (by decide) (by decide) (by decide) dX11_once_5 ?_
  refine lv_iload_n hx hb dX11_once_6 rfl (lv_at hl 1 rfl) ?_
  refine lv_iand hx hb dX11_once_7 ?_
  refine lv_if_eq (tgt := 13) hx hb dX11_once_8 (by decide) (fun c1 => ?_) (fun c1 => ?_)
  · have hf := of_pos hf c1
    refine lv_aload_n hx hb dX11_once_13 rfl (lv_at hl 0 rfl) ?_
    refine va_get (D := D) (ci := 11) (v := .ref q_t_draft) (C := RX11) (T := TX11) (N := 22) hx hb hts inX11 hown hK hP 0 rfl rfl 4 (by decide) (hts (.fieldLink RX11 16 "LentCourageModel" "draft" "[I") (List.mem_of_getElem? (i := 1) rfl)) (fun _ h9 => h9) rfl dX11_once_14 ?_
    refine lv_iconst (v := (5 : Int32)) hx hb dX11_once_17 (by decide) ?_
    refine lv_dup2_11 hx hb dX11_once_18 rfl rfl ?_
    refine ld_ialdK hx hb hK hP 2 0 rfl rfl (k := 5) (by decide) (by decide) (by decide) dX11_once_19 ?_
    refine lv_iload_n hx hb dX11_once_20 rfl (lv_at hl 1 rfl) ?_
    refine lv_ior hx hb dX11_once_21 ?_
    refine lv_topi (fun z2 ez2 => ?_)
    have hf := of_lt hf ez2
    refine st_IK hx hb hK hP hD hS 2 0 rfl rfl (k := 5) (by decide) (by decide) (by decide) dX11_once_22 (fun H locs hP hD hS => ?_)
    have hP : va_P D vwCl [ob q_t 11 [.long v_t_trace, .ref q_t_text, .int v_t_typed, .ref q_t_told, .ref q_t_draft, .ref q_t_s, .ref q_t_images, .ref q_t_kept, .ref q_t_heard, .ref q_t_hours, .int v_t_noted, .int v_t_at, .int v_t_sort, .int v_t_start, .int v_t_value, .ref q_t_row, .ref q_t_best, .int v_t_bestMany, .int v_t_bestWorth, .int v_t_bestHour, .ref q_t_places, .ref q_t_pairs], ia C q_t_text 180 r_t_text, ia C q_t_draft 52 (upd r_t_draft 5 z2)] H := hP
    have hD : va_D A [ob q_t 11 [.long v_t_trace, .ref q_t_text, .int v_t_typed, .ref q_t_told, .ref q_t_draft, .ref q_t_s, .ref q_t_images, .ref q_t_kept, .ref q_t_heard, .ref q_t_hours, .int v_t_noted, .int v_t_at, .int v_t_sort, .int v_t_start, .int v_t_value, .ref q_t_row, .ref q_t_best, .int v_t_bestMany, .int v_t_bestWorth, .int v_t_bestHour, .ref q_t_places, .ref q_t_pairs], ia C q_t_text 180 r_t_text, ia C q_t_draft 52 (upd r_t_draft 5 z2)] := hD
    refine lv_aload_n hx hb dX11_once_23 rfl (lv_at hl 0 rfl) ?_
    refine lv_iload_n hx hb dX11_once_24 rfl (lv_at hl 2 rfl) ?_
    refine lv_iconst (v := (0 : Int32)) hx hb dX11_once_25 (by decide) ?_
    refine lv_iload_n hx hb dX11_once_26 rfl (lv_at hl 3 rfl) ?_
    obtain ⟨o3, ho3, hf⟩ := of_bind hf
    refine c_I (wr := []) (W2 := [ob q_t 11 [.long v_t_trace, .ref q_t_text, .int v_t_typed, .ref q_t_told, .ref q_t_draft, .ref q_t_s, .ref q_t_images, .ref q_t_kept, .ref q_t_heard, .ref q_t_hours, .int v_t_noted, .int o3.2.1, .int o3.2.2.1, .int o3.2.2.2.1, .int o3.2.2.2.2.1, .ref q_t_row, .ref q_t_best, .int v_t_bestMany, .int v_t_bestWorth, .int v_t_bestHour, .ref q_t_places, .ref q_t_pairs], ia C q_t_text 180 r_t_text, ia C q_t_draft 52 o3.2.2.2.2.2]) (cV_run ⟨hx, hb, hml, hown, hts⟩ (k_X11_number l D C q_t q_t_text q_t_told q_t_draft q_t_s q_t_images q_t_kept q_t_heard q_t_hours q_t_row q_t_best q_t_places q_t_pairs v_t_trace v_t_typed v_t_noted v_t_at v_t_sort v_t_start v_t_value v_t_bestMany v_t_bestWorth v_t_bestHour r_t_text (upd r_t_draft 5 z2) p2 (0 : Int32) p3 H.size o3 ho3) gX11_once_X11_number rfl ⟨rfl, rfl⟩ hd_X11_number ⟨(Nat.le_of_ble_eq_true rfl), (Nat.le_of_ble_eq_true rfl)⟩ rfl hK (cut_in hK hP hD [0, 1, 2] rfl (by decide)) (ci := 11) rfl rfl rfl hl.1 rfl (Nat.le_of_ble_eq_true rfl) dX11_once_27 ⟨Nat.zero_le _, Nat.zero_le _⟩) hP hD hS hA [0, 1, 2] [] [0, 1, 2] rfl rfl (by decide) (by decide) rfl (by decide) (fun H locs hP hD hS => ?_)
    have hP : va_P D vwCl [ob q_t 11 [.long v_t_trace, .ref q_t_text, .int v_t_typed, .ref q_t_told, .ref q_t_draft, .ref q_t_s, .ref q_t_images, .ref q_t_kept, .ref q_t_heard, .ref q_t_hours, .int v_t_noted, .int o3.2.1, .int o3.2.2.1, .int o3.2.2.2.1, .int o3.2.2.2.2.1, .ref q_t_row, .ref q_t_best, .int v_t_bestMany, .int v_t_bestWorth, .int v_t_bestHour, .ref q_t_places, .ref q_t_pairs], ia C q_t_text 180 r_t_text, ia C q_t_draft 52 o3.2.2.2.2.2] H := hP
    have hD : va_D A [ob q_t 11 [.long v_t_trace, .ref q_t_text, .int v_t_typed, .ref q_t_told, .ref q_t_draft, .ref q_t_s, .ref q_t_images, .ref q_t_kept, .ref q_t_heard, .ref q_t_hours, .int v_t_noted, .int o3.2.1, .int o3.2.2.1, .int o3.2.2.2.1, .int o3.2.2.2.2.1, .ref q_t_row, .ref q_t_best, .int v_t_bestMany, .int v_t_bestWorth, .int v_t_bestHour, .ref q_t_places, .ref q_t_pairs], ia C q_t_text 180 r_t_text, ia C q_t_draft 52 o3.2.2.2.2.2] := hD
    obtain ⟨h4, hf⟩ := of_chk hf
    obtain rfl := Option.some.inj hf
    exact ret_Z hx hb hr hlocks h4 hK hP hD hS dX11_once_30
  · have hf := of_neg hf c1
    refine lv_iconst (v := (0 : Int32)) hx hb dX11_once_11 (by decide) ?_
    obtain rfl := Option.some.inj hf
    exact ret_Z hx hb hr hlocks okZ_0 hK hP hD hS dX11_once_12

def fX11_readsItem (v_t_typed : Int32) (v_t_at : Int32) (v_t_sort : Int32) (v_t_start : Int32) (v_t_value : Int32) (r_t_text : Nat → Int32) (r_t_draft : Nat → Int32) : Option (Int32 × Int32 × Int32 × Int32 × Int32 × (Nat → Int32)) :=
  lt_ (if v_t_sort = (1 : Int32) then v_t_value else (0 : Int32)) (fun z2 => lt_ (if z2 = (112 : Int32) then (r_t_draft 0) else (r_t_draft 1)) (fun z4 => (if z2 = (100 : Int32) then (if z4 = (8 : Int32) then some ((0 : Int32), v_t_at, v_t_sort, v_t_start, v_t_value, r_t_draft) else (fX11_number v_t_typed v_t_at r_t_text r_t_draft ((12 : Int32) + z4) (0 : Int32) ((r_t_draft 0) - (1 : Int32))).bind (fun o7 => (if o7.1 = 0 then some ((0 : Int32), o7.2.1, o7.2.2.1, o7.2.2.2.1, o7.2.2.2.2.1, o7.2.2.2.2.2) else (fX11_number v_t_typed o7.2.1 r_t_text o7.2.2.2.2.2 ((20 : Int32) + z4) (0 : Int32) (30 : Int32)).bind (fun o9 => (if o9.1 = 0 then some ((0 : Int32), o9.2.1, o9.2.2.1, o9.2.2.2.1, o9.2.2.2.2.1, o9.2.2.2.2.2) else (fX11_number v_t_typed o9.2.1 r_t_text o9.2.2.2.2.2 ((28 : Int32) + z4) (0 : Int32) (99 : Int32)).bind (fun o11 => (if o11.1 = 0 then some ((0 : Int32), o11.2.1, o11.2.2.1, o11.2.2.2.1, o11.2.2.2.2.1, o11.2.2.2.2.2) else chk (vin ((28 : Int32) + z4) 52) ((fX11_number v_t_typed o11.2.1 r_t_text o11.2.2.2.2.2 ((36 : Int32) + z4) (o11.2.2.2.2.2 ((28 : Int32) + z4).toNatClampNeg) (99 : Int32)).bind (fun o14 => (if o14.1 = 0 then some ((0 : Int32), o14.2.1, o14.2.2.1, o14.2.2.2.1, o14.2.2.2.2.1, o14.2.2.2.2.2) else (fX11_number v_t_typed o14.2.1 r_t_text o14.2.2.2.2.2 ((44 : Int32) + z4) (1 : Int32) (20 : Int32)).bind (fun o16 => (if o16.1 = 0 then some ((0 : Int32), o16.2.1, o16.2.2.1, o16.2.2.2.1, o16.2.2.2.2.1, o16.2.2.2.2.2) else lt_ ((o16.2.2.2.2.2 1) + (1 : Int32)) (fun z18 => some ((1 : Int32), o16.2.1, o16.2.2.1, o16.2.2.2.1, o16.2.2.2.2.1, (upd o16.2.2.2.2.2 1 z18))))))))))))))) else (if z2 = (102 : Int32) then (fX11_once v_t_typed v_t_at v_t_sort v_t_start v_t_value r_t_text r_t_draft (2 : Int32) (3 : Int32) (9 : Int32)).bind (fun o20 => chk (okZ o20.1) (some (o20.1, o20.2.1, o20.2.2.1, o20.2.2.2.1, o20.2.2.2.2.1, o20.2.2.2.2.2))) else (if z2 = (111 : Int32) then (fX11_once v_t_typed v_t_at v_t_sort v_t_start v_t_value r_t_text r_t_draft (1 : Int32) (2 : Int32) (30 : Int32)).bind (fun o23 => chk (okZ o23.1) (some (o23.1, o23.2.1, o23.2.2.1, o23.2.2.2.1, o23.2.2.2.2.1, o23.2.2.2.2.2))) else (if z2 = (112 : Int32) then (if z4 = (6 : Int32) then some ((0 : Int32), v_t_at, v_t_sort, v_t_start, v_t_value, r_t_draft) else (fX11_number v_t_typed v_t_at r_t_text r_t_draft ((6 : Int32) + z4) (0 : Int32) (30 : Int32)).bind (fun o27 => (if o27.1 = 0 then some ((0 : Int32), o27.2.1, o27.2.2.1, o27.2.2.2.1, o27.2.2.2.2.1, o27.2.2.2.2.2) else lt_ ((o27.2.2.2.2.2 0) + (1 : Int32)) (fun z29 => some ((1 : Int32), o27.2.1, o27.2.2.1, o27.2.2.2.1, o27.2.2.2.2.1, (upd o27.2.2.2.2.2 0 z29)))))) else some ((0 : Int32), v_t_at, v_t_sort, v_t_start, v_t_value, r_t_draft)))))))
theorem hd_X11_readsItem : yX11_readsItem.cls = RX11 ∧ yX11_readsItem.cls ≠ "java/lang/invoke/MethodHandle" ∧ yX11_readsItem.cls ≠ "java/lang/invoke/VarHandle" ∧ (parseMethodDescriptor yX11_readsItem.desc).map (fun d => d.parameters.length) = some 0 := by decide +kernel
set_option maxHeartbeats 4000000 in
set_option maxRecDepth 100000 in
theorem k_X11_readsItem (l : Launch) (D : va_G) (C : Nat → ClassId) (q_t : Nat) (q_t_text : Nat) (q_t_told : Nat) (q_t_draft : Nat) (q_t_s : Nat) (q_t_images : Nat) (q_t_kept : Nat) (q_t_heard : Nat) (q_t_hours : Nat) (q_t_row : Nat) (q_t_best : Nat) (q_t_places : Nat) (q_t_pairs : Nat) (v_t_trace : Int64) (v_t_typed : Int32) (v_t_noted : Int32) (v_t_at : Int32) (v_t_sort : Int32) (v_t_start : Int32) (v_t_value : Int32) (v_t_bestMany : Int32) (v_t_bestWorth : Int32) (v_t_bestHour : Int32) (r_t_text : Nat → Int32) (r_t_draft : Nat → Int32) (sz : Nat) (out : Int32 × Int32 × Int32 × Int32 × Int32 × (Nat → Int32)) (hf : fX11_readsItem v_t_typed v_t_at v_t_sort v_t_start v_t_value r_t_text r_t_draft = some out) : MI l yX11_readsItem wsX11_readsItem ({ frames := 5, cells := 0, slots := 0, locals := 109 }) D C [.ref q_t] [ob q_t 11 [.long v_t_trace, .ref q_t_text, .int v_t_typed, .ref q_t_told, .ref q_t_draft, .ref q_t_s, .ref q_t_images, .ref q_t_kept, .ref q_t_heard, .ref q_t_hours, .int v_t_noted, .int v_t_at, .int v_t_sort, .int v_t_start, .int v_t_value, .ref q_t_row, .ref q_t_best, .int v_t_bestMany, .int v_t_bestWorth, .int v_t_bestHour, .ref q_t_places, .ref q_t_pairs], ia C q_t_text 180 r_t_text, ia C q_t_draft 52 r_t_draft] [ob q_t 11 [.long v_t_trace, .ref q_t_text, .int v_t_typed, .ref q_t_told, .ref q_t_draft, .ref q_t_s, .ref q_t_images, .ref q_t_kept, .ref q_t_heard, .ref q_t_hours, .int v_t_noted, .int out.2.1, .int out.2.2.1, .int out.2.2.2.1, .int out.2.2.2.2.1, .ref q_t_row, .ref q_t_best, .int v_t_bestMany, .int v_t_bestWorth, .int v_t_bestHour, .ref q_t_places, .ref q_t_pairs], ia C q_t_text 180 r_t_text, ia C q_t_draft 52 out.2.2.2.2.2] sz (out.1) := by
  unfold fX11_readsItem at hf
  refine en_I (by decide) rfl (Nat.le_of_ble_eq_true rfl) ?_
  intro p e s m below meth c A ls H locs hx hb hr hlocks hml hts hown hK hP hD hS hA hl
  have hl : lv_has ls 3 [(0, .ref q_t)] := hl
  have inX11 : ∀ w ∈ u_ws RX11 TX11 22, w ∈ wsX11_readsItem := fun w h => List.mem_cons_of_mem _ (List.mem_append_right _ h)
  refine lv_aload_n hx hb dX11_readsItem_0 rfl (lv_at hl 0 rfl) ?_
  refine va_get (D := D) (ci := 11) (v := .int v_t_sort) (C := RX11) (T := TX11) (N := 22) hx hb hts inX11 hown hK hP 0 rfl rfl 12 (by decide) (hts (.fieldLink RX11 79 "LentCourageModel" "sort" "I") (List.mem_of_getElem? (i := 1) rfl)) (fun _ h9 => h9) rfl dX11_readsItem_1 ?_
  refine lv_iconst (v := (1 : Int32)) hx hb dX11_readsItem_4 (by decide) ?_
  refine jp (g2 := F0 m 16 ls [.int (if v_t_sort = (1 : Int32) then v_t_value else (0 : Int32))]) ?_ (fun JP => ?_)
  · refine lv_topi (fun z2 ez2 => ?_)
    have hf := of_lt hf ez2
    refine lv_istore_n (lv' := [(1, .int z2), (0, .ref q_t)]) hx hb dX11_readsItem_16 rfl hl (by decide) rfl (fun ls hl => ?_)
    refine lv_iload_n hx hb dX11_readsItem_17 rfl (lv_at hl 0 rfl) ?_
    refine lv_bipush (v := (112 : Int32)) hx hb dX11_readsItem_18 (by decide) ?_
    refine jp (g2 := F0 m 38 ls [.int (if z2 = (112 : Int32) then (r_t_draft 0) else (r_t_draft 1))]) ?_ (fun JP => ?_)
    · refine lv_topi (fun z4 ez4 => ?_)
      have hf := of_lt hf ez4
      refine lv_istore_n (lv' := [(2, .int z4), (1, .int z2), (0, .ref q_t)]) hx hb dX11_readsItem_38 rfl hl (by decide) rfl (fun ls hl => ?_)
      refine lv_iload_n hx hb dX11_readsItem_39 rfl (lv_at hl 1 rfl) ?_
      by_cases c5 : z2 = (100 : Int32)
      · have hf := of_pos hf c5
        refine lv_lookup (off := 78) (tgt := 118) hx hb dX11_readsItem_40 (by decide) (by rw [c5]; decide) (by decide) ?_
        refine lv_iload_n hx hb dX11_readsItem_118 rfl (lv_at hl 0 rfl) ?_
        refine lv_bipush (v := (8 : Int32)) hx hb dX11_readsItem_119 (by decide) ?_
        refine lv_icmp_eq (tgt := 208) hx hb dX11_readsItem_121 (by decide) (fun c6 => ?_) (fun c6 => ?_)
        · have hf := of_pos hf c6
          refine lv_iconst (v := (0 : Int32)) hx hb dX11_readsItem_208 (by decide) ?_
          obtain rfl := Option.some.inj hf
          exact ret_Z hx hb hr hlocks okZ_0 hK hP hD hS dX11_readsItem_209
        · have hf := of_neg hf c6
          refine lv_aload_n hx hb dX11_readsItem_124 rfl (lv_at hl 2 rfl) ?_
          refine lv_bipush (v := (12 : Int32)) hx hb dX11_readsItem_125 (by decide) ?_
          refine lv_iload_n hx hb dX11_readsItem_127 rfl (lv_at hl 0 rfl) ?_
          refine lv_iadd hx hb dX11_readsItem_128 ?_
          refine lv_iconst (v := (0 : Int32)) hx hb dX11_readsItem_129 (by decide) ?_
          refine lv_aload_n hx hb dX11_readsItem_130 rfl (lv_at hl 2 rfl) ?_
          refine va_get (D := D) (ci := 11) (v := .ref q_t_draft) (C := RX11) (T := TX11) (N := 22) hx hb hts inX11 hown hK hP 0 rfl rfl 4 (by decide) (hts (.fieldLink RX11 16 "LentCourageModel" "draft" "[I") (List.mem_of_getElem? (i := 3) rfl)) (fun _ h9 => h9) rfl dX11_readsItem_131 ?_
          refine lv_iconst (v := (0 : Int32)) hx hb dX11_readsItem_134 (by decide) ?_
          refine ld_ialdK hx hb hK hP 2 0 rfl rfl (k := 0) (by decide) (by decide) (by decide) dX11_readsItem_135 ?_
          refine lv_iconst (v := (1 : Int32)) hx hb dX11_readsItem_136 (by decide) ?_
          refine lv_isub hx hb dX11_readsItem_137 ?_
          obtain ⟨o7, ho7, hf⟩ := of_bind hf
          refine c_I (wr := []) (W2 := [ob q_t 11 [.long v_t_trace, .ref q_t_text, .int v_t_typed, .ref q_t_told, .ref q_t_draft, .ref q_t_s, .ref q_t_images, .ref q_t_kept, .ref q_t_heard, .ref q_t_hours, .int v_t_noted, .int o7.2.1, .int o7.2.2.1, .int o7.2.2.2.1, .int o7.2.2.2.2.1, .ref q_t_row, .ref q_t_best, .int v_t_bestMany, .int v_t_bestWorth, .int v_t_bestHour, .ref q_t_places, .ref q_t_pairs], ia C q_t_text 180 r_t_text, ia C q_t_draft 52 o7.2.2.2.2.2]) (cV_run ⟨hx, hb, hml, hown, hts⟩ (k_X11_number l D C q_t q_t_text q_t_told q_t_draft q_t_s q_t_images q_t_kept q_t_heard q_t_hours q_t_row q_t_best q_t_places q_t_pairs v_t_trace v_t_typed v_t_noted v_t_at v_t_sort v_t_start v_t_value v_t_bestMany v_t_bestWorth v_t_bestHour r_t_text r_t_draft ((12 : Int32) + z4) (0 : Int32) ((r_t_draft 0) - (1 : Int32)) H.size o7 ho7) gX11_readsItem_X11_number rfl ⟨rfl, rfl⟩ hd_X11_number ⟨(Nat.le_of_ble_eq_true rfl), (Nat.le_of_ble_eq_true rfl)⟩ rfl hK (cut_in hK hP hD [0, 1, 2] rfl (by decide)) (ci := 11) rfl rfl rfl hl.1 rfl (Nat.le_of_ble_eq_true rfl) dX11_readsItem_138 ⟨Nat.zero_le _, Nat.zero_le _⟩) hP hD hS hA [0, 1, 2] [] [0, 1, 2] rfl rfl (by decide) (by decide) rfl (by decide) (fun H locs hP hD hS => ?_)
          have hP : va_P D vwCl [ob q_t 11 [.long v_t_trace, .ref q_t_text, .int v_t_typed, .ref q_t_told, .ref q_t_draft, .ref q_t_s, .ref q_t_images, .ref q_t_kept, .ref q_t_heard, .ref q_t_hours, .int v_t_noted, .int o7.2.1, .int o7.2.2.1, .int o7.2.2.2.1, .int o7.2.2.2.2.1, .ref q_t_row, .ref q_t_best, .int v_t_bestMany, .int v_t_bestWorth, .int v_t_bestHour, .ref q_t_places, .ref q_t_pairs], ia C q_t_text 180 r_t_text, ia C q_t_draft 52 o7.2.2.2.2.2] H := hP
          have hD : va_D A [ob q_t 11 [.long v_t_trace, .ref q_t_text, .int v_t_typed, .ref q_t_told, .ref q_t_draft, .ref q_t_s, .ref q_t_images, .ref q_t_kept, .ref q_t_heard, .ref q_t_hours, .int v_t_noted, .int o7.2.1, .int o7.2.2.1, .int o7.2.2.2.1, .int o7.2.2.2.2.1, .ref q_t_row, .ref q_t_best, .int v_t_bestMany, .int v_t_bestWorth, .int v_t_bestHour, .ref q_t_places, .ref q_t_pairs], ia C q_t_text 180 r_t_text, ia C q_t_draft 52 o7.2.2.2.2.2] := hD
          refine lv_if_eq (tgt := 208) hx hb dX11_readsItem_141 (by decide) (fun c8 => ?_) (fun c8 => ?_)
          · have hf := of_pos hf c8
            refine lv_iconst (v := (0 : Int32)) hx hb dX11_readsItem_208 (by decide) ?_
            obtain rfl := Option.some.inj hf
            exact ret_Z hx hb hr hlocks okZ_0 hK hP hD hS dX11_readsItem_209
          · have hf := of_neg hf c8
            refine lv_aload_n hx hb dX11_readsItem_144 rfl (lv_at hl 2 rfl) ?_
            refine lv_bipush (v := (20 : Int32)) hx hb dX11_readsItem_145 (by decide) ?_
            refine lv_iload_n hx hb dX11_readsItem_147 rfl (lv_at hl 0 rfl) ?_
            refine lv_iadd hx hb dX11_readsItem_148 ?_
            refine lv_iconst (v := (0 : Int32)) hx hb dX11_readsItem_149 (by decide) ?_
            refine lv_bipush (v := (30 : Int32)) hx hb dX11_readsItem_150 (by decide) ?_
            obtain ⟨o9, ho9, hf⟩ := of_bind hf
            refine c_I (wr := []) (W2 := [ob q_t 11 [.long v_t_trace, .ref q_t_text, .int v_t_typed, .ref q_t_told, .ref q_t_draft, .ref q_t_s, .ref q_t_images, .ref q_t_kept, .ref q_t_heard, .ref q_t_hours, .int v_t_noted, .int o9.2.1, .int o9.2.2.1, .int o9.2.2.2.1, .int o9.2.2.2.2.1, .ref q_t_row, .ref q_t_best, .int v_t_bestMany, .int v_t_bestWorth, .int v_t_bestHour, .ref q_t_places, .ref q_t_pairs], ia C q_t_text 180 r_t_text, ia C q_t_draft 52 o9.2.2.2.2.2]) (cV_run ⟨hx, hb, hml, hown, hts⟩ (k_X11_number l D C q_t q_t_text q_t_told q_t_draft q_t_s q_t_images q_t_kept q_t_heard q_t_hours q_t_row q_t_best q_t_places q_t_pairs v_t_trace v_t_typed v_t_noted o7.2.1 o7.2.2.1 o7.2.2.2.1 o7.2.2.2.2.1 v_t_bestMany v_t_bestWorth v_t_bestHour r_t_text o7.2.2.2.2.2 ((20 : Int32) + z4) (0 : Int32) (30 : Int32) H.size o9 ho9) gX11_readsItem_X11_number rfl ⟨rfl, rfl⟩ hd_X11_number ⟨(Nat.le_of_ble_eq_true rfl), (Nat.le_of_ble_eq_true rfl)⟩ rfl hK (cut_in hK hP hD [0, 1, 2] rfl (by decide)) (ci := 11) rfl rfl rfl hl.1 rfl (Nat.le_of_ble_eq_true rfl) dX11_readsItem_152 ⟨Nat.zero_le _, Nat.zero_le _⟩) hP hD hS hA [0, 1, 2] [] [0, 1, 2] rfl rfl (by decide) (by decide) rfl (by decide) (fun H locs hP hD hS => ?_)
            have hP : va_P D vwCl [ob q_t 11 [.long v_t_trace, .ref q_t_text, .int v_t_typed, .ref q_t_told, .ref q_t_draft, .ref q_t_s, .ref q_t_images, .ref q_t_kept, .ref q_t_heard, .ref q_t_hours, .int v_t_noted, .int o9.2.1, .int o9.2.2.1, .int o9.2.2.2.1, .int o9.2.2.2.2.1, .ref q_t_row, .ref q_t_best, .int v_t_bestMany, .int v_t_bestWorth, .int v_t_bestHour, .ref q_t_places, .ref q_t_pairs], ia C q_t_text 180 r_t_text, ia C q_t_draft 52 o9.2.2.2.2.2] H := hP
            have hD : va_D A [ob q_t 11 [.long v_t_trace, .ref q_t_text, .int v_t_typed, .ref q_t_told, .ref q_t_draft, .ref q_t_s, .ref q_t_images, .ref q_t_kept, .ref q_t_heard, .ref q_t_hours, .int v_t_noted, .int o9.2.1, .int o9.2.2.1, .int o9.2.2.2.1, .int o9.2.2.2.2.1, .ref q_t_row, .ref q_t_best, .int v_t_bestMany, .int v_t_bestWorth, .int v_t_bestHour, .ref q_t_places, .ref q_t_pairs], ia C q_t_text 180 r_t_text, ia C q_t_draft 52 o9.2.2.2.2.2] := hD
            refine lv_if_eq (tgt := 208) hx hb dX11_readsItem_155 (by decide) (fun c10 => ?_) (fun c10 => ?_)
            · have hf := of_pos hf c10
              refine lv_iconst (v := (0 : Int32)) hx hb dX11_readsItem_208 (by decide) ?_
              obtain rfl := Option.some.inj hf
              exact ret_Z hx hb hr hlocks okZ_0 hK hP hD hS dX11_readsItem_209
            · have hf := of_neg hf c10
              refine lv_aload_n hx hb dX11_readsItem_158 rfl (lv_at hl 2 rfl) ?_
              refine lv_bipush (v := (28 : Int32)) hx hb dX11_readsItem_159 (by decide) ?_
              refine lv_iload_n hx hb dX11_readsItem_161 rfl (lv_at hl 0 rfl) ?_
              refine lv_iadd hx hb dX11_readsItem_162 ?_
              refine lv_iconst (v := (0 : Int32)) hx hb dX11_readsItem_163 (by decide) ?_
              refine lv_bipush (v := (99 : Int32)) hx hb dX11_readsItem_164 (by decide) ?_
              obtain ⟨o11, ho11, hf⟩ := of_bind hf
              refine c_I (wr := []) (W2 := [ob q_t 11 [.long v_t_trace, .ref q_t_text, .int v_t_typed, .ref q_t_told, .ref q_t_draft, .ref q_t_s, .ref q_t_images, .ref q_t_kept, .ref q_t_heard, .ref q_t_hours, .int v_t_noted, .int o11.2.1, .int o11.2.2.1, .int o11.2.2.2.1, .int o11.2.2.2.2.1, .ref q_t_row, .ref q_t_best, .int v_t_bestMany, .int v_t_bestWorth, .int v_t_bestHour, .ref q_t_places, .ref q_t_pairs], ia C q_t_text 180 r_t_text, ia C q_t_draft 52 o11.2.2.2.2.2]) (cV_run ⟨hx, hb, hml, hown, hts⟩ (k_X11_number l D C q_t q_t_text q_t_told q_t_draft q_t_s q_t_images q_t_kept q_t_heard q_t_hours q_t_row q_t_best q_t_places q_t_pairs v_t_trace v_t_typed v_t_noted o9.2.1 o9.2.2.1 o9.2.2.2.1 o9.2.2.2.2.1 v_t_bestMany v_t_bestWorth v_t_bestHour r_t_text o9.2.2.2.2.2 ((28 : Int32) + z4) (0 : Int32) (99 : Int32) H.size o11 ho11) gX11_readsItem_X11_number rfl ⟨rfl, rfl⟩ hd_X11_number ⟨(Nat.le_of_ble_eq_true rfl), (Nat.le_of_ble_eq_true rfl)⟩ rfl hK (cut_in hK hP hD [0, 1, 2] rfl (by decide)) (ci := 11) rfl rfl rfl hl.1 rfl (Nat.le_of_ble_eq_true rfl) dX11_readsItem_166 ⟨Nat.zero_le _, Nat.zero_le _⟩) hP hD hS hA [0, 1, 2] [] [0, 1, 2] rfl rfl (by decide) (by decide) rfl (by decide) (fun H locs hP hD hS => ?_)
              have hP : va_P D vwCl [ob q_t 11 [.long v_t_trace, .ref q_t_text, .int v_t_typed, .ref q_t_told, .ref q_t_draft, .ref q_t_s, .ref q_t_images, .ref q_t_kept, .ref q_t_heard, .ref q_t_hours, .int v_t_noted, .int o11.2.1, .int o11.2.2.1, .int o11.2.2.2.1, .int o11.2.2.2.2.1, .ref q_t_row, .ref q_t_best, .int v_t_bestMany, .int v_t_bestWorth, .int v_t_bestHour, .ref q_t_places, .ref q_t_pairs], ia C q_t_text 180 r_t_text, ia C q_t_draft 52 o11.2.2.2.2.2] H := hP
              have hD : va_D A [ob q_t 11 [.long v_t_trace, .ref q_t_text, .int v_t_typed, .ref q_t_told, .ref q_t_draft, .ref q_t_s, .ref q_t_images, .ref q_t_kept, .ref q_t_heard, .ref q_t_hours, .int v_t_noted, .int o11.2.1, .int o11.2.2.1, .int o11.2.2.2.1, .int o11.2.2.2.2.1, .ref q_t_row, .ref q_t_best, .int v_t_bestMany, .int v_t_bestWorth, .int v_t_bestHour, .ref q_t_places, .ref q_t_pairs], ia C q_t_text 180 r_t_text, ia C q_t_draft 52 o11.2.2.2.2.2] := hD
              refine lv_if_eq (tgt := 208) hx hb dX11_readsItem_169 (by decide) (fun c12 => ?_) (fun c12 => ?_)
              · have hf := of_pos hf c12
                refine lv_iconst (v := (0 : Int32)) hx hb dX11_readsItem_208 (by decide) ?_
                obtain rfl := Option.some.inj hf
                exact ret_Z hx hb hr hlocks okZ_0 hK hP hD hS dX11_readsItem_209
              · have hf := of_neg hf c12
                refine lv_aload_n hx hb dX11_readsItem_172 rfl (lv_at hl 2 rfl) ?_
                refine lv_bipush (v := (36 : Int32)) hx hb dX11_readsItem_173 (by decide) ?_
                refine lv_iload_n hx hb dX11_readsItem_175 rfl (lv_at hl 0 rfl) ?_
                refine lv_iadd hx hb dX11_readsItem_176 ?_
                refine lv_aload_n hx hb dX11_readsItem_177 rfl (lv_at hl 2 rfl) ?_
                refine va_get (D := D) (ci := 11) (v := .ref q_t_draft) (C := RX11) (T := TX11) (N := 22) hx hb hts inX11 hown hK hP 0 rfl rfl 4 (by decide) (hts (.fieldLink RX11 16 "LentCourageModel" "draft" "[I") (List.mem_of_getElem? (i := 3) rfl)) (fun _ h9 => h9) rfl dX11_readsItem_178 ?_
                refine lv_bipush (v := (28 : Int32)) hx hb dX11_readsItem_181 (by decide) ?_
                refine lv_iload_n hx hb dX11_readsItem_183 rfl (lv_at hl 0 rfl) ?_
                refine lv_iadd hx hb dX11_readsItem_184 ?_
                obtain ⟨h13, hf⟩ := of_chk hf
                refine va_iald hx hb hK hP 2 0 rfl rfl h13 dX11_readsItem_185 ?_
                refine lv_bipush (v := (99 : Int32)) hx hb dX11_readsItem_186 (by decide) ?_
                obtain ⟨o14, ho14, hf⟩ := of_bind hf
                refine c_I (wr := []) (W2 := [ob q_t 11 [.long v_t_trace, .ref q_t_text, .int v_t_typed, .ref q_t_told, .ref q_t_draft, .ref q_t_s, .ref q_t_images, .ref q_t_kept, .ref q_t_heard, .ref q_t_hours, .int v_t_noted, .int o14.2.1, .int o14.2.2.1, .int o14.2.2.2.1, .int o14.2.2.2.2.1, .ref q_t_row, .ref q_t_best, .int v_t_bestMany, .int v_t_bestWorth, .int v_t_bestHour, .ref q_t_places, .ref q_t_pairs], ia C q_t_text 180 r_t_text, ia C q_t_draft 52 o14.2.2.2.2.2]) (cV_run ⟨hx, hb, hml, hown, hts⟩ (k_X11_number l D C q_t q_t_text q_t_told q_t_draft q_t_s q_t_images q_t_kept q_t_heard q_t_hours q_t_row q_t_best q_t_places q_t_pairs v_t_trace v_t_typed v_t_noted o11.2.1 o11.2.2.1 o11.2.2.2.1 o11.2.2.2.2.1 v_t_bestMany v_t_bestWorth v_t_bestHour r_t_text o11.2.2.2.2.2 ((36 : Int32) + z4) (o11.2.2.2.2.2 ((28 : Int32) + z4).toNatClampNeg) (99 : Int32) H.size o14 ho14) gX11_readsItem_X11_number rfl ⟨rfl, rfl⟩ hd_X11_number ⟨(Nat.le_of_ble_eq_true rfl), (Nat.le_of_ble_eq_true rfl)⟩ rfl hK (cut_in hK hP hD [0, 1, 2] rfl (by decide)) (ci := 11) rfl rfl rfl hl.1 rfl (Nat.le_of_ble_eq_true rfl) dX11_readsItem_188 ⟨Nat.zero_le _, Nat.zero_le _⟩) hP hD hS hA [0, 1, 2] [] [0, 1, 2] rfl rfl (by decide) (by decide) rfl (by decide) (fun H locs hP hD hS => ?_)
                have hP : va_P D vwCl [ob q_t 11 [.long v_t_trace, .ref q_t_text, .int v_t_typed, .ref q_t_told, .ref q_t_draft, .ref q_t_s, .ref q_t_images, .ref q_t_kept, .ref q_t_heard, .ref q_t_hours, .int v_t_noted, .int o14.2.1, .int o14.2.2.1, .int o14.2.2.2.1, .int o14.2.2.2.2.1, .ref q_t_row, .ref q_t_best, .int v_t_bestMany, .int v_t_bestWorth, .int v_t_bestHour, .ref q_t_places, .ref q_t_pairs], ia C q_t_text 180 r_t_text, ia C q_t_draft 52 o14.2.2.2.2.2] H := hP
                have hD : va_D A [ob q_t 11 [.long v_t_trace, .ref q_t_text, .int v_t_typed, .ref q_t_told, .ref q_t_draft, .ref q_t_s, .ref q_t_images, .ref q_t_kept, .ref q_t_heard, .ref q_t_hours, .int v_t_noted, .int o14.2.1, .int o14.2.2.1, .int o14.2.2.2.1, .int o14.2.2.2.2.1, .ref q_t_row, .ref q_t_best, .int v_t_bestMany, .int v_t_bestWorth, .int v_t_bestHour, .ref q_t_places, .ref q_t_pairs], ia C q_t_text 180 r_t_text, ia C q_t_draft 52 o14.2.2.2.2.2] := hD
                refine lv_if_eq (tgt := 208) hx hb dX11_readsItem_191 (by decide) (fun c15 => ?_) (fun c15 => ?_)
                · have hf := of_pos hf c15
                  refine lv_iconst (v := (0 : Int32)) hx hb dX11_readsItem_208 (by decide) ?_
                  obtain rfl := Option.some.inj hf
                  exact ret_Z hx hb hr hlocks okZ_0 hK hP hD hS dX11_readsItem_209
                · have hf := of_neg hf c15
                  refine lv_aload_n hx hb dX11_readsItem_194 rfl (lv_at hl 2 rfl) ?_
                  refine lv_bipush (v := (44 : Int32)) hx hb dX11_readsItem_195 (by decide) ?_
                  refine lv_iload_n hx hb dX11_readsItem_197 rfl (lv_at hl 0 rfl) ?_
                  refine lv_iadd hx hb dX11_readsItem_198 ?_
                  refine lv_iconst (v := (1 : Int32)) hx hb dX11_readsItem_199 (by decide) ?_
                  refine lv_bipush (v := (20 : Int32)) hx hb dX11_readsItem_200 (by decide) ?_
                  obtain ⟨o16, ho16, hf⟩ := of_bind hf
                  refine c_I (wr := []) (W2 := [ob q_t 11 [.long v_t_trace, .ref q_t_text, .int v_t_typed, .ref q_t_told, .ref q_t_draft, .ref q_t_s, .ref q_t_images, .ref q_t_kept, .ref q_t_heard, .ref q_t_hours, .int v_t_noted, .int o16.2.1, .int o16.2.2.1, .int o16.2.2.2.1, .int o16.2.2.2.2.1, .ref q_t_row, .ref q_t_best, .int v_t_bestMany, .int v_t_bestWorth, .int v_t_bestHour, .ref q_t_places, .ref q_t_pairs], ia C q_t_text 180 r_t_text, ia C q_t_draft 52 o16.2.2.2.2.2]) (cV_run ⟨hx, hb, hml, hown, hts⟩ (k_X11_number l D C q_t q_t_text q_t_told q_t_draft q_t_s q_t_images q_t_kept q_t_heard q_t_hours q_t_row q_t_best q_t_places q_t_pairs v_t_trace v_t_typed v_t_noted o14.2.1 o14.2.2.1 o14.2.2.2.1 o14.2.2.2.2.1 v_t_bestMany v_t_bestWorth v_t_bestHour r_t_text o14.2.2.2.2.2 ((44 : Int32) + z4) (1 : Int32) (20 : Int32) H.size o16 ho16) gX11_readsItem_X11_number rfl ⟨rfl, rfl⟩ hd_X11_number ⟨(Nat.le_of_ble_eq_true rfl), (Nat.le_of_ble_eq_true rfl)⟩ rfl hK (cut_in hK hP hD [0, 1, 2] rfl (by decide)) (ci := 11) rfl rfl rfl hl.1 rfl (Nat.le_of_ble_eq_true rfl) dX11_readsItem_202 ⟨Nat.zero_le _, Nat.zero_le _⟩) hP hD hS hA [0, 1, 2] [] [0, 1, 2] rfl rfl (by decide) (by decide) rfl (by decide) (fun H locs hP hD hS => ?_)
                  have hP : va_P D vwCl [ob q_t 11 [.long v_t_trace, .ref q_t_text, .int v_t_typed, .ref q_t_told, .ref q_t_draft, .ref q_t_s, .ref q_t_images, .ref q_t_kept, .ref q_t_heard, .ref q_t_hours, .int v_t_noted, .int o16.2.1, .int o16.2.2.1, .int o16.2.2.2.1, .int o16.2.2.2.2.1, .ref q_t_row, .ref q_t_best, .int v_t_bestMany, .int v_t_bestWorth, .int v_t_bestHour, .ref q_t_places, .ref q_t_pairs], ia C q_t_text 180 r_t_text, ia C q_t_draft 52 o16.2.2.2.2.2] H := hP
                  have hD : va_D A [ob q_t 11 [.long v_t_trace, .ref q_t_text, .int v_t_typed, .ref q_t_told, .ref q_t_draft, .ref q_t_s, .ref q_t_images, .ref q_t_kept, .ref q_t_heard, .ref q_t_hours, .int v_t_noted, .int o16.2.1, .int o16.2.2.1, .int o16.2.2.2.1, .int o16.2.2.2.2.1, .ref q_t_row, .ref q_t_best, .int v_t_bestMany, .int v_t_bestWorth, .int v_t_bestHour, .ref q_t_places, .ref q_t_pairs], ia C q_t_text 180 r_t_text, ia C q_t_draft 52 o16.2.2.2.2.2] := hD
                  refine lv_if_ne (tgt := 210) hx hb dX11_readsItem_205 (by decide) (fun c17 => ?_) (fun c17 => ?_)
                  · have hf := of_neg hf c17
                    refine lv_aload_n hx hb dX11_readsItem_210 rfl (lv_at hl 2 rfl) ?_
                    refine va_get (D := D) (ci := 11) (v := .ref q_t_draft) (C := RX11) (T := TX11) (N := 22) hx hb hts inX11 hown hK hP 0 rfl rfl 4 (by decide) (hts (.fieldLink RX11 16 "LentCourageModel" "draft" "[I") (List.mem_of_getElem? (i := 3) rfl)) (fun _ h9 => h9) rfl dX11_readsItem_211 ?_
                    refine lv_iconst (v := (1 : Int32)) hx hb dX11_readsItem_214 (by decide) ?_
                    refine lv_dup2_11 hx hb dX11_readsItem_215 rfl rfl ?_
                    refine ld_ialdK hx hb hK hP 2 0 rfl rfl (k := 1) (by decide) (by decide) (by decide) dX11_readsItem_216 ?_
                    refine lv_iconst (v := (1 : Int32)) hx hb dX11_readsItem_217 (by decide) ?_
                    refine lv_iadd hx hb dX11_readsItem_218 ?_
                    refine lv_topi (fun z18 ez18 => ?_)
                    have hf := of_lt hf ez18
                    refine st_IK hx hb hK hP hD hS 2 0 rfl rfl (k := 1) (by decide) (by decide) (by decide) dX11_readsItem_219 (fun H locs hP hD hS => ?_)
                    have hP : va_P D vwCl [ob q_t 11 [.long v_t_trace, .ref q_t_text, .int v_t_typed, .ref q_t_told, .ref q_t_draft, .ref q_t_s, .ref q_t_images, .ref q_t_kept, .ref q_t_heard, .ref q_t_hours, .int v_t_noted, .int o16.2.1, .int o16.2.2.1, .int o16.2.2.2.1, .int o16.2.2.2.2.1, .ref q_t_row, .ref q_t_best, .int v_t_bestMany, .int v_t_bestWorth, .int v_t_bestHour, .ref q_t_places, .ref q_t_pairs], ia C q_t_text 180 r_t_text, ia C q_t_draft 52 (upd o16.2.2.2.2.2 1 z18)] H := hP
                    have hD : va_D A [ob q_t 11 [.long v_t_trace, .ref q_t_text, .int v_t_typed, .ref q_t_told, .ref q_t_draft, .ref q_t_s, .ref q_t_images, .ref q_t_kept, .ref q_t_heard, .ref q_t_hours, .int v_t_noted, .int o16.2.1, .int o16.2.2.1, .int o16.2.2.2.1, .int o16.2.2.2.2.1, .ref q_t_row, .ref q_t_best, .int v_t_bestMany, .int v_t_bestWorth, .int v_t_bestHour, .ref q_t_places, .ref q_t_pairs], ia C q_t_text 180 r_t_text, ia C q_t_draft 52 (upd o16.2.2.2.2.2 1 z18)] := hD
                    refine lv_iconst (v := (1 : Int32)) hx hb dX11_readsItem_220 (by decide) ?_
                    obtain rfl := Option.some.inj hf
                    exact ret_Z hx hb hr hlocks okZ_1 hK hP hD hS dX11_readsItem_221
                  · have hf := of_pos hf c17
                    refine lv_iconst (v := (0 : Int32)) hx hb dX11_readsItem_208 (by decide) ?_
                    obtain rfl := Option.some.inj hf
                    exact ret_Z hx hb hr hlocks okZ_0 hK hP hD hS dX11_readsItem_209
      · have hf := of_neg hf c5
        by_cases c19 : z2 = (102 : Int32)
        · have hf := of_pos hf c19
          refine lv_lookup (off := 191) (tgt := 231) hx hb dX11_readsItem_40 (by decide) (by rw [c19]; decide) (by decide) ?_
          refine lv_aload_n hx hb dX11_readsItem_231 rfl (lv_at hl 2 rfl) ?_
          refine lv_iconst (v := (2 : Int32)) hx hb dX11_readsItem_232 (by decide) ?_
          refine lv_iconst (v := (3 : Int32)) hx hb dX11_readsItem_233 (by decide) ?_
          refine lv_bipush (v := (9 : Int32)) hx hb dX11_readsItem_234 (by decide) ?_
          obtain ⟨o20, ho20, hf⟩ := of_bind hf
          refine c_I (wr := []) (W2 := [ob q_t 11 [.long v_t_trace, .ref q_t_text, .int v_t_typed, .ref q_t_told, .ref q_t_draft, .ref q_t_s, .ref q_t_images, .ref q_t_kept, .ref q_t_heard, .ref q_t_hours, .int v_t_noted, .int o20.2.1, .int o20.2.2.1, .int o20.2.2.2.1, .int o20.2.2.2.2.1, .ref q_t_row, .ref q_t_best, .int v_t_bestMany, .int v_t_bestWorth, .int v_t_bestHour, .ref q_t_places, .ref q_t_pairs], ia C q_t_text 180 r_t_text, ia C q_t_draft 52 o20.2.2.2.2.2]) (cV_run ⟨hx, hb, hml, hown, hts⟩ (k_X11_once l D C q_t q_t_text q_t_told q_t_draft q_t_s q_t_images q_t_kept q_t_heard q_t_hours q_t_row q_t_best q_t_places q_t_pairs v_t_trace v_t_typed v_t_noted v_t_at v_t_sort v_t_start v_t_value v_t_bestMany v_t_bestWorth v_t_bestHour r_t_text r_t_draft (2 : Int32) (3 : Int32) (9 : Int32) H.size o20 ho20) gX11_readsItem_X11_once rfl ⟨rfl, rfl⟩ hd_X11_once ⟨(Nat.le_of_ble_eq_true rfl), (Nat.le_of_ble_eq_true rfl)⟩ rfl hK (cut_in hK hP hD [0, 1, 2] rfl (by decide)) (ci := 11) rfl rfl rfl hl.1 rfl (Nat.le_of_ble_eq_true rfl) dX11_readsItem_236 ⟨Nat.zero_le _, Nat.zero_le _⟩) hP hD hS hA [0, 1, 2] [] [0, 1, 2] rfl rfl (by decide) (by decide) rfl (by decide) (fun H locs hP hD hS => ?_)
          have hP : va_P D vwCl [ob q_t 11 [.long v_t_trace, .ref q_t_text, .int v_t_typed, .ref q_t_told, .ref q_t_draft, .ref q_t_s, .ref q_t_images, .ref q_t_kept, .ref q_t_heard, .ref q_t_hours, .int v_t_noted, .int o20.2.1, .int o20.2.2.1, .int o20.2.2.2.1, .int o20.2.2.2.2.1, .ref q_t_row, .ref q_t_best, .int v_t_bestMany, .int v_t_bestWorth, .int v_t_bestHour, .ref q_t_places, .ref q_t_pairs], ia C q_t_text 180 r_t_text, ia C q_t_draft 52 o20.2.2.2.2.2] H := hP
          have hD : va_D A [ob q_t 11 [.long v_t_trace, .ref q_t_text, .int v_t_typed, .ref q_t_told, .ref q_t_draft, .ref q_t_s, .ref q_t_images, .ref q_t_kept, .ref q_t_heard, .ref q_t_hours, .int v_t_noted, .int o20.2.1, .int o20.2.2.1, .int o20.2.2.2.1, .int o20.2.2.2.2.1, .ref q_t_row, .ref q_t_best, .int v_t_bestMany, .int v_t_bestWorth, .int v_t_bestHour, .ref q_t_places, .ref q_t_pairs], ia C q_t_text 180 r_t_text, ia C q_t_draft 52 o20.2.2.2.2.2] := hD
          obtain ⟨h21, hf⟩ := of_chk hf
          obtain rfl := Option.some.inj hf
          exact ret_Z hx hb hr hlocks h21 hK hP hD hS dX11_readsItem_239
        · have hf := of_neg hf c19
          by_cases c22 : z2 = (111 : Int32)
          · have hf := of_pos hf c22
            refine lv_lookup (off := 182) (tgt := 222) hx hb dX11_readsItem_40 (by decide) (by rw [c22]; decide) (by decide) ?_
            refine lv_aload_n hx hb dX11_readsItem_222 rfl (lv_at hl 2 rfl) ?_
            refine lv_iconst (v := (1 : Int32)) hx hb dX11_readsItem_223 (by decide) ?_
            refine lv_iconst (v := (2 : Int32)) hx hb dX11_readsItem_224 (by decide) ?_
            refine lv_bipush (v := (30 : Int32)) hx hb dX11_readsItem_225 (by decide) ?_
            obtain ⟨o23, ho23, hf⟩ := of_bind hf
            refine c_I (wr := []) (W2 := [ob q_t 11 [.long v_t_trace, .ref q_t_text, .int v_t_typed, .ref q_t_told, .ref q_t_draft, .ref q_t_s, .ref q_t_images, .ref q_t_kept, .ref q_t_heard, .ref q_t_hours, .int v_t_noted, .int o23.2.1, .int o23.2.2.1, .int o23.2.2.2.1, .int o23.2.2.2.2.1, .ref q_t_row, .ref q_t_best, .int v_t_bestMany, .int v_t_bestWorth, .int v_t_bestHour, .ref q_t_places, .ref q_t_pairs], ia C q_t_text 180 r_t_text, ia C q_t_draft 52 o23.2.2.2.2.2]) (cV_run ⟨hx, hb, hml, hown, hts⟩ (k_X11_once l D C q_t q_t_text q_t_told q_t_draft q_t_s q_t_images q_t_kept q_t_heard q_t_hours q_t_row q_t_best q_t_places q_t_pairs v_t_trace v_t_typed v_t_noted v_t_at v_t_sort v_t_start v_t_value v_t_bestMany v_t_bestWorth v_t_bestHour r_t_text r_t_draft (1 : Int32) (2 : Int32) (30 : Int32) H.size o23 ho23) gX11_readsItem_X11_once rfl ⟨rfl, rfl⟩ hd_X11_once ⟨(Nat.le_of_ble_eq_true rfl), (Nat.le_of_ble_eq_true rfl)⟩ rfl hK (cut_in hK hP hD [0, 1, 2] rfl (by decide)) (ci := 11) rfl rfl rfl hl.1 rfl (Nat.le_of_ble_eq_true rfl) dX11_readsItem_227 ⟨Nat.zero_le _, Nat.zero_le _⟩) hP hD hS hA [0, 1, 2] [] [0, 1, 2] rfl rfl (by decide) (by decide) rfl (by decide) (fun H locs hP hD hS => ?_)
            have hP : va_P D vwCl [ob q_t 11 [.long v_t_trace, .ref q_t_text, .int v_t_typed, .ref q_t_told, .ref q_t_draft, .ref q_t_s, .ref q_t_images, .ref q_t_kept, .ref q_t_heard, .ref q_t_hours, .int v_t_noted, .int o23.2.1, .int o23.2.2.1, .int o23.2.2.2.1, .int o23.2.2.2.2.1, .ref q_t_row, .ref q_t_best, .int v_t_bestMany, .int v_t_bestWorth, .int v_t_bestHour, .ref q_t_places, .ref q_t_pairs], ia C q_t_text 180 r_t_text, ia C q_t_draft 52 o23.2.2.2.2.2] H := hP
            have hD : va_D A [ob q_t 11 [.long v_t_trace, .ref q_t_text, .int v_t_typed, .ref q_t_told, .ref q_t_draft, .ref q_t_s, .ref q_t_images, .ref q_t_kept, .ref q_t_heard, .ref q_t_hours, .int v_t_noted, .int o23.2.1, .int o23.2.2.1, .int o23.2.2.2.1, .int o23.2.2.2.2.1, .ref q_t_row, .ref q_t_best, .int v_t_bestMany, .int v_t_bestWorth, .int v_t_bestHour, .ref q_t_places, .ref q_t_pairs], ia C q_t_text 180 r_t_text, ia C q_t_draft 52 o23.2.2.2.2.2] := hD
            obtain ⟨h24, hf⟩ := of_chk hf
            obtain rfl := Option.some.inj hf
            exact ret_Z hx hb hr hlocks h24 hK hP hD hS dX11_readsItem_230
          · have hf := of_neg hf c22
            by_cases c25 : z2 = (112 : Int32)
            · have hf := of_pos hf c25
              refine lv_lookup (off := 44) (tgt := 84) hx hb dX11_readsItem_40 (by decide) (by rw [c25]; decide) (by decide) ?_
              refine lv_iload_n hx hb dX11_readsItem_84 rfl (lv_at hl 0 rfl) ?_
              refine lv_bipush (v := (6 : Int32)) hx hb dX11_readsItem_85 (by decide) ?_
              refine lv_icmp_eq (tgt := 104) hx hb dX11_readsItem_87 (by decide) (fun c26 => ?_) (fun c26 => ?_)
              · have hf := of_pos hf c26
                refine lv_iconst (v := (0 : Int32)) hx hb dX11_readsItem_104 (by decide) ?_
                obtain rfl := Option.some.inj hf
                exact ret_Z hx hb hr hlocks okZ_0 hK hP hD hS dX11_readsItem_105
              · have hf := of_neg hf c26
                refine lv_aload_n hx hb dX11_readsItem_90 rfl (lv_at hl 2 rfl) ?_
                refine lv_bipush (v := (6 : Int32)) hx hb dX11_readsItem_91 (by decide) ?_
                refine lv_iload_n hx hb dX11_readsItem_93 rfl (lv_at hl 0 rfl) ?_
                refine lv_iadd hx hb dX11_readsItem_94 ?_
                refine lv_iconst (v := (0 : Int32)) hx hb dX11_readsItem_95 (by decide) ?_
                refine lv_bipush (v := (30 : Int32)) hx hb dX11_readsItem_96 (by decide) ?_
                obtain ⟨o27, ho27, hf⟩ := of_bind hf
                refine c_I (wr := []) (W2 := [ob q_t 11 [.long v_t_trace, .ref q_t_text, .int v_t_typed, .ref q_t_told, .ref q_t_draft, .ref q_t_s, .ref q_t_images, .ref q_t_kept, .ref q_t_heard, .ref q_t_hours, .int v_t_noted, .int o27.2.1, .int o27.2.2.1, .int o27.2.2.2.1, .int o27.2.2.2.2.1, .ref q_t_row, .ref q_t_best, .int v_t_bestMany, .int v_t_bestWorth, .int v_t_bestHour, .ref q_t_places, .ref q_t_pairs], ia C q_t_text 180 r_t_text, ia C q_t_draft 52 o27.2.2.2.2.2]) (cV_run ⟨hx, hb, hml, hown, hts⟩ (k_X11_number l D C q_t q_t_text q_t_told q_t_draft q_t_s q_t_images q_t_kept q_t_heard q_t_hours q_t_row q_t_best q_t_places q_t_pairs v_t_trace v_t_typed v_t_noted v_t_at v_t_sort v_t_start v_t_value v_t_bestMany v_t_bestWorth v_t_bestHour r_t_text r_t_draft ((6 : Int32) + z4) (0 : Int32) (30 : Int32) H.size o27 ho27) gX11_readsItem_X11_number rfl ⟨rfl, rfl⟩ hd_X11_number ⟨(Nat.le_of_ble_eq_true rfl), (Nat.le_of_ble_eq_true rfl)⟩ rfl hK (cut_in hK hP hD [0, 1, 2] rfl (by decide)) (ci := 11) rfl rfl rfl hl.1 rfl (Nat.le_of_ble_eq_true rfl) dX11_readsItem_98 ⟨Nat.zero_le _, Nat.zero_le _⟩) hP hD hS hA [0, 1, 2] [] [0, 1, 2] rfl rfl (by decide) (by decide) rfl (by decide) (fun H locs hP hD hS => ?_)
                have hP : va_P D vwCl [ob q_t 11 [.long v_t_trace, .ref q_t_text, .int v_t_typed, .ref q_t_told, .ref q_t_draft, .ref q_t_s, .ref q_t_images, .ref q_t_kept, .ref q_t_heard, .ref q_t_hours, .int v_t_noted, .int o27.2.1, .int o27.2.2.1, .int o27.2.2.2.1, .int o27.2.2.2.2.1, .ref q_t_row, .ref q_t_best, .int v_t_bestMany, .int v_t_bestWorth, .int v_t_bestHour, .ref q_t_places, .ref q_t_pairs], ia C q_t_text 180 r_t_text, ia C q_t_draft 52 o27.2.2.2.2.2] H := hP
                have hD : va_D A [ob q_t 11 [.long v_t_trace, .ref q_t_text, .int v_t_typed, .ref q_t_told, .ref q_t_draft, .ref q_t_s, .ref q_t_images, .ref q_t_kept, .ref q_t_heard, .ref q_t_hours, .int v_t_noted, .int o27.2.1, .int o27.2.2.1, .int o27.2.2.2.1, .int o27.2.2.2.2.1, .ref q_t_row, .ref q_t_best, .int v_t_bestMany, .int v_t_bestWorth, .int v_t_bestHour, .ref q_t_places, .ref q_t_pairs], ia C q_t_text 180 r_t_text, ia C q_t_draft 52 o27.2.2.2.2.2] := hD
                refine lv_if_ne (tgt := 106) hx hb dX11_readsItem_101 (by decide) (fun c28 => ?_) (fun c28 => ?_)
                · have hf := of_neg hf c28
                  refine lv_aload_n hx hb dX11_readsItem_106 rfl (lv_at hl 2 rfl) ?_
                  refine va_get (D := D) (ci := 11) (v := .ref q_t_draft) (C := RX11) (T := TX11) (N := 22) hx hb hts inX11 hown hK hP 0 rfl rfl 4 (by decide) (hts (.fieldLink RX11 16 "LentCourageModel" "draft" "[I") (List.mem_of_getElem? (i := 3) rfl)) (fun _ h9 => h9) rfl dX11_readsItem_107 ?_
                  refine lv_iconst (v := (0 : Int32)) hx hb dX11_readsItem_110 (by decide) ?_
                  refine lv_dup2_11 hx hb dX11_readsItem_111 rfl rfl ?_
                  refine ld_ialdK hx hb hK hP 2 0 rfl rfl (k := 0) (by decide) (by decide) (by decide) dX11_readsItem_112 ?_
                  refine lv_iconst (v := (1 : Int32)) hx hb dX11_readsItem_113 (by decide) ?_
                  refine lv_iadd hx hb dX11_readsItem_114 ?_
                  refine lv_topi (fun z29 ez29 => ?_)
                  have hf := of_lt hf ez29
                  refine st_IK hx hb hK hP hD hS 2 0 rfl rfl (k := 0) (by decide) (by decide) (by decide) dX11_readsItem_115 (fun H locs hP hD hS => ?_)
                  have hP : va_P D vwCl [ob q_t 11 [.long v_t_trace, .ref q_t_text, .int v_t_typed, .ref q_t_told, .ref q_t_draft, .ref q_t_s, .ref q_t_images, .ref q_t_kept, .ref q_t_heard, .ref q_t_hours, .int v_t_noted, .int o27.2.1, .int o27.2.2.1, .int o27.2.2.2.1, .int o27.2.2.2.2.1, .ref q_t_row, .ref q_t_best, .int v_t_bestMany, .int v_t_bestWorth, .int v_t_bestHour, .ref q_t_places, .ref q_t_pairs], ia C q_t_text 180 r_t_text, ia C q_t_draft 52 (upd o27.2.2.2.2.2 0 z29)] H := hP
                  have hD : va_D A [ob q_t 11 [.long v_t_trace, .ref q_t_text, .int v_t_typed, .ref q_t_told, .ref q_t_draft, .ref q_t_s, .ref q_t_images, .ref q_t_kept, .ref q_t_heard, .ref q_t_hours, .int v_t_noted, .int o27.2.1, .int o27.2.2.1, .int o27.2.2.2.1, .int o27.2.2.2.2.1, .ref q_t_row, .ref q_t_best, .int v_t_bestMany, .int v_t_bestWorth, .int v_t_bestHour, .ref q_t_places, .ref q_t_pairs], ia C q_t_text 180 r_t_text, ia C q_t_draft 52 (upd o27.2.2.2.2.2 0 z29)] := hD
                  refine lv_iconst (v := (1 : Int32)) hx hb dX11_readsItem_116 (by decide) ?_
                  obtain rfl := Option.some.inj hf
                  exact ret_Z hx hb hr hlocks okZ_1 hK hP hD hS dX11_readsItem_117
                · have hf := of_pos hf c28
                  refine lv_iconst (v := (0 : Int32)) hx hb dX11_readsItem_104 (by decide) ?_
                  obtain rfl := Option.some.inj hf
                  exact ret_Z hx hb hr hlocks okZ_0 hK hP hD hS dX11_readsItem_105
            · have hf := of_neg hf c25
              refine lv_lookup (off := 200) (tgt := 240) hx hb dX11_readsItem_40 (by decide) (by rw [lv_osw c5 (by decide)]; rw [lv_osw c19 (by decide)]; rw [lv_osw c22 (by decide)]; rw [lv_osw c25 (by decide)]; rfl) (by decide) ?_
              refine lv_iconst (v := (0 : Int32)) hx hb dX11_readsItem_240 (by decide) ?_
              obtain rfl := Option.some.inj hf
              exact ret_Z hx hb hr hlocks okZ_0 hK hP hD hS dX11_readsItem_241
    · refine lv_icmp_ne (tgt := 32) hx hb dX11_readsItem_20 (by decide) (fun c3 => ?_) (fun c3 => ?_)
      · refine lv_aload_n hx hb dX11_readsItem_32 rfl (lv_at hl 1 rfl) ?_
        refine va_get (D := D) (ci := 11) (v := .ref q_t_draft) (C := RX11) (T := TX11) (N := 22) hx hb hts inX11 hown hK hP 0 rfl rfl 4 (by decide) (hts (.fieldLink RX11 16 "LentCourageModel" "draft" "[I") (List.mem_of_getElem? (i := 3) rfl)) (fun _ h9 => h9) rfl dX11_readsItem_33 ?_
        refine lv_iconst (v := (1 : Int32)) hx hb dX11_readsItem_36 (by decide) ?_
        refine ld_ialdK hx hb hK hP 2 0 rfl rfl (k := 1) (by decide) (by decide) (by decide) dX11_readsItem_37 ?_
        exact W.eq (congrArg (fun x => F0 m 38 ls (Value.int x :: [])) (if_neg c3).symm) JP
      · refine lv_aload_n hx hb dX11_readsItem_23 rfl (lv_at hl 1 rfl) ?_
        refine va_get (D := D) (ci := 11) (v := .ref q_t_draft) (C := RX11) (T := TX11) (N := 22) hx hb hts inX11 hown hK hP 0 rfl rfl 4 (by decide) (hts (.fieldLink RX11 16 "LentCourageModel" "draft" "[I") (List.mem_of_getElem? (i := 3) rfl)) (fun _ h9 => h9) rfl dX11_readsItem_24 ?_
        refine lv_iconst (v := (0 : Int32)) hx hb dX11_readsItem_27 (by decide) ?_
        refine ld_ialdK hx hb hK hP 2 0 rfl rfl (k := 0) (by decide) (by decide) (by decide) dX11_readsItem_28 ?_
        refine lv_goto (tgt := 38) hx hb dX11_readsItem_29 (by decide) ?_
        exact W.eq (congrArg (fun x => F0 m 38 ls (Value.int x :: [])) (if_pos c3).symm) JP
  · refine lv_icmp_ne (tgt := 15) hx hb dX11_readsItem_5 (by decide) (fun c1 => ?_) (fun c1 => ?_)
    · refine lv_iconst (v := (0 : Int32)) hx hb dX11_readsItem_15 (by decide) ?_
      exact W.eq (congrArg (fun x => F0 m 16 ls (Value.int x :: [])) (if_neg c1).symm) JP
    · refine lv_aload_n hx hb dX11_readsItem_8 rfl (lv_at hl 0 rfl) ?_
      refine va_get (D := D) (ci := 11) (v := .int v_t_value) (C := RX11) (T := TX11) (N := 22) hx hb hts inX11 hown hK hP 0 rfl rfl 14 (by decide) (hts (.fieldLink RX11 82 "LentCourageModel" "value" "I") (List.mem_of_getElem? (i := 2) rfl)) (fun _ h9 => h9) rfl dX11_readsItem_9 ?_
      refine lv_goto (tgt := 16) hx hb dX11_readsItem_12 (by decide) ?_
      exact W.eq (congrArg (fun x => F0 m 16 ls (Value.int x :: [])) (if_pos c1).symm) JP

def fX11_reads_2 : Nat → Int32 → (Nat → Int32) → Option (Int32 × (Nat → Int32))
  | 0, _, _ => none
  | n + 1, w1_2, r_t_draft_2 => (if (52 : Int32) ≤ w1_2 then some (w1_2, r_t_draft_2) else chk (vin w1_2 52) (lt_ (w1_2 + (1 : Int32)) (fun z3 => fX11_reads_2  n z3 (upd r_t_draft_2 w1_2.toNatClampNeg (0 : Int32)))))
def fX11_reads_45 (v_t_typed_45 : Int32) (r_t_text_45 : Nat → Int32) : Nat → Int32 → Int32 → Int32 → Int32 → (Nat → Int32) → Option (Nat × Int32 × Int32 × Int32 × Int32 × (Nat → Int32))
  | 0, _, _, _, _, _ => none
  | n + 1, v_t_at_45, v_t_sort_45, v_t_start_45, v_t_value_45, r_t_draft_45 => (if v_t_sort_45 = 0 then some (0, (v_t_at_45, v_t_sort_45, v_t_start_45, v_t_value_45, r_t_draft_45)) else (fX11_readsItem v_t_typed_45 v_t_at_45 v_t_sort_45 v_t_start_45 v_t_value_45 r_t_text_45 r_t_draft_45).bind (fun o7 => (if o7.1 = 0 then some (1, (o7.2.1, o7.2.2.1, o7.2.2.2.1, o7.2.2.2.2.1, o7.2.2.2.2.2)) else (fX11_token v_t_typed_45 o7.2.1 r_t_text_45).bind (fun o9 => (if o9.2.1 = (3 : Int32) then lt_ ((o7.2.2.2.2.2 4) + (1 : Int32)) (fun z11 => (fX11_token v_t_typed_45 o9.1 r_t_text_45).bind (fun o12 => fX11_reads_45 v_t_typed_45 r_t_text_45 n o12.1 o12.2.1 o12.2.2.1 o12.2.2.2 (upd o7.2.2.2.2.2 4 z11))) else some (2, (o9.1, o9.2.1, o9.2.2.1, o9.2.2.2, o7.2.2.2.2.2)))))))
def fX11_reads (v_t_typed : Int32) (r_t_text : Nat → Int32) (r_t_draft : Nat → Int32) : Option (Int32 × Int32 × Int32 × Int32 × Int32 × (Nat → Int32)) :=
  (fX11_reads_2  FU (0 : Int32) r_t_draft).bind (fun y4 => (fX11_token v_t_typed (0 : Int32) r_t_text).bind (fun o5 => (fX11_reads_45 v_t_typed r_t_text FU o5.1 o5.2.1 o5.2.2.1 o5.2.2.2 (upd (upd y4.2 2 (15 : Int32)) 3 (3 : Int32))).bind (fun y13 => (if y13.1 = 0 then some ((1 : Int32), y13.2.1, y13.2.2.1, y13.2.2.2.1, y13.2.2.2.2.1, y13.2.2.2.2.2) else (if y13.1 = 1 then some ((0 : Int32), y13.2.1, y13.2.2.1, y13.2.2.2.1, y13.2.2.2.2.1, y13.2.2.2.2.2) else some ((0 : Int32), y13.2.1, y13.2.2.1, y13.2.2.2.1, y13.2.2.2.2.1, y13.2.2.2.2.2))))))
theorem hd_X11_reads : yX11_reads.cls = RX11 ∧ yX11_reads.cls ≠ "java/lang/invoke/MethodHandle" ∧ yX11_reads.cls ≠ "java/lang/invoke/VarHandle" ∧ (parseMethodDescriptor yX11_reads.desc).map (fun d => d.parameters.length) = some 0 := by decide +kernel
set_option maxHeartbeats 4000000 in
set_option maxRecDepth 100000 in
theorem k_X11_reads (l : Launch) (D : va_G) (C : Nat → ClassId) (q_t : Nat) (q_t_text : Nat) (q_t_told : Nat) (q_t_draft : Nat) (q_t_s : Nat) (q_t_images : Nat) (q_t_kept : Nat) (q_t_heard : Nat) (q_t_hours : Nat) (q_t_row : Nat) (q_t_best : Nat) (q_t_places : Nat) (q_t_pairs : Nat) (v_t_trace : Int64) (v_t_typed : Int32) (v_t_noted : Int32) (v_t_at : Int32) (v_t_sort : Int32) (v_t_start : Int32) (v_t_value : Int32) (v_t_bestMany : Int32) (v_t_bestWorth : Int32) (v_t_bestHour : Int32) (r_t_text : Nat → Int32) (r_t_draft : Nat → Int32) (sz : Nat) (out : Int32 × Int32 × Int32 × Int32 × Int32 × (Nat → Int32)) (hf : fX11_reads v_t_typed r_t_text r_t_draft = some out) : MI l yX11_reads wsX11_reads ({ frames := 6, cells := 0, slots := 0, locals := 131 }) D C [.ref q_t] [ob q_t 11 [.long v_t_trace, .ref q_t_text, .int v_t_typed, .ref q_t_told, .ref q_t_draft, .ref q_t_s, .ref q_t_images, .ref q_t_kept, .ref q_t_heard, .ref q_t_hours, .int v_t_noted, .int v_t_at, .int v_t_sort, .int v_t_start, .int v_t_value, .ref q_t_row, .ref q_t_best, .int v_t_bestMany, .int v_t_bestWorth, .int v_t_bestHour, .ref q_t_places, .ref q_t_pairs], ia C q_t_text 180 r_t_text, ia C q_t_draft 52 r_t_draft] [ob q_t 11 [.long v_t_trace, .ref q_t_text, .int v_t_typed, .ref q_t_told, .ref q_t_draft, .ref q_t_s, .ref q_t_images, .ref q_t_kept, .ref q_t_heard, .ref q_t_hours, .int v_t_noted, .int out.2.1, .int out.2.2.1, .int out.2.2.2.1, .int out.2.2.2.2.1, .ref q_t_row, .ref q_t_best, .int v_t_bestMany, .int v_t_bestWorth, .int v_t_bestHour, .ref q_t_places, .ref q_t_pairs], ia C q_t_text 180 r_t_text, ia C q_t_draft 52 out.2.2.2.2.2] sz (out.1) := by
  unfold fX11_reads at hf
  refine en_I (by decide) rfl (Nat.le_of_ble_eq_true rfl) ?_
  intro p e s m below meth c A ls H locs hx hb hr hlocks hml hts hown hK hP hD hS hA hl
  have hl : lv_has ls 2 [(0, .ref q_t)] := hl
  have inX11 : ∀ w ∈ u_ws RX11 TX11 22, w ∈ wsX11_reads := fun w h => List.mem_cons_of_mem _ (List.mem_append_right _ h)
  have LP2 : ∀ (Q : State → Prop) (n : Nat) (w1_2 : Int32) (v_t_trace_2 : Int64) (v_t_typed_2 : Int32) (v_t_noted_2 : Int32) (v_t_at_2 : Int32) (v_t_sort_2 : Int32) (v_t_start_2 : Int32) (v_t_value_2 : Int32) (v_t_bestMany_2 : Int32) (v_t_bestWorth_2 : Int32) (v_t_bestHour_2 : Int32) (r_t_text_2 : Nat → Int32) (r_t_draft_2 : Nat → Int32) (y_2 : Int32 × (Nat → Int32)), fX11_reads_2  n w1_2 r_t_draft_2 = some y_2 → ∀ (H : Heap) (locs : List Loc) (ls : Array Slot), va_P D vwCl [ob q_t 11 [.long v_t_trace_2, .ref q_t_text, .int v_t_typed_2, .ref q_t_told, .ref q_t_draft, .ref q_t_s, .ref q_t_images, .ref q_t_kept, .ref q_t_heard, .ref q_t_hours, .int v_t_noted_2, .int v_t_at_2, .int v_t_sort_2, .int v_t_start_2, .int v_t_value_2, .ref q_t_row, .ref q_t_best, .int v_t_bestMany_2, .int v_t_bestWorth_2, .int v_t_bestHour_2, .ref q_t_places, .ref q_t_pairs], ia C q_t_text 180 r_t_text_2, ia C q_t_draft 52 r_t_draft_2] H → va_D A [ob q_t 11 [.long v_t_trace_2, .ref q_t_text, .int v_t_typed_2, .ref q_t_told, .ref q_t_draft, .ref q_t_s, .ref q_t_images, .ref q_t_kept, .ref q_t_heard, .ref q_t_hours, .int v_t_noted_2, .int v_t_at_2, .int v_t_sort_2, .int v_t_start_2, .int v_t_value_2, .ref q_t_row, .ref q_t_best, .int v_t_bestMany_2, .int v_t_bestWorth_2, .int v_t_bestHour_2, .ref q_t_places, .ref q_t_pairs], ia C q_t_text 180 r_t_text_2, ia C q_t_draft 52 r_t_draft_2] → va_S A s.heap H locs → lv_has ls 2 [(1, .int w1_2), (0, .ref q_t)] → (∀ (H : Heap) (locs : List Loc) (ls : Array Slot), va_P D vwCl [ob q_t 11 [.long v_t_trace_2, .ref q_t_text, .int v_t_typed_2, .ref q_t_told, .ref q_t_draft, .ref q_t_s, .ref q_t_images, .ref q_t_kept, .ref q_t_heard, .ref q_t_hours, .int v_t_noted_2, .int v_t_at_2, .int v_t_sort_2, .int v_t_start_2, .int v_t_value_2, .ref q_t_row, .ref q_t_best, .int v_t_bestMany_2, .int v_t_bestWorth_2, .int v_t_bestHour_2, .ref q_t_places, .ref q_t_pairs], ia C q_t_text 180 r_t_text_2, ia C q_t_draft 52 y_2.2] H → va_D A [ob q_t 11 [.long v_t_trace_2, .ref q_t_text, .int v_t_typed_2, .ref q_t_told, .ref q_t_draft, .ref q_t_s, .ref q_t_images, .ref q_t_kept, .ref q_t_heard, .ref q_t_hours, .int v_t_noted_2, .int v_t_at_2, .int v_t_sort_2, .int v_t_start_2, .int v_t_value_2, .ref q_t_row, .ref q_t_best, .int v_t_bestMany_2, .int v_t_bestWorth_2, .int v_t_bestHour_2, .ref q_t_places, .ref q_t_pairs], ia C q_t_text 180 r_t_text_2, ia C q_t_draft 52 y_2.2] → va_S A s.heap H locs → lv_has ls 2 [(1, .int y_2.1), (0, .ref q_t)] → W p l e ({ frames := 6, cells := 0, slots := 0, locals := 131 } : Room) s m ([.ref q_t] : List Value).toArray below meth c H locs 0 0 Q (F0 m 21 ls [])) → W p l e ({ frames := 6, cells := 0, slots := 0, locals := 131 } : Room) s m ([.ref q_t] : List Value).toArray below meth c H locs 0 0 Q (F0 m 2 ls []) := by
    intro Q n
    induction n with
    | zero =>
      intro w1_2 v_t_trace_2 v_t_typed_2 v_t_noted_2 v_t_at_2 v_t_sort_2 v_t_start_2 v_t_value_2 v_t_bestMany_2 v_t_bestWorth_2 v_t_bestHour_2 r_t_text_2 r_t_draft_2 y_2 hf
      rw [fX11_reads_2] at hf
      cases hf
    | succ n ih =>
      intro w1_2 v_t_trace_2 v_t_typed_2 v_t_noted_2 v_t_at_2 v_t_sort_2 v_t_start_2 v_t_value_2 v_t_bestMany_2 v_t_bestWorth_2 v_t_bestHour_2 r_t_text_2 r_t_draft_2 y_2 hf H locs ls hP hD hS hl KX0
      rw [fX11_reads_2] at hf
      refine lv_iload_n hx hb dX11_reads_2 rfl (lv_at hl 0 rfl) ?_
      refine lv_bipush (v := (52 : Int32)) hx hb dX11_reads_3 (by decide) ?_
      refine lv_icmp_ge (tgt := 21) hx hb dX11_reads_5 (by decide) (fun c1 => ?_) (fun c1 => ?_)
      · have hf := of_pos hf c1
        obtain rfl := Option.some.inj hf
        exact KX0 _ _ _ hP hD hS (lv_sub hl [0, 1] rfl)
      · have hf := of_neg hf c1
        refine lv_aload_n hx hb dX11_reads_8 rfl (lv_at hl 1 rfl) ?_
        refine va_get (D := D) (ci := 11) (v := .ref q_t_draft) (C := RX11) (T := TX11) (N := 22) hx hb hts inX11 hown hK hP 0 rfl rfl 4 (by decide) (hts (.fieldLink RX11 16 "LentCourageModel" "draft" "[I") (List.mem_of_getElem? (i := 1) rfl)) (fun _ h9 => h9) rfl dX11_reads_9 ?_
        refine lv_iload_n hx hb dX11_reads_12 rfl (lv_at hl 0 rfl) ?_
        refine lv_iconst (v := (0 : Int32)) hx hb dX11_reads_13 (by decide) ?_
        obtain ⟨h2, hf⟩ := of_chk hf
        refine va_iast hx hb hK hP hD hS 2 0 rfl rfl h2 dX11_reads_14 (fun H locs hP hD hS => ?_)
        have hP : va_P D vwCl [ob q_t 11 [.long v_t_trace_2, .ref q_t_text, .int v_t_typed_2, .ref q_t_told, .ref q_t_draft, .ref q_t_s, .ref q_t_images, .ref q_t_kept, .ref q_t_heard, .ref q_t_hours, .int v_t_noted_2, .int v_t_at_2, .int v_t_sort_2, .int v_t_start_2, .int v_t_value_2, .ref q_t_row, .ref q_t_best, .int v_t_bestMany_2, .int v_t_bestWorth_2, .int v_t_bestHour_2, .ref q_t_places, .ref q_t_pairs], ia C q_t_text 180 r_t_text_2, ia C q_t_draft 52 (upd r_t_draft_2 w1_2.toNatClampNeg (0 : Int32))] H := hP
        have hD : va_D A [ob q_t 11 [.long v_t_trace_2, .ref q_t_text, .int v_t_typed_2, .ref q_t_told, .ref q_t_draft, .ref q_t_s, .ref q_t_images, .ref q_t_kept, .ref q_t_heard, .ref q_t_hours, .int v_t_noted_2, .int v_t_at_2, .int v_t_sort_2, .int v_t_start_2, .int v_t_value_2, .ref q_t_row, .ref q_t_best, .int v_t_bestMany_2, .int v_t_bestWorth_2, .int v_t_bestHour_2, .ref q_t_places, .ref q_t_pairs], ia C q_t_text 180 r_t_text_2, ia C q_t_draft 52 (upd r_t_draft_2 w1_2.toNatClampNeg (0 : Int32))] := hD
        obtain ⟨z3, ez3⟩ : ∃ y : Int32, y = (w1_2 + (1 : Int32)) := ⟨_, rfl⟩
        have hf := of_lt hf ez3
        refine lv_iinc (v := z3) (lv' := [(1, .int z3), (0, .ref q_t)]) hx hb dX11_reads_15 hl (k := 0) rfl (by rw [ez3]; rfl) (by decide) rfl (fun ls hl => ?_)
        refine lv_goto (tgt := 2) hx hb dX11_reads_18 (by decide) ?_
        exact ih _ _ _ _ _ _ _ _ _ _ _ _ _ _ hf H locs ls hP hD hS (lv_sub hl [0, 1] rfl) KX0
  have LP45 : ∀ (Q : State → Prop) (n : Nat) (w1_45 : Int32) (v_t_trace_45 : Int64) (v_t_typed_45 : Int32) (v_t_noted_45 : Int32) (v_t_at_45 : Int32) (v_t_sort_45 : Int32) (v_t_start_45 : Int32) (v_t_value_45 : Int32) (v_t_bestMany_45 : Int32) (v_t_bestWorth_45 : Int32) (v_t_bestHour_45 : Int32) (r_t_text_45 : Nat → Int32) (r_t_draft_45 : Nat → Int32) (y_45 : Nat × Int32 × Int32 × Int32 × Int32 × (Nat → Int32)), fX11_reads_45 v_t_typed_45 r_t_text_45 n v_t_at_45 v_t_sort_45 v_t_start_45 v_t_value_45 r_t_draft_45 = some y_45 → ∀ (H : Heap) (locs : List Loc) (ls : Array Slot), va_P D vwCl [ob q_t 11 [.long v_t_trace_45, .ref q_t_text, .int v_t_typed_45, .ref q_t_told, .ref q_t_draft, .ref q_t_s, .ref q_t_images, .ref q_t_kept, .ref q_t_heard, .ref q_t_hours, .int v_t_noted_45, .int v_t_at_45, .int v_t_sort_45, .int v_t_start_45, .int v_t_value_45, .ref q_t_row, .ref q_t_best, .int v_t_bestMany_45, .int v_t_bestWorth_45, .int v_t_bestHour_45, .ref q_t_places, .ref q_t_pairs], ia C q_t_text 180 r_t_text_45, ia C q_t_draft 52 r_t_draft_45] H → va_D A [ob q_t 11 [.long v_t_trace_45, .ref q_t_text, .int v_t_typed_45, .ref q_t_told, .ref q_t_draft, .ref q_t_s, .ref q_t_images, .ref q_t_kept, .ref q_t_heard, .ref q_t_hours, .int v_t_noted_45, .int v_t_at_45, .int v_t_sort_45, .int v_t_start_45, .int v_t_value_45, .ref q_t_row, .ref q_t_best, .int v_t_bestMany_45, .int v_t_bestWorth_45, .int v_t_bestHour_45, .ref q_t_places, .ref q_t_pairs], ia C q_t_text 180 r_t_text_45, ia C q_t_draft 52 r_t_draft_45] → va_S A s.heap H locs → lv_has ls 2 [(1, .int w1_45), (0, .ref q_t)] → (∀ (H : Heap) (locs : List Loc) (ls : Array Slot), y_45.1 = 0 → va_P D vwCl [ob q_t 11 [.long v_t_trace_45, .ref q_t_text, .int v_t_typed_45, .ref q_t_told, .ref q_t_draft, .ref q_t_s, .ref q_t_images, .ref q_t_kept, .ref q_t_heard, .ref q_t_hours, .int v_t_noted_45, .int y_45.2.1, .int y_45.2.2.1, .int y_45.2.2.2.1, .int y_45.2.2.2.2.1, .ref q_t_row, .ref q_t_best, .int v_t_bestMany_45, .int v_t_bestWorth_45, .int v_t_bestHour_45, .ref q_t_places, .ref q_t_pairs], ia C q_t_text 180 r_t_text_45, ia C q_t_draft 52 y_45.2.2.2.2.2] H → va_D A [ob q_t 11 [.long v_t_trace_45, .ref q_t_text, .int v_t_typed_45, .ref q_t_told, .ref q_t_draft, .ref q_t_s, .ref q_t_images, .ref q_t_kept, .ref q_t_heard, .ref q_t_hours, .int v_t_noted_45, .int y_45.2.1, .int y_45.2.2.1, .int y_45.2.2.2.1, .int y_45.2.2.2.2.1, .ref q_t_row, .ref q_t_best, .int v_t_bestMany_45, .int v_t_bestWorth_45, .int v_t_bestHour_45, .ref q_t_places, .ref q_t_pairs], ia C q_t_text 180 r_t_text_45, ia C q_t_draft 52 y_45.2.2.2.2.2] → va_S A s.heap H locs → lv_has ls 2 [(1, .int w1_45), (0, .ref q_t)] → W p l e ({ frames := 6, cells := 0, slots := 0, locals := 131 } : Room) s m ([.ref q_t] : List Value).toArray below meth c H locs 0 0 Q (F0 m 92 ls [])) → (∀ (H : Heap) (locs : List Loc) (ls : Array Slot), y_45.1 = 1 → va_P D vwCl [ob q_t 11 [.long v_t_trace_45, .ref q_t_text, .int v_t_typed_45, .ref q_t_told, .ref q_t_draft, .ref q_t_s, .ref q_t_images, .ref q_t_kept, .ref q_t_heard, .ref q_t_hours, .int v_t_noted_45, .int y_45.2.1, .int y_45.2.2.1, .int y_45.2.2.2.1, .int y_45.2.2.2.2.1, .ref q_t_row, .ref q_t_best, .int v_t_bestMany_45, .int v_t_bestWorth_45, .int v_t_bestHour_45, .ref q_t_places, .ref q_t_pairs], ia C q_t_text 180 r_t_text_45, ia C q_t_draft 52 y_45.2.2.2.2.2] H → va_D A [ob q_t 11 [.long v_t_trace_45, .ref q_t_text, .int v_t_typed_45, .ref q_t_told, .ref q_t_draft, .ref q_t_s, .ref q_t_images, .ref q_t_kept, .ref q_t_heard, .ref q_t_hours, .int v_t_noted_45, .int y_45.2.1, .int y_45.2.2.1, .int y_45.2.2.2.1, .int y_45.2.2.2.2.1, .ref q_t_row, .ref q_t_best, .int v_t_bestMany_45, .int v_t_bestWorth_45, .int v_t_bestHour_45, .ref q_t_places, .ref q_t_pairs], ia C q_t_text 180 r_t_text_45, ia C q_t_draft 52 y_45.2.2.2.2.2] → va_S A s.heap H locs → lv_has ls 2 [(1, .int w1_45), (0, .ref q_t)] → W p l e ({ frames := 6, cells := 0, slots := 0, locals := 131 } : Room) s m ([.ref q_t] : List Value).toArray below meth c H locs 0 0 Q (F0 m 59 ls [])) → (∀ (H : Heap) (locs : List Loc) (ls : Array Slot), y_45.1 = 2 → va_P D vwCl [ob q_t 11 [.long v_t_trace_45, .ref q_t_text, .int v_t_typed_45, .ref q_t_told, .ref q_t_draft, .ref q_t_s, .ref q_t_images, .ref q_t_kept, .ref q_t_heard, .ref q_t_hours, .int v_t_noted_45, .int y_45.2.1, .int y_45.2.2.1, .int y_45.2.2.2.1, .int y_45.2.2.2.2.1, .ref q_t_row, .ref q_t_best, .int v_t_bestMany_45, .int v_t_bestWorth_45, .int v_t_bestHour_45, .ref q_t_places, .ref q_t_pairs], ia C q_t_text 180 r_t_text_45, ia C q_t_draft 52 y_45.2.2.2.2.2] H → va_D A [ob q_t 11 [.long v_t_trace_45, .ref q_t_text, .int v_t_typed_45, .ref q_t_told, .ref q_t_draft, .ref q_t_s, .ref q_t_images, .ref q_t_kept, .ref q_t_heard, .ref q_t_hours, .int v_t_noted_45, .int y_45.2.1, .int y_45.2.2.1, .int y_45.2.2.2.1, .int y_45.2.2.2.2.1, .ref q_t_row, .ref q_t_best, .int v_t_bestMany_45, .int v_t_bestWorth_45, .int v_t_bestHour_45, .ref q_t_places, .ref q_t_pairs], ia C q_t_text 180 r_t_text_45, ia C q_t_draft 52 y_45.2.2.2.2.2] → va_S A s.heap H locs → lv_has ls 2 [(1, .int w1_45), (0, .ref q_t)] → W p l e ({ frames := 6, cells := 0, slots := 0, locals := 131 } : Room) s m ([.ref q_t] : List Value).toArray below meth c H locs 0 0 Q (F0 m 73 ls [])) → W p l e ({ frames := 6, cells := 0, slots := 0, locals := 131 } : Room) s m ([.ref q_t] : List Value).toArray below meth c H locs 0 0 Q (F0 m 45 ls []) := by
    intro Q n
    induction n with
    | zero =>
      intro w1_45 v_t_trace_45 v_t_typed_45 v_t_noted_45 v_t_at_45 v_t_sort_45 v_t_start_45 v_t_value_45 v_t_bestMany_45 v_t_bestWorth_45 v_t_bestHour_45 r_t_text_45 r_t_draft_45 y_45 hf
      rw [fX11_reads_45] at hf
      cases hf
    | succ n ih =>
      intro w1_45 v_t_trace_45 v_t_typed_45 v_t_noted_45 v_t_at_45 v_t_sort_45 v_t_start_45 v_t_value_45 v_t_bestMany_45 v_t_bestWorth_45 v_t_bestHour_45 r_t_text_45 r_t_draft_45 y_45 hf H locs ls hP hD hS hl KX0 KX1 KX2
      rw [fX11_reads_45] at hf
      refine lv_aload_n hx hb dX11_reads_45 rfl (lv_at hl 1 rfl) ?_
      refine va_get (D := D) (ci := 11) (v := .int v_t_sort_45) (C := RX11) (T := TX11) (N := 22) hx hb hts inX11 hown hK hP 0 rfl rfl 12 (by decide) (hts (.fieldLink RX11 79 "LentCourageModel" "sort" "I") (List.mem_of_getElem? (i := 3) rfl)) (fun _ h9 => h9) rfl dX11_reads_46 ?_
      refine lv_if_eq (tgt := 92) hx hb dX11_reads_49 (by decide) (fun c6 => ?_) (fun c6 => ?_)
      · have hf := of_pos hf c6
        obtain rfl := Option.some.inj hf
        exact KX0 _ _ _ rfl hP hD hS (lv_sub hl [0, 1] rfl)
      · have hf := of_neg hf c6
        refine lv_aload_n hx hb dX11_reads_52 rfl (lv_at hl 1 rfl) ?_
        obtain ⟨o7, ho7, hf⟩ := of_bind hf
        refine c_I (wr := []) (W2 := [ob q_t 11 [.long v_t_trace_45, .ref q_t_text, .int v_t_typed_45, .ref q_t_told, .ref q_t_draft, .ref q_t_s, .ref q_t_images, .ref q_t_kept, .ref q_t_heard, .ref q_t_hours, .int v_t_noted_45, .int o7.2.1, .int o7.2.2.1, .int o7.2.2.2.1, .int o7.2.2.2.2.1, .ref q_t_row, .ref q_t_best, .int v_t_bestMany_45, .int v_t_bestWorth_45, .int v_t_bestHour_45, .ref q_t_places, .ref q_t_pairs], ia C q_t_text 180 r_t_text_45, ia C q_t_draft 52 o7.2.2.2.2.2]) (cV_run ⟨hx, hb, hml, hown, hts⟩ (k_X11_readsItem l D C q_t q_t_text q_t_told q_t_draft q_t_s q_t_images q_t_kept q_t_heard q_t_hours q_t_row q_t_best q_t_places q_t_pairs v_t_trace_45 v_t_typed_45 v_t_noted_45 v_t_at_45 v_t_sort_45 v_t_start_45 v_t_value_45 v_t_bestMany_45 v_t_bestWorth_45 v_t_bestHour_45 r_t_text_45 r_t_draft_45 H.size o7 ho7) gX11_reads_X11_readsItem rfl ⟨rfl, rfl⟩ hd_X11_readsItem ⟨(Nat.le_of_ble_eq_true rfl), (Nat.le_of_ble_eq_true rfl)⟩ rfl hK (cut_in hK hP hD [0, 1, 2] rfl (by decide)) (ci := 11) rfl rfl rfl hl.1 rfl (Nat.le_of_ble_eq_true rfl) dX11_reads_53 ⟨Nat.zero_le _, Nat.zero_le _⟩) hP hD hS hA [0, 1, 2] [] [0, 1, 2] rfl rfl (by decide) (by decide) rfl (by decide) (fun H locs hP hD hS => ?_)
        have hP : va_P D vwCl [ob q_t 11 [.long v_t_trace_45, .ref q_t_text, .int v_t_typed_45, .ref q_t_told, .ref q_t_draft, .ref q_t_s, .ref q_t_images, .ref q_t_kept, .ref q_t_heard, .ref q_t_hours, .int v_t_noted_45, .int o7.2.1, .int o7.2.2.1, .int o7.2.2.2.1, .int o7.2.2.2.2.1, .ref q_t_row, .ref q_t_best, .int v_t_bestMany_45, .int v_t_bestWorth_45, .int v_t_bestHour_45, .ref q_t_places, .ref q_t_pairs], ia C q_t_text 180 r_t_text_45, ia C q_t_draft 52 o7.2.2.2.2.2] H := hP
        have hD : va_D A [ob q_t 11 [.long v_t_trace_45, .ref q_t_text, .int v_t_typed_45, .ref q_t_told, .ref q_t_draft, .ref q_t_s, .ref q_t_images, .ref q_t_kept, .ref q_t_heard, .ref q_t_hours, .int v_t_noted_45, .int o7.2.1, .int o7.2.2.1, .int o7.2.2.2.1, .int o7.2.2.2.2.1, .ref q_t_row, .ref q_t_best, .int v_t_bestMany_45, .int v_t_bestWorth_45, .int v_t_bestHour_45, .ref q_t_places, .ref q_t_pairs], ia C q_t_text 180 r_t_text_45, ia C q_t_draft 52 o7.2.2.2.2.2] := hD
        refine lv_if_ne (tgt := 61) hx hb dX11_reads_56 (by decide) (fun c8 => ?_) (fun c8 => ?_)
        · have hf := of_neg hf c8
          refine lv_aload_n hx hb dX11_reads_61 rfl (lv_at hl 1 rfl) ?_
          obtain ⟨o9, ho9, hf⟩ := of_bind hf
          refine c_V (wr := [ia C q_t_draft 52 o7.2.2.2.2.2]) (W2 := [ob q_t 11 [.long v_t_trace_45, .ref q_t_text, .int v_t_typed_45, .ref q_t_told, .ref q_t_draft, .ref q_t_s, .ref q_t_images, .ref q_t_kept, .ref q_t_heard, .ref q_t_hours, .int v_t_noted_45, .int o9.1, .int o9.2.1, .int o9.2.2.1, .int o9.2.2.2, .ref q_t_row, .ref q_t_best, .int v_t_bestMany_45, .int v_t_bestWorth_45, .int v_t_bestHour_45, .ref q_t_places, .ref q_t_pairs], ia C q_t_text 180 r_t_text_45, ia C q_t_draft 52 o7.2.2.2.2.2]) (cV_run ⟨hx, hb, hml, hown, hts⟩ (k_X11_token l D C q_t q_t_text q_t_told q_t_draft q_t_s q_t_images q_t_kept q_t_heard q_t_hours q_t_row q_t_best q_t_places q_t_pairs v_t_trace_45 v_t_typed_45 v_t_noted_45 o7.2.1 o7.2.2.1 o7.2.2.2.1 o7.2.2.2.2.1 v_t_bestMany_45 v_t_bestWorth_45 v_t_bestHour_45 r_t_text_45 H.size o9 ho9) gX11_reads_X11_token rfl ⟨rfl, rfl⟩ hd_X11_token ⟨(Nat.le_of_ble_eq_true rfl), (Nat.le_of_ble_eq_true rfl)⟩ rfl hK (cut_in hK hP hD [0, 1] rfl (by decide)) (ci := 11) rfl rfl rfl hl.1 rfl (Nat.le_of_ble_eq_true rfl) dX11_reads_62 ⟨Nat.zero_le _, Nat.zero_le _⟩) hP hD hS hA [0, 1] [2] [1, 2, 0] rfl rfl (by decide) (by decide) rfl (by decide) (fun H locs hP hD hS => ?_)
          have hP : va_P D vwCl [ob q_t 11 [.long v_t_trace_45, .ref q_t_text, .int v_t_typed_45, .ref q_t_told, .ref q_t_draft, .ref q_t_s, .ref q_t_images, .ref q_t_kept, .ref q_t_heard, .ref q_t_hours, .int v_t_noted_45, .int o9.1, .int o9.2.1, .int o9.2.2.1, .int o9.2.2.2, .ref q_t_row, .ref q_t_best, .int v_t_bestMany_45, .int v_t_bestWorth_45, .int v_t_bestHour_45, .ref q_t_places, .ref q_t_pairs], ia C q_t_text 180 r_t_text_45, ia C q_t_draft 52 o7.2.2.2.2.2] H := hP
          have hD : va_D A [ob q_t 11 [.long v_t_trace_45, .ref q_t_text, .int v_t_typed_45, .ref q_t_told, .ref q_t_draft, .ref q_t_s, .ref q_t_images, .ref q_t_kept, .ref q_t_heard, .ref q_t_hours, .int v_t_noted_45, .int o9.1, .int o9.2.1, .int o9.2.2.1, .int o9.2.2.2, .ref q_t_row, .ref q_t_best, .int v_t_bestMany_45, .int v_t_bestWorth_45, .int v_t_bestHour_45, .ref q_t_places, .ref q_t_pairs], ia C q_t_text 180 r_t_text_45, ia C q_t_draft 52 o7.2.2.2.2.2] := hD
          refine lv_aload_n hx hb dX11_reads_65 rfl (lv_at hl 1 rfl) ?_
          refine va_get (D := D) (ci := 11) (v := .int o9.2.1) (C := RX11) (T := TX11) (N := 22) hx hb hts inX11 hown hK hP 0 rfl rfl 12 (by decide) (hts (.fieldLink RX11 79 "LentCourageModel" "sort" "I") (List.mem_of_getElem? (i := 3) rfl)) (fun _ h9 => h9) rfl dX11_reads_66 ?_
          refine lv_iconst (v := (3 : Int32)) hx hb dX11_reads_69 (by decide) ?_
          refine lv_icmp_eq (tgt := 75) hx hb dX11_reads_70 (by decide) (fun c10 => ?_) (fun c10 => ?_)
          · have hf := of_pos hf c10
            refine lv_aload_n hx hb dX11_reads_75 rfl (lv_at hl 1 rfl) ?_
            refine va_get (D := D) (ci := 11) (v := .ref q_t_draft) (C := RX11) (T := TX11) (N := 22) hx hb hts inX11 hown hK hP 0 rfl rfl 4 (by decide) (hts (.fieldLink RX11 16 "LentCourageModel" "draft" "[I") (List.mem_of_getElem? (i := 1) rfl)) (fun _ h9 => h9) rfl dX11_reads_76 ?_
            refine lv_iconst (v := (4 : Int32)) hx hb dX11_reads_79 (by decide) ?_
            refine lv_dup2_11 hx hb dX11_reads_80 rfl rfl ?_
            refine ld_ialdK hx hb hK hP 2 0 rfl rfl (k := 4) (by decide) (by decide) (by decide) dX11_reads_81 ?_
            refine lv_iconst (v := (1 : Int32)) hx hb dX11_reads_82 (by decide) ?_
            refine lv_iadd hx hb dX11_reads_83 ?_
            refine lv_topi (fun z11 ez11 => ?_)
            have hf := of_lt hf ez11
            refine st_IK hx hb hK hP hD hS 2 0 rfl rfl (k := 4) (by decide) (by decide) (by decide) dX11_reads_84 (fun H locs hP hD hS => ?_)
            have hP : va_P D vwCl [ob q_t 11 [.long v_t_trace_45, .ref q_t_text, .int v_t_typed_45, .ref q_t_told, .ref q_t_draft, .ref q_t_s, .ref q_t_images, .ref q_t_kept, .ref q_t_heard, .ref q_t_hours, .int v_t_noted_45, .int o9.1, .int o9.2.1, .int o9.2.2.1, .int o9.2.2.2, .ref q_t_row, .ref q_t_best, .int v_t_bestMany_45, .int v_t_bestWorth_45, .int v_t_bestHour_45, .ref q_t_places, .ref q_t_pairs], ia C q_t_text 180 r_t_text_45, ia C q_t_draft 52 (upd o7.2.2.2.2.2 4 z11)] H := hP
            have hD : va_D A [ob q_t 11 [.long v_t_trace_45, .ref q_t_text, .int v_t_typed_45, .ref q_t_told, .ref q_t_draft, .ref q_t_s, .ref q_t_images, .ref q_t_kept, .ref q_t_heard, .ref q_t_hours, .int v_t_noted_45, .int o9.1, .int o9.2.1, .int o9.2.2.1, .int o9.2.2.2, .ref q_t_row, .ref q_t_best, .int v_t_bestMany_45, .int v_t_bestWorth_45, .int v_t_bestHour_45, .ref q_t_places, .ref q_t_pairs], ia C q_t_text 180 r_t_text_45, ia C q_t_draft 52 (upd o7.2.2.2.2.2 4 z11)] := hD
            refine lv_aload_n hx hb dX11_reads_85 rfl (lv_at hl 1 rfl) ?_
            obtain ⟨o12, ho12, hf⟩ := of_bind hf
            refine c_V (wr := [ia C q_t_draft 52 (upd o7.2.2.2.2.2 4 z11)]) (W2 := [ob q_t 11 [.long v_t_trace_45, .ref q_t_text, .int v_t_typed_45, .ref q_t_told, .ref q_t_draft, .ref q_t_s, .ref q_t_images, .ref q_t_kept, .ref q_t_heard, .ref q_t_hours, .int v_t_noted_45, .int o12.1, .int o12.2.1, .int o12.2.2.1, .int o12.2.2.2, .ref q_t_row, .ref q_t_best, .int v_t_bestMany_45, .int v_t_bestWorth_45, .int v_t_bestHour_45, .ref q_t_places, .ref q_t_pairs], ia C q_t_text 180 r_t_text_45, ia C q_t_draft 52 (upd o7.2.2.2.2.2 4 z11)]) (cV_run ⟨hx, hb, hml, hown, hts⟩ (k_X11_token l D C q_t q_t_text q_t_told q_t_draft q_t_s q_t_images q_t_kept q_t_heard q_t_hours q_t_row q_t_best q_t_places q_t_pairs v_t_trace_45 v_t_typed_45 v_t_noted_45 o9.1 o9.2.1 o9.2.2.1 o9.2.2.2 v_t_bestMany_45 v_t_bestWorth_45 v_t_bestHour_45 r_t_text_45 H.size o12 ho12) gX11_reads_X11_token rfl ⟨rfl, rfl⟩ hd_X11_token ⟨(Nat.le_of_ble_eq_true rfl), (Nat.le_of_ble_eq_true rfl)⟩ rfl hK (cut_in hK hP hD [0, 1] rfl (by decide)) (ci := 11) rfl rfl rfl hl.1 rfl (Nat.le_of_ble_eq_true rfl) dX11_reads_86 ⟨Nat.zero_le _, Nat.zero_le _⟩) hP hD hS hA [0, 1] [2] [1, 2, 0] rfl rfl (by decide) (by decide) rfl (by decide) (fun H locs hP hD hS => ?_)
            have hP : va_P D vwCl [ob q_t 11 [.long v_t_trace_45, .ref q_t_text, .int v_t_typed_45, .ref q_t_told, .ref q_t_draft, .ref q_t_s, .ref q_t_images, .ref q_t_kept, .ref q_t_heard, .ref q_t_hours, .int v_t_noted_45, .int o12.1, .int o12.2.1, .int o12.2.2.1, .int o12.2.2.2, .ref q_t_row, .ref q_t_best, .int v_t_bestMany_45, .int v_t_bestWorth_45, .int v_t_bestHour_45, .ref q_t_places, .ref q_t_pairs], ia C q_t_text 180 r_t_text_45, ia C q_t_draft 52 (upd o7.2.2.2.2.2 4 z11)] H := hP
            have hD : va_D A [ob q_t 11 [.long v_t_trace_45, .ref q_t_text, .int v_t_typed_45, .ref q_t_told, .ref q_t_draft, .ref q_t_s, .ref q_t_images, .ref q_t_kept, .ref q_t_heard, .ref q_t_hours, .int v_t_noted_45, .int o12.1, .int o12.2.1, .int o12.2.2.1, .int o12.2.2.2, .ref q_t_row, .ref q_t_best, .int v_t_bestMany_45, .int v_t_bestWorth_45, .int v_t_bestHour_45, .ref q_t_places, .ref q_t_pairs], ia C q_t_text 180 r_t_text_45, ia C q_t_draft 52 (upd o7.2.2.2.2.2 4 z11)] := hD
            refine lv_goto (tgt := 45) hx hb dX11_reads_89 (by decide) ?_
            exact ih _ _ _ _ _ _ _ _ _ _ _ _ _ _ hf H locs ls hP hD hS (lv_sub hl [0, 1] rfl) KX0 KX1 KX2
          · have hf := of_neg hf c10
            obtain rfl := Option.some.inj hf
            exact KX2 _ _ _ rfl hP hD hS (lv_sub hl [0, 1] rfl)
        · have hf := of_pos hf c8
          obtain rfl := Option.some.inj hf
          exact KX1 _ _ _ rfl hP hD hS (lv_sub hl [0, 1] rfl)
  refine lv_iconst (v := (0 : Int32)) hx hb dX11_reads_0 (by decide) ?_
  refine lv_istore_n (lv' := [(1, .int (0 : Int32)), (0, .ref q_t)]) hx hb dX11_reads_1 rfl hl (by decide) rfl (fun ls hl => ?_)
  obtain ⟨y4, hy4, hf⟩ := of_bind hf
  refine LP2 _ FU _ _ _ _ _ _ _ _ _ _ _ _ _ y4 hy4 H locs ls hP hD hS (lv_sub hl [0, 1] rfl) (fun H locs ls hP hD hS hl => ?_)
  refine lv_aload_n hx hb dX11_reads_21 rfl (lv_at hl 1 rfl) ?_
  refine va_get (D := D) (ci := 11) (v := .ref q_t_draft) (C := RX11) (T := TX11) (N := 22) hx hb hts inX11 hown hK hP 0 rfl rfl 4 (by decide) (hts (.fieldLink RX11 16 "LentCourageModel" "draft" "[I") (List.mem_of_getElem? (i := 1) rfl)) (fun _ h9 => h9) rfl dX11_reads_22 ?_
  refine lv_iconst (v := (2 : Int32)) hx hb dX11_reads_25 (by decide) ?_
  refine lv_bipush (v := (15 : Int32)) hx hb dX11_reads_26 (by decide) ?_
  refine st_IK hx hb hK hP hD hS 2 0 rfl rfl (k := 2) (by decide) (by decide) (by decide) dX11_reads_28 (fun H locs hP hD hS => ?_)
  have hP : va_P D vwCl [ob q_t 11 [.long v_t_trace, .ref q_t_text, .int v_t_typed, .ref q_t_told, .ref q_t_draft, .ref q_t_s, .ref q_t_images, .ref q_t_kept, .ref q_t_heard, .ref q_t_hours, .int v_t_noted, .int v_t_at, .int v_t_sort, .int v_t_start, .int v_t_value, .ref q_t_row, .ref q_t_best, .int v_t_bestMany, .int v_t_bestWorth, .int v_t_bestHour, .ref q_t_places, .ref q_t_pairs], ia C q_t_text 180 r_t_text, ia C q_t_draft 52 (upd y4.2 2 (15 : Int32))] H := hP
  have hD : va_D A [ob q_t 11 [.long v_t_trace, .ref q_t_text, .int v_t_typed, .ref q_t_told, .ref q_t_draft, .ref q_t_s, .ref q_t_images, .ref q_t_kept, .ref q_t_heard, .ref q_t_hours, .int v_t_noted, .int v_t_at, .int v_t_sort, .int v_t_start, .int v_t_value, .ref q_t_row, .ref q_t_best, .int v_t_bestMany, .int v_t_bestWorth, .int v_t_bestHour, .ref q_t_places, .ref q_t_pairs], ia C q_t_text 180 r_t_text, ia C q_t_draft 52 (upd y4.2 2 (15 : Int32))] := hD
  refine lv_aload_n hx hb dX11_reads_29 rfl (lv_at hl 1 rfl) ?_
  refine va_get (D := D) (ci := 11) (v := .ref q_t_draft) (C := RX11) (T := TX11) (N := 22) hx hb hts inX11 hown hK hP 0 rfl rfl 4 (by decide) (hts (.fieldLink RX11 16 "LentCourageModel" "draft" "[I") (List.mem_of_getElem? (i := 1) rfl)) (fun _ h9 => h9) rfl dX11_reads_30 ?_
  refine lv_iconst (v := (3 : Int32)) hx hb dX11_reads_33 (by decide) ?_
  refine lv_iconst (v := (3 : Int32)) hx hb dX11_reads_34 (by decide) ?_
  refine st_IK hx hb hK hP hD hS 2 0 rfl rfl (k := 3) (by decide) (by decide) (by decide) dX11_reads_35 (fun H locs hP hD hS => ?_)
  have hP : va_P D vwCl [ob q_t 11 [.long v_t_trace, .ref q_t_text, .int v_t_typed, .ref q_t_told, .ref q_t_draft, .ref q_t_s, .ref q_t_images, .ref q_t_kept, .ref q_t_heard, .ref q_t_hours, .int v_t_noted, .int v_t_at, .int v_t_sort, .int v_t_start, .int v_t_value, .ref q_t_row, .ref q_t_best, .int v_t_bestMany, .int v_t_bestWorth, .int v_t_bestHour, .ref q_t_places, .ref q_t_pairs], ia C q_t_text 180 r_t_text, ia C q_t_draft 52 (upd (upd y4.2 2 (15 : Int32)) 3 (3 : Int32))] H := hP
  have hD : va_D A [ob q_t 11 [.long v_t_trace, .ref q_t_text, .int v_t_typed, .ref q_t_told, .ref q_t_draft, .ref q_t_s, .ref q_t_images, .ref q_t_kept, .ref q_t_heard, .ref q_t_hours, .int v_t_noted, .int v_t_at, .int v_t_sort, .int v_t_start, .int v_t_value, .ref q_t_row, .ref q_t_best, .int v_t_bestMany, .int v_t_bestWorth, .int v_t_bestHour, .ref q_t_places, .ref q_t_pairs], ia C q_t_text 180 r_t_text, ia C q_t_draft 52 (upd (upd y4.2 2 (15 : Int32)) 3 (3 : Int32))] := hD
  refine lv_aload_n hx hb dX11_reads_36 rfl (lv_at hl 1 rfl) ?_
  refine lv_iconst (v := (0 : Int32)) hx hb dX11_reads_37 (by decide) ?_
  refine va_put (D := D) (ci := 11) (v := .int (0 : Int32)) (ty := .int) (C := RX11) (T := TX11) (N := 22) hx hb hts inX11 tyX11 tyX11_ok nmX11 hown hK hP hD hS 0 rfl rfl 11 (by decide) (hts (.fieldLink RX11 62 "LentCourageModel" "at" "I") (List.mem_of_getElem? (i := 2) rfl)) (fun _ h9 => h9) rfl (tyX11_ok 11 (by decide)) rfl rfl (Nat.le_of_ble_eq_true rfl) dX11_reads_38 (fun H locs hP hD hS => ?_)
  have hP : va_P D vwCl [ob q_t 11 [.long v_t_trace, .ref q_t_text, .int v_t_typed, .ref q_t_told, .ref q_t_draft, .ref q_t_s, .ref q_t_images, .ref q_t_kept, .ref q_t_heard, .ref q_t_hours, .int v_t_noted, .int (0 : Int32), .int v_t_sort, .int v_t_start, .int v_t_value, .ref q_t_row, .ref q_t_best, .int v_t_bestMany, .int v_t_bestWorth, .int v_t_bestHour, .ref q_t_places, .ref q_t_pairs], ia C q_t_text 180 r_t_text, ia C q_t_draft 52 (upd (upd y4.2 2 (15 : Int32)) 3 (3 : Int32))] H := hP
  have hD : va_D A [ob q_t 11 [.long v_t_trace, .ref q_t_text, .int v_t_typed, .ref q_t_told, .ref q_t_draft, .ref q_t_s, .ref q_t_images, .ref q_t_kept, .ref q_t_heard, .ref q_t_hours, .int v_t_noted, .int (0 : Int32), .int v_t_sort, .int v_t_start, .int v_t_value, .ref q_t_row, .ref q_t_best, .int v_t_bestMany, .int v_t_bestWorth, .int v_t_bestHour, .ref q_t_places, .ref q_t_pairs], ia C q_t_text 180 r_t_text, ia C q_t_draft 52 (upd (upd y4.2 2 (15 : Int32)) 3 (3 : Int32))] := hD
  refine lv_aload_n hx hb dX11_reads_41 rfl (lv_at hl 1 rfl) ?_
  obtain ⟨o5, ho5, hf⟩ := of_bind hf
  refine c_V (wr := [ia C q_t_draft 52 (upd (upd y4.2 2 (15 : Int32)) 3 (3 : Int32))]) (W2 := [ob q_t 11 [.long v_t_trace, .ref q_t_text, .int v_t_typed, .ref q_t_told, .ref q_t_draft, .ref q_t_s, .ref q_t_images, .ref q_t_kept, .ref q_t_heard, .ref q_t_hours, .int v_t_noted, .int o5.1, .int o5.2.1, .int o5.2.2.1, .int o5.2.2.2, .ref q_t_row, .ref q_t_best, .int v_t_bestMany, .int v_t_bestWorth, .int v_t_bestHour, .ref q_t_places, .ref q_t_pairs], ia C q_t_text 180 r_t_text, ia C q_t_draft 52 (upd (upd y4.2 2 (15 : Int32)) 3 (3 : Int32))]) (cV_run ⟨hx, hb, hml, hown, hts⟩ (k_X11_token l D C q_t q_t_text q_t_told q_t_draft q_t_s q_t_images q_t_kept q_t_heard q_t_hours q_t_row q_t_best q_t_places q_t_pairs v_t_trace v_t_typed v_t_noted (0 : Int32) v_t_sort v_t_start v_t_value v_t_bestMany v_t_bestWorth v_t_bestHour r_t_text H.size o5 ho5) gX11_reads_X11_token rfl ⟨rfl, rfl⟩ hd_X11_token ⟨(Nat.le_of_ble_eq_true rfl), (Nat.le_of_ble_eq_true rfl)⟩ rfl hK (cut_in hK hP hD [0, 1] rfl (by decide)) (ci := 11) rfl rfl rfl hl.1 rfl (Nat.le_of_ble_eq_true rfl) dX11_reads_42 ⟨Nat.zero_le _, Nat.zero_le _⟩) hP hD hS hA [0, 1] [2] [1, 2, 0] rfl rfl (by decide) (by decide) rfl (by decide) (fun H locs hP hD hS => ?_)
  have hP : va_P D vwCl [ob q_t 11 [.long v_t_trace, .ref q_t_text, .int v_t_typed, .ref q_t_told, .ref q_t_draft, .ref q_t_s, .ref q_t_images, .ref q_t_kept, .ref q_t_heard, .ref q_t_hours, .int v_t_noted, .int o5.1, .int o5.2.1, .int o5.2.2.1, .int o5.2.2.2, .ref q_t_row, .ref q_t_best, .int v_t_bestMany, .int v_t_bestWorth, .int v_t_bestHour, .ref q_t_places, .ref q_t_pairs], ia C q_t_text 180 r_t_text, ia C q_t_draft 52 (upd (upd y4.2 2 (15 : Int32)) 3 (3 : Int32))] H := hP
  have hD : va_D A [ob q_t 11 [.long v_t_trace, .ref q_t_text, .int v_t_typed, .ref q_t_told, .ref q_t_draft, .ref q_t_s, .ref q_t_images, .ref q_t_kept, .ref q_t_heard, .ref q_t_hours, .int v_t_noted, .int o5.1, .int o5.2.1, .int o5.2.2.1, .int o5.2.2.2, .ref q_t_row, .ref q_t_best, .int v_t_bestMany, .int v_t_bestWorth, .int v_t_bestHour, .ref q_t_places, .ref q_t_pairs], ia C q_t_text 180 r_t_text, ia C q_t_draft 52 (upd (upd y4.2 2 (15 : Int32)) 3 (3 : Int32))] := hD
  obtain ⟨y13, hy13, hf⟩ := of_bind hf
  refine LP45 _ FU _ _ _ _ _ _ _ _ _ _ _ _ _ y13 hy13 H locs ls hP hD hS (lv_sub hl [0, 1] rfl) (fun H locs ls hz hP hD hS hl => ?_) (fun H locs ls hz hP hD hS hl => ?_) (fun H locs ls hz hP hD hS hl => ?_)
  · have hf := hf
    have hf := of_pos hf hz
    refine lv_iconst (v := (1 : Int32)) hx hb dX11_reads_92 (by decide) ?_
    obtain rfl := Option.some.inj hf
    exact ret_Z hx hb hr hlocks okZ_1 hK hP hD hS dX11_reads_93
  · have hf := hf
    have hf := of_neg hf (by rw [hz]; decide)
    have hf := of_pos hf hz
    refine lv_iconst (v := (0 : Int32)) hx hb dX11_reads_59 (by decide) ?_
    obtain rfl := Option.some.inj hf
    exact ret_Z hx hb hr hlocks okZ_0 hK hP hD hS dX11_reads_60
  · have hf := hf
    have hf := of_neg hf (by rw [hz]; decide)
    have hf := of_neg hf (by rw [hz]; decide)
    refine lv_iconst (v := (0 : Int32)) hx hb dX11_reads_73 (by decide) ?_
    obtain rfl := Option.some.inj hf
    exact ret_Z hx hb hr hlocks okZ_0 hK hP hD hS dX11_reads_74

def fX11_begins_2 (r_t_draft_2 : Nat → Int32) : Nat → Int32 → (Nat → Int32) → Option (Int32 × (Nat → Int32))
  | 0, _, _ => none
  | n + 1, w1_2, r_t_told_2 => (if (52 : Int32) ≤ w1_2 then some (w1_2, r_t_told_2) else chk (vin w1_2 52) (lt_ (r_t_draft_2 w1_2.toNatClampNeg) (fun z3 => lt_ (w1_2 + (1 : Int32)) (fun z4 => fX11_begins_2 r_t_draft_2 n z4 (upd r_t_told_2 w1_2.toNatClampNeg z3)))))
def fX11_begins_28 (r_t_told_28 : Nat → Int32) : Nat → Int32 → (Nat → Int32) → Option (Int32 × (Nat → Int32))
  | 0, _, _ => none
  | n + 1, w1_28, r_t_s_28 => (if (23 : Int32) < w1_28 then some (w1_28, r_t_s_28) else (fX11_in w1_28 (4 : Int32) (9 : Int32)).bind (fun o7 => ((if o7 = 0 then some (0 : Int32) else chk (vin (((6 : Int32) + w1_28) - (4 : Int32)) 52) (some (r_t_told_28 (((6 : Int32) + w1_28) - (4 : Int32)).toNatClampNeg)))).bind (fun j8 => chk (vin w1_28 254) (lt_ (w1_28 + (1 : Int32)) (fun z12 => fX11_begins_28 r_t_told_28 n z12 (upd r_t_s_28 w1_28.toNatClampNeg j8))))))
def fX11_begins (r_t_told : Nat → Int32) (r_t_draft : Nat → Int32) (r_t_s : Nat → Int32) (r_t_kept : Nat → Int32) : Option (Int32 × (Nat → Int32) × (Nat → Int32) × (Nat → Int32)) :=
  (fX11_begins_2 r_t_draft FU (0 : Int32) r_t_told).bind (fun y5 => (fX11_begins_28 y5.2 FU (0 : Int32) r_t_s).bind (fun y13 => some ((0 : Int32), y5.2, (upd y13.2 1 (-9 : Int32)), (upd (upd r_t_kept 0 (0 : Int32)) 1 (0 : Int32)))))
theorem hd_X11_begins : yX11_begins.cls = RX11 ∧ yX11_begins.cls ≠ "java/lang/invoke/MethodHandle" ∧ yX11_begins.cls ≠ "java/lang/invoke/VarHandle" ∧ (parseMethodDescriptor yX11_begins.desc).map (fun d => d.parameters.length) = some 0 := by decide +kernel
set_option maxHeartbeats 4000000 in
set_option maxRecDepth 100000 in
theorem k_X11_begins (l : Launch) (D : va_G) (C : Nat → ClassId) (q_t : Nat) (q_t_text : Nat) (q_t_told : Nat) (q_t_draft : Nat) (q_t_s : Nat) (q_t_images : Nat) (q_t_kept : Nat) (q_t_heard : Nat) (q_t_hours : Nat) (q_t_row : Nat) (q_t_best : Nat) (q_t_places : Nat) (q_t_pairs : Nat) (v_t_trace : Int64) (v_t_typed : Int32) (v_t_noted : Int32) (v_t_at : Int32) (v_t_sort : Int32) (v_t_start : Int32) (v_t_value : Int32) (v_t_bestMany : Int32) (v_t_bestWorth : Int32) (v_t_bestHour : Int32) (r_t_told : Nat → Int32) (r_t_draft : Nat → Int32) (r_t_s : Nat → Int32) (r_t_kept : Nat → Int32) (sz : Nat) (out : Int32 × (Nat → Int32) × (Nat → Int32) × (Nat → Int32)) (hf : fX11_begins r_t_told r_t_draft r_t_s r_t_kept = some out) : MV l yX11_begins wsX11_begins ({ frames := 1, cells := 0, slots := 0, locals := 22 }) D C [.ref q_t] [ob q_t 11 [.long v_t_trace, .ref q_t_text, .int v_t_typed, .ref q_t_told, .ref q_t_draft, .ref q_t_s, .ref q_t_images, .ref q_t_kept, .ref q_t_heard, .ref q_t_hours, .int v_t_noted, .int v_t_at, .int v_t_sort, .int v_t_start, .int v_t_value, .ref q_t_row, .ref q_t_best, .int v_t_bestMany, .int v_t_bestWorth, .int v_t_bestHour, .ref q_t_places, .ref q_t_pairs], ia C q_t_told 52 r_t_told, ia C q_t_draft 52 r_t_draft, ia C q_t_s 254 r_t_s, za C q_t_kept 2 r_t_kept] [ob q_t 11 [.long v_t_trace, .ref q_t_text, .int v_t_typed, .ref q_t_told, .ref q_t_draft, .ref q_t_s, .ref q_t_images, .ref q_t_kept, .ref q_t_heard, .ref q_t_hours, .int out.1, .int v_t_at, .int v_t_sort, .int v_t_start, .int v_t_value, .ref q_t_row, .ref q_t_best, .int v_t_bestMany, .int v_t_bestWorth, .int v_t_bestHour, .ref q_t_places, .ref q_t_pairs], ia C q_t_told 52 out.2.1, ia C q_t_draft 52 r_t_draft, ia C q_t_s 254 out.2.2.1, za C q_t_kept 2 out.2.2.2] sz := by
  unfold fX11_begins at hf
  refine en_V (by decide) rfl (Nat.le_of_ble_eq_true rfl) ?_
  intro p e s m below meth c A ls H locs hx hb hr hlocks hml hts hown hK hP hD hS hA hl
  have hl : lv_has ls 2 [(0, .ref q_t)] := hl
  have inX11 : ∀ w ∈ u_ws RX11 TX11 22, w ∈ wsX11_begins := fun w h => List.mem_cons_of_mem _ (List.mem_append_right _ h)
  have LP2 : ∀ (Q : State → Prop) (n : Nat) (w1_2 : Int32) (v_t_trace_2 : Int64) (v_t_typed_2 : Int32) (v_t_noted_2 : Int32) (v_t_at_2 : Int32) (v_t_sort_2 : Int32) (v_t_start_2 : Int32) (v_t_value_2 : Int32) (v_t_bestMany_2 : Int32) (v_t_bestWorth_2 : Int32) (v_t_bestHour_2 : Int32) (r_t_told_2 : Nat → Int32) (r_t_draft_2 : Nat → Int32) (r_t_s_2 : Nat → Int32) (r_t_kept_2 : Nat → Int32) (y_2 : Int32 × (Nat → Int32)), fX11_begins_2 r_t_draft_2 n w1_2 r_t_told_2 = some y_2 → ∀ (H : Heap) (locs : List Loc) (ls : Array Slot), va_P D vwCl [ob q_t 11 [.long v_t_trace_2, .ref q_t_text, .int v_t_typed_2, .ref q_t_told, .ref q_t_draft, .ref q_t_s, .ref q_t_images, .ref q_t_kept, .ref q_t_heard, .ref q_t_hours, .int v_t_noted_2, .int v_t_at_2, .int v_t_sort_2, .int v_t_start_2, .int v_t_value_2, .ref q_t_row, .ref q_t_best, .int v_t_bestMany_2, .int v_t_bestWorth_2, .int v_t_bestHour_2, .ref q_t_places, .ref q_t_pairs], ia C q_t_told 52 r_t_told_2, ia C q_t_draft 52 r_t_draft_2, ia C q_t_s 254 r_t_s_2, za C q_t_kept 2 r_t_kept_2] H → va_D A [ob q_t 11 [.long v_t_trace_2, .ref q_t_text, .int v_t_typed_2, .ref q_t_told, .ref q_t_draft, .ref q_t_s, .ref q_t_images, .ref q_t_kept, .ref q_t_heard, .ref q_t_hours, .int v_t_noted_2, .int v_t_at_2, .int v_t_sort_2, .int v_t_start_2, .int v_t_value_2, .ref q_t_row, .ref q_t_best, .int v_t_bestMany_2, .int v_t_bestWorth_2, .int v_t_bestHour_2, .ref q_t_places, .ref q_t_pairs], ia C q_t_told 52 r_t_told_2, ia C q_t_draft 52 r_t_draft_2, ia C q_t_s 254 r_t_s_2, za C q_t_kept 2 r_t_kept_2] → va_S A s.heap H locs → lv_has ls 2 [(1, .int w1_2), (0, .ref q_t)] → (∀ (H : Heap) (locs : List Loc) (ls : Array Slot), va_P D vwCl [ob q_t 11 [.long v_t_trace_2, .ref q_t_text, .int v_t_typed_2, .ref q_t_told, .ref q_t_draft, .ref q_t_s, .ref q_t_images, .ref q_t_kept, .ref q_t_heard, .ref q_t_hours, .int v_t_noted_2, .int v_t_at_2, .int v_t_sort_2, .int v_t_start_2, .int v_t_value_2, .ref q_t_row, .ref q_t_best, .int v_t_bestMany_2, .int v_t_bestWorth_2, .int v_t_bestHour_2, .ref q_t_places, .ref q_t_pairs], ia C q_t_told 52 y_2.2, ia C q_t_draft 52 r_t_draft_2, ia C q_t_s 254 r_t_s_2, za C q_t_kept 2 r_t_kept_2] H → va_D A [ob q_t 11 [.long v_t_trace_2, .ref q_t_text, .int v_t_typed_2, .ref q_t_told, .ref q_t_draft, .ref q_t_s, .ref q_t_images, .ref q_t_kept, .ref q_t_heard, .ref q_t_hours, .int v_t_noted_2, .int v_t_at_2, .int v_t_sort_2, .int v_t_start_2, .int v_t_value_2, .ref q_t_row, .ref q_t_best, .int v_t_bestMany_2, .int v_t_bestWorth_2, .int v_t_bestHour_2, .ref q_t_places, .ref q_t_pairs], ia C q_t_told 52 y_2.2, ia C q_t_draft 52 r_t_draft_2, ia C q_t_s 254 r_t_s_2, za C q_t_kept 2 r_t_kept_2] → va_S A s.heap H locs → lv_has ls 2 [(1, .int y_2.1), (0, .ref q_t)] → W p l e ({ frames := 1, cells := 0, slots := 0, locals := 22 } : Room) s m ([.ref q_t] : List Value).toArray below meth c H locs 0 0 Q (F0 m 26 ls [])) → W p l e ({ frames := 1, cells := 0, slots := 0, locals := 22 } : Room) s m ([.ref q_t] : List Value).toArray below meth c H locs 0 0 Q (F0 m 2 ls []) := by
    intro Q n
    induction n with
    | zero =>
      intro w1_2 v_t_trace_2 v_t_typed_2 v_t_noted_2 v_t_at_2 v_t_sort_2 v_t_start_2 v_t_value_2 v_t_bestMany_2 v_t_bestWorth_2 v_t_bestHour_2 r_t_told_2 r_t_draft_2 r_t_s_2 r_t_kept_2 y_2 hf
      rw [fX11_begins_2] at hf
      cases hf
    | succ n ih =>
      intro w1_2 v_t_trace_2 v_t_typed_2 v_t_noted_2 v_t_at_2 v_t_sort_2 v_t_start_2 v_t_value_2 v_t_bestMany_2 v_t_bestWorth_2 v_t_bestHour_2 r_t_told_2 r_t_draft_2 r_t_s_2 r_t_kept_2 y_2 hf H locs ls hP hD hS hl KX0
      rw [fX11_begins_2] at hf
      refine lv_iload_n hx hb dX11_begins_2 rfl (lv_at hl 0 rfl) ?_
      refine lv_bipush (v := (52 : Int32)) hx hb dX11_begins_3 (by decide) ?_
      refine lv_icmp_ge (tgt := 26) hx hb dX11_begins_5 (by decide) (fun c1 => ?_) (fun c1 => ?_)
      · have hf := of_pos hf c1
        obtain rfl := Option.some.inj hf
        exact KX0 _ _ _ hP hD hS (lv_sub hl [0, 1] rfl)
      · have hf := of_neg hf c1
        refine lv_aload_n hx hb dX11_begins_8 rfl (lv_at hl 1 rfl) ?_
        refine va_get (D := D) (ci := 11) (v := .ref q_t_told) (C := RX11) (T := TX11) (N := 22) hx hb hts inX11 hown hK hP 0 rfl rfl 3 (by decide) (hts (.fieldLink RX11 13 "LentCourageModel" "told" "[I") (List.mem_of_getElem? (i := 1) rfl)) (fun _ h9 => h9) rfl dX11_begins_9 ?_
        refine lv_iload_n hx hb dX11_begins_12 rfl (lv_at hl 0 rfl) ?_
        refine lv_aload_n hx hb dX11_begins_13 rfl (lv_at hl 1 rfl) ?_
        refine va_get (D := D) (ci := 11) (v := .ref q_t_draft) (C := RX11) (T := TX11) (N := 22) hx hb hts inX11 hown hK hP 0 rfl rfl 4 (by decide) (hts (.fieldLink RX11 16 "LentCourageModel" "draft" "[I") (List.mem_of_getElem? (i := 2) rfl)) (fun _ h9 => h9) rfl dX11_begins_14 ?_
        refine lv_iload_n hx hb dX11_begins_17 rfl (lv_at hl 0 rfl) ?_
        obtain ⟨h2, hf⟩ := of_chk hf
        refine va_iald hx hb hK hP 2 0 rfl rfl h2 dX11_begins_18 ?_
        refine lv_topi (fun z3 ez3 => ?_)
        have hf := of_lt hf ez3
        refine va_iast hx hb hK hP hD hS 1 0 rfl rfl h2 dX11_begins_19 (fun H locs hP hD hS => ?_)
        have hP : va_P D vwCl [ob q_t 11 [.long v_t_trace_2, .ref q_t_text, .int v_t_typed_2, .ref q_t_told, .ref q_t_draft, .ref q_t_s, .ref q_t_images, .ref q_t_kept, .ref q_t_heard, .ref q_t_hours, .int v_t_noted_2, .int v_t_at_2, .int v_t_sort_2, .int v_t_start_2, .int v_t_value_2, .ref q_t_row, .ref q_t_best, .int v_t_bestMany_2, .int v_t_bestWorth_2, .int v_t_bestHour_2, .ref q_t_places, .ref q_t_pairs], ia C q_t_told 52 (upd r_t_told_2 w1_2.toNatClampNeg z3), ia C q_t_draft 52 r_t_draft_2, ia C q_t_s 254 r_t_s_2, za C q_t_kept 2 r_t_kept_2] H := hP
        have hD : va_D A [ob q_t 11 [.long v_t_trace_2, .ref q_t_text, .int v_t_typed_2, .ref q_t_told, .ref q_t_draft, .ref q_t_s, .ref q_t_images, .ref q_t_kept, .ref q_t_heard, .ref q_t_hours, .int v_t_noted_2, .int v_t_at_2, .int v_t_sort_2, .int v_t_start_2, .int v_t_value_2, .ref q_t_row, .ref q_t_best, .int v_t_bestMany_2, .int v_t_bestWorth_2, .int v_t_bestHour_2, .ref q_t_places, .ref q_t_pairs], ia C q_t_told 52 (upd r_t_told_2 w1_2.toNatClampNeg z3), ia C q_t_draft 52 r_t_draft_2, ia C q_t_s 254 r_t_s_2, za C q_t_kept 2 r_t_kept_2] := hD
        obtain ⟨z4, ez4⟩ : ∃ y : Int32, y = (w1_2 + (1 : Int32)) := ⟨_, rfl⟩
        have hf := of_lt hf ez4
        refine lv_iinc (v := z4) (lv' := [(1, .int z4), (0, .ref q_t)]) hx hb dX11_begins_20 hl (k := 0) rfl (by rw [ez4]; rfl) (by decide) rfl (fun ls hl => ?_)
        refine lv_goto (tgt := 2) hx hb dX11_begins_23 (by decide) ?_
        exact ih _ _ _ _ _ _ _ _ _ _ _ _ _ _ _ _ hf H locs ls hP hD hS (lv_sub hl [0, 1] rfl) KX0
  have LP28 : ∀ (Q : State → Prop) (n : Nat) (w1_28 : Int32) (v_t_trace_28 : Int64) (v_t_typed_28 : Int32) (v_t_noted_28 : Int32) (v_t_at_28 : Int32) (v_t_sort_28 : Int32) (v_t_start_28 : Int32) (v_t_value_28 : Int32) (v_t_bestMany_28 : Int32) (v_t_bestWorth_28 : Int32) (v_t_bestHour_28 : Int32) (r_t_told_28 : Nat → Int32) (r_t_draft_28 : Nat → Int32) (r_t_s_28 : Nat → Int32) (r_t_kept_28 : Nat → Int32) (y_28 : Int32 × (Nat → Int32)), fX11_begins_28 r_t_told_28 n w1_28 r_t_s_28 = some y_28 → ∀ (H : Heap) (locs : List Loc) (ls : Array Slot), va_P D vwCl [ob q_t 11 [.long v_t_trace_28, .ref q_t_text, .int v_t_typed_28, .ref q_t_told, .ref q_t_draft, .ref q_t_s, .ref q_t_images, .ref q_t_kept, .ref q_t_heard, .ref q_t_hours, .int v_t_noted_28, .int v_t_at_28, .int v_t_sort_28, .int v_t_start_28, .int v_t_value_28, .ref q_t_row, .ref q_t_best, .int v_t_bestMany_28, .int v_t_bestWorth_28, .int v_t_bestHour_28, .ref q_t_places, .ref q_t_pairs], ia C q_t_told 52 r_t_told_28, ia C q_t_draft 52 r_t_draft_28, ia C q_t_s 254 r_t_s_28, za C q_t_kept 2 r_t_kept_28] H → va_D A [ob q_t 11 [.long v_t_trace_28, .ref q_t_text, .int v_t_typed_28, .ref q_t_told, .ref q_t_draft, .ref q_t_s, .ref q_t_images, .ref q_t_kept, .ref q_t_heard, .ref q_t_hours, .int v_t_noted_28, .int v_t_at_28, .int v_t_sort_28, .int v_t_start_28, .int v_t_value_28, .ref q_t_row, .ref q_t_best, .int v_t_bestMany_28, .int v_t_bestWorth_28, .int v_t_bestHour_28, .ref q_t_places, .ref q_t_pairs], ia C q_t_told 52 r_t_told_28, ia C q_t_draft 52 r_t_draft_28, ia C q_t_s 254 r_t_s_28, za C q_t_kept 2 r_t_kept_28] → va_S A s.heap H locs → lv_has ls 2 [(1, .int w1_28), (0, .ref q_t)] → (∀ (H : Heap) (locs : List Loc) (ls : Array Slot), va_P D vwCl [ob q_t 11 [.long v_t_trace_28, .ref q_t_text, .int v_t_typed_28, .ref q_t_told, .ref q_t_draft, .ref q_t_s, .ref q_t_images, .ref q_t_kept, .ref q_t_heard, .ref q_t_hours, .int v_t_noted_28, .int v_t_at_28, .int v_t_sort_28, .int v_t_start_28, .int v_t_value_28, .ref q_t_row, .ref q_t_best, .int v_t_bestMany_28, .int v_t_bestWorth_28, .int v_t_bestHour_28, .ref q_t_places, .ref q_t_pairs], ia C q_t_told 52 r_t_told_28, ia C q_t_draft 52 r_t_draft_28, ia C q_t_s 254 y_28.2, za C q_t_kept 2 r_t_kept_28] H → va_D A [ob q_t 11 [.long v_t_trace_28, .ref q_t_text, .int v_t_typed_28, .ref q_t_told, .ref q_t_draft, .ref q_t_s, .ref q_t_images, .ref q_t_kept, .ref q_t_heard, .ref q_t_hours, .int v_t_noted_28, .int v_t_at_28, .int v_t_sort_28, .int v_t_start_28, .int v_t_value_28, .ref q_t_row, .ref q_t_best, .int v_t_bestMany_28, .int v_t_bestWorth_28, .int v_t_bestHour_28, .ref q_t_places, .ref q_t_pairs], ia C q_t_told 52 r_t_told_28, ia C q_t_draft 52 r_t_draft_28, ia C q_t_s 254 y_28.2, za C q_t_kept 2 r_t_kept_28] → va_S A s.heap H locs → lv_has ls 2 [(1, .int y_28.1), (0, .ref q_t)] → W p l e ({ frames := 1, cells := 0, slots := 0, locals := 22 } : Room) s m ([.ref q_t] : List Value).toArray below meth c H locs 0 0 Q (F0 m 71 ls [])) → W p l e ({ frames := 1, cells := 0, slots := 0, locals := 22 } : Room) s m ([.ref q_t] : List Value).toArray below meth c H locs 0 0 Q (F0 m 28 ls []) := by
    intro Q n
    induction n with
    | zero =>
      intro w1_28 v_t_trace_28 v_t_typed_28 v_t_noted_28 v_t_at_28 v_t_sort_28 v_t_start_28 v_t_value_28 v_t_bestMany_28 v_t_bestWorth_28 v_t_bestHour_28 r_t_told_28 r_t_draft_28 r_t_s_28 r_t_kept_28 y_28 hf
      rw [fX11_begins_28] at hf
      cases hf
    | succ n ih =>
      intro w1_28 v_t_trace_28 v_t_typed_28 v_t_noted_28 v_t_at_28 v_t_sort_28 v_t_start_28 v_t_value_28 v_t_bestMany_28 v_t_bestWorth_28 v_t_bestHour_28 r_t_told_28 r_t_draft_28 r_t_s_28 r_t_kept_28 y_28 hf H locs ls hP hD hS hl KX0
      rw [fX11_begins_28] at hf
      refine lv_iload_n hx hb dX11_begins_28 rfl (lv_at hl 0 rfl) ?_
      refine lv_bipush (v := (23 : Int32)) hx hb dX11_begins_29 (by decide) ?_
      refine lv_icmp_gt (tgt := 71) hx hb dX11_begins_31 (by decide) (fun c6 => ?_) (fun c6 => ?_)
      · have hf := of_pos hf c6
        obtain rfl := Option.some.inj hf
        exact KX0 _ _ _ hP hD hS (lv_sub hl [0, 1] rfl)
      · have hf := of_neg hf c6
        refine lv_aload_n hx hb dX11_begins_34 rfl (lv_at hl 1 rfl) ?_
        refine va_get (D := D) (ci := 11) (v := .ref q_t_s) (C := RX11) (T := TX11) (N := 22) hx hb hts inX11 hown hK hP 0 rfl rfl 5 (by decide) (hts (.fieldLink RX11 19 "LentCourageModel" "s" "[I") (List.mem_of_getElem? (i := 3) rfl)) (fun _ h9 => h9) rfl dX11_begins_35 ?_
        refine lv_iload_n hx hb dX11_begins_38 rfl (lv_at hl 0 rfl) ?_
        refine lv_iload_n hx hb dX11_begins_39 rfl (lv_at hl 0 rfl) ?_
        refine lv_iconst (v := (4 : Int32)) hx hb dX11_begins_40 (by decide) ?_
        refine lv_bipush (v := (9 : Int32)) hx hb dX11_begins_41 (by decide) ?_
        obtain ⟨o7, ho7, hf⟩ := of_bind hf
        refine c_I (wr := [ob q_t 11 [.long v_t_trace_28, .ref q_t_text, .int v_t_typed_28, .ref q_t_told, .ref q_t_draft, .ref q_t_s, .ref q_t_images, .ref q_t_kept, .ref q_t_heard, .ref q_t_hours, .int v_t_noted_28, .int v_t_at_28, .int v_t_sort_28, .int v_t_start_28, .int v_t_value_28, .ref q_t_row, .ref q_t_best, .int v_t_bestMany_28, .int v_t_bestWorth_28, .int v_t_bestHour_28, .ref q_t_places, .ref q_t_pairs], ia C q_t_told 52 r_t_told_28, ia C q_t_draft 52 r_t_draft_28, ia C q_t_s 254 r_t_s_28, za C q_t_kept 2 r_t_kept_28]) (W2 := [ob q_t 11 [.long v_t_trace_28, .ref q_t_text, .int v_t_typed_28, .ref q_t_told, .ref q_t_draft, .ref q_t_s, .ref q_t_images, .ref q_t_kept, .ref q_t_heard, .ref q_t_hours, .int v_t_noted_28, .int v_t_at_28, .int v_t_sort_28, .int v_t_start_28, .int v_t_value_28, .ref q_t_row, .ref q_t_best, .int v_t_bestMany_28, .int v_t_bestWorth_28, .int v_t_bestHour_28, .ref q_t_places, .ref q_t_pairs], ia C q_t_told 52 r_t_told_28, ia C q_t_draft 52 r_t_draft_28, ia C q_t_s 254 r_t_s_28, za C q_t_kept 2 r_t_kept_28]) (cS_run ⟨hx, hb, hml, hown, hts⟩ (k_X11_in l D C w1_28 (4 : Int32) (9 : Int32) H.size o7 ho7) gX11_begins_X11_in rfl ⟨rfl, rfl⟩ hd_X11_in ⟨(Nat.le_of_ble_eq_true rfl), (Nat.le_of_ble_eq_true rfl)⟩ rfl hK (cut_in hK hP hD [] rfl (by decide)) hl.1 rfl (Nat.le_of_ble_eq_true rfl) dX11_begins_43 ⟨Nat.zero_le _, Nat.zero_le _⟩) hP hD hS hA [] [0, 1, 2, 3, 4] [0, 1, 2, 3, 4] rfl rfl (by decide) (by decide) rfl (by decide) (fun H locs hP hD hS => ?_)
        have hP : va_P D vwCl [ob q_t 11 [.long v_t_trace_28, .ref q_t_text, .int v_t_typed_28, .ref q_t_told, .ref q_t_draft, .ref q_t_s, .ref q_t_images, .ref q_t_kept, .ref q_t_heard, .ref q_t_hours, .int v_t_noted_28, .int v_t_at_28, .int v_t_sort_28, .int v_t_start_28, .int v_t_value_28, .ref q_t_row, .ref q_t_best, .int v_t_bestMany_28, .int v_t_bestWorth_28, .int v_t_bestHour_28, .ref q_t_places, .ref q_t_pairs], ia C q_t_told 52 r_t_told_28, ia C q_t_draft 52 r_t_draft_28, ia C q_t_s 254 r_t_s_28, za C q_t_kept 2 r_t_kept_28] H := hP
        have hD : va_D A [ob q_t 11 [.long v_t_trace_28, .ref q_t_text, .int v_t_typed_28, .ref q_t_told, .ref q_t_draft, .ref q_t_s, .ref q_t_images, .ref q_t_kept, .ref q_t_heard, .ref q_t_hours, .int v_t_noted_28, .int v_t_at_28, .int v_t_sort_28, .int v_t_start_28, .int v_t_value_28, .ref q_t_row, .ref q_t_best, .int v_t_bestMany_28, .int v_t_bestWorth_28, .int v_t_bestHour_28, .ref q_t_places, .ref q_t_pairs], ia C q_t_told 52 r_t_told_28, ia C q_t_draft 52 r_t_draft_28, ia C q_t_s 254 r_t_s_28, za C q_t_kept 2 r_t_kept_28] := hD
        obtain ⟨j8, hrj8, hf⟩ := of_bind hf
        refine jn (fun H L g => ∃ ls, g = F0 m 64 ls [.int j8, .int w1_28, .ref q_t_s] ∧ va_P D vwCl [ob q_t 11 [.long v_t_trace_28, .ref q_t_text, .int v_t_typed_28, .ref q_t_told, .ref q_t_draft, .ref q_t_s, .ref q_t_images, .ref q_t_kept, .ref q_t_heard, .ref q_t_hours, .int v_t_noted_28, .int v_t_at_28, .int v_t_sort_28, .int v_t_start_28, .int v_t_value_28, .ref q_t_row, .ref q_t_best, .int v_t_bestMany_28, .int v_t_bestWorth_28, .int v_t_bestHour_28, .ref q_t_places, .ref q_t_pairs], ia C q_t_told 52 r_t_told_28, ia C q_t_draft 52 r_t_draft_28, ia C q_t_s 254 r_t_s_28, za C q_t_kept 2 r_t_kept_28] H ∧ va_D A [ob q_t 11 [.long v_t_trace_28, .ref q_t_text, .int v_t_typed_28, .ref q_t_told, .ref q_t_draft, .ref q_t_s, .ref q_t_images, .ref q_t_kept, .ref q_t_heard, .ref q_t_hours, .int v_t_noted_28, .int v_t_at_28, .int v_t_sort_28, .int v_t_start_28, .int v_t_value_28, .ref q_t_row, .ref q_t_best, .int v_t_bestMany_28, .int v_t_bestWorth_28, .int v_t_bestHour_28, .ref q_t_places, .ref q_t_pairs], ia C q_t_told 52 r_t_told_28, ia C q_t_draft 52 r_t_draft_28, ia C q_t_s 254 r_t_s_28, za C q_t_kept 2 r_t_kept_28] ∧ va_S A s.heap H L ∧ lv_has ls 2 [(1, .int w1_28), (0, .ref q_t)]) (fun H locs g hI => ?_) (fun Jj8 => ?_)
        · obtain ⟨ls, rfl, hP, hD, hS, hl⟩ := hI
          obtain ⟨h11, hf⟩ := of_chk hf
          refine va_iast hx hb hK hP hD hS 3 0 rfl rfl h11 dX11_begins_64 (fun H locs hP hD hS => ?_)
          have hP : va_P D vwCl [ob q_t 11 [.long v_t_trace_28, .ref q_t_text, .int v_t_typed_28, .ref q_t_told, .ref q_t_draft, .ref q_t_s, .ref q_t_images, .ref q_t_kept, .ref q_t_heard, .ref q_t_hours, .int v_t_noted_28, .int v_t_at_28, .int v_t_sort_28, .int v_t_start_28, .int v_t_value_28, .ref q_t_row, .ref q_t_best, .int v_t_bestMany_28, .int v_t_bestWorth_28, .int v_t_bestHour_28, .ref q_t_places, .ref q_t_pairs], ia C q_t_told 52 r_t_told_28, ia C q_t_draft 52 r_t_draft_28, ia C q_t_s 254 (upd r_t_s_28 w1_28.toNatClampNeg j8), za C q_t_kept 2 r_t_kept_28] H := hP
          have hD : va_D A [ob q_t 11 [.long v_t_trace_28, .ref q_t_text, .int v_t_typed_28, .ref q_t_told, .ref q_t_draft, .ref q_t_s, .ref q_t_images, .ref q_t_kept, .ref q_t_heard, .ref q_t_hours, .int v_t_noted_28, .int v_t_at_28, .int v_t_sort_28, .int v_t_start_28, .int v_t_value_28, .ref q_t_row, .ref q_t_best, .int v_t_bestMany_28, .int v_t_bestWorth_28, .int v_t_bestHour_28, .ref q_t_places, .ref q_t_pairs], ia C q_t_told 52 r_t_told_28, ia C q_t_draft 52 r_t_draft_28, ia C q_t_s 254 (upd r_t_s_28 w1_28.toNatClampNeg j8), za C q_t_kept 2 r_t_kept_28] := hD
          obtain ⟨z12, ez12⟩ : ∃ y : Int32, y = (w1_28 + (1 : Int32)) := ⟨_, rfl⟩
          have hf := of_lt hf ez12
          refine lv_iinc (v := z12) (lv' := [(1, .int z12), (0, .ref q_t)]) hx hb dX11_begins_65 hl (k := 0) rfl (by rw [ez12]; rfl) (by decide) rfl (fun ls hl => ?_)
          refine lv_goto (tgt := 28) hx hb dX11_begins_68 (by decide) ?_
          exact ih _ _ _ _ _ _ _ _ _ _ _ _ _ _ _ _ hf H locs ls hP hD hS (lv_sub hl [0, 1] rfl) KX0
        · have hf := hrj8
          refine lv_if_eq (tgt := 63) hx hb dX11_begins_46 (by decide) (fun c9 => ?_) (fun c9 => ?_)
          · have hf := of_pos hf c9
            refine lv_iconst (v := (0 : Int32)) hx hb dX11_begins_63 (by decide) ?_
            obtain rfl := Option.some.inj hf
            exact Jj8 _ _ _ ⟨_, rfl, hP, hD, hS, lv_sub hl [0, 1] rfl⟩
          · have hf := of_neg hf c9
            refine lv_aload_n hx hb dX11_begins_49 rfl (lv_at hl 1 rfl) ?_
            refine va_get (D := D) (ci := 11) (v := .ref q_t_told) (C := RX11) (T := TX11) (N := 22) hx hb hts inX11 hown hK hP 0 rfl rfl 3 (by decide) (hts (.fieldLink RX11 13 "LentCourageModel" "told" "[I") (List.mem_of_getElem? (i := 1) rfl)) (fun _ h9 => h9) rfl dX11_begins_50 ?_
            refine lv_bipush (v := (6 : Int32)) hx hb dX11_begins_53 (by decide) ?_
            refine lv_iload_n hx hb dX11_begins_55 rfl (lv_at hl 0 rfl) ?_
            refine lv_iadd hx hb dX11_begins_56 ?_
            refine lv_iconst (v := (4 : Int32)) hx hb dX11_begins_57 (by decide) ?_
            refine lv_isub hx hb dX11_begins_58 ?_
            obtain ⟨h10, hf⟩ := of_chk hf
            refine va_iald hx hb hK hP 1 0 rfl rfl h10 dX11_begins_59 ?_
            refine lv_goto (tgt := 64) hx hb dX11_begins_60 (by decide) ?_
            obtain rfl := Option.some.inj hf
            exact Jj8 _ _ _ ⟨_, rfl, hP, hD, hS, lv_sub hl [0, 1] rfl⟩
  refine lv_iconst (v := (0 : Int32)) hx hb dX11_begins_0 (by decide) ?_
  refine lv_istore_n (lv' := [(1, .int (0 : Int32)), (0, .ref q_t)]) hx hb dX11_begins_1 rfl hl (by decide) rfl (fun ls hl => ?_)
  obtain ⟨y5, hy5, hf⟩ := of_bind hf
  refine LP2 _ FU _ _ _ _ _ _ _ _ _ _ _ _ _ _ _ y5 hy5 H locs ls hP hD hS (lv_sub hl [0, 1] rfl) (fun H locs ls hP hD hS hl => ?_)
  refine lv_iconst (v := (0 : Int32)) hx hb dX11_begins_26 (by decide) ?_
  refine lv_istore_n (lv' := [(1, .int (0 : Int32)), (0, .ref q_t)]) hx hb dX11_begins_27 rfl hl (by decide) rfl (fun ls hl => ?_)
  obtain ⟨y13, hy13, hf⟩ := of_bind hf
  refine LP28 _ FU _ _ _ _ _ _ _ _ _ _ _ _ _ _ _ y13 hy13 H locs ls hP hD hS (lv_sub hl [0, 1] rfl) (fun H locs ls hP hD hS hl => ?_)
  refine lv_aload_n hx hb dX11_begins_71 rfl (lv_at hl 1 rfl) ?_
  refine va_get (D := D) (ci := 11) (v := .ref q_t_s) (C := RX11) (T := TX11) (N := 22) hx hb hts inX11 hown hK hP 0 rfl rfl 5 (by decide) (hts (.fieldLink RX11 19 "LentCourageModel" "s" "[I") (List.mem_of_getElem? (i := 3) rfl)) (fun _ h9 => h9) rfl dX11_begins_72 ?_
  refine lv_iconst (v := (1 : Int32)) hx hb dX11_begins_75 (by decide) ?_
  refine lv_bipush (v := (-9 : Int32)) hx hb dX11_begins_76 (by decide) ?_
  refine st_IK hx hb hK hP hD hS 3 0 rfl rfl (k := 1) (by decide) (by decide) (by decide) dX11_begins_78 (fun H locs hP hD hS => ?_)
  have hP : va_P D vwCl [ob q_t 11 [.long v_t_trace, .ref q_t_text, .int v_t_typed, .ref q_t_told, .ref q_t_draft, .ref q_t_s, .ref q_t_images, .ref q_t_kept, .ref q_t_heard, .ref q_t_hours, .int v_t_noted, .int v_t_at, .int v_t_sort, .int v_t_start, .int v_t_value, .ref q_t_row, .ref q_t_best, .int v_t_bestMany, .int v_t_bestWorth, .int v_t_bestHour, .ref q_t_places, .ref q_t_pairs], ia C q_t_told 52 y5.2, ia C q_t_draft 52 r_t_draft, ia C q_t_s 254 (upd y13.2 1 (-9 : Int32)), za C q_t_kept 2 r_t_kept] H := hP
  have hD : va_D A [ob q_t 11 [.long v_t_trace, .ref q_t_text, .int v_t_typed, .ref q_t_told, .ref q_t_draft, .ref q_t_s, .ref q_t_images, .ref q_t_kept, .ref q_t_heard, .ref q_t_hours, .int v_t_noted, .int v_t_at, .int v_t_sort, .int v_t_start, .int v_t_value, .ref q_t_row, .ref q_t_best, .int v_t_bestMany, .int v_t_bestWorth, .int v_t_bestHour, .ref q_t_places, .ref q_t_pairs], ia C q_t_told 52 y5.2, ia C q_t_draft 52 r_t_draft, ia C q_t_s 254 (upd y13.2 1 (-9 : Int32)), za C q_t_kept 2 r_t_kept] := hD
  refine lv_aload_n hx hb dX11_begins_79 rfl (lv_at hl 1 rfl) ?_
  refine lv_iconst (v := (0 : Int32)) hx hb dX11_begins_80 (by decide) ?_
  refine va_put (D := D) (ci := 11) (v := .int (0 : Int32)) (ty := .int) (C := RX11) (T := TX11) (N := 22) hx hb hts inX11 tyX11 tyX11_ok nmX11 hown hK hP hD hS 0 rfl rfl 10 (by decide) (hts (.fieldLink RX11 97 "LentCourageModel" "noted" "I") (List.mem_of_getElem? (i := 4) rfl)) (fun _ h9 => h9) rfl (tyX11_ok 10 (by decide)) rfl rfl (Nat.le_of_ble_eq_true rfl) dX11_begins_81 (fun H locs hP hD hS => ?_)
  have hP : va_P D vwCl [ob q_t 11 [.long v_t_trace, .ref q_t_text, .int v_t_typed, .ref q_t_told, .ref q_t_draft, .ref q_t_s, .ref q_t_images, .ref q_t_kept, .ref q_t_heard, .ref q_t_hours, .int (0 : Int32), .int v_t_at, .int v_t_sort, .int v_t_start, .int v_t_value, .ref q_t_row, .ref q_t_best, .int v_t_bestMany, .int v_t_bestWorth, .int v_t_bestHour, .ref q_t_places, .ref q_t_pairs], ia C q_t_told 52 y5.2, ia C q_t_draft 52 r_t_draft, ia C q_t_s 254 (upd y13.2 1 (-9 : Int32)), za C q_t_kept 2 r_t_kept] H := hP
  have hD : va_D A [ob q_t 11 [.long v_t_trace, .ref q_t_text, .int v_t_typed, .ref q_t_told, .ref q_t_draft, .ref q_t_s, .ref q_t_images, .ref q_t_kept, .ref q_t_heard, .ref q_t_hours, .int (0 : Int32), .int v_t_at, .int v_t_sort, .int v_t_start, .int v_t_value, .ref q_t_row, .ref q_t_best, .int v_t_bestMany, .int v_t_bestWorth, .int v_t_bestHour, .ref q_t_places, .ref q_t_pairs], ia C q_t_told 52 y5.2, ia C q_t_draft 52 r_t_draft, ia C q_t_s 254 (upd y13.2 1 (-9 : Int32)), za C q_t_kept 2 r_t_kept] := hD
  refine lv_aload_n hx hb dX11_begins_84 rfl (lv_at hl 1 rfl) ?_
  refine va_get (D := D) (ci := 11) (v := .ref q_t_kept) (C := RX11) (T := TX11) (N := 22) hx hb hts inX11 hown hK hP 0 rfl rfl 7 (by decide) (hts (.fieldLink RX11 25 "LentCourageModel" "kept" "[Z") (List.mem_of_getElem? (i := 5) rfl)) (fun _ h9 => h9) rfl dX11_begins_85 ?_
  refine lv_iconst (v := (0 : Int32)) hx hb dX11_begins_88 (by decide) ?_
  refine lv_iconst (v := (0 : Int32)) hx hb dX11_begins_89 (by decide) ?_
  refine st_ZK hx hb hK hP hD hS 4 1 rfl rfl (k := 0) (by decide) (by decide) (by decide) okZ_0 dX11_begins_90 (fun H locs hP hD hS => ?_)
  have hP : va_P D vwCl [ob q_t 11 [.long v_t_trace, .ref q_t_text, .int v_t_typed, .ref q_t_told, .ref q_t_draft, .ref q_t_s, .ref q_t_images, .ref q_t_kept, .ref q_t_heard, .ref q_t_hours, .int (0 : Int32), .int v_t_at, .int v_t_sort, .int v_t_start, .int v_t_value, .ref q_t_row, .ref q_t_best, .int v_t_bestMany, .int v_t_bestWorth, .int v_t_bestHour, .ref q_t_places, .ref q_t_pairs], ia C q_t_told 52 y5.2, ia C q_t_draft 52 r_t_draft, ia C q_t_s 254 (upd y13.2 1 (-9 : Int32)), za C q_t_kept 2 (upd r_t_kept 0 (0 : Int32))] H := hP
  have hD : va_D A [ob q_t 11 [.long v_t_trace, .ref q_t_text, .int v_t_typed, .ref q_t_told, .ref q_t_draft, .ref q_t_s, .ref q_t_images, .ref q_t_kept, .ref q_t_heard, .ref q_t_hours, .int (0 : Int32), .int v_t_at, .int v_t_sort, .int v_t_start, .int v_t_value, .ref q_t_row, .ref q_t_best, .int v_t_bestMany, .int v_t_bestWorth, .int v_t_bestHour, .ref q_t_places, .ref q_t_pairs], ia C q_t_told 52 y5.2, ia C q_t_draft 52 r_t_draft, ia C q_t_s 254 (upd y13.2 1 (-9 : Int32)), za C q_t_kept 2 (upd r_t_kept 0 (0 : Int32))] := hD
  refine lv_aload_n hx hb dX11_begins_91 rfl (lv_at hl 1 rfl) ?_
  refine va_get (D := D) (ci := 11) (v := .ref q_t_kept) (C := RX11) (T := TX11) (N := 22) hx hb hts inX11 hown hK hP 0 rfl rfl 7 (by decide) (hts (.fieldLink RX11 25 "LentCourageModel" "kept" "[Z") (List.mem_of_getElem? (i := 5) rfl)) (fun _ h9 => h9) rfl dX11_begins_92 ?_
  refine lv_iconst (v := (1 : Int32)) hx hb dX11_begins_95 (by decide) ?_
  refine lv_iconst (v := (0 : Int32)) hx hb dX11_begins_96 (by decide) ?_
  refine st_ZK hx hb hK hP hD hS 4 1 rfl rfl (k := 1) (by decide) (by decide) (by decide) okZ_0 dX11_begins_97 (fun H locs hP hD hS => ?_)
  have hP : va_P D vwCl [ob q_t 11 [.long v_t_trace, .ref q_t_text, .int v_t_typed, .ref q_t_told, .ref q_t_draft, .ref q_t_s, .ref q_t_images, .ref q_t_kept, .ref q_t_heard, .ref q_t_hours, .int (0 : Int32), .int v_t_at, .int v_t_sort, .int v_t_start, .int v_t_value, .ref q_t_row, .ref q_t_best, .int v_t_bestMany, .int v_t_bestWorth, .int v_t_bestHour, .ref q_t_places, .ref q_t_pairs], ia C q_t_told 52 y5.2, ia C q_t_draft 52 r_t_draft, ia C q_t_s 254 (upd y13.2 1 (-9 : Int32)), za C q_t_kept 2 (upd (upd r_t_kept 0 (0 : Int32)) 1 (0 : Int32))] H := hP
  have hD : va_D A [ob q_t 11 [.long v_t_trace, .ref q_t_text, .int v_t_typed, .ref q_t_told, .ref q_t_draft, .ref q_t_s, .ref q_t_images, .ref q_t_kept, .ref q_t_heard, .ref q_t_hours, .int (0 : Int32), .int v_t_at, .int v_t_sort, .int v_t_start, .int v_t_value, .ref q_t_row, .ref q_t_best, .int v_t_bestMany, .int v_t_bestWorth, .int v_t_bestHour, .ref q_t_places, .ref q_t_pairs], ia C q_t_told 52 y5.2, ia C q_t_draft 52 r_t_draft, ia C q_t_s 254 (upd y13.2 1 (-9 : Int32)), za C q_t_kept 2 (upd (upd r_t_kept 0 (0 : Int32)) 1 (0 : Int32))] := hD
  obtain rfl := Option.some.inj hf
  exact ret_V hx hb hr hlocks hK hP hD hS dX11_begins_98

def fX11_port (v_t_typed : Int32) (v_t_noted : Int32) (r_t_text : Nat → Int32) (r_t_told : Nat → Int32) (r_t_draft : Nat → Int32) (r_t_s : Nat → Int32) (r_t_kept : Nat → Int32) : Option (Int32 × Int32 × Int32 × Int32 × Int32 × Int32 × Int32 × (Nat → Int32) × (Nat → Int32) × (Nat → Int32) × (Nat → Int32)) :=
  (fX11_reads v_t_typed r_t_text r_t_draft).bind (fun o1 => (if o1.1 = 0 then some (((-10 : Int32) - o1.2.2.2.1), v_t_typed, v_t_noted, o1.2.1, o1.2.2.1, o1.2.2.2.1, o1.2.2.2.2.1, r_t_told, o1.2.2.2.2.2, r_t_s, r_t_kept) else (fX11_begins r_t_told o1.2.2.2.2.2 r_t_s r_t_kept).bind (fun o3 => some ((o3.2.1 4), (0 : Int32), o3.1, o1.2.1, o1.2.2.1, o1.2.2.2.1, o1.2.2.2.2.1, o3.2.1, o1.2.2.2.2.2, o3.2.2.1, o3.2.2.2))))
theorem hd_X11_port : yX11_port.cls = RX11 ∧ yX11_port.cls ≠ "java/lang/invoke/MethodHandle" ∧ yX11_port.cls ≠ "java/lang/invoke/VarHandle" ∧ (parseMethodDescriptor yX11_port.desc).map (fun d => d.parameters.length) = some 0 := by decide +kernel
set_option maxHeartbeats 4000000 in
set_option maxRecDepth 100000 in
theorem k_X11_port (l : Launch) (D : va_G) (C : Nat → ClassId) (q_t : Nat) (q_t_text : Nat) (q_t_told : Nat) (q_t_draft : Nat) (q_t_s : Nat) (q_t_images : Nat) (q_t_kept : Nat) (q_t_heard : Nat) (q_t_hours : Nat) (q_t_row : Nat) (q_t_best : Nat) (q_t_places : Nat) (q_t_pairs : Nat) (v_t_trace : Int64) (v_t_typed : Int32) (v_t_noted : Int32) (v_t_at : Int32) (v_t_sort : Int32) (v_t_start : Int32) (v_t_value : Int32) (v_t_bestMany : Int32) (v_t_bestWorth : Int32) (v_t_bestHour : Int32) (r_t_text : Nat → Int32) (r_t_told : Nat → Int32) (r_t_draft : Nat → Int32) (r_t_s : Nat → Int32) (r_t_kept : Nat → Int32) (sz : Nat) (out : Int32 × Int32 × Int32 × Int32 × Int32 × Int32 × Int32 × (Nat → Int32) × (Nat → Int32) × (Nat → Int32) × (Nat → Int32)) (hf : fX11_port v_t_typed v_t_noted r_t_text r_t_told r_t_draft r_t_s r_t_kept = some out) : MI l yX11_port wsX11_port ({ frames := 7, cells := 0, slots := 0, locals := 152 }) D C [.ref q_t] [ob q_t 11 [.long v_t_trace, .ref q_t_text, .int v_t_typed, .ref q_t_told, .ref q_t_draft, .ref q_t_s, .ref q_t_images, .ref q_t_kept, .ref q_t_heard, .ref q_t_hours, .int v_t_noted, .int v_t_at, .int v_t_sort, .int v_t_start, .int v_t_value, .ref q_t_row, .ref q_t_best, .int v_t_bestMany, .int v_t_bestWorth, .int v_t_bestHour, .ref q_t_places, .ref q_t_pairs], ia C q_t_text 180 r_t_text, ia C q_t_told 52 r_t_told, ia C q_t_draft 52 r_t_draft, ia C q_t_s 254 r_t_s, za C q_t_kept 2 r_t_kept] [ob q_t 11 [.long v_t_trace, .ref q_t_text, .int out.2.1, .ref q_t_told, .ref q_t_draft, .ref q_t_s, .ref q_t_images, .ref q_t_kept, .ref q_t_heard, .ref q_t_hours, .int out.2.2.1, .int out.2.2.2.1, .int out.2.2.2.2.1, .int out.2.2.2.2.2.1, .int out.2.2.2.2.2.2.1, .ref q_t_row, .ref q_t_best, .int v_t_bestMany, .int v_t_bestWorth, .int v_t_bestHour, .ref q_t_places, .ref q_t_pairs], ia C q_t_text 180 r_t_text, ia C q_t_told 52 out.2.2.2.2.2.2.2.1, ia C q_t_draft 52 out.2.2.2.2.2.2.2.2.1, ia C q_t_s 254 out.2.2.2.2.2.2.2.2.2.1, za C q_t_kept 2 out.2.2.2.2.2.2.2.2.2.2] sz (out.1) := by
  unfold fX11_port at hf
  refine en_I (by decide) rfl (Nat.le_of_ble_eq_true rfl) ?_
  intro p e s m below meth c A ls H locs hx hb hr hlocks hml hts hown hK hP hD hS hA hl
  have hl : lv_has ls 1 [(0, .ref q_t)] := hl
  have inX11 : ∀ w ∈ u_ws RX11 TX11 22, w ∈ wsX11_port := fun w h => List.mem_cons_of_mem _ (List.mem_append_right _ h)
  refine lv_aload_n hx hb dX11_port_0 rfl (lv_at hl 0 rfl) ?_
  obtain ⟨o1, ho1, hf⟩ := of_bind hf
  refine c_I (wr := [ia C q_t_told 52 r_t_told, ia C q_t_s 254 r_t_s, za C q_t_kept 2 r_t_kept]) (W2 := [ob q_t 11 [.long v_t_trace, .ref q_t_text, .int v_t_typed, .ref q_t_told, .ref q_t_draft, .ref q_t_s, .ref q_t_images, .ref q_t_kept, .ref q_t_heard, .ref q_t_hours, .int v_t_noted, .int o1.2.1, .int o1.2.2.1, .int o1.2.2.2.1, .int o1.2.2.2.2.1, .ref q_t_row, .ref q_t_best, .int v_t_bestMany, .int v_t_bestWorth, .int v_t_bestHour, .ref q_t_places, .ref q_t_pairs], ia C q_t_text 180 r_t_text, ia C q_t_told 52 r_t_told, ia C q_t_draft 52 o1.2.2.2.2.2, ia C q_t_s 254 r_t_s, za C q_t_kept 2 r_t_kept]) (cV_run ⟨hx, hb, hml, hown, hts⟩ (k_X11_reads l D C q_t q_t_text q_t_told q_t_draft q_t_s q_t_images q_t_kept q_t_heard q_t_hours q_t_row q_t_best q_t_places q_t_pairs v_t_trace v_t_typed v_t_noted v_t_at v_t_sort v_t_start v_t_value v_t_bestMany v_t_bestWorth v_t_bestHour r_t_text r_t_draft H.size o1 ho1) gX11_port_X11_reads rfl ⟨rfl, rfl⟩ hd_X11_reads ⟨(Nat.le_of_ble_eq_true rfl), (Nat.le_of_ble_eq_true rfl)⟩ rfl hK (cut_in hK hP hD [0, 1, 3] rfl (by decide)) (ci := 11) rfl rfl rfl hl.1 rfl (Nat.le_of_ble_eq_true rfl) dX11_port_1 ⟨Nat.zero_le _, Nat.zero_le _⟩) hP hD hS hA [0, 1, 3] [2, 4, 5] [3, 4, 0, 5, 1, 2] rfl rfl (by decide) (by decide) rfl (by decide) (fun H locs hP hD hS => ?_)
  have hP : va_P D vwCl [ob q_t 11 [.long v_t_trace, .ref q_t_text, .int v_t_typed, .ref q_t_told, .ref q_t_draft, .ref q_t_s, .ref q_t_images, .ref q_t_kept, .ref q_t_heard, .ref q_t_hours, .int v_t_noted, .int o1.2.1, .int o1.2.2.1, .int o1.2.2.2.1, .int o1.2.2.2.2.1, .ref q_t_row, .ref q_t_best, .int v_t_bestMany, .int v_t_bestWorth, .int v_t_bestHour, .ref q_t_places, .ref q_t_pairs], ia C q_t_text 180 r_t_text, ia C q_t_told 52 r_t_told, ia C q_t_draft 52 o1.2.2.2.2.2, ia C q_t_s 254 r_t_s, za C q_t_kept 2 r_t_kept] H := hP
  have hD : va_D A [ob q_t 11 [.long v_t_trace, .ref q_t_text, .int v_t_typed, .ref q_t_told, .ref q_t_draft, .ref q_t_s, .ref q_t_images, .ref q_t_kept, .ref q_t_heard, .ref q_t_hours, .int v_t_noted, .int o1.2.1, .int o1.2.2.1, .int o1.2.2.2.1, .int o1.2.2.2.2.1, .ref q_t_row, .ref q_t_best, .int v_t_bestMany, .int v_t_bestWorth, .int v_t_bestHour, .ref q_t_places, .ref q_t_pairs], ia C q_t_text 180 r_t_text, ia C q_t_told 52 r_t_told, ia C q_t_draft 52 o1.2.2.2.2.2, ia C q_t_s 254 r_t_s, za C q_t_kept 2 r_t_kept] := hD
  refine lv_if_ne (tgt := 15) hx hb dX11_port_4 (by decide) (fun c2 => ?_) (fun c2 => ?_)
  · have hf := of_neg hf c2
    refine lv_aload_n hx hb dX11_port_15 rfl (lv_at hl 0 rfl) ?_
    obtain ⟨o3, ho3, hf⟩ := of_bind hf
    refine c_V (wr := [ia C q_t_text 180 r_t_text]) (W2 := [ob q_t 11 [.long v_t_trace, .ref q_t_text, .int v_t_typed, .ref q_t_told, .ref q_t_draft, .ref q_t_s, .ref q_t_images, .ref q_t_kept, .ref q_t_heard, .ref q_t_hours, .int o3.1, .int o1.2.1, .int o1.2.2.1, .int o1.2.2.2.1, .int o1.2.2.2.2.1, .ref q_t_row, .ref q_t_best, .int v_t_bestMany, .int v_t_bestWorth, .int v_t_bestHour, .ref q_t_places, .ref q_t_pairs], ia C q_t_text 180 r_t_text, ia C q_t_told 52 o3.2.1, ia C q_t_draft 52 o1.2.2.2.2.2, ia C q_t_s 254 o3.2.2.1, za C q_t_kept 2 o3.2.2.2]) (cV_run ⟨hx, hb, hml, hown, hts⟩ (k_X11_begins l D C q_t q_t_text q_t_told q_t_draft q_t_s q_t_images q_t_kept q_t_heard q_t_hours q_t_row q_t_best q_t_places q_t_pairs v_t_trace v_t_typed v_t_noted o1.2.1 o1.2.2.1 o1.2.2.2.1 o1.2.2.2.2.1 v_t_bestMany v_t_bestWorth v_t_bestHour r_t_told o1.2.2.2.2.2 r_t_s r_t_kept H.size o3 ho3) gX11_port_X11_begins rfl ⟨rfl, rfl⟩ hd_X11_begins ⟨(Nat.le_of_ble_eq_true rfl), (Nat.le_of_ble_eq_true rfl)⟩ rfl hK (cut_in hK hP hD [0, 2, 3, 4, 5] rfl (by decide)) (ci := 11) rfl rfl rfl hl.1 rfl (Nat.le_of_ble_eq_true rfl) dX11_port_16 ⟨Nat.zero_le _, Nat.zero_le _⟩) hP hD hS hA [0, 2, 3, 4, 5] [1] [1, 0, 2, 3, 4, 5] rfl rfl (by decide) (by decide) rfl (by decide) (fun H locs hP hD hS => ?_)
    have hP : va_P D vwCl [ob q_t 11 [.long v_t_trace, .ref q_t_text, .int v_t_typed, .ref q_t_told, .ref q_t_draft, .ref q_t_s, .ref q_t_images, .ref q_t_kept, .ref q_t_heard, .ref q_t_hours, .int o3.1, .int o1.2.1, .int o1.2.2.1, .int o1.2.2.2.1, .int o1.2.2.2.2.1, .ref q_t_row, .ref q_t_best, .int v_t_bestMany, .int v_t_bestWorth, .int v_t_bestHour, .ref q_t_places, .ref q_t_pairs], ia C q_t_text 180 r_t_text, ia C q_t_told 52 o3.2.1, ia C q_t_draft 52 o1.2.2.2.2.2, ia C q_t_s 254 o3.2.2.1, za C q_t_kept 2 o3.2.2.2] H := hP
    have hD : va_D A [ob q_t 11 [.long v_t_trace, .ref q_t_text, .int v_t_typed, .ref q_t_told, .ref q_t_draft, .ref q_t_s, .ref q_t_images, .ref q_t_kept, .ref q_t_heard, .ref q_t_hours, .int o3.1, .int o1.2.1, .int o1.2.2.1, .int o1.2.2.2.1, .int o1.2.2.2.2.1, .ref q_t_row, .ref q_t_best, .int v_t_bestMany, .int v_t_bestWorth, .int v_t_bestHour, .ref q_t_places, .ref q_t_pairs], ia C q_t_text 180 r_t_text, ia C q_t_told 52 o3.2.1, ia C q_t_draft 52 o1.2.2.2.2.2, ia C q_t_s 254 o3.2.2.1, za C q_t_kept 2 o3.2.2.2] := hD
    refine lv_aload_n hx hb dX11_port_19 rfl (lv_at hl 0 rfl) ?_
    refine lv_iconst (v := (0 : Int32)) hx hb dX11_port_20 (by decide) ?_
    refine va_put (D := D) (ci := 11) (v := .int (0 : Int32)) (ty := .int) (C := RX11) (T := TX11) (N := 22) hx hb hts inX11 tyX11 tyX11_ok nmX11 hown hK hP hD hS 0 rfl rfl 2 (by decide) (hts (.fieldLink RX11 58 "LentCourageModel" "typed" "I") (List.mem_of_getElem? (i := 2) rfl)) (fun _ h9 => h9) rfl (tyX11_ok 2 (by decide)) rfl rfl (Nat.le_of_ble_eq_true rfl) dX11_port_21 (fun H locs hP hD hS => ?_)
    have hP : va_P D vwCl [ob q_t 11 [.long v_t_trace, .ref q_t_text, .int (0 : Int32), .ref q_t_told, .ref q_t_draft, .ref q_t_s, .ref q_t_images, .ref q_t_kept, .ref q_t_heard, .ref q_t_hours, .int o3.1, .int o1.2.1, .int o1.2.2.1, .int o1.2.2.2.1, .int o1.2.2.2.2.1, .ref q_t_row, .ref q_t_best, .int v_t_bestMany, .int v_t_bestWorth, .int v_t_bestHour, .ref q_t_places, .ref q_t_pairs], ia C q_t_text 180 r_t_text, ia C q_t_told 52 o3.2.1, ia C q_t_draft 52 o1.2.2.2.2.2, ia C q_t_s 254 o3.2.2.1, za C q_t_kept 2 o3.2.2.2] H := hP
    have hD : va_D A [ob q_t 11 [.long v_t_trace, .ref q_t_text, .int (0 : Int32), .ref q_t_told, .ref q_t_draft, .ref q_t_s, .ref q_t_images, .ref q_t_kept, .ref q_t_heard, .ref q_t_hours, .int o3.1, .int o1.2.1, .int o1.2.2.1, .int o1.2.2.2.1, .int o1.2.2.2.2.1, .ref q_t_row, .ref q_t_best, .int v_t_bestMany, .int v_t_bestWorth, .int v_t_bestHour, .ref q_t_places, .ref q_t_pairs], ia C q_t_text 180 r_t_text, ia C q_t_told 52 o3.2.1, ia C q_t_draft 52 o1.2.2.2.2.2, ia C q_t_s 254 o3.2.2.1, za C q_t_kept 2 o3.2.2.2] := hD
    refine lv_aload_n hx hb dX11_port_24 rfl (lv_at hl 0 rfl) ?_
    refine va_get (D := D) (ci := 11) (v := .ref q_t_told) (C := RX11) (T := TX11) (N := 22) hx hb hts inX11 hown hK hP 0 rfl rfl 3 (by decide) (hts (.fieldLink RX11 13 "LentCourageModel" "told" "[I") (List.mem_of_getElem? (i := 3) rfl)) (fun _ h9 => h9) rfl dX11_port_25 ?_
    refine lv_iconst (v := (4 : Int32)) hx hb dX11_port_28 (by decide) ?_
    refine ld_ialdK hx hb hK hP 2 0 rfl rfl (k := 4) (by decide) (by decide) (by decide) dX11_port_29 ?_
    obtain rfl := Option.some.inj hf
    exact ret_I hx hb hr hlocks hK hP hD hS dX11_port_30
  · have hf := of_pos hf c2
    refine lv_bipush (v := (-10 : Int32)) hx hb dX11_port_7 (by decide) ?_
    refine lv_aload_n hx hb dX11_port_9 rfl (lv_at hl 0 rfl) ?_
    refine va_get (D := D) (ci := 11) (v := .int o1.2.2.2.1) (C := RX11) (T := TX11) (N := 22) hx hb hts inX11 hown hK hP 0 rfl rfl 13 (by decide) (hts (.fieldLink RX11 69 "LentCourageModel" "start" "I") (List.mem_of_getElem? (i := 1) rfl)) (fun _ h9 => h9) rfl dX11_port_10 ?_
    refine lv_isub hx hb dX11_port_13 ?_
    obtain rfl := Option.some.inj hf
    exact ret_I hx hb hr hlocks hK hP hD hS dX11_port_14
