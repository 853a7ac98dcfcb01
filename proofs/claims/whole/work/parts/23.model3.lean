/-! written by gen.py: 23.model3 -/
def fX11_wayOf_2 (r_t_s_2 : Nat → Int32) : Nat → Int32 → (Nat → Int32) → Option (Int32 × (Nat → Int32))
  | 0, _, _ => none
  | n + 1, w2_2, r_t_places_2 => (if (6 : Int32) ≤ w2_2 then some (w2_2, r_t_places_2) else chk (vin ((4 : Int32) + w2_2) 254) (lt_ (r_t_s_2 ((4 : Int32) + w2_2).toNatClampNeg) (fun z3 => chk (vin w2_2 6) (lt_ (w2_2 + (1 : Int32)) (fun z5 => fX11_wayOf_2 r_t_s_2 n z5 (upd r_t_places_2 w2_2.toNatClampNeg z3))))))
def fX11_wayOf_68 (w1_68 : Int32) (r_t_told_68 : Nat → Int32) (r_t_row_68 : Nat → Int32) : Nat → Int32 → Int32 → Int32 → Int32 → Int32 → (Nat → Int32) → Option (Nat × Int32 × Int32 × Int32 × Int32 × Int32 × (Nat → Int32))
  | 0, _, _, _, _, _, _ => none
  | n + 1, w6_68, w5_68, w4_68, w3_68, w2_68, r_t_places_68 => (if w1_68 ≤ w6_68 then some (0, (w6_68, w5_68, w4_68, w3_68, w2_68, r_t_places_68)) else chk (vin w6_68 8) (lt_ (r_t_row_68 w6_68.toNatClampNeg) (fun z14 => chk (vin ((12 : Int32) + z14) 52) (lt_ (r_t_told_68 ((12 : Int32) + z14).toNatClampNeg) (fun z16 => (if z16 = w4_68 then (if w5_68 = 0 then some (1, (w6_68, w5_68, w4_68, w3_68, w2_68, r_t_places_68)) else ((if z16 = w4_68 then some (0 : Int32) else chk (vin z16 6) ((fX11_far w3_68 (r_t_places_68 z16.toNatClampNeg)).bind (fun o39 => some o39)))).bind (fun j36 => lt_ (w2_68 + j36) (fun z40 => chk (vin z16 6) (chk (vin ((20 : Int32) + z14) 52) ((fX11_far (r_t_places_68 z16.toNatClampNeg) (r_t_told_68 ((20 : Int32) + z14).toNatClampNeg)).bind (fun o43 => lt_ (z40 + o43) (fun z44 => chk (vin ((28 : Int32) + z14) 52) (lt_ (if (r_t_told_68 ((28 : Int32) + z14).toNatClampNeg) ≤ z44 then z44 else (r_t_told_68 ((28 : Int32) + z14).toNatClampNeg)) (fun z47 => chk (vin ((36 : Int32) + z14) 52) ((if z47 ≤ (r_t_told_68 ((36 : Int32) + z14).toNatClampNeg) then lt_ (r_t_told_68 ((20 : Int32) + z14).toNatClampNeg) (fun z50 => lt_ ((upd r_t_places_68 z16.toNatClampNeg z50) z16.toNatClampNeg) (fun z51 => lt_ (w6_68 + (1 : Int32)) (fun z52 => fX11_wayOf_68 w1_68 r_t_told_68 r_t_row_68 n z52 (0 : Int32) z16 z51 z47 (upd r_t_places_68 z16.toNatClampNeg z50)))) else some (2, (w6_68, w5_68, w4_68, w3_68, z47, r_t_places_68))))))))))))) else ((if z16 = w4_68 then some (0 : Int32) else chk (vin z16 6) ((fX11_far w3_68 (r_t_places_68 z16.toNatClampNeg)).bind (fun o21 => some o21)))).bind (fun j18 => lt_ (w2_68 + j18) (fun z22 => chk (vin z16 6) (chk (vin ((20 : Int32) + z14) 52) ((fX11_far (r_t_places_68 z16.toNatClampNeg) (r_t_told_68 ((20 : Int32) + z14).toNatClampNeg)).bind (fun o25 => lt_ (z22 + o25) (fun z26 => chk (vin ((28 : Int32) + z14) 52) (lt_ (if (r_t_told_68 ((28 : Int32) + z14).toNatClampNeg) ≤ z26 then z26 else (r_t_told_68 ((28 : Int32) + z14).toNatClampNeg)) (fun z29 => chk (vin ((36 : Int32) + z14) 52) ((if z29 ≤ (r_t_told_68 ((36 : Int32) + z14).toNatClampNeg) then lt_ (r_t_told_68 ((20 : Int32) + z14).toNatClampNeg) (fun z32 => lt_ ((upd r_t_places_68 z16.toNatClampNeg z32) z16.toNatClampNeg) (fun z33 => lt_ (w6_68 + (1 : Int32)) (fun z34 => fX11_wayOf_68 w1_68 r_t_told_68 r_t_row_68 n z34 (0 : Int32) z16 z33 z29 (upd r_t_places_68 z16.toNatClampNeg z32)))) else some (2, (w6_68, w5_68, w4_68, w3_68, z29, r_t_places_68))))))))))))))))))
def fX11_wayOf (r_t_told : Nat → Int32) (r_t_s : Nat → Int32) (r_t_row : Nat → Int32) (r_t_places : Nat → Int32) (p1 : Int32) : Option (Int32 × (Nat → Int32)) :=
  (fX11_wayOf_2 r_t_s FU (0 : Int32) r_t_places).bind (fun y6 => lt_ (r_t_s 0) (fun z7 => (fX11_spoonAt r_t_told r_t_s).bind (fun o8 => lt_ (r_t_s 1) (fun z9 => lt_ (if (r_t_s 3) = (1 : Int32) then (1 : Int32) else (0 : Int32)) (fun z11 => (fX11_wayOf_68 p1 r_t_told r_t_row FU (0 : Int32) z11 z9 o8 z7 y6.2).bind (fun y53 => (if y53.1 = 0 then some (y53.2.2.2.2.2.1, y53.2.2.2.2.2.2) else (if y53.1 = 1 then some ((-1 : Int32), y53.2.2.2.2.2.2) else some ((-1 : Int32), y53.2.2.2.2.2.2)))))))))
theorem hd_X11_wayOf : yX11_wayOf.cls = RX11 ∧ yX11_wayOf.cls ≠ "java/lang/invoke/MethodHandle" ∧ yX11_wayOf.cls ≠ "java/lang/invoke/VarHandle" ∧ (parseMethodDescriptor yX11_wayOf.desc).map (fun d => d.parameters.length) = some 1 := by decide +kernel
set_option maxHeartbeats 4000000 in
set_option maxRecDepth 100000 in
theorem k_X11_wayOf (l : Launch) (D : va_G) (C : Nat → ClassId) (q_t : Nat) (q_t_text : Nat) (q_t_told : Nat) (q_t_draft : Nat) (q_t_s : Nat) (q_t_images : Nat) (q_t_kept : Nat) (q_t_heard : Nat) (q_t_hours : Nat) (q_t_row : Nat) (q_t_best : Nat) (q_t_places : Nat) (q_t_pairs : Nat) (v_t_trace : Int64) (v_t_typed : Int32) (v_t_noted : Int32) (v_t_at : Int32) (v_t_sort : Int32) (v_t_start : Int32) (v_t_value : Int32) (v_t_bestMany : Int32) (v_t_bestWorth : Int32) (v_t_bestHour : Int32) (r_t_told : Nat → Int32) (r_t_s : Nat → Int32) (r_t_row : Nat → Int32) (r_t_places : Nat → Int32) (p1 : Int32) (sz : Nat) (out : Int32 × (Nat → Int32)) (hf : fX11_wayOf r_t_told r_t_s r_t_row r_t_places p1 = some out) : MI l yX11_wayOf wsX11_wayOf ({ frames := 2, cells := 0, slots := 0, locals := 40 }) D C [.ref q_t, .int p1] [ob q_t 11 [.long v_t_trace, .ref q_t_text, .int v_t_typed, .ref q_t_told, .ref q_t_draft, .ref q_t_s, .ref q_t_images, .ref q_t_kept, .ref q_t_heard, .ref q_t_hours, .int v_t_noted, .int v_t_at, .int v_t_sort, .int v_t_start, .int v_t_value, .ref q_t_row, .ref q_t_best, .int v_t_bestMany, .int v_t_bestWorth, .int v_t_bestHour, .ref q_t_places, .ref q_t_pairs], ia C q_t_told 52 r_t_told, ia C q_t_s 254 r_t_s, ia C q_t_row 8 r_t_row, ia C q_t_places 6 r_t_places] [ob q_t 11 [.long v_t_trace, .ref q_t_text, .int v_t_typed, .ref q_t_told, .ref q_t_draft, .ref q_t_s, .ref q_t_images, .ref q_t_kept, .ref q_t_heard, .ref q_t_hours, .int v_t_noted, .int v_t_at, .int v_t_sort, .int v_t_start, .int v_t_value, .ref q_t_row, .ref q_t_best, .int v_t_bestMany, .int v_t_bestWorth, .int v_t_bestHour, .ref q_t_places, .ref q_t_pairs], ia C q_t_told 52 r_t_told, ia C q_t_s 254 r_t_s, ia C q_t_row 8 r_t_row, ia C q_t_places 6 out.2] sz (out.1) := by
  unfold fX11_wayOf at hf
  refine en_I (by decide) rfl (Nat.le_of_ble_eq_true rfl) ?_
  intro p e s m below meth c A ls H locs hx hb hr hlocks hml hts hown hK hP hD hS hA hl
  have hl : lv_has ls 9 [(0, .ref q_t), (1, .int p1)] := hl
  have inX11 : ∀ w ∈ u_ws RX11 TX11 22, w ∈ wsX11_wayOf := fun w h => List.mem_cons_of_mem _ (List.mem_append_right _ h)
  have LP2 : ∀ (Q : State → Prop) (n : Nat) (w2_2 : Int32) (w1_2 : Int32) (v_t_trace_2 : Int64) (v_t_typed_2 : Int32) (v_t_noted_2 : Int32) (v_t_at_2 : Int32) (v_t_sort_2 : Int32) (v_t_start_2 : Int32) (v_t_value_2 : Int32) (v_t_bestMany_2 : Int32) (v_t_bestWorth_2 : Int32) (v_t_bestHour_2 : Int32) (r_t_told_2 : Nat → Int32) (r_t_s_2 : Nat → Int32) (r_t_row_2 : Nat → Int32) (r_t_places_2 : Nat → Int32) (y_2 : Int32 × (Nat → Int32)), fX11_wayOf_2 r_t_s_2 n w2_2 r_t_places_2 = some y_2 → ∀ (H : Heap) (locs : List Loc) (ls : Array Slot), va_P D vwCl [ob q_t 11 [.long v_t_trace_2, .ref q_t_text, .int v_t_typed_2, .ref q_t_told, .ref q_t_draft, .ref q_t_s, .ref q_t_images, .ref q_t_kept, .ref q_t_heard, .ref q_t_hours, .int v_t_noted_2, .int v_t_at_2, .int v_t_sort_2, .int v_t_start_2, .int v_t_value_2, .ref q_t_row, .ref q_t_best, .int v_t_bestMany_2, .int v_t_bestWorth_2, .int v_t_bestHour_2, .ref q_t_places, .ref q_t_pairs], ia C q_t_told 52 r_t_told_2, ia C q_t_s 254 r_t_s_2, ia C q_t_row 8 r_t_row_2, ia C q_t_places 6 r_t_places_2] H → va_D A [ob q_t 11 [.long v_t_trace_2, .ref q_t_text, .int v_t_typed_2, .ref q_t_told, .ref q_t_draft, .ref q_t_s, .ref q_t_images, .ref q_t_kept, .ref q_t_heard, .ref q_t_hours, .int v_t_noted_2, .int v_t_at_2, .int v_t_sort_2, .int v_t_start_2, .int v_t_value_2, .ref q_t_row, .ref q_t_best, .int v_t_bestMany_2, .int v_t_bestWorth_2, .int v_t_bestHour_2, .ref q_t_places, .ref q_t_pairs], ia C q_t_told 52 r_t_told_2, ia C q_t_s 254 r_t_s_2, ia C q_t_row 8 r_t_row_2, ia C q_t_places 6 r_t_places_2] → va_S A s.heap H locs → lv_has ls 9 [(2, .int w2_2), (0, .ref q_t), (1, .int w1_2)] → (∀ (H : Heap) (locs : List Loc) (ls : Array Slot), va_P D vwCl [ob q_t 11 [.long v_t_trace_2, .ref q_t_text, .int v_t_typed_2, .ref q_t_told, .ref q_t_draft, .ref q_t_s, .ref q_t_images, .ref q_t_kept, .ref q_t_heard, .ref q_t_hours, .int v_t_noted_2, .int v_t_at_2, .int v_t_sort_2, .int v_t_start_2, .int v_t_value_2, .ref q_t_row, .ref q_t_best, .int v_t_bestMany_2, .int v_t_bestWorth_2, .int v_t_bestHour_2, .ref q_t_places, .ref q_t_pairs], ia C q_t_told 52 r_t_told_2, ia C q_t_s 254 r_t_s_2, ia C q_t_row 8 r_t_row_2, ia C q_t_places 6 y_2.2] H → va_D A [ob q_t 11 [.long v_t_trace_2, .ref q_t_text, .int v_t_typed_2, .ref q_t_told, .ref q_t_draft, .ref q_t_s, .ref q_t_images, .ref q_t_kept, .ref q_t_heard, .ref q_t_hours, .int v_t_noted_2, .int v_t_at_2, .int v_t_sort_2, .int v_t_start_2, .int v_t_value_2, .ref q_t_row, .ref q_t_best, .int v_t_bestMany_2, .int v_t_bestWorth_2, .int v_t_bestHour_2, .ref q_t_places, .ref q_t_pairs], ia C q_t_told 52 r_t_told_2, ia C q_t_s 254 r_t_s_2, ia C q_t_row 8 r_t_row_2, ia C q_t_places 6 y_2.2] → va_S A s.heap H locs → lv_has ls 9 [(2, .int y_2.1), (0, .ref q_t), (1, .int w1_2)] → W p l e ({ frames := 2, cells := 0, slots := 0, locals := 40 } : Room) s m ([.ref q_t, .int p1] : List Value).toArray below meth c H locs 0 0 Q (F0 m 28 ls [])) → W p l e ({ frames := 2, cells := 0, slots := 0, locals := 40 } : Room) s m ([.ref q_t, .int p1] : List Value).toArray below meth c H locs 0 0 Q (F0 m 2 ls []) := by
    intro Q n
    induction n with
    | zero =>
      intro w2_2 w1_2 v_t_trace_2 v_t_typed_2 v_t_noted_2 v_t_at_2 v_t_sort_2 v_t_start_2 v_t_value_2 v_t_bestMany_2 v_t_bestWorth_2 v_t_bestHour_2 r_t_told_2 r_t_s_2 r_t_row_2 r_t_places_2 y_2 hf
      rw [fX11_wayOf_2] at hf
      cases hf
    | succ n ih =>
      intro w2_2 w1_2 v_t_trace_2 v_t_typed_2 v_t_noted_2 v_t_at_2 v_t_sort_2 v_t_start_2 v_t_value_2 v_t_bestMany_2 v_t_bestWorth_2 v_t_bestHour_2 r_t_told_2 r_t_s_2 r_t_row_2 r_t_places_2 y_2 hf H locs ls hP hD hS hl KX0
      rw [fX11_wayOf_2] at hf
      refine lv_iload_n hx hb dX11_wayOf_2 rfl (lv_at hl 0 rfl) ?_
      refine lv_bipush (v := (6 : Int32)) hx hb dX11_wayOf_3 (by decide) ?_
      refine lv_icmp_ge (tgt := 28) hx hb dX11_wayOf_5 (by decide) (fun c1 => ?_) (fun c1 => ?_)
      · have hf := of_pos hf c1
        obtain rfl := Option.some.inj hf
        exact KX0 _ _ _ hP hD hS (lv_sub hl [0, 1, 2] rfl)
      · have hf := of_neg hf c1
        refine lv_aload_n hx hb dX11_wayOf_8 rfl (lv_at hl 1 rfl) ?_
        refine va_get (D := D) (ci := 11) (v := .ref q_t_places) (C := RX11) (T := TX11) (N := 22) hx hb hts inX11 hown hK hP 0 rfl rfl 20 (by decide) (hts (.fieldLink RX11 41 "LentCourageModel" "places" "[I") (List.mem_of_getElem? (i := 1) rfl)) (fun _ h9 => h9) rfl dX11_wayOf_9 ?_
        refine lv_iload_n hx hb dX11_wayOf_12 rfl (lv_at hl 0 rfl) ?_
        refine lv_aload_n hx hb dX11_wayOf_13 rfl (lv_at hl 1 rfl) ?_
        refine va_get (D := D) (ci := 11) (v := .ref q_t_s) (C := RX11) (T := TX11) (N := 22) hx hb hts inX11 hown hK hP 0 rfl rfl 5 (by decide) (hts (.fieldLink RX11 19 "LentCourageModel" "s" "[I") (List.mem_of_getElem? (i := 2) rfl)) (fun _ h9 => h9) rfl dX11_wayOf_14 ?_
        refine lv_iconst (v := (4 : Int32)) hx hb dX11_wayOf_17 (by decide) ?_
        refine lv_iload_n hx hb dX11_wayOf_18 rfl (lv_at hl 0 rfl) ?_
        refine lv_iadd hx hb dX11_wayOf_19 ?_
        obtain ⟨h2, hf⟩ := of_chk hf
        refine va_iald hx hb hK hP 2 0 rfl rfl h2 dX11_wayOf_20 ?_
        refine lv_topi (fun z3 ez3 => ?_)
        have hf := of_lt hf ez3
        obtain ⟨h4, hf⟩ := of_chk hf
        refine va_iast hx hb hK hP hD hS 4 0 rfl rfl h4 dX11_wayOf_21 (fun H locs hP hD hS => ?_)
        have hP : va_P D vwCl [ob q_t 11 [.long v_t_trace_2, .ref q_t_text, .int v_t_typed_2, .ref q_t_told, .ref q_t_draft, .ref q_t_s, .ref q_t_images, .ref q_t_kept, .ref q_t_heard, .ref q_t_hours, .int v_t_noted_2, .int v_t_at_2, .int v_t_sort_2, .int v_t_start_2, .int v_t_value_2, .ref q_t_row, .ref q_t_best, .int v_t_bestMany_2, .int v_t_bestWorth_2, .int v_t_bestHour_2, .ref q_t_places, .ref q_t_pairs], ia C q_t_told 52 r_t_told_2, ia C q_t_s 254 r_t_s_2, ia C q_t_row 8 r_t_row_2, ia C q_t_places 6 (upd r_t_places_2 w2_2.toNatClampNeg z3)] H := hP
        have hD : va_D A [ob q_t 11 [.long v_t_trace_2, .ref q_t_text, .int v_t_typed_2, .ref q_t_told, .ref q_t_draft, .ref q_t_s, .ref q_t_images, .ref q_t_kept, .ref q_t_heard, .ref q_t_hours, .int v_t_noted_2, .int v_t_at_2, .int v_t_sort_2, .int v_t_start_2, .int v_t_value_2, .ref q_t_row, .ref q_t_best, .int v_t_bestMany_2, .int v_t_bestWorth_2, .int v_t_bestHour_2, .ref q_t_places, .ref q_t_pairs], ia C q_t_told 52 r_t_told_2, ia C q_t_s 254 r_t_s_2, ia C q_t_row 8 r_t_row_2, ia C q_t_places 6 (upd r_t_places_2 w2_2.toNatClampNeg z3)] := hD
        obtain ⟨z5, ez5⟩ : ∃ y : Int32, y = (w2_2 + (1 : Int32)) := ⟨_, rfl⟩
        have hf := of_lt hf ez5
        refine lv_iinc (v := z5) (lv' := [(2, .int z5), (0, .ref q_t), (1, .int w1_2)]) hx hb dX11_wayOf_22 hl (k := 0) rfl (by rw [ez5]; rfl) (by decide) rfl (fun ls hl => ?_)
        refine lv_goto (tgt := 2) hx hb dX11_wayOf_25 (by decide) ?_
        exact ih _ _ _ _ _ _ _ _ _ _ _ _ _ _ _ _ _ hf H locs ls hP hD hS (lv_sub hl [0, 1, 2] rfl) KX0
  have LP68 : ∀ (Q : State → Prop) (n : Nat) (w6_68 : Int32) (w5_68 : Int32) (w4_68 : Int32) (w3_68 : Int32) (w2_68 : Int32) (w1_68 : Int32) (v_t_trace_68 : Int64) (v_t_typed_68 : Int32) (v_t_noted_68 : Int32) (v_t_at_68 : Int32) (v_t_sort_68 : Int32) (v_t_start_68 : Int32) (v_t_value_68 : Int32) (v_t_bestMany_68 : Int32) (v_t_bestWorth_68 : Int32) (v_t_bestHour_68 : Int32) (r_t_told_68 : Nat → Int32) (r_t_s_68 : Nat → Int32) (r_t_row_68 : Nat → Int32) (r_t_places_68 : Nat → Int32) (y_68 : Nat × Int32 × Int32 × Int32 × Int32 × Int32 × (Nat → Int32)), fX11_wayOf_68 w1_68 r_t_told_68 r_t_row_68 n w6_68 w5_68 w4_68 w3_68 w2_68 r_t_places_68 = some y_68 → ∀ (H : Heap) (locs : List Loc) (ls : Array Slot), va_P D vwCl [ob q_t 11 [.long v_t_trace_68, .ref q_t_text, .int v_t_typed_68, .ref q_t_told, .ref q_t_draft, .ref q_t_s, .ref q_t_images, .ref q_t_kept, .ref q_t_heard, .ref q_t_hours, .int v_t_noted_68, .int v_t_at_68, .int v_t_sort_68, .int v_t_start_68, .int v_t_value_68, .ref q_t_row, .ref q_t_best, .int v_t_bestMany_68, .int v_t_bestWorth_68, .int v_t_bestHour_68, .ref q_t_places, .ref q_t_pairs], ia C q_t_told 52 r_t_told_68, ia C q_t_s 254 r_t_s_68, ia C q_t_row 8 r_t_row_68, ia C q_t_places 6 r_t_places_68] H → va_D A [ob q_t 11 [.long v_t_trace_68, .ref q_t_text, .int v_t_typed_68, .ref q_t_told, .ref q_t_draft, .ref q_t_s, .ref q_t_images, .ref q_t_kept, .ref q_t_heard, .ref q_t_hours, .int v_t_noted_68, .int v_t_at_68, .int v_t_sort_68, .int v_t_start_68, .int v_t_value_68, .ref q_t_row, .ref q_t_best, .int v_t_bestMany_68, .int v_t_bestWorth_68, .int v_t_bestHour_68, .ref q_t_places, .ref q_t_pairs], ia C q_t_told 52 r_t_told_68, ia C q_t_s 254 r_t_s_68, ia C q_t_row 8 r_t_row_68, ia C q_t_places 6 r_t_places_68] → va_S A s.heap H locs → lv_has ls 9 [(6, .int w6_68), (5, .int w5_68), (4, .int w4_68), (3, .int w3_68), (2, .int w2_68), (0, .ref q_t), (1, .int w1_68)] → (∀ (H : Heap) (locs : List Loc) (ls : Array Slot), y_68.1 = 0 → va_P D vwCl [ob q_t 11 [.long v_t_trace_68, .ref q_t_text, .int v_t_typed_68, .ref q_t_told, .ref q_t_draft, .ref q_t_s, .ref q_t_images, .ref q_t_kept, .ref q_t_heard, .ref q_t_hours, .int v_t_noted_68, .int v_t_at_68, .int v_t_sort_68, .int v_t_start_68, .int v_t_value_68, .ref q_t_row, .ref q_t_best, .int v_t_bestMany_68, .int v_t_bestWorth_68, .int v_t_bestHour_68, .ref q_t_places, .ref q_t_pairs], ia C q_t_told 52 r_t_told_68, ia C q_t_s 254 r_t_s_68, ia C q_t_row 8 r_t_row_68, ia C q_t_places 6 y_68.2.2.2.2.2.2] H → va_D A [ob q_t 11 [.long v_t_trace_68, .ref q_t_text, .int v_t_typed_68, .ref q_t_told, .ref q_t_draft, .ref q_t_s, .ref q_t_images, .ref q_t_kept, .ref q_t_heard, .ref q_t_hours, .int v_t_noted_68, .int v_t_at_68, .int v_t_sort_68, .int v_t_start_68, .int v_t_value_68, .ref q_t_row, .ref q_t_best, .int v_t_bestMany_68, .int v_t_bestWorth_68, .int v_t_bestHour_68, .ref q_t_places, .ref q_t_pairs], ia C q_t_told 52 r_t_told_68, ia C q_t_s 254 r_t_s_68, ia C q_t_row 8 r_t_row_68, ia C q_t_places 6 y_68.2.2.2.2.2.2] → va_S A s.heap H locs → lv_has ls 9 [(6, .int y_68.2.1), (5, .int y_68.2.2.1), (4, .int y_68.2.2.2.1), (3, .int y_68.2.2.2.2.1), (2, .int y_68.2.2.2.2.2.1), (0, .ref q_t), (1, .int w1_68)] → W p l e ({ frames := 2, cells := 0, slots := 0, locals := 40 } : Room) s m ([.ref q_t, .int p1] : List Value).toArray below meth c H locs 0 0 Q (F0 m 240 ls [])) → (∀ (H : Heap) (locs : List Loc) (ls : Array Slot), y_68.1 = 1 → va_P D vwCl [ob q_t 11 [.long v_t_trace_68, .ref q_t_text, .int v_t_typed_68, .ref q_t_told, .ref q_t_draft, .ref q_t_s, .ref q_t_images, .ref q_t_kept, .ref q_t_heard, .ref q_t_hours, .int v_t_noted_68, .int v_t_at_68, .int v_t_sort_68, .int v_t_start_68, .int v_t_value_68, .ref q_t_row, .ref q_t_best, .int v_t_bestMany_68, .int v_t_bestWorth_68, .int v_t_bestHour_68, .ref q_t_places, .ref q_t_pairs], ia C q_t_told 52 r_t_told_68, ia C q_t_s 254 r_t_s_68, ia C q_t_row 8 r_t_row_68, ia C q_t_places 6 y_68.2.2.2.2.2.2] H → va_D A [ob q_t 11 [.long v_t_trace_68, .ref q_t_text, .int v_t_typed_68, .ref q_t_told, .ref q_t_draft, .ref q_t_s, .ref q_t_images, .ref q_t_kept, .ref q_t_heard, .ref q_t_hours, .int v_t_noted_68, .int v_t_at_68, .int v_t_sort_68, .int v_t_start_68, .int v_t_value_68, .ref q_t_row, .ref q_t_best, .int v_t_bestMany_68, .int v_t_bestWorth_68, .int v_t_bestHour_68, .ref q_t_places, .ref q_t_pairs], ia C q_t_told 52 r_t_told_68, ia C q_t_s 254 r_t_s_68, ia C q_t_row 8 r_t_row_68, ia C q_t_places 6 y_68.2.2.2.2.2.2] → va_S A s.heap H locs → lv_has ls 9 [(6, .int y_68.2.1), (5, .int y_68.2.2.1), (4, .int y_68.2.2.2.1), (3, .int y_68.2.2.2.2.1), (2, .int y_68.2.2.2.2.2.1), (0, .ref q_t), (1, .int w1_68)] → W p l e ({ frames := 2, cells := 0, slots := 0, locals := 40 } : Room) s m ([.ref q_t, .int p1] : List Value).toArray below meth c H locs 0 0 Q (F0 m 107 ls [])) → (∀ (H : Heap) (locs : List Loc) (ls : Array Slot), y_68.1 = 2 → va_P D vwCl [ob q_t 11 [.long v_t_trace_68, .ref q_t_text, .int v_t_typed_68, .ref q_t_told, .ref q_t_draft, .ref q_t_s, .ref q_t_images, .ref q_t_kept, .ref q_t_heard, .ref q_t_hours, .int v_t_noted_68, .int v_t_at_68, .int v_t_sort_68, .int v_t_start_68, .int v_t_value_68, .ref q_t_row, .ref q_t_best, .int v_t_bestMany_68, .int v_t_bestWorth_68, .int v_t_bestHour_68, .ref q_t_places, .ref q_t_pairs], ia C q_t_told 52 r_t_told_68, ia C q_t_s 254 r_t_s_68, ia C q_t_row 8 r_t_row_68, ia C q_t_places 6 y_68.2.2.2.2.2.2] H → va_D A [ob q_t 11 [.long v_t_trace_68, .ref q_t_text, .int v_t_typed_68, .ref q_t_told, .ref q_t_draft, .ref q_t_s, .ref q_t_images, .ref q_t_kept, .ref q_t_heard, .ref q_t_hours, .int v_t_noted_68, .int v_t_at_68, .int v_t_sort_68, .int v_t_start_68, .int v_t_value_68, .ref q_t_row, .ref q_t_best, .int v_t_bestMany_68, .int v_t_bestWorth_68, .int v_t_bestHour_68, .ref q_t_places, .ref q_t_pairs], ia C q_t_told 52 r_t_told_68, ia C q_t_s 254 r_t_s_68, ia C q_t_row 8 r_t_row_68, ia C q_t_places 6 y_68.2.2.2.2.2.2] → va_S A s.heap H locs → lv_has ls 9 [(6, .int y_68.2.1), (5, .int y_68.2.2.1), (4, .int y_68.2.2.2.1), (3, .int y_68.2.2.2.2.1), (2, .int y_68.2.2.2.2.2.1), (0, .ref q_t), (1, .int w1_68)] → W p l e ({ frames := 2, cells := 0, slots := 0, locals := 40 } : Room) s m ([.ref q_t, .int p1] : List Value).toArray below meth c H locs 0 0 Q (F0 m 200 ls [])) → W p l e ({ frames := 2, cells := 0, slots := 0, locals := 40 } : Room) s m ([.ref q_t, .int p1] : List Value).toArray below meth c H locs 0 0 Q (F0 m 68 ls []) := by
    intro Q n
    induction n with
    | zero =>
      intro w6_68 w5_68 w4_68 w3_68 w2_68 w1_68 v_t_trace_68 v_t_typed_68 v_t_noted_68 v_t_at_68 v_t_sort_68 v_t_start_68 v_t_value_68 v_t_bestMany_68 v_t_bestWorth_68 v_t_bestHour_68 r_t_told_68 r_t_s_68 r_t_row_68 r_t_places_68 y_68 hf
      rw [fX11_wayOf_68] at hf
      cases hf
    | succ n ih =>
      intro w6_68 w5_68 w4_68 w3_68 w2_68 w1_68 v_t_trace_68 v_t_typed_68 v_t_noted_68 v_t_at_68 v_t_sort_68 v_t_start_68 v_t_value_68 v_t_bestMany_68 v_t_bestWorth_68 v_t_bestHour_68 r_t_told_68 r_t_s_68 r_t_row_68 r_t_places_68 y_68 hf H locs ls hP hD hS hl KX0 KX1 KX2
      rw [fX11_wayOf_68] at hf
      refine lv_iload hx hb dX11_wayOf_68 (lv_at hl 0 rfl) ?_
      refine lv_iload_n hx hb dX11_wayOf_70 rfl (lv_at hl 6 rfl) ?_
      refine lv_icmp_ge (tgt := 240) hx hb dX11_wayOf_71 (by decide) (fun c12 => ?_) (fun c12 => ?_)
      · have hf := of_pos hf c12
        obtain rfl := Option.some.inj hf
        exact KX0 _ _ _ rfl hP hD hS (lv_sub hl [0, 1, 2, 3, 4, 5, 6] rfl)
      · have hf := of_neg hf c12
        refine lv_aload_n hx hb dX11_wayOf_74 rfl (lv_at hl 5 rfl) ?_
        refine va_get (D := D) (ci := 11) (v := .ref q_t_row) (C := RX11) (T := TX11) (N := 22) hx hb hts inX11 hown hK hP 0 rfl rfl 15 (by decide) (hts (.fieldLink RX11 35 "LentCourageModel" "row" "[I") (List.mem_of_getElem? (i := 3) rfl)) (fun _ h9 => h9) rfl dX11_wayOf_75 ?_
        refine lv_iload hx hb dX11_wayOf_78 (lv_at hl 0 rfl) ?_
        obtain ⟨h13, hf⟩ := of_chk hf
        refine va_iald hx hb hK hP 3 0 rfl rfl h13 dX11_wayOf_80 ?_
        refine lv_topi (fun z14 ez14 => ?_)
        have hf := of_lt hf ez14
        refine lv_istore (lv' := [(7, .int z14), (6, .int w6_68), (5, .int w5_68), (4, .int w4_68), (3, .int w3_68), (2, .int w2_68), (0, .ref q_t), (1, .int w1_68)]) hx hb dX11_wayOf_81 hl (by decide) rfl (fun ls hl => ?_)
        refine lv_aload_n hx hb dX11_wayOf_83 rfl (lv_at hl 6 rfl) ?_
        refine va_get (D := D) (ci := 11) (v := .ref q_t_told) (C := RX11) (T := TX11) (N := 22) hx hb hts inX11 hown hK hP 0 rfl rfl 3 (by decide) (hts (.fieldLink RX11 13 "LentCourageModel" "told" "[I") (List.mem_of_getElem? (i := 4) rfl)) (fun _ h9 => h9) rfl dX11_wayOf_84 ?_
        refine lv_bipush (v := (12 : Int32)) hx hb dX11_wayOf_87 (by decide) ?_
        refine lv_iload hx hb dX11_wayOf_89 (lv_at hl 0 rfl) ?_
        refine lv_iadd hx hb dX11_wayOf_91 ?_
        obtain ⟨h15, hf⟩ := of_chk hf
        refine va_iald hx hb hK hP 1 0 rfl rfl h15 dX11_wayOf_92 ?_
        refine lv_topi (fun z16 ez16 => ?_)
        have hf := of_lt hf ez16
        refine lv_istore (lv' := [(8, .int z16), (7, .int z14), (6, .int w6_68), (5, .int w5_68), (4, .int w4_68), (3, .int w3_68), (2, .int w2_68), (0, .ref q_t), (1, .int w1_68)]) hx hb dX11_wayOf_93 hl (by decide) rfl (fun ls hl => ?_)
        refine lv_iload hx hb dX11_wayOf_95 (lv_at hl 0 rfl) ?_
        refine lv_iload hx hb dX11_wayOf_97 (lv_at hl 4 rfl) ?_
        refine lv_icmp_ne (tgt := 109) hx hb dX11_wayOf_99 (by decide) (fun c17 => ?_) (fun c17 => ?_)
        · have hf := of_neg hf c17
          refine lv_iload_n hx hb dX11_wayOf_109 rfl (lv_at hl 6 rfl) ?_
          refine lv_iload hx hb dX11_wayOf_110 (lv_at hl 0 rfl) ?_
          refine lv_iload hx hb dX11_wayOf_112 (lv_at hl 4 rfl) ?_
          obtain ⟨j18, hrj18, hf⟩ := of_bind hf
          refine jn (fun H L g => ∃ ls, g = F0 m 132 ls [.int j18, .int w2_68] ∧ va_P D vwCl [ob q_t 11 [.long v_t_trace_68, .ref q_t_text, .int v_t_typed_68, .ref q_t_told, .ref q_t_draft, .ref q_t_s, .ref q_t_images, .ref q_t_kept, .ref q_t_heard, .ref q_t_hours, .int v_t_noted_68, .int v_t_at_68, .int v_t_sort_68, .int v_t_start_68, .int v_t_value_68, .ref q_t_row, .ref q_t_best, .int v_t_bestMany_68, .int v_t_bestWorth_68, .int v_t_bestHour_68, .ref q_t_places, .ref q_t_pairs], ia C q_t_told 52 r_t_told_68, ia C q_t_s 254 r_t_s_68, ia C q_t_row 8 r_t_row_68, ia C q_t_places 6 r_t_places_68] H ∧ va_D A [ob q_t 11 [.long v_t_trace_68, .ref q_t_text, .int v_t_typed_68, .ref q_t_told, .ref q_t_draft, .ref q_t_s, .ref q_t_images, .ref q_t_kept, .ref q_t_heard, .ref q_t_hours, .int v_t_noted_68, .int v_t_at_68, .int v_t_sort_68, .int v_t_start_68, .int v_t_value_68, .ref q_t_row, .ref q_t_best, .int v_t_bestMany_68, .int v_t_bestWorth_68, .int v_t_bestHour_68, .ref q_t_places, .ref q_t_pairs], ia C q_t_told 52 r_t_told_68, ia C q_t_s 254 r_t_s_68, ia C q_t_row 8 r_t_row_68, ia C q_t_places 6 r_t_places_68] ∧ va_S A s.heap H L ∧ lv_has ls 9 [(8, .int z16), (7, .int z14), (6, .int w6_68), (5, .int w5_68), (4, .int w4_68), (3, .int w3_68), (2, .int w2_68), (0, .ref q_t), (1, .int w1_68)]) (fun H locs g hI => ?_) (fun Jj18 => ?_)
          · obtain ⟨ls, rfl, hP, hD, hS, hl⟩ := hI
            refine lv_iadd hx hb dX11_wayOf_132 ?_
            refine lv_topi (fun z22 ez22 => ?_)
            have hf := of_lt hf ez22
            refine lv_istore_n (lv' := [(2, .int z22), (8, .int z16), (7, .int z14), (6, .int w6_68), (5, .int w5_68), (4, .int w4_68), (3, .int w3_68), (0, .ref q_t), (1, .int w1_68)]) hx hb dX11_wayOf_133 rfl hl (by decide) rfl (fun ls hl => ?_)
            refine lv_iload_n hx hb dX11_wayOf_134 rfl (lv_at hl 0 rfl) ?_
            refine lv_aload_n hx hb dX11_wayOf_135 rfl (lv_at hl 7 rfl) ?_
            refine va_get (D := D) (ci := 11) (v := .ref q_t_places) (C := RX11) (T := TX11) (N := 22) hx hb hts inX11 hown hK hP 0 rfl rfl 20 (by decide) (hts (.fieldLink RX11 41 "LentCourageModel" "places" "[I") (List.mem_of_getElem? (i := 1) rfl)) (fun _ h9 => h9) rfl dX11_wayOf_136 ?_
            refine lv_iload hx hb dX11_wayOf_139 (lv_at hl 1 rfl) ?_
            obtain ⟨h23, hf⟩ := of_chk hf
            refine va_iald hx hb hK hP 4 0 rfl rfl h23 dX11_wayOf_141 ?_
            refine lv_aload_n hx hb dX11_wayOf_142 rfl (lv_at hl 7 rfl) ?_
            refine va_get (D := D) (ci := 11) (v := .ref q_t_told) (C := RX11) (T := TX11) (N := 22) hx hb hts inX11 hown hK hP 0 rfl rfl 3 (by decide) (hts (.fieldLink RX11 13 "LentCourageModel" "told" "[I") (List.mem_of_getElem? (i := 4) rfl)) (fun _ h9 => h9) rfl dX11_wayOf_143 ?_
            refine lv_bipush (v := (20 : Int32)) hx hb dX11_wayOf_146 (by decide) ?_
            refine lv_iload hx hb dX11_wayOf_148 (lv_at hl 2 rfl) ?_
            refine lv_iadd hx hb dX11_wayOf_150 ?_
            obtain ⟨h24, hf⟩ := of_chk hf
            refine va_iald hx hb hK hP 1 0 rfl rfl h24 dX11_wayOf_151 ?_
            obtain ⟨o25, ho25, hf⟩ := of_bind hf
            refine c_I (wr := [ob q_t 11 [.long v_t_trace_68, .ref q_t_text, .int v_t_typed_68, .ref q_t_told, .ref q_t_draft, .ref q_t_s, .ref q_t_images, .ref q_t_kept, .ref q_t_heard, .ref q_t_hours, .int v_t_noted_68, .int v_t_at_68, .int v_t_sort_68, .int v_t_start_68, .int v_t_value_68, .ref q_t_row, .ref q_t_best, .int v_t_bestMany_68, .int v_t_bestWorth_68, .int v_t_bestHour_68, .ref q_t_places, .ref q_t_pairs], ia C q_t_told 52 r_t_told_68, ia C q_t_s 254 r_t_s_68, ia C q_t_row 8 r_t_row_68, ia C q_t_places 6 r_t_places_68]) (W2 := [ob q_t 11 [.long v_t_trace_68, .ref q_t_text, .int v_t_typed_68, .ref q_t_told, .ref q_t_draft, .ref q_t_s, .ref q_t_images, .ref q_t_kept, .ref q_t_heard, .ref q_t_hours, .int v_t_noted_68, .int v_t_at_68, .int v_t_sort_68, .int v_t_start_68, .int v_t_value_68, .ref q_t_row, .ref q_t_best, .int v_t_bestMany_68, .int v_t_bestWorth_68, .int v_t_bestHour_68, .ref q_t_places, .ref q_t_pairs], ia C q_t_told 52 r_t_told_68, ia C q_t_s 254 r_t_s_68, ia C q_t_row 8 r_t_row_68, ia C q_t_places 6 r_t_places_68]) (cS_run ⟨hx, hb, hml, hown, hts⟩ (k_X11_far l D C (r_t_places_68 z16.toNatClampNeg) (r_t_told_68 ((20 : Int32) + z14).toNatClampNeg) H.size o25 ho25) gX11_wayOf_X11_far rfl ⟨rfl, rfl⟩ hd_X11_far ⟨(Nat.le_of_ble_eq_true rfl), (Nat.le_of_ble_eq_true rfl)⟩ rfl hK (cut_in hK hP hD [] rfl (by decide)) hl.1 rfl (Nat.le_of_ble_eq_true rfl) dX11_wayOf_152 ⟨Nat.zero_le _, Nat.zero_le _⟩) hP hD hS hA [] [0, 1, 2, 3, 4] [0, 1, 2, 3, 4] rfl rfl (by decide) (by decide) rfl (by decide) (fun H locs hP hD hS => ?_)
            have hP : va_P D vwCl [ob q_t 11 [.long v_t_trace_68, .ref q_t_text, .int v_t_typed_68, .ref q_t_told, .ref q_t_draft, .ref q_t_s, .ref q_t_images, .ref q_t_kept, .ref q_t_heard, .ref q_t_hours, .int v_t_noted_68, .int v_t_at_68, .int v_t_sort_68, .int v_t_start_68, .int v_t_value_68, .ref q_t_row, .ref q_t_best, .int v_t_bestMany_68, .int v_t_bestWorth_68, .int v_t_bestHour_68, .ref q_t_places, .ref q_t_pairs], ia C q_t_told 52 r_t_told_68, ia C q_t_s 254 r_t_s_68, ia C q_t_row 8 r_t_row_68, ia C q_t_places 6 r_t_places_68] H := hP
            have hD : va_D A [ob q_t 11 [.long v_t_trace_68, .ref q_t_text, .int v_t_typed_68, .ref q_t_told, .ref q_t_draft, .ref q_t_s, .ref q_t_images, .ref q_t_kept, .ref q_t_heard, .ref q_t_hours, .int v_t_noted_68, .int v_t_at_68, .int v_t_sort_68, .int v_t_start_68, .int v_t_value_68, .ref q_t_row, .ref q_t_best, .int v_t_bestMany_68, .int v_t_bestWorth_68, .int v_t_bestHour_68, .ref q_t_places, .ref q_t_pairs], ia C q_t_told 52 r_t_told_68, ia C q_t_s 254 r_t_s_68, ia C q_t_row 8 r_t_row_68, ia C q_t_places 6 r_t_places_68] := hD
            refine lv_iadd hx hb dX11_wayOf_155 ?_
            refine lv_topi (fun z26 ez26 => ?_)
            have hf := of_lt hf ez26
            refine lv_istore_n (lv' := [(2, .int z26), (8, .int z16), (7, .int z14), (6, .int w6_68), (5, .int w5_68), (4, .int w4_68), (3, .int w3_68), (0, .ref q_t), (1, .int w1_68)]) hx hb dX11_wayOf_156 rfl hl (by decide) rfl (fun ls hl => ?_)
            refine lv_iload_n hx hb dX11_wayOf_157 rfl (lv_at hl 0 rfl) ?_
            refine lv_aload_n hx hb dX11_wayOf_158 rfl (lv_at hl 7 rfl) ?_
            refine va_get (D := D) (ci := 11) (v := .ref q_t_told) (C := RX11) (T := TX11) (N := 22) hx hb hts inX11 hown hK hP 0 rfl rfl 3 (by decide) (hts (.fieldLink RX11 13 "LentCourageModel" "told" "[I") (List.mem_of_getElem? (i := 4) rfl)) (fun _ h9 => h9) rfl dX11_wayOf_159 ?_
            refine lv_bipush (v := (28 : Int32)) hx hb dX11_wayOf_162 (by decide) ?_
            refine lv_iload hx hb dX11_wayOf_164 (lv_at hl 2 rfl) ?_
            refine lv_iadd hx hb dX11_wayOf_166 ?_
            obtain ⟨h27, hf⟩ := of_chk hf
            refine va_iald hx hb hK hP 1 0 rfl rfl h27 dX11_wayOf_167 ?_
            refine jp (g2 := F0 m 185 ls [.int (if (r_t_told_68 ((28 : Int32) + z14).toNatClampNeg) ≤ z26 then z26 else (r_t_told_68 ((28 : Int32) + z14).toNatClampNeg))]) ?_ (fun JP => ?_)
            · refine lv_topi (fun z29 ez29 => ?_)
              have hf := of_lt hf ez29
              refine lv_istore_n (lv' := [(2, .int z29), (8, .int z16), (7, .int z14), (6, .int w6_68), (5, .int w5_68), (4, .int w4_68), (3, .int w3_68), (0, .ref q_t), (1, .int w1_68)]) hx hb dX11_wayOf_185 rfl hl (by decide) rfl (fun ls hl => ?_)
              refine lv_iload_n hx hb dX11_wayOf_186 rfl (lv_at hl 0 rfl) ?_
              refine lv_aload_n hx hb dX11_wayOf_187 rfl (lv_at hl 7 rfl) ?_
              refine va_get (D := D) (ci := 11) (v := .ref q_t_told) (C := RX11) (T := TX11) (N := 22) hx hb hts inX11 hown hK hP 0 rfl rfl 3 (by decide) (hts (.fieldLink RX11 13 "LentCourageModel" "told" "[I") (List.mem_of_getElem? (i := 4) rfl)) (fun _ h9 => h9) rfl dX11_wayOf_188 ?_
              refine lv_bipush (v := (36 : Int32)) hx hb dX11_wayOf_191 (by decide) ?_
              refine lv_iload hx hb dX11_wayOf_193 (lv_at hl 2 rfl) ?_
              refine lv_iadd hx hb dX11_wayOf_195 ?_
              obtain ⟨h30, hf⟩ := of_chk hf
              refine va_iald hx hb hK hP 1 0 rfl rfl h30 dX11_wayOf_196 ?_
              refine lv_icmp_le (tgt := 202) hx hb dX11_wayOf_197 (by decide) (fun c31 => ?_) (fun c31 => ?_)
              · have hf := of_pos hf c31
                refine lv_aload_n hx hb dX11_wayOf_202 rfl (lv_at hl 7 rfl) ?_
                refine va_get (D := D) (ci := 11) (v := .ref q_t_places) (C := RX11) (T := TX11) (N := 22) hx hb hts inX11 hown hK hP 0 rfl rfl 20 (by decide) (hts (.fieldLink RX11 41 "LentCourageModel" "places" "[I") (List.mem_of_getElem? (i := 1) rfl)) (fun _ h9 => h9) rfl dX11_wayOf_203 ?_
                refine lv_iload hx hb dX11_wayOf_206 (lv_at hl 1 rfl) ?_
                refine lv_aload_n hx hb dX11_wayOf_208 rfl (lv_at hl 7 rfl) ?_
                refine va_get (D := D) (ci := 11) (v := .ref q_t_told) (C := RX11) (T := TX11) (N := 22) hx hb hts inX11 hown hK hP 0 rfl rfl 3 (by decide) (hts (.fieldLink RX11 13 "LentCourageModel" "told" "[I") (List.mem_of_getElem? (i := 4) rfl)) (fun _ h9 => h9) rfl dX11_wayOf_209 ?_
                refine lv_bipush (v := (20 : Int32)) hx hb dX11_wayOf_212 (by decide) ?_
                refine lv_iload hx hb dX11_wayOf_214 (lv_at hl 2 rfl) ?_
                refine lv_iadd hx hb dX11_wayOf_216 ?_
                refine va_iald hx hb hK hP 1 0 rfl rfl h24 dX11_wayOf_217 ?_
                refine lv_topi (fun z32 ez32 => ?_)
                have hf := of_lt hf ez32
                refine va_iast hx hb hK hP hD hS 4 0 rfl rfl h23 dX11_wayOf_218 (fun H locs hP hD hS => ?_)
                have hP : va_P D vwCl [ob q_t 11 [.long v_t_trace_68, .ref q_t_text, .int v_t_typed_68, .ref q_t_told, .ref q_t_draft, .ref q_t_s, .ref q_t_images, .ref q_t_kept, .ref q_t_heard, .ref q_t_hours, .int v_t_noted_68, .int v_t_at_68, .int v_t_sort_68, .int v_t_start_68, .int v_t_value_68, .ref q_t_row, .ref q_t_best, .int v_t_bestMany_68, .int v_t_bestWorth_68, .int v_t_bestHour_68, .ref q_t_places, .ref q_t_pairs], ia C q_t_told 52 r_t_told_68, ia C q_t_s 254 r_t_s_68, ia C q_t_row 8 r_t_row_68, ia C q_t_places 6 (upd r_t_places_68 z16.toNatClampNeg z32)] H := hP
                have hD : va_D A [ob q_t 11 [.long v_t_trace_68, .ref q_t_text, .int v_t_typed_68, .ref q_t_told, .ref q_t_draft, .ref q_t_s, .ref q_t_images, .ref q_t_kept, .ref q_t_heard, .ref q_t_hours, .int v_t_noted_68, .int v_t_at_68, .int v_t_sort_68, .int v_t_start_68, .int v_t_value_68, .ref q_t_row, .ref q_t_best, .int v_t_bestMany_68, .int v_t_bestWorth_68, .int v_t_bestHour_68, .ref q_t_places, .ref q_t_pairs], ia C q_t_told 52 r_t_told_68, ia C q_t_s 254 r_t_s_68, ia C q_t_row 8 r_t_row_68, ia C q_t_places 6 (upd r_t_places_68 z16.toNatClampNeg z32)] := hD
                refine lv_aload_n hx hb dX11_wayOf_219 rfl (lv_at hl 7 rfl) ?_
                refine va_get (D := D) (ci := 11) (v := .ref q_t_places) (C := RX11) (T := TX11) (N := 22) hx hb hts inX11 hown hK hP 0 rfl rfl 20 (by decide) (hts (.fieldLink RX11 41 "LentCourageModel" "places" "[I") (List.mem_of_getElem? (i := 1) rfl)) (fun _ h9 => h9) rfl dX11_wayOf_220 ?_
                refine lv_iload hx hb dX11_wayOf_223 (lv_at hl 1 rfl) ?_
                refine va_iald hx hb hK hP 4 0 rfl rfl h23 dX11_wayOf_225 ?_
                refine lv_topi (fun z33 ez33 => ?_)
                have hf := of_lt hf ez33
                refine lv_istore_n (lv' := [(3, .int z33), (2, .int z29), (8, .int z16), (7, .int z14), (6, .int w6_68), (5, .int w5_68), (4, .int w4_68), (0, .ref q_t), (1, .int w1_68)]) hx hb dX11_wayOf_226 rfl hl (by decide) rfl (fun ls hl => ?_)
                refine lv_iload hx hb dX11_wayOf_227 (lv_at hl 2 rfl) ?_
                refine lv_istore (lv' := [(4, .int z16), (3, .int z33), (2, .int z29), (8, .int z16), (7, .int z14), (6, .int w6_68), (5, .int w5_68), (0, .ref q_t), (1, .int w1_68)]) hx hb dX11_wayOf_229 hl (by decide) rfl (fun ls hl => ?_)
                refine lv_iconst (v := (0 : Int32)) hx hb dX11_wayOf_231 (by decide) ?_
                refine lv_istore (lv' := [(5, .int (0 : Int32)), (4, .int z16), (3, .int z33), (2, .int z29), (8, .int z16), (7, .int z14), (6, .int w6_68), (0, .ref q_t), (1, .int w1_68)]) hx hb dX11_wayOf_232 hl (by decide) rfl (fun ls hl => ?_)
                obtain ⟨z34, ez34⟩ : ∃ y : Int32, y = (w6_68 + (1 : Int32)) := ⟨_, rfl⟩
                have hf := of_lt hf ez34
                refine lv_iinc (v := z34) (lv' := [(6, .int z34), (5, .int (0 : Int32)), (4, .int z16), (3, .int z33), (2, .int z29), (8, .int z16), (7, .int z14), (0, .ref q_t), (1, .int w1_68)]) hx hb dX11_wayOf_234 hl (k := 6) rfl (by rw [ez34]; rfl) (by decide) rfl (fun ls hl => ?_)
                refine lv_goto (tgt := 68) hx hb dX11_wayOf_237 (by decide) ?_
                exact ih _ _ _ _ _ _ _ _ _ _ _ _ _ _ _ _ _ _ _ _ _ hf H locs ls hP hD hS (lv_sub hl [0, 1, 2, 3, 4, 7, 8] rfl) KX0 KX1 KX2
              · have hf := of_neg hf c31
                obtain rfl := Option.some.inj hf
                exact KX2 _ _ _ rfl hP hD hS (lv_sub hl [3, 4, 5, 6, 0, 7, 8] rfl)
            · refine lv_icmp_ge (tgt := 184) hx hb dX11_wayOf_168 (by decide) (fun c28 => ?_) (fun c28 => ?_)
              · refine lv_iload_n hx hb dX11_wayOf_184 rfl (lv_at hl 0 rfl) ?_
                exact W.eq (congrArg (fun x => F0 m 185 ls (Value.int x :: [])) (if_pos c28).symm) JP
              · refine lv_aload_n hx hb dX11_wayOf_171 rfl (lv_at hl 7 rfl) ?_
                refine va_get (D := D) (ci := 11) (v := .ref q_t_told) (C := RX11) (T := TX11) (N := 22) hx hb hts inX11 hown hK hP 0 rfl rfl 3 (by decide) (hts (.fieldLink RX11 13 "LentCourageModel" "told" "[I") (List.mem_of_getElem? (i := 4) rfl)) (fun _ h9 => h9) rfl dX11_wayOf_172 ?_
                refine lv_bipush (v := (28 : Int32)) hx hb dX11_wayOf_175 (by decide) ?_
                refine lv_iload hx hb dX11_wayOf_177 (lv_at hl 2 rfl) ?_
                refine lv_iadd hx hb dX11_wayOf_179 ?_
                refine va_iald hx hb hK hP 1 0 rfl rfl h27 dX11_wayOf_180 ?_
                refine lv_goto (tgt := 185) hx hb dX11_wayOf_181 (by decide) ?_
                exact W.eq (congrArg (fun x => F0 m 185 ls (Value.int x :: [])) (if_neg c28).symm) JP
          · have hf := hrj18
            refine lv_icmp_ne (tgt := 121) hx hb dX11_wayOf_114 (by decide) (fun c19 => ?_) (fun c19 => ?_)
            · have hf := of_neg hf c19
              refine lv_iload_n hx hb dX11_wayOf_121 rfl (lv_at hl 5 rfl) ?_
              refine lv_aload_n hx hb dX11_wayOf_122 rfl (lv_at hl 7 rfl) ?_
              refine va_get (D := D) (ci := 11) (v := .ref q_t_places) (C := RX11) (T := TX11) (N := 22) hx hb hts inX11 hown hK hP 0 rfl rfl 20 (by decide) (hts (.fieldLink RX11 41 "LentCourageModel" "places" "[I") (List.mem_of_getElem? (i := 1) rfl)) (fun _ h9 => h9) rfl dX11_wayOf_123 ?_
              refine lv_iload hx hb dX11_wayOf_126 (lv_at hl 0 rfl) ?_
              obtain ⟨h20, hf⟩ := of_chk hf
              refine va_iald hx hb hK hP 4 0 rfl rfl h20 dX11_wayOf_128 ?_
              obtain ⟨o21, ho21, hf⟩ := of_bind hf
              refine c_I (wr := [ob q_t 11 [.long v_t_trace_68, .ref q_t_text, .int v_t_typed_68, .ref q_t_told, .ref q_t_draft, .ref q_t_s, .ref q_t_images, .ref q_t_kept, .ref q_t_heard, .ref q_t_hours, .int v_t_noted_68, .int v_t_at_68, .int v_t_sort_68, .int v_t_start_68, .int v_t_value_68, .ref q_t_row, .ref q_t_best, .int v_t_bestMany_68, .int v_t_bestWorth_68, .int v_t_bestHour_68, .ref q_t_places, .ref q_t_pairs], ia C q_t_told 52 r_t_told_68, ia C q_t_s 254 r_t_s_68, ia C q_t_row 8 r_t_row_68, ia C q_t_places 6 r_t_places_68]) (W2 := [ob q_t 11 [.long v_t_trace_68, .ref q_t_text, .int v_t_typed_68, .ref q_t_told, .ref q_t_draft, .ref q_t_s, .ref q_t_images, .ref q_t_kept, .ref q_t_heard, .ref q_t_hours, .int v_t_noted_68, .int v_t_at_68, .int v_t_sort_68, .int v_t_start_68, .int v_t_value_68, .ref q_t_row, .ref q_t_best, .int v_t_bestMany_68, .int v_t_bestWorth_68, .int v_t_bestHour_68, .ref q_t_places, .ref q_t_pairs], ia C q_t_told 52 r_t_told_68, ia C q_t_s 254 r_t_s_68, ia C q_t_row 8 r_t_row_68, ia C q_t_places 6 r_t_places_68]) (cS_run ⟨hx, hb, hml, hown, hts⟩ (k_X11_far l D C w3_68 (r_t_places_68 z16.toNatClampNeg) H.size o21 ho21) gX11_wayOf_X11_far rfl ⟨rfl, rfl⟩ hd_X11_far ⟨(Nat.le_of_ble_eq_true rfl), (Nat.le_of_ble_eq_true rfl)⟩ rfl hK (cut_in hK hP hD [] rfl (by decide)) hl.1 rfl (Nat.le_of_ble_eq_true rfl) dX11_wayOf_129 ⟨Nat.zero_le _, Nat.zero_le _⟩) hP hD hS hA [] [0, 1, 2, 3, 4] [0, 1, 2, 3, 4] rfl rfl (by decide) (by decide) rfl (by decide) (fun H locs hP hD hS => ?_)
              have hP : va_P D vwCl [ob q_t 11 [.long v_t_trace_68, .ref q_t_text, .int v_t_typed_68, .ref q_t_told, .ref q_t_draft, .ref q_t_s, .ref q_t_images, .ref q_t_kept, .ref q_t_heard, .ref q_t_hours, .int v_t_noted_68, .int v_t_at_68, .int v_t_sort_68, .int v_t_start_68, .int v_t_value_68, .ref q_t_row, .ref q_t_best, .int v_t_bestMany_68, .int v_t_bestWorth_68, .int v_t_bestHour_68, .ref q_t_places, .ref q_t_pairs], ia C q_t_told 52 r_t_told_68, ia C q_t_s 254 r_t_s_68, ia C q_t_row 8 r_t_row_68, ia C q_t_places 6 r_t_places_68] H := hP
              have hD : va_D A [ob q_t 11 [.long v_t_trace_68, .ref q_t_text, .int v_t_typed_68, .ref q_t_told, .ref q_t_draft, .ref q_t_s, .ref q_t_images, .ref q_t_kept, .ref q_t_heard, .ref q_t_hours, .int v_t_noted_68, .int v_t_at_68, .int v_t_sort_68, .int v_t_start_68, .int v_t_value_68, .ref q_t_row, .ref q_t_best, .int v_t_bestMany_68, .int v_t_bestWorth_68, .int v_t_bestHour_68, .ref q_t_places, .ref q_t_pairs], ia C q_t_told 52 r_t_told_68, ia C q_t_s 254 r_t_s_68, ia C q_t_row 8 r_t_row_68, ia C q_t_places 6 r_t_places_68] := hD
              obtain rfl := Option.some.inj hf
              exact Jj18 _ _ _ ⟨_, rfl, hP, hD, hS, lv_sub hl [0, 1, 2, 3, 4, 5, 6, 7, 8] rfl⟩
            · have hf := of_pos hf c19
              refine lv_iconst (v := (0 : Int32)) hx hb dX11_wayOf_117 (by decide) ?_
              refine lv_goto (tgt := 132) hx hb dX11_wayOf_118 (by decide) ?_
              obtain rfl := Option.some.inj hf
              exact Jj18 _ _ _ ⟨_, rfl, hP, hD, hS, lv_sub hl [0, 1, 2, 3, 4, 5, 6, 7, 8] rfl⟩
        · have hf := of_pos hf c17
          refine lv_iload hx hb dX11_wayOf_102 (lv_at hl 3 rfl) ?_
          refine lv_if_ne (tgt := 109) hx hb dX11_wayOf_104 (by decide) (fun c35 => ?_) (fun c35 => ?_)
          · have hf := of_neg hf c35
            refine lv_iload_n hx hb dX11_wayOf_109 rfl (lv_at hl 6 rfl) ?_
            refine lv_iload hx hb dX11_wayOf_110 (lv_at hl 0 rfl) ?_
            refine lv_iload hx hb dX11_wayOf_112 (lv_at hl 4 rfl) ?_
            obtain ⟨j36, hrj36, hf⟩ := of_bind hf
            refine jn (fun H L g => ∃ ls, g = F0 m 132 ls [.int j36, .int w2_68] ∧ va_P D vwCl [ob q_t 11 [.long v_t_trace_68, .ref q_t_text, .int v_t_typed_68, .ref q_t_told, .ref q_t_draft, .ref q_t_s, .ref q_t_images, .ref q_t_kept, .ref q_t_heard, .ref q_t_hours, .int v_t_noted_68, .int v_t_at_68, .int v_t_sort_68, .int v_t_start_68, .int v_t_value_68, .ref q_t_row, .ref q_t_best, .int v_t_bestMany_68, .int v_t_bestWorth_68, .int v_t_bestHour_68, .ref q_t_places, .ref q_t_pairs], ia C q_t_told 52 r_t_told_68, ia C q_t_s 254 r_t_s_68, ia C q_t_row 8 r_t_row_68, ia C q_t_places 6 r_t_places_68] H ∧ va_D A [ob q_t 11 [.long v_t_trace_68, .ref q_t_text, .int v_t_typed_68, .ref q_t_told, .ref q_t_draft, .ref q_t_s, .ref q_t_images, .ref q_t_kept, .ref q_t_heard, .ref q_t_hours, .int v_t_noted_68, .int v_t_at_68, .int v_t_sort_68, .int v_t_start_68, .int v_t_value_68, .ref q_t_row, .ref q_t_best, .int v_t_bestMany_68, .int v_t_bestWorth_68, .int v_t_bestHour_68, .ref q_t_places, .ref q_t_pairs], ia C q_t_told 52 r_t_told_68, ia C q_t_s 254 r_t_s_68, ia C q_t_row 8 r_t_row_68, ia C q_t_places 6 r_t_places_68] ∧ va_S A s.heap H L ∧ lv_has ls 9 [(8, .int z16), (7, .int z14), (6, .int w6_68), (5, .int w5_68), (4, .int w4_68), (3, .int w3_68), (2, .int w2_68), (0, .ref q_t), (1, .int w1_68)]) (fun H locs g hI => ?_) (fun Jj36 => ?_)
            · obtain ⟨ls, rfl, hP, hD, hS, hl⟩ := hI
              refine lv_iadd hx hb dX11_wayOf_132 ?_
              refine lv_topi (fun z40 ez40 => ?_)
              have hf := of_lt hf ez40
              refine lv_istore_n (lv' := [(2, .int z40), (8, .int z16), (7, .int z14), (6, .int w6_68), (5, .int w5_68), (4, .int w4_68), (3, .int w3_68), (0, .ref q_t), (1, .int w1_68)]) hx hb dX11_wayOf_133 rfl hl (by decide) rfl (fun ls hl => ?_)
              refine lv_iload_n hx hb dX11_wayOf_134 rfl (lv_at hl 0 rfl) ?_
              refine lv_aload_n hx hb dX11_wayOf_135 rfl (lv_at hl 7 rfl) ?_
              refine va_get (D := D) (ci := 11) (v := .ref q_t_places) (C := RX11) (T := TX11) (N := 22) hx hb hts inX11 hown hK hP 0 rfl rfl 20 (by decide) (hts (.fieldLink RX11 41 "LentCourageModel" "places" "[I") (List.mem_of_getElem? (i := 1) rfl)) (fun _ h9 => h9) rfl dX11_wayOf_136 ?_
              refine lv_iload hx hb dX11_wayOf_139 (lv_at hl 1 rfl) ?_
              obtain ⟨h41, hf⟩ := of_chk hf
              refine va_iald hx hb hK hP 4 0 rfl rfl h41 dX11_wayOf_141 ?_
              refine lv_aload_n hx hb dX11_wayOf_142 rfl (lv_at hl 7 rfl) ?_
              refine va_get (D := D) (ci := 11) (v := .ref q_t_told) (C := RX11) (T := TX11) (N := 22) hx hb hts inX11 hown hK hP 0 rfl rfl 3 (by decide) (hts (.fieldLink RX11 13 "LentCourageModel" "told" "[I") (List.mem_of_getElem? (i := 4) rfl)) (fun _ h9 => h9) rfl dX11_wayOf_143 ?_
              refine lv_bipush (v := (20 : Int32)) hx hb dX11_wayOf_146 (by decide) ?_
              refine lv_iload hx hb dX11_wayOf_148 (lv_at hl 2 rfl) ?_
              refine lv_iadd hx hb dX11_wayOf_150 ?_
              obtain ⟨h42, hf⟩ := of_chk hf
              refine va_iald hx hb hK hP 1 0 rfl rfl h42 dX11_wayOf_151 ?_
              obtain ⟨o43, ho43, hf⟩ := of_bind hf
              refine c_I (wr := [ob q_t 11 [.long v_t_trace_68, .ref q_t_text, .int v_t_typed_68, .ref q_t_told, .ref q_t_draft, .ref q_t_s, .ref q_t_images, .ref q_t_kept, .ref q_t_heard, .ref q_t_hours, .int v_t_noted_68, .int v_t_at_68, .int v_t_sort_68, .int v_t_start_68, .int v_t_value_68, .ref q_t_row, .ref q_t_best, .int v_t_bestMany_68, .int v_t_bestWorth_68, .int v_t_bestHour_68, .ref q_t_places, .ref q_t_pairs], ia C q_t_told 52 r_t_told_68, ia C q_t_s 254 r_t_s_68, ia C q_t_row 8 r_t_row_68, ia C q_t_places 6 r_t_places_68]) (W2 := [ob q_t 11 [.long v_t_trace_68, .ref q_t_text, .int v_t_typed_68, .ref q_t_told, .ref q_t_draft, .ref q_t_s, .ref q_t_images, .ref q_t_kept, .ref q_t_heard, .ref q_t_hours, .int v_t_noted_68, .int v_t_at_68, .int v_t_sort_68, .int v_t_start_68, .int v_t_value_68, .ref q_t_row, .ref q_t_best, .int v_t_bestMany_68, .int v_t_bestWorth_68, .int v_t_bestHour_68, .ref q_t_places, .ref q_t_pairs], ia C q_t_told 52 r_t_told_68, ia C q_t_s 254 r_t_s_68, ia C q_t_row 8 r_t_row_68, ia C q_t_places 6 r_t_places_68]) (cS_run ⟨hx, hb, hml, hown, hts⟩ (k_X11_far l D C (r_t_places_68 z16.toNatClampNeg) (r_t_told_68 ((20 : Int32) + z14).toNatClampNeg) H.size o43 ho43) gX11_wayOf_X11_far rfl ⟨rfl, rfl⟩ hd_X11_far ⟨(Nat.le_of_ble_eq_true rfl), (Nat.le_of_ble_eq_true rfl)⟩ rfl hK (cut_in hK hP hD [] rfl (by decide)) hl.1 rfl (Nat.le_of_ble_eq_true rfl) dX11_wayOf_152 ⟨Nat.zero_le _, Nat.zero_le _⟩) hP hD hS hA [] [0, 1, 2, 3, 4] [0, 1, 2, 3, 4] rfl rfl (by decide) (by decide) rfl (by decide) (fun H locs hP hD hS => ?_)
              have hP : va_P D vwCl [ob q_t 11 [.long v_t_trace_68, .ref q_t_text, .int v_t_typed_68, .ref q_t_told, .ref q_t_draft, .ref q_t_s, .ref q_t_images, .ref q_t_kept, .ref q_t_heard, .ref q_t_hours, .int v_t_noted_68, .int v_t_at_68, .int v_t_sort_68, .int v_t_start_68, .int v_t_value_68, .ref q_t_row, .ref q_t_best, .int v_t_bestMany_68, .int v_t_bestWorth_68, .int v_t_bestHour_68, .ref q_t_places, .ref q_t_pairs], ia C q_t_told 52 r_t_told_68, ia C q_t_s 254 r_t_s_68, ia C q_t_row 8 r_t_row_68, ia C q_t_places 6 r_t_places_68] H := hP
              have hD : va_D A [ob q_t 11 [.long v_t_trace_68, .ref q_t_text, .int v_t_typed_68, .ref q_t_told, .ref q_t_draft, .ref q_t_s, .ref q_t_images, .ref q_t_kept, .ref q_t_heard, .ref q_t_hours, .int v_t_noted_68, .int v_t_at_68, .int v_t_sort_68, .int v_t_start_68, .int v_t_value_68, .ref q_t_row, .ref q_t_best, .int v_t_bestMany_68, .int v_t_bestWorth_68, .int v_t_bestHour_68, .ref q_t_places, .ref q_t_pairs], ia C q_t_told 52 r_t_told_68, ia C q_t_s 254 r_t_s_68, ia C q_t_row 8 r_t_row_68, ia C q_t_places 6 r_t_places_68] := hD
              refine lv_iadd hx hb dX11_wayOf_155 ?_
              refine lv_topi (fun z44 ez44 => ?_)
              have hf := of_lt hf ez44
              refine lv_istore_n (lv' := [(2, .int z44), (8, .int z16), (7, .int z14), (6, .int w6_68), (5, .int w5_68), (4, .int w4_68), (3, .int w3_68), (0, .ref q_t), (1, .int w1_68)]) hx hb dX11_wayOf_156 rfl hl (by decide) rfl (fun ls hl => ?_)
              refine lv_iload_n hx hb dX11_wayOf_157 rfl (lv_at hl 0 rfl) ?_
              refine lv_aload_n hx hb dX11_wayOf_158 rfl (lv_at hl 7 rfl) ?_
              refine va_get (D := D) (ci := 11) (v := .ref q_t_told) (C := RX11) (T := TX11) (N := 22) hx hb hts inX11 hown hK hP 0 rfl rfl 3 (by decide) (hts (.fieldLink RX11 13 "LentCourageModel" "told" "[I") (List.mem_of_getElem? (i := 4) rfl)) (fun _ h9 => h9) rfl dX11_wayOf_159 ?_
              refine lv_bipush (v := (28 : Int32)) hx hb dX11_wayOf_162 (by decide) ?_
              refine lv_iload hx hb dX11_wayOf_164 (lv_at hl 2 rfl) ?_
              refine lv_iadd hx hb dX11_wayOf_166 ?_
              obtain ⟨h45, hf⟩ := of_chk hf
              refine va_iald hx hb hK hP 1 0 rfl rfl h45 dX11_wayOf_167 ?_
              refine jp (g2 := F0 m 185 ls [.int (if (r_t_told_68 ((28 : Int32) + z14).toNatClampNeg) ≤ z44 then z44 else (r_t_told_68 ((28 : Int32) + z14).toNatClampNeg))]) ?_ (fun JP => ?_)
              · refine lv_topi (fun z47 ez47 => ?_)
                have hf := of_lt hf ez47
                refine lv_istore_n (lv' := [(2, .int z47), (8, .int z16), (7, .int z14), (6, .int w6_68), (5, .int w5_68), (4, .int w4_68), (3, .int w3_68), (0, .ref q_t), (1, .int w1_68)]) hx hb dX11_wayOf_185 rfl hl (by decide) rfl (fun ls hl => ?_)
                refine lv_iload_n hx hb dX11_wayOf_186 rfl (lv_at hl 0 rfl) ?_
                refine lv_aload_n hx hb dX11_wayOf_187 rfl (lv_at hl 7 rfl) ?_
                refine va_get (D := D) (ci := 11) (v := .ref q_t_told) (C := RX11) (T := TX11) (N := 22) hx hb hts inX11 hown hK hP 0 rfl rfl 3 (by decide) (hts (.fieldLink RX11 13 "LentCourageModel" "told" "[I") (List.mem_of_getElem? (i := 4) rfl)) (fun _ h9 => h9) rfl dX11_wayOf_188 ?_
                refine lv_bipush (v := (36 : Int32)) hx hb dX11_wayOf_191 (by decide) ?_
                refine lv_iload hx hb dX11_wayOf_193 (lv_at hl 2 rfl) ?_
                refine lv_iadd hx hb dX11_wayOf_195 ?_
                obtain ⟨h48, hf⟩ := of_chk hf
                refine va_iald hx hb hK hP 1 0 rfl rfl h48 dX11_wayOf_196 ?_
                refine lv_icmp_le (tgt := 202) hx hb dX11_wayOf_197 (by decide) (fun c49 => ?_) (fun c49 => ?_)
                · have hf := of_pos hf c49
                  refine lv_aload_n hx hb dX11_wayOf_202 rfl (lv_at hl 7 rfl) ?_
                  refine va_get (D := D) (ci := 11) (v := .ref q_t_places) (C := RX11) (T := TX11) (N := 22) hx hb hts inX11 hown hK hP 0 rfl rfl 20 (by decide) (hts (.fieldLink RX11 41 "LentCourageModel" "places" "[I") (List.mem_of_getElem? (i := 1) rfl)) (fun _ h9 => h9) rfl dX11_wayOf_203 ?_
                  refine lv_iload hx hb dX11_wayOf_206 (lv_at hl 1 rfl) ?_
                  refine lv_aload_n hx hb dX11_wayOf_208 rfl (lv_at hl 7 rfl) ?_
                  refine va_get (D := D) (ci := 11) (v := .ref q_t_told) (C := RX11) (T := TX11) (N := 22) hx hb hts inX11 hown hK hP 0 rfl rfl 3 (by decide) (hts (.fieldLink RX11 13 "LentCourageModel" "told" "[I") (List.mem_of_getElem? (i := 4) rfl)) (fun _ h9 => h9) rfl dX11_wayOf_209 ?_
                  refine lv_bipush (v := (20 : Int32)) hx hb dX11_wayOf_212 (by decide) ?_
                  refine lv_iload hx hb dX11_wayOf_214 (lv_at hl 2 rfl) ?_
                  refine lv_iadd hx hb dX11_wayOf_216 ?_
                  refine va_iald hx hb hK hP 1 0 rfl rfl h42 dX11_wayOf_217 ?_
                  refine lv_topi (fun z50 ez50 => ?_)
                  have hf := of_lt hf ez50
                  refine va_iast hx hb hK hP hD hS 4 0 rfl rfl h41 dX11_wayOf_218 (fun H locs hP hD hS => ?_)
                  have hP : va_P D vwCl [ob q_t 11 [.long v_t_trace_68, .ref q_t_text, .int v_t_typed_68, .ref q_t_told, .ref q_t_draft, .ref q_t_s, .ref q_t_images, .ref q_t_kept, .ref q_t_heard, .ref q_t_hours, .int v_t_noted_68, .int v_t_at_68, .int v_t_sort_68, .int v_t_start_68, .int v_t_value_68, .ref q_t_row, .ref q_t_best, .int v_t_bestMany_68, .int v_t_bestWorth_68, .int v_t_bestHour_68, .ref q_t_places, .ref q_t_pairs], ia C q_t_told 52 r_t_told_68, ia C q_t_s 254 r_t_s_68, ia C q_t_row 8 r_t_row_68, ia C q_t_places 6 (upd r_t_places_68 z16.toNatClampNeg z50)] H := hP
                  have hD : va_D A [ob q_t 11 [.long v_t_trace_68, .ref q_t_text, .int v_t_typed_68, .ref q_t_told, .ref q_t_draft, .ref q_t_s, .ref q_t_images, .ref q_t_kept, .ref q_t_heard, .ref q_t_hours, .int v_t_noted_68, .int v_t_at_68, .int v_t_sort_68, .int v_t_start_68, .int v_t_value_68, .ref q_t_row, .ref q_t_best, .int v_t_bestMany_68, .int v_t_bestWorth_68, .int v_t_bestHour_68, .ref q_t_places, .ref q_t_pairs], ia C q_t_told 52 r_t_told_68, ia C q_t_s 254 r_t_s_68, ia C q_t_row 8 r_t_row_68, ia C q_t_places 6 (upd r_t_places_68 z16.toNatClampNeg z50)] := hD
                  refine lv_aload_n hx hb dX11_wayOf_219 rfl (lv_at hl 7 rfl) ?_
                  refine va_get (D := D) (ci := 11) (v := .ref q_t_places) (C := RX11) (T := TX11) (N := 22) hx hb hts inX11 hown hK hP 0 rfl rfl 20 (by decide) (hts (.fieldLink RX11 41 "LentCourageModel" "places" "[I") (List.mem_of_getElem? (i := 1) rfl)) (fun _ h9 => h9) rfl dX11_wayOf_220 ?_
                  refine lv_iload hx hb dX11_wayOf_223 (lv_at hl 1 rfl) ?_
                  refine va_iald hx hb hK hP 4 0 rfl rfl h41 dX11_wayOf_225 ?_
                  refine lv_topi (fun z51 ez51 => ?_)
                  have hf := of_lt hf ez51
                  refine lv_istore_n (lv' := [(3, .int z51), (2, .int z47), (8, .int z16), (7, .int z14), (6, .int w6_68), (5, .int w5_68), (4, .int w4_68), (0, .ref q_t), (1, .int w1_68)]) hx hb dX11_wayOf_226 rfl hl (by decide) rfl (fun ls hl => ?_)
                  refine lv_iload hx hb dX11_wayOf_227 (lv_at hl 2 rfl) ?_
                  refine lv_istore (lv' := [(4, .int z16), (3, .int z51), (2, .int z47), (8, .int z16), (7, .int z14), (6, .int w6_68), (5, .int w5_68), (0, .ref q_t), (1, .int w1_68)]) hx hb dX11_wayOf_229 hl (by decide) rfl (fun ls hl => ?_)
                  refine lv_iconst (v := (0 : Int32)) hx hb dX11_wayOf_231 (by decide) ?_
                  refine lv_istore (lv' := [(5, .int (0 : Int32)), (4, .int z16), (3, .int z51), (2, .int z47), (8, .int z16), (7, .int z14), (6, .int w6_68), (0, .ref q_t), (1, .int w1_68)]) hx hb dX11_wayOf_232 hl (by decide) rfl (fun ls hl => ?_)
                  obtain ⟨z52, ez52⟩ : ∃ y : Int32, y = (w6_68 + (1 : Int32)) := ⟨_, rfl⟩
                  have hf := of_lt hf ez52
                  refine lv_iinc (v := z52) (lv' := [(6, .int z52), (5, .int (0 : Int32)), (4, .int z16), (3, .int z51), (2, .int z47), (8, .int z16), (7, .int z14), (0, .ref q_t), (1, .int w1_68)]) hx hb dX11_wayOf_234 hl (k := 6) rfl (by rw [ez52]; rfl) (by decide) rfl (fun ls hl => ?_)
                  refine lv_goto (tgt := 68) hx hb dX11_wayOf_237 (by decide) ?_
                  exact ih _ _ _ _ _ _ _ _ _ _ _ _ _ _ _ _ _ _ _ _ _ hf H locs ls hP hD hS (lv_sub hl [0, 1, 2, 3, 4, 7, 8] rfl) KX0 KX1 KX2
                · have hf := of_neg hf c49
                  obtain rfl := Option.some.inj hf
                  exact KX2 _ _ _ rfl hP hD hS (lv_sub hl [3, 4, 5, 6, 0, 7, 8] rfl)
              · refine lv_icmp_ge (tgt := 184) hx hb dX11_wayOf_168 (by decide) (fun c46 => ?_) (fun c46 => ?_)
                · refine lv_iload_n hx hb dX11_wayOf_184 rfl (lv_at hl 0 rfl) ?_
                  exact W.eq (congrArg (fun x => F0 m 185 ls (Value.int x :: [])) (if_pos c46).symm) JP
                · refine lv_aload_n hx hb dX11_wayOf_171 rfl (lv_at hl 7 rfl) ?_
                  refine va_get (D := D) (ci := 11) (v := .ref q_t_told) (C := RX11) (T := TX11) (N := 22) hx hb hts inX11 hown hK hP 0 rfl rfl 3 (by decide) (hts (.fieldLink RX11 13 "LentCourageModel" "told" "[I") (List.mem_of_getElem? (i := 4) rfl)) (fun _ h9 => h9) rfl dX11_wayOf_172 ?_
                  refine lv_bipush (v := (28 : Int32)) hx hb dX11_wayOf_175 (by decide) ?_
                  refine lv_iload hx hb dX11_wayOf_177 (lv_at hl 2 rfl) ?_
                  refine lv_iadd hx hb dX11_wayOf_179 ?_
                  refine va_iald hx hb hK hP 1 0 rfl rfl h45 dX11_wayOf_180 ?_
                  refine lv_goto (tgt := 185) hx hb dX11_wayOf_181 (by decide) ?_
                  exact W.eq (congrArg (fun x => F0 m 185 ls (Value.int x :: [])) (if_neg c46).symm) JP
            · have hf := hrj36
              refine lv_icmp_ne (tgt := 121) hx hb dX11_wayOf_114 (by decide) (fun c37 => ?_) (fun c37 => ?_)
              · have hf := of_neg hf c37
                refine lv_iload_n hx hb dX11_wayOf_121 rfl (lv_at hl 5 rfl) ?_
                refine lv_aload_n hx hb dX11_wayOf_122 rfl (lv_at hl 7 rfl) ?_
                refine va_get (D := D) (ci := 11) (v := .ref q_t_places) (C := RX11) (T := TX11) (N := 22) hx hb hts inX11 hown hK hP 0 rfl rfl 20 (by decide) (hts (.fieldLink RX11 41 "LentCourageModel" "places" "[I") (List.mem_of_getElem? (i := 1) rfl)) (fun _ h9 => h9) rfl dX11_wayOf_123 ?_
                refine lv_iload hx hb dX11_wayOf_126 (lv_at hl 0 rfl) ?_
                obtain ⟨h38, hf⟩ := of_chk hf
                refine va_iald hx hb hK hP 4 0 rfl rfl h38 dX11_wayOf_128 ?_
                obtain ⟨o39, ho39, hf⟩ := of_bind hf
                refine c_I (wr := [ob q_t 11 [.long v_t_trace_68, .ref q_t_text, .int v_t_typed_68, .ref q_t_told, .ref q_t_draft, .ref q_t_s, .ref q_t_images, .ref q_t_kept, .ref q_t_heard, .ref q_t_hours, .int v_t_noted_68, .int v_t_at_68, .int v_t_sort_68, .int v_t_start_68, .int v_t_value_68, .ref q_t_row, .ref q_t_best, .int v_t_bestMany_68, .int v_t_bestWorth_68, .int v_t_bestHour_68, .ref q_t_places, .ref q_t_pairs], ia C q_t_told 52 r_t_told_68, ia C q_t_s 254 r_t_s_68, ia C q_t_row 8 r_t_row_68, ia C q_t_places 6 r_t_places_68]) (W2 := [ob q_t 11 [.long v_t_trace_68, .ref q_t_text, .int v_t_typed_68, .ref q_t_told, .ref q_t_draft, .ref q_t_s, .ref q_t_images, .ref q_t_kept, .ref q_t_heard, .ref q_t_hours, .int v_t_noted_68, .int v_t_at_68, .int v_t_sort_68, .int v_t_start_68, .int v_t_value_68, .ref q_t_row, .ref q_t_best, .int v_t_bestMany_68, .int v_t_bestWorth_68, .int v_t_bestHour_68, .ref q_t_places, .ref q_t_pairs], ia C q_t_told 52 r_t_told_68, ia C q_t_s 254 r_t_s_68, ia C q_t_row 8 r_t_row_68, ia C q_t_places 6 r_t_places_68]) (cS_run ⟨hx, hb, hml, hown, hts⟩ (k_X11_far l D C w3_68 (r_t_places_68 z16.toNatClampNeg) H.size o39 ho39) gX11_wayOf_X11_far rfl ⟨rfl, rfl⟩ hd_X11_far ⟨(Nat.le_of_ble_eq_true rfl), (Nat.le_of_ble_eq_true rfl)⟩ rfl hK (cut_in hK hP hD [] rfl (by decide)) hl.1 rfl (Nat.le_of_ble_eq_true rfl) dX11_wayOf_129 ⟨Nat.zero_le _, Nat.zero_le _⟩) hP hD hS hA [] [0, 1, 2, 3, 4] [0, 1, 2, 3, 4] rfl rfl (by decide) (by decide) rfl (by decide) (fun H locs hP hD hS => ?_)
                have hP : va_P D vwCl [ob q_t 11 [.long v_t_trace_68, .ref q_t_text, .int v_t_typed_68, .ref q_t_told, .ref q_t_draft, .ref q_t_s, .ref q_t_images, .ref q_t_kept, .ref q_t_heard, .ref q_t_hours, .int v_t_noted_68, .int v_t_at_68, .int v_t_sort_68, .int v_t_start_68, .int v_t_value_68, .ref q_t_row, .ref q_t_best, .int v_t_bestMany_68, .int v_t_bestWorth_68, .int v_t_bestHour_68, .ref q_t_places, .ref q_t_pairs], ia C q_t_told 52 r_t_told_68, ia C q_t_s 254 r_t_s_68, ia C q_t_row 8 r_t_row_68, ia C q_t_places 6 r_t_places_68] H := hP
                have hD : va_D A [ob q_t 11 [.long v_t_trace_68, .ref q_t_text, .int v_t_typed_68, .ref q_t_told, .ref q_t_draft, .ref q_t_s, .ref q_t_images, .ref q_t_kept, .ref q_t_heard, .ref q_t_hours, .int v_t_noted_68, .int v_t_at_68, .int v_t_sort_68, .int v_t_start_68, .int v_t_value_68, .ref q_t_row, .ref q_t_best, .int v_t_bestMany_68, .int v_t_bestWorth_68, .int v_t_bestHour_68, .ref q_t_places, .ref q_t_pairs], ia C q_t_told 52 r_t_told_68, ia C q_t_s 254 r_t_s_68, ia C q_t_row 8 r_t_row_68, ia C q_t_places 6 r_t_places_68] := hD
                obtain rfl := Option.some.inj hf
                exact Jj36 _ _ _ ⟨_, rfl, hP, hD, hS, lv_sub hl [0, 1, 2, 3, 4, 5, 6, 7, 8] rfl⟩
              · have hf := of_pos hf c37
                refine lv_iconst (v := (0 : Int32)) hx hb dX11_wayOf_117 (by decide) ?_
                refine lv_goto (tgt := 132) hx hb dX11_wayOf_118 (by decide) ?_
                obtain rfl := Option.some.inj hf
                exact Jj36 _ _ _ ⟨_, rfl, hP, hD, hS, lv_sub hl [0, 1, 2, 3, 4, 5, 6, 7, 8] rfl⟩
          · have hf := of_pos hf c35
            obtain rfl := Option.some.inj hf
            exact KX1 _ _ _ rfl hP hD hS (lv_sub hl [2, 3, 4, 5, 6, 7, 8] rfl)
  refine lv_iconst (v := (0 : Int32)) hx hb dX11_wayOf_0 (by decide) ?_
  refine lv_istore_n (lv' := [(2, .int (0 : Int32)), (0, .ref q_t), (1, .int p1)]) hx hb dX11_wayOf_1 rfl hl (by decide) rfl (fun ls hl => ?_)
  obtain ⟨y6, hy6, hf⟩ := of_bind hf
  refine LP2 _ FU _ _ _ _ _ _ _ _ _ _ _ _ _ _ _ _ y6 hy6 H locs ls hP hD hS (lv_sub hl [0, 1, 2] rfl) (fun H locs ls hP hD hS hl => ?_)
  refine lv_aload_n hx hb dX11_wayOf_28 rfl (lv_at hl 1 rfl) ?_
  refine va_get (D := D) (ci := 11) (v := .ref q_t_s) (C := RX11) (T := TX11) (N := 22) hx hb hts inX11 hown hK hP 0 rfl rfl 5 (by decide) (hts (.fieldLink RX11 19 "LentCourageModel" "s" "[I") (List.mem_of_getElem? (i := 2) rfl)) (fun _ h9 => h9) rfl dX11_wayOf_29 ?_
  refine lv_iconst (v := (0 : Int32)) hx hb dX11_wayOf_32 (by decide) ?_
  refine ld_ialdK hx hb hK hP 2 0 rfl rfl (k := 0) (by decide) (by decide) (by decide) dX11_wayOf_33 ?_
  refine lv_topi (fun z7 ez7 => ?_)
  have hf := of_lt hf ez7
  refine lv_istore_n (lv' := [(2, .int z7), (0, .ref q_t), (1, .int p1)]) hx hb dX11_wayOf_34 rfl hl (by decide) rfl (fun ls hl => ?_)
  refine lv_aload_n hx hb dX11_wayOf_35 rfl (lv_at hl 1 rfl) ?_
  obtain ⟨o8, ho8, hf⟩ := of_bind hf
  refine c_I (wr := [ia C q_t_row 8 r_t_row, ia C q_t_places 6 y6.2]) (W2 := [ob q_t 11 [.long v_t_trace, .ref q_t_text, .int v_t_typed, .ref q_t_told, .ref q_t_draft, .ref q_t_s, .ref q_t_images, .ref q_t_kept, .ref q_t_heard, .ref q_t_hours, .int v_t_noted, .int v_t_at, .int v_t_sort, .int v_t_start, .int v_t_value, .ref q_t_row, .ref q_t_best, .int v_t_bestMany, .int v_t_bestWorth, .int v_t_bestHour, .ref q_t_places, .ref q_t_pairs], ia C q_t_told 52 r_t_told, ia C q_t_s 254 r_t_s, ia C q_t_row 8 r_t_row, ia C q_t_places 6 y6.2]) (cV_run ⟨hx, hb, hml, hown, hts⟩ (k_X11_spoonAt l D C q_t q_t_text q_t_told q_t_draft q_t_s q_t_images q_t_kept q_t_heard q_t_hours q_t_row q_t_best q_t_places q_t_pairs v_t_trace v_t_typed v_t_noted v_t_at v_t_sort v_t_start v_t_value v_t_bestMany v_t_bestWorth v_t_bestHour r_t_told r_t_s H.size o8 ho8) gX11_wayOf_X11_spoonAt rfl ⟨rfl, rfl⟩ hd_X11_spoonAt ⟨(Nat.le_of_ble_eq_true rfl), (Nat.le_of_ble_eq_true rfl)⟩ rfl hK (cut_in hK hP hD [0, 1, 2] rfl (by decide)) (ci := 11) rfl rfl rfl hl.1 rfl (Nat.le_of_ble_eq_true rfl) dX11_wayOf_36 ⟨Nat.zero_le _, Nat.zero_le _⟩) hP hD hS hA [0, 1, 2] [3, 4] [2, 3, 4, 0, 1] rfl rfl (by decide) (by decide) rfl (by decide) (fun H locs hP hD hS => ?_)
  have hP : va_P D vwCl [ob q_t 11 [.long v_t_trace, .ref q_t_text, .int v_t_typed, .ref q_t_told, .ref q_t_draft, .ref q_t_s, .ref q_t_images, .ref q_t_kept, .ref q_t_heard, .ref q_t_hours, .int v_t_noted, .int v_t_at, .int v_t_sort, .int v_t_start, .int v_t_value, .ref q_t_row, .ref q_t_best, .int v_t_bestMany, .int v_t_bestWorth, .int v_t_bestHour, .ref q_t_places, .ref q_t_pairs], ia C q_t_told 52 r_t_told, ia C q_t_s 254 r_t_s, ia C q_t_row 8 r_t_row, ia C q_t_places 6 y6.2] H := hP
  have hD : va_D A [ob q_t 11 [.long v_t_trace, .ref q_t_text, .int v_t_typed, .ref q_t_told, .ref q_t_draft, .ref q_t_s, .ref q_t_images, .ref q_t_kept, .ref q_t_heard, .ref q_t_hours, .int v_t_noted, .int v_t_at, .int v_t_sort, .int v_t_start, .int v_t_value, .ref q_t_row, .ref q_t_best, .int v_t_bestMany, .int v_t_bestWorth, .int v_t_bestHour, .ref q_t_places, .ref q_t_pairs], ia C q_t_told 52 r_t_told, ia C q_t_s 254 r_t_s, ia C q_t_row 8 r_t_row, ia C q_t_places 6 y6.2] := hD
  refine lv_istore_n (lv' := [(3, .int o8), (2, .int z7), (0, .ref q_t), (1, .int p1)]) hx hb dX11_wayOf_39 rfl hl (by decide) rfl (fun ls hl => ?_)
  refine lv_aload_n hx hb dX11_wayOf_40 rfl (lv_at hl 2 rfl) ?_
  refine va_get (D := D) (ci := 11) (v := .ref q_t_s) (C := RX11) (T := TX11) (N := 22) hx hb hts inX11 hown hK hP 0 rfl rfl 5 (by decide) (hts (.fieldLink RX11 19 "LentCourageModel" "s" "[I") (List.mem_of_getElem? (i := 2) rfl)) (fun _ h9 => h9) rfl dX11_wayOf_41 ?_
  refine lv_iconst (v := (1 : Int32)) hx hb dX11_wayOf_44 (by decide) ?_
  refine ld_ialdK hx hb hK hP 2 0 rfl rfl (k := 1) (by decide) (by decide) (by decide) dX11_wayOf_45 ?_
  refine lv_topi (fun z9 ez9 => ?_)
  have hf := of_lt hf ez9
  refine lv_istore (lv' := [(4, .int z9), (3, .int o8), (2, .int z7), (0, .ref q_t), (1, .int p1)]) hx hb dX11_wayOf_46 hl (by decide) rfl (fun ls hl => ?_)
  refine lv_aload_n hx hb dX11_wayOf_48 rfl (lv_at hl 3 rfl) ?_
  refine va_get (D := D) (ci := 11) (v := .ref q_t_s) (C := RX11) (T := TX11) (N := 22) hx hb hts inX11 hown hK hP 0 rfl rfl 5 (by decide) (hts (.fieldLink RX11 19 "LentCourageModel" "s" "[I") (List.mem_of_getElem? (i := 2) rfl)) (fun _ h9 => h9) rfl dX11_wayOf_49 ?_
  refine lv_iconst (v := (3 : Int32)) hx hb dX11_wayOf_52 (by decide) ?_
  refine ld_ialdK hx hb hK hP 2 0 rfl rfl (k := 3) (by decide) (by decide) (by decide) dX11_wayOf_53 ?_
  refine lv_iconst (v := (1 : Int32)) hx hb dX11_wayOf_54 (by decide) ?_
  refine jp (g2 := F0 m 63 ls [.int (if (r_t_s 3) = (1 : Int32) then (1 : Int32) else (0 : Int32))]) ?_ (fun JP => ?_)
  · refine lv_topi (fun z11 ez11 => ?_)
    have hf := of_lt hf ez11
    have bz11 : okZ z11 := ez11 ▸ (by repeat (first | exact okZ_0 | exact okZ_1 | apply okZ_ite))
    refine lv_istore (lv' := [(5, .int z11), (4, .int z9), (3, .int o8), (2, .int z7), (0, .ref q_t), (1, .int p1)]) hx hb dX11_wayOf_63 hl (by decide) rfl (fun ls hl => ?_)
    refine lv_iconst (v := (0 : Int32)) hx hb dX11_wayOf_65 (by decide) ?_
    refine lv_istore (lv' := [(6, .int (0 : Int32)), (5, .int z11), (4, .int z9), (3, .int o8), (2, .int z7), (0, .ref q_t), (1, .int p1)]) hx hb dX11_wayOf_66 hl (by decide) rfl (fun ls hl => ?_)
    obtain ⟨y53, hy53, hf⟩ := of_bind hf
    refine LP68 _ FU _ _ _ _ _ _ _ _ _ _ _ _ _ _ _ _ _ _ _ _ y53 hy53 H locs ls hP hD hS (lv_sub hl [0, 1, 2, 3, 4, 5, 6] rfl) (fun H locs ls hz hP hD hS hl => ?_) (fun H locs ls hz hP hD hS hl => ?_) (fun H locs ls hz hP hD hS hl => ?_)
    · have hf := hf
      have hf := of_pos hf hz
      refine lv_iload_n hx hb dX11_wayOf_240 rfl (lv_at hl 4 rfl) ?_
      obtain rfl := Option.some.inj hf
      exact ret_I hx hb hr hlocks hK hP hD hS dX11_wayOf_241
    · have hf := hf
      have hf := of_neg hf (by rw [hz]; decide)
      have hf := of_pos hf hz
      refine lv_iconst (v := (-1 : Int32)) hx hb dX11_wayOf_107 (by decide) ?_
      obtain rfl := Option.some.inj hf
      exact ret_I hx hb hr hlocks hK hP hD hS dX11_wayOf_108
    · have hf := hf
      have hf := of_neg hf (by rw [hz]; decide)
      have hf := of_neg hf (by rw [hz]; decide)
      refine lv_iconst (v := (-1 : Int32)) hx hb dX11_wayOf_200 (by decide) ?_
      obtain rfl := Option.some.inj hf
      exact ret_I hx hb hr hlocks hK hP hD hS dX11_wayOf_201
  · refine lv_icmp_ne (tgt := 62) hx hb dX11_wayOf_55 (by decide) (fun c10 => ?_) (fun c10 => ?_)
    · refine lv_iconst (v := (0 : Int32)) hx hb dX11_wayOf_62 (by decide) ?_
      exact W.eq (congrArg (fun x => F0 m 63 ls (Value.int x :: [])) (if_neg c10).symm) JP
    · refine lv_iconst (v := (1 : Int32)) hx hb dX11_wayOf_58 (by decide) ?_
      refine lv_goto (tgt := 63) hx hb dX11_wayOf_59 (by decide) ?_
      exact W.eq (congrArg (fun x => F0 m 63 ls (Value.int x :: [])) (if_pos c10).symm) JP

def fX11_mayBe_17 (w1_17 : Int32) (w2_17 : Int32) (r_t_row_17 : Nat → Int32) : Nat → Int32 → Int32 → Option (Int32 × Int32)
  | 0, _, _ => none
  | n + 1, w4_17, w3_17 => (if w1_17 ≤ w4_17 then some (w4_17, w3_17) else ((if w3_17 = 0 then some (0 : Int32) else chk (vin w4_17 8) ((if (r_t_row_17 w4_17.toNatClampNeg) = w2_17 then some (0 : Int32) else some (1 : Int32))))).bind (fun j5 => lt_ (w4_17 + (1 : Int32)) (fun z9 => fX11_mayBe_17 w1_17 w2_17 r_t_row_17 n z9 j5)))
def fX11_mayBe (r_t_told : Nat → Int32) (r_t_s : Nat → Int32) (r_t_row : Nat → Int32) (r_t_places : Nat → Int32) (p1 : Int32) (p2 : Int32) : Option (Int32 × (Nat → Int32) × (Nat → Int32)) :=
  (fX11_isDone r_t_s p2).bind (fun o1 => lt_ (if o1 = 0 then (1 : Int32) else (0 : Int32)) (fun z3 => (fX11_mayBe_17 p1 p2 r_t_row FU (0 : Int32) z3).bind (fun y10 => lt_ (if y10.2 = 0 then (r_t_row 0) else p2) (fun z13 => chk (vin (if y10.2 = 0 then (0 : Int32) else p1) 8) ((if y10.2 = 0 then some ((0 : Int32), (upd r_t_row (if y10.2 = 0 then (0 : Int32) else p1).toNatClampNeg z13), r_t_places) else (fX11_wayOf r_t_told r_t_s (upd r_t_row (if y10.2 = 0 then (0 : Int32) else p1).toNatClampNeg z13) r_t_places (p1 + (1 : Int32))).bind (fun o16 => some ((if o16.1 < 0 then (0 : Int32) else (1 : Int32)), (upd r_t_row (if y10.2 = 0 then (0 : Int32) else p1).toNatClampNeg z13), o16.2))))))))
theorem hd_X11_mayBe : yX11_mayBe.cls = RX11 ∧ yX11_mayBe.cls ≠ "java/lang/invoke/MethodHandle" ∧ yX11_mayBe.cls ≠ "java/lang/invoke/VarHandle" ∧ (parseMethodDescriptor yX11_mayBe.desc).map (fun d => d.parameters.length) = some 2 := by decide +kernel
set_option maxHeartbeats 4000000 in
set_option maxRecDepth 100000 in
theorem k_X11_mayBe (l : Launch) (D : va_G) (C : Nat → ClassId) (q_t : Nat) (q_t_text : Nat) (q_t_told : Nat) (q_t_draft : Nat) (q_t_s : Nat) (q_t_images : Nat) (q_t_kept : Nat) (q_t_heard : Nat) (q_t_hours : Nat) (q_t_row : Nat) (q_t_best : Nat) (q_t_places : Nat) (q_t_pairs : Nat) (v_t_trace : Int64) (v_t_typed : Int32) (v_t_noted : Int32) (v_t_at : Int32) (v_t_sort : Int32) (v_t_start : Int32) (v_t_value : Int32) (v_t_bestMany : Int32) (v_t_bestWorth : Int32) (v_t_bestHour : Int32) (r_t_told : Nat → Int32) (r_t_s : Nat → Int32) (r_t_row : Nat → Int32) (r_t_places : Nat → Int32) (p1 : Int32) (p2 : Int32) (sz : Nat) (out : Int32 × (Nat → Int32) × (Nat → Int32)) (hf : fX11_mayBe r_t_told r_t_s r_t_row r_t_places p1 p2 = some out) : MI l yX11_mayBe wsX11_mayBe ({ frames := 3, cells := 0, slots := 0, locals := 68 }) D C [.ref q_t, .int p1, .int p2] [ob q_t 11 [.long v_t_trace, .ref q_t_text, .int v_t_typed, .ref q_t_told, .ref q_t_draft, .ref q_t_s, .ref q_t_images, .ref q_t_kept, .ref q_t_heard, .ref q_t_hours, .int v_t_noted, .int v_t_at, .int v_t_sort, .int v_t_start, .int v_t_value, .ref q_t_row, .ref q_t_best, .int v_t_bestMany, .int v_t_bestWorth, .int v_t_bestHour, .ref q_t_places, .ref q_t_pairs], ia C q_t_told 52 r_t_told, ia C q_t_s 254 r_t_s, ia C q_t_row 8 r_t_row, ia C q_t_places 6 r_t_places] [ob q_t 11 [.long v_t_trace, .ref q_t_text, .int v_t_typed, .ref q_t_told, .ref q_t_draft, .ref q_t_s, .ref q_t_images, .ref q_t_kept, .ref q_t_heard, .ref q_t_hours, .int v_t_noted, .int v_t_at, .int v_t_sort, .int v_t_start, .int v_t_value, .ref q_t_row, .ref q_t_best, .int v_t_bestMany, .int v_t_bestWorth, .int v_t_bestHour, .ref q_t_places, .ref q_t_pairs], ia C q_t_told 52 r_t_told, ia C q_t_s 254 r_t_s, ia C q_t_row 8 out.2.1, ia C q_t_places 6 out.2.2] sz (out.1) := by
  unfold fX11_mayBe at hf
  refine en_I (by decide) rfl (Nat.le_of_ble_eq_true rfl) ?_
  intro p e s m below meth c A ls H locs hx hb hr hlocks hml hts hown hK hP hD hS hA hl
  have hl : lv_has ls 5 [(0, .ref q_t), (1, .int p1), (2, .int p2)] := hl
  have inX11 : ∀ w ∈ u_ws RX11 TX11 22, w ∈ wsX11_mayBe := fun w h => List.mem_cons_of_mem _ (List.mem_append_right _ h)
  have LP17 : ∀ (Q : State → Prop) (n : Nat) (w4_17 : Int32) (w3_17 : Int32) (w1_17 : Int32) (w2_17 : Int32) (v_t_trace_17 : Int64) (v_t_typed_17 : Int32) (v_t_noted_17 : Int32) (v_t_at_17 : Int32) (v_t_sort_17 : Int32) (v_t_start_17 : Int32) (v_t_value_17 : Int32) (v_t_bestMany_17 : Int32) (v_t_bestWorth_17 : Int32) (v_t_bestHour_17 : Int32) (r_t_told_17 : Nat → Int32) (r_t_s_17 : Nat → Int32) (r_t_row_17 : Nat → Int32) (r_t_places_17 : Nat → Int32) (y_17 : Int32 × Int32), fX11_mayBe_17 w1_17 w2_17 r_t_row_17 n w4_17 w3_17 = some y_17 → ∀ (H : Heap) (locs : List Loc) (ls : Array Slot), va_P D vwCl [ob q_t 11 [.long v_t_trace_17, .ref q_t_text, .int v_t_typed_17, .ref q_t_told, .ref q_t_draft, .ref q_t_s, .ref q_t_images, .ref q_t_kept, .ref q_t_heard, .ref q_t_hours, .int v_t_noted_17, .int v_t_at_17, .int v_t_sort_17, .int v_t_start_17, .int v_t_value_17, .ref q_t_row, .ref q_t_best, .int v_t_bestMany_17, .int v_t_bestWorth_17, .int v_t_bestHour_17, .ref q_t_places, .ref q_t_pairs], ia C q_t_told 52 r_t_told_17, ia C q_t_s 254 r_t_s_17, ia C q_t_row 8 r_t_row_17, ia C q_t_places 6 r_t_places_17] H → va_D A [ob q_t 11 [.long v_t_trace_17, .ref q_t_text, .int v_t_typed_17, .ref q_t_told, .ref q_t_draft, .ref q_t_s, .ref q_t_images, .ref q_t_kept, .ref q_t_heard, .ref q_t_hours, .int v_t_noted_17, .int v_t_at_17, .int v_t_sort_17, .int v_t_start_17, .int v_t_value_17, .ref q_t_row, .ref q_t_best, .int v_t_bestMany_17, .int v_t_bestWorth_17, .int v_t_bestHour_17, .ref q_t_places, .ref q_t_pairs], ia C q_t_told 52 r_t_told_17, ia C q_t_s 254 r_t_s_17, ia C q_t_row 8 r_t_row_17, ia C q_t_places 6 r_t_places_17] → va_S A s.heap H locs → lv_has ls 5 [(4, .int w4_17), (3, .int w3_17), (0, .ref q_t), (1, .int w1_17), (2, .int w2_17)] → (∀ (H : Heap) (locs : List Loc) (ls : Array Slot), va_P D vwCl [ob q_t 11 [.long v_t_trace_17, .ref q_t_text, .int v_t_typed_17, .ref q_t_told, .ref q_t_draft, .ref q_t_s, .ref q_t_images, .ref q_t_kept, .ref q_t_heard, .ref q_t_hours, .int v_t_noted_17, .int v_t_at_17, .int v_t_sort_17, .int v_t_start_17, .int v_t_value_17, .ref q_t_row, .ref q_t_best, .int v_t_bestMany_17, .int v_t_bestWorth_17, .int v_t_bestHour_17, .ref q_t_places, .ref q_t_pairs], ia C q_t_told 52 r_t_told_17, ia C q_t_s 254 r_t_s_17, ia C q_t_row 8 r_t_row_17, ia C q_t_places 6 r_t_places_17] H → va_D A [ob q_t 11 [.long v_t_trace_17, .ref q_t_text, .int v_t_typed_17, .ref q_t_told, .ref q_t_draft, .ref q_t_s, .ref q_t_images, .ref q_t_kept, .ref q_t_heard, .ref q_t_hours, .int v_t_noted_17, .int v_t_at_17, .int v_t_sort_17, .int v_t_start_17, .int v_t_value_17, .ref q_t_row, .ref q_t_best, .int v_t_bestMany_17, .int v_t_bestWorth_17, .int v_t_bestHour_17, .ref q_t_places, .ref q_t_pairs], ia C q_t_told 52 r_t_told_17, ia C q_t_s 254 r_t_s_17, ia C q_t_row 8 r_t_row_17, ia C q_t_places 6 r_t_places_17] → va_S A s.heap H locs → lv_has ls 5 [(4, .int y_17.1), (3, .int y_17.2), (0, .ref q_t), (1, .int w1_17), (2, .int w2_17)] → W p l e ({ frames := 3, cells := 0, slots := 0, locals := 68 } : Room) s m ([.ref q_t, .int p1, .int p2] : List Value).toArray below meth c H locs 0 0 Q (F0 m 50 ls [])) → W p l e ({ frames := 3, cells := 0, slots := 0, locals := 68 } : Room) s m ([.ref q_t, .int p1, .int p2] : List Value).toArray below meth c H locs 0 0 Q (F0 m 17 ls []) := by
    intro Q n
    induction n with
    | zero =>
      intro w4_17 w3_17 w1_17 w2_17 v_t_trace_17 v_t_typed_17 v_t_noted_17 v_t_at_17 v_t_sort_17 v_t_start_17 v_t_value_17 v_t_bestMany_17 v_t_bestWorth_17 v_t_bestHour_17 r_t_told_17 r_t_s_17 r_t_row_17 r_t_places_17 y_17 hf
      rw [fX11_mayBe_17] at hf
      cases hf
    | succ n ih =>
      intro w4_17 w3_17 w1_17 w2_17 v_t_trace_17 v_t_typed_17 v_t_noted_17 v_t_at_17 v_t_sort_17 v_t_start_17 v_t_value_17 v_t_bestMany_17 v_t_bestWorth_17 v_t_bestHour_17 r_t_told_17 r_t_s_17 r_t_row_17 r_t_places_17 y_17 hf H locs ls hP hD hS hl KX0
      rw [fX11_mayBe_17] at hf
      refine lv_iload hx hb dX11_mayBe_17 (lv_at hl 0 rfl) ?_
      refine lv_iload_n hx hb dX11_mayBe_19 rfl (lv_at hl 3 rfl) ?_
      refine lv_icmp_ge (tgt := 50) hx hb dX11_mayBe_20 (by decide) (fun c4 => ?_) (fun c4 => ?_)
      · have hf := of_pos hf c4
        obtain rfl := Option.some.inj hf
        exact KX0 _ _ _ hP hD hS (lv_sub hl [0, 1, 2, 3, 4] rfl)
      · have hf := of_neg hf c4
        refine lv_iload_n hx hb dX11_mayBe_23 rfl (lv_at hl 1 rfl) ?_
        obtain ⟨j5, hrj5, hf⟩ := of_bind hf
        refine jn (fun H L g => ∃ ls, g = F0 m 43 ls [.int j5] ∧ va_P D vwCl [ob q_t 11 [.long v_t_trace_17, .ref q_t_text, .int v_t_typed_17, .ref q_t_told, .ref q_t_draft, .ref q_t_s, .ref q_t_images, .ref q_t_kept, .ref q_t_heard, .ref q_t_hours, .int v_t_noted_17, .int v_t_at_17, .int v_t_sort_17, .int v_t_start_17, .int v_t_value_17, .ref q_t_row, .ref q_t_best, .int v_t_bestMany_17, .int v_t_bestWorth_17, .int v_t_bestHour_17, .ref q_t_places, .ref q_t_pairs], ia C q_t_told 52 r_t_told_17, ia C q_t_s 254 r_t_s_17, ia C q_t_row 8 r_t_row_17, ia C q_t_places 6 r_t_places_17] H ∧ va_D A [ob q_t 11 [.long v_t_trace_17, .ref q_t_text, .int v_t_typed_17, .ref q_t_told, .ref q_t_draft, .ref q_t_s, .ref q_t_images, .ref q_t_kept, .ref q_t_heard, .ref q_t_hours, .int v_t_noted_17, .int v_t_at_17, .int v_t_sort_17, .int v_t_start_17, .int v_t_value_17, .ref q_t_row, .ref q_t_best, .int v_t_bestMany_17, .int v_t_bestWorth_17, .int v_t_bestHour_17, .ref q_t_places, .ref q_t_pairs], ia C q_t_told 52 r_t_told_17, ia C q_t_s 254 r_t_s_17, ia C q_t_row 8 r_t_row_17, ia C q_t_places 6 r_t_places_17] ∧ va_S A s.heap H L ∧ lv_has ls 5 [(4, .int w4_17), (3, .int w3_17), (0, .ref q_t), (1, .int w1_17), (2, .int w2_17)]) (fun H locs g hI => ?_) (fun Jj5 => ?_)
        · obtain ⟨ls, rfl, hP, hD, hS, hl⟩ := hI
          refine lv_istore_n (lv' := [(3, .int j5), (4, .int w4_17), (0, .ref q_t), (1, .int w1_17), (2, .int w2_17)]) hx hb dX11_mayBe_43 rfl hl (by decide) rfl (fun ls hl => ?_)
          obtain ⟨z9, ez9⟩ : ∃ y : Int32, y = (w4_17 + (1 : Int32)) := ⟨_, rfl⟩
          have hf := of_lt hf ez9
          refine lv_iinc (v := z9) (lv' := [(4, .int z9), (3, .int j5), (0, .ref q_t), (1, .int w1_17), (2, .int w2_17)]) hx hb dX11_mayBe_44 hl (k := 1) rfl (by rw [ez9]; rfl) (by decide) rfl (fun ls hl => ?_)
          refine lv_goto (tgt := 17) hx hb dX11_mayBe_47 (by decide) ?_
          exact ih _ _ _ _ _ _ _ _ _ _ _ _ _ _ _ _ _ _ _ hf H locs ls hP hD hS (lv_sub hl [0, 1, 2, 3, 4] rfl) KX0
        · have hf := hrj5
          refine lv_if_eq (tgt := 42) hx hb dX11_mayBe_24 (by decide) (fun c6 => ?_) (fun c6 => ?_)
          · have hf := of_pos hf c6
            refine lv_iconst (v := (0 : Int32)) hx hb dX11_mayBe_42 (by decide) ?_
            obtain rfl := Option.some.inj hf
            exact Jj5 _ _ _ ⟨_, rfl, hP, hD, hS, lv_sub hl [0, 1, 2, 3, 4] rfl⟩
          · have hf := of_neg hf c6
            refine lv_aload_n hx hb dX11_mayBe_27 rfl (lv_at hl 2 rfl) ?_
            refine va_get (D := D) (ci := 11) (v := .ref q_t_row) (C := RX11) (T := TX11) (N := 22) hx hb hts inX11 hown hK hP 0 rfl rfl 15 (by decide) (hts (.fieldLink RX11 35 "LentCourageModel" "row" "[I") (List.mem_of_getElem? (i := 1) rfl)) (fun _ h9 => h9) rfl dX11_mayBe_28 ?_
            refine lv_iload hx hb dX11_mayBe_31 (lv_at hl 0 rfl) ?_
            obtain ⟨h7, hf⟩ := of_chk hf
            refine va_iald hx hb hK hP 3 0 rfl rfl h7 dX11_mayBe_33 ?_
            refine lv_iload_n hx hb dX11_mayBe_34 rfl (lv_at hl 4 rfl) ?_
            refine lv_icmp_eq (tgt := 42) hx hb dX11_mayBe_35 (by decide) (fun c8 => ?_) (fun c8 => ?_)
            · have hf := of_pos hf c8
              refine lv_iconst (v := (0 : Int32)) hx hb dX11_mayBe_42 (by decide) ?_
              obtain rfl := Option.some.inj hf
              exact Jj5 _ _ _ ⟨_, rfl, hP, hD, hS, lv_sub hl [0, 1, 2, 3, 4] rfl⟩
            · have hf := of_neg hf c8
              refine lv_iconst (v := (1 : Int32)) hx hb dX11_mayBe_38 (by decide) ?_
              refine lv_goto (tgt := 43) hx hb dX11_mayBe_39 (by decide) ?_
              obtain rfl := Option.some.inj hf
              exact Jj5 _ _ _ ⟨_, rfl, hP, hD, hS, lv_sub hl [0, 1, 2, 3, 4] rfl⟩
  refine lv_aload_n hx hb dX11_mayBe_0 rfl (lv_at hl 0 rfl) ?_
  refine lv_iload_n hx hb dX11_mayBe_1 rfl (lv_at hl 2 rfl) ?_
  obtain ⟨o1, ho1, hf⟩ := of_bind hf
  refine c_I (wr := [ia C q_t_told 52 r_t_told, ia C q_t_row 8 r_t_row, ia C q_t_places 6 r_t_places]) (W2 := [ob q_t 11 [.long v_t_trace, .ref q_t_text, .int v_t_typed, .ref q_t_told, .ref q_t_draft, .ref q_t_s, .ref q_t_images, .ref q_t_kept, .ref q_t_heard, .ref q_t_hours, .int v_t_noted, .int v_t_at, .int v_t_sort, .int v_t_start, .int v_t_value, .ref q_t_row, .ref q_t_best, .int v_t_bestMany, .int v_t_bestWorth, .int v_t_bestHour, .ref q_t_places, .ref q_t_pairs], ia C q_t_told 52 r_t_told, ia C q_t_s 254 r_t_s, ia C q_t_row 8 r_t_row, ia C q_t_places 6 r_t_places]) (cV_run ⟨hx, hb, hml, hown, hts⟩ (k_X11_isDone l D C q_t q_t_text q_t_told q_t_draft q_t_s q_t_images q_t_kept q_t_heard q_t_hours q_t_row q_t_best q_t_places q_t_pairs v_t_trace v_t_typed v_t_noted v_t_at v_t_sort v_t_start v_t_value v_t_bestMany v_t_bestWorth v_t_bestHour r_t_s p2 H.size o1 ho1) gX11_mayBe_X11_isDone rfl ⟨rfl, rfl⟩ hd_X11_isDone ⟨(Nat.le_of_ble_eq_true rfl), (Nat.le_of_ble_eq_true rfl)⟩ rfl hK (cut_in hK hP hD [0, 2] rfl (by decide)) (ci := 11) rfl rfl rfl hl.1 rfl (Nat.le_of_ble_eq_true rfl) dX11_mayBe_2 ⟨Nat.zero_le _, Nat.zero_le _⟩) hP hD hS hA [0, 2] [1, 3, 4] [3, 0, 4, 1, 2] rfl rfl (by decide) (by decide) rfl (by decide) (fun H locs hP hD hS => ?_)
  have hP : va_P D vwCl [ob q_t 11 [.long v_t_trace, .ref q_t_text, .int v_t_typed, .ref q_t_told, .ref q_t_draft, .ref q_t_s, .ref q_t_images, .ref q_t_kept, .ref q_t_heard, .ref q_t_hours, .int v_t_noted, .int v_t_at, .int v_t_sort, .int v_t_start, .int v_t_value, .ref q_t_row, .ref q_t_best, .int v_t_bestMany, .int v_t_bestWorth, .int v_t_bestHour, .ref q_t_places, .ref q_t_pairs], ia C q_t_told 52 r_t_told, ia C q_t_s 254 r_t_s, ia C q_t_row 8 r_t_row, ia C q_t_places 6 r_t_places] H := hP
  have hD : va_D A [ob q_t 11 [.long v_t_trace, .ref q_t_text, .int v_t_typed, .ref q_t_told, .ref q_t_draft, .ref q_t_s, .ref q_t_images, .ref q_t_kept, .ref q_t_heard, .ref q_t_hours, .int v_t_noted, .int v_t_at, .int v_t_sort, .int v_t_start, .int v_t_value, .ref q_t_row, .ref q_t_best, .int v_t_bestMany, .int v_t_bestWorth, .int v_t_bestHour, .ref q_t_places, .ref q_t_pairs], ia C q_t_told 52 r_t_told, ia C q_t_s 254 r_t_s, ia C q_t_row 8 r_t_row, ia C q_t_places 6 r_t_places] := hD
  refine jp (g2 := F0 m 13 ls [.int (if o1 = 0 then (1 : Int32) else (0 : Int32))]) ?_ (fun JP => ?_)
  · refine lv_topi (fun z3 ez3 => ?_)
    have hf := of_lt hf ez3
    have bz3 : okZ z3 := ez3 ▸ (by repeat (first | exact okZ_0 | exact okZ_1 | apply okZ_ite))
    refine lv_istore_n (lv' := [(3, .int z3), (0, .ref q_t), (1, .int p1), (2, .int p2)]) hx hb dX11_mayBe_13 rfl hl (by decide) rfl (fun ls hl => ?_)
    refine lv_iconst (v := (0 : Int32)) hx hb dX11_mayBe_14 (by decide) ?_
    refine lv_istore (lv' := [(4, .int (0 : Int32)), (3, .int z3), (0, .ref q_t), (1, .int p1), (2, .int p2)]) hx hb dX11_mayBe_15 hl (by decide) rfl (fun ls hl => ?_)
    obtain ⟨y10, hy10, hf⟩ := of_bind hf
    refine LP17 _ FU _ _ _ _ _ _ _ _ _ _ _ _ _ _ _ _ _ _ y10 hy10 H locs ls hP hD hS (lv_sub hl [0, 1, 2, 3, 4] rfl) (fun H locs ls hP hD hS hl => ?_)
    refine lv_aload_n hx hb dX11_mayBe_50 rfl (lv_at hl 2 rfl) ?_
    refine va_get (D := D) (ci := 11) (v := .ref q_t_row) (C := RX11) (T := TX11) (N := 22) hx hb hts inX11 hown hK hP 0 rfl rfl 15 (by decide) (hts (.fieldLink RX11 35 "LentCourageModel" "row" "[I") (List.mem_of_getElem? (i := 1) rfl)) (fun _ h9 => h9) rfl dX11_mayBe_51 ?_
    refine lv_iload_n hx hb dX11_mayBe_54 rfl (lv_at hl 1 rfl) ?_
    refine jp (g2 := F0 m 63 ls [.int (if y10.2 = 0 then (0 : Int32) else p1), .ref q_t_row]) ?_ (fun JP => ?_)
    · refine lv_iload_n hx hb dX11_mayBe_63 rfl (lv_at hl 1 rfl) ?_
      refine jp (g2 := F0 m 77 ls [.int (if y10.2 = 0 then (r_t_row 0) else p2), .int (if y10.2 = 0 then (0 : Int32) else p1), .ref q_t_row]) ?_ (fun JP => ?_)
      · refine lv_topi (fun z13 ez13 => ?_)
        have hf := of_lt hf ez13
        obtain ⟨h14, hf⟩ := of_chk hf
        refine va_iast hx hb hK hP hD hS 3 0 rfl rfl h14 dX11_mayBe_77 (fun H locs hP hD hS => ?_)
        have hP : va_P D vwCl [ob q_t 11 [.long v_t_trace, .ref q_t_text, .int v_t_typed, .ref q_t_told, .ref q_t_draft, .ref q_t_s, .ref q_t_images, .ref q_t_kept, .ref q_t_heard, .ref q_t_hours, .int v_t_noted, .int v_t_at, .int v_t_sort, .int v_t_start, .int v_t_value, .ref q_t_row, .ref q_t_best, .int v_t_bestMany, .int v_t_bestWorth, .int v_t_bestHour, .ref q_t_places, .ref q_t_pairs], ia C q_t_told 52 r_t_told, ia C q_t_s 254 r_t_s, ia C q_t_row 8 (upd r_t_row (if y10.2 = 0 then (0 : Int32) else p1).toNatClampNeg z13), ia C q_t_places 6 r_t_places] H := hP
        have hD : va_D A [ob q_t 11 [.long v_t_trace, .ref q_t_text, .int v_t_typed, .ref q_t_told, .ref q_t_draft, .ref q_t_s, .ref q_t_images, .ref q_t_kept, .ref q_t_heard, .ref q_t_hours, .int v_t_noted, .int v_t_at, .int v_t_sort, .int v_t_start, .int v_t_value, .ref q_t_row, .ref q_t_best, .int v_t_bestMany, .int v_t_bestWorth, .int v_t_bestHour, .ref q_t_places, .ref q_t_pairs], ia C q_t_told 52 r_t_told, ia C q_t_s 254 r_t_s, ia C q_t_row 8 (upd r_t_row (if y10.2 = 0 then (0 : Int32) else p1).toNatClampNeg z13), ia C q_t_places 6 r_t_places] := hD
        refine lv_iload_n hx hb dX11_mayBe_78 rfl (lv_at hl 1 rfl) ?_
        refine lv_if_eq (tgt := 96) hx hb dX11_mayBe_79 (by decide) (fun c15 => ?_) (fun c15 => ?_)
        · have hf := of_pos hf c15
          refine lv_iconst (v := (0 : Int32)) hx hb dX11_mayBe_96 (by decide) ?_
          obtain rfl := Option.some.inj hf
          exact ret_Z hx hb hr hlocks okZ_0 hK hP hD hS dX11_mayBe_97
        · have hf := of_neg hf c15
          refine lv_aload_n hx hb dX11_mayBe_82 rfl (lv_at hl 2 rfl) ?_
          refine lv_iload_n hx hb dX11_mayBe_83 rfl (lv_at hl 3 rfl) ?_
          refine lv_iconst (v := (1 : Int32)) hx hb dX11_mayBe_84 (by decide) ?_
          refine lv_iadd hx hb dX11_mayBe_85 ?_
          obtain ⟨o16, ho16, hf⟩ := of_bind hf
          refine c_I (wr := []) (W2 := [ob q_t 11 [.long v_t_trace, .ref q_t_text, .int v_t_typed, .ref q_t_told, .ref q_t_draft, .ref q_t_s, .ref q_t_images, .ref q_t_kept, .ref q_t_heard, .ref q_t_hours, .int v_t_noted, .int v_t_at, .int v_t_sort, .int v_t_start, .int v_t_value, .ref q_t_row, .ref q_t_best, .int v_t_bestMany, .int v_t_bestWorth, .int v_t_bestHour, .ref q_t_places, .ref q_t_pairs], ia C q_t_told 52 r_t_told, ia C q_t_s 254 r_t_s, ia C q_t_row 8 (upd r_t_row (if y10.2 = 0 then (0 : Int32) else p1).toNatClampNeg z13), ia C q_t_places 6 o16.2]) (cV_run ⟨hx, hb, hml, hown, hts⟩ (k_X11_wayOf l D C q_t q_t_text q_t_told q_t_draft q_t_s q_t_images q_t_kept q_t_heard q_t_hours q_t_row q_t_best q_t_places q_t_pairs v_t_trace v_t_typed v_t_noted v_t_at v_t_sort v_t_start v_t_value v_t_bestMany v_t_bestWorth v_t_bestHour r_t_told r_t_s (upd r_t_row (if y10.2 = 0 then (0 : Int32) else p1).toNatClampNeg z13) r_t_places (p1 + (1 : Int32)) H.size o16 ho16) gX11_mayBe_X11_wayOf rfl ⟨rfl, rfl⟩ hd_X11_wayOf ⟨(Nat.le_of_ble_eq_true rfl), (Nat.le_of_ble_eq_true rfl)⟩ rfl hK (cut_in hK hP hD [0, 1, 2, 3, 4] rfl (by decide)) (ci := 11) rfl rfl rfl hl.1 rfl (Nat.le_of_ble_eq_true rfl) dX11_mayBe_86 ⟨Nat.zero_le _, Nat.zero_le _⟩) hP hD hS hA [0, 1, 2, 3, 4] [] [0, 1, 2, 3, 4] rfl rfl (by decide) (by decide) rfl (by decide) (fun H locs hP hD hS => ?_)
          have hP : va_P D vwCl [ob q_t 11 [.long v_t_trace, .ref q_t_text, .int v_t_typed, .ref q_t_told, .ref q_t_draft, .ref q_t_s, .ref q_t_images, .ref q_t_kept, .ref q_t_heard, .ref q_t_hours, .int v_t_noted, .int v_t_at, .int v_t_sort, .int v_t_start, .int v_t_value, .ref q_t_row, .ref q_t_best, .int v_t_bestMany, .int v_t_bestWorth, .int v_t_bestHour, .ref q_t_places, .ref q_t_pairs], ia C q_t_told 52 r_t_told, ia C q_t_s 254 r_t_s, ia C q_t_row 8 (upd r_t_row (if y10.2 = 0 then (0 : Int32) else p1).toNatClampNeg z13), ia C q_t_places 6 o16.2] H := hP
          have hD : va_D A [ob q_t 11 [.long v_t_trace, .ref q_t_text, .int v_t_typed, .ref q_t_told, .ref q_t_draft, .ref q_t_s, .ref q_t_images, .ref q_t_kept, .ref q_t_heard, .ref q_t_hours, .int v_t_noted, .int v_t_at, .int v_t_sort, .int v_t_start, .int v_t_value, .ref q_t_row, .ref q_t_best, .int v_t_bestMany, .int v_t_bestWorth, .int v_t_bestHour, .ref q_t_places, .ref q_t_pairs], ia C q_t_told 52 r_t_told, ia C q_t_s 254 r_t_s, ia C q_t_row 8 (upd r_t_row (if y10.2 = 0 then (0 : Int32) else p1).toNatClampNeg z13), ia C q_t_places 6 o16.2] := hD
          refine jp (g2 := F0 m 97 ls [.int (if o16.1 < 0 then (0 : Int32) else (1 : Int32))]) ?_ (fun JP => ?_)
          · obtain rfl := Option.some.inj hf
            exact ret_Z hx hb hr hlocks (by repeat (first | exact okZ_0 | exact okZ_1 | apply okZ_ite)) hK hP hD hS dX11_mayBe_97
          · refine lv_if_lt (tgt := 96) hx hb dX11_mayBe_89 (by decide) (fun c17 => ?_) (fun c17 => ?_)
            · refine lv_iconst (v := (0 : Int32)) hx hb dX11_mayBe_96 (by decide) ?_
              exact W.eq (congrArg (fun x => F0 m 97 ls (Value.int x :: [])) (if_pos c17).symm) JP
            · refine lv_iconst (v := (1 : Int32)) hx hb dX11_mayBe_92 (by decide) ?_
              refine lv_goto (tgt := 97) hx hb dX11_mayBe_93 (by decide) ?_
              exact W.eq (congrArg (fun x => F0 m 97 ls (Value.int x :: [])) (if_neg c17).symm) JP
      · refine lv_if_eq (tgt := 71) hx hb dX11_mayBe_64 (by decide) (fun c12 => ?_) (fun c12 => ?_)
        · refine lv_aload_n hx hb dX11_mayBe_71 rfl (lv_at hl 2 rfl) ?_
          refine va_get (D := D) (ci := 11) (v := .ref q_t_row) (C := RX11) (T := TX11) (N := 22) hx hb hts inX11 hown hK hP 0 rfl rfl 15 (by decide) (hts (.fieldLink RX11 35 "LentCourageModel" "row" "[I") (List.mem_of_getElem? (i := 1) rfl)) (fun _ h9 => h9) rfl dX11_mayBe_72 ?_
          refine lv_iconst (v := (0 : Int32)) hx hb dX11_mayBe_75 (by decide) ?_
          refine ld_ialdK hx hb hK hP 3 0 rfl rfl (k := 0) (by decide) (by decide) (by decide) dX11_mayBe_76 ?_
          exact W.eq (congrArg (fun x => F0 m 77 ls (Value.int x :: [.int (if y10.2 = 0 then (0 : Int32) else p1), .ref q_t_row])) (if_pos c12).symm) JP
        · refine lv_iload_n hx hb dX11_mayBe_67 rfl (lv_at hl 4 rfl) ?_
          refine lv_goto (tgt := 77) hx hb dX11_mayBe_68 (by decide) ?_
          exact W.eq (congrArg (fun x => F0 m 77 ls (Value.int x :: [.int (if y10.2 = 0 then (0 : Int32) else p1), .ref q_t_row])) (if_neg c12).symm) JP
    · refine lv_if_eq (tgt := 62) hx hb dX11_mayBe_55 (by decide) (fun c11 => ?_) (fun c11 => ?_)
      · refine lv_iconst (v := (0 : Int32)) hx hb dX11_mayBe_62 (by decide) ?_
        exact W.eq (congrArg (fun x => F0 m 63 ls (Value.int x :: [.ref q_t_row])) (if_pos c11).symm) JP
      · refine lv_iload_n hx hb dX11_mayBe_58 rfl (lv_at hl 3 rfl) ?_
        refine lv_goto (tgt := 63) hx hb dX11_mayBe_59 (by decide) ?_
        exact W.eq (congrArg (fun x => F0 m 63 ls (Value.int x :: [.ref q_t_row])) (if_neg c11).symm) JP
  · refine lv_if_ne (tgt := 12) hx hb dX11_mayBe_5 (by decide) (fun c2 => ?_) (fun c2 => ?_)
    · refine lv_iconst (v := (0 : Int32)) hx hb dX11_mayBe_12 (by decide) ?_
      exact W.eq (congrArg (fun x => F0 m 13 ls (Value.int x :: [])) (if_neg c2).symm) JP
    · refine lv_iconst (v := (1 : Int32)) hx hb dX11_mayBe_8 (by decide) ?_
      refine lv_goto (tgt := 13) hx hb dX11_mayBe_9 (by decide) ?_
      exact W.eq (congrArg (fun x => F0 m 13 ls (Value.int x :: [])) (if_pos c2).symm) JP

def fX11_worthOf_4 (w1_4 : Int32) (r_t_told_4 : Nat → Int32) (r_t_row_4 : Nat → Int32) : Nat → Int32 → Int32 → Option (Int32 × Int32)
  | 0, _, _ => none
  | n + 1, w3_4, w2_4 => (if w1_4 ≤ w3_4 then some (w3_4, w2_4) else chk (vin w3_4 8) (chk (vin ((44 : Int32) + (r_t_row_4 w3_4.toNatClampNeg)) 52) (lt_ (w2_4 + (r_t_told_4 ((44 : Int32) + (r_t_row_4 w3_4.toNatClampNeg)).toNatClampNeg)) (fun z4 => lt_ (w3_4 + (1 : Int32)) (fun z5 => fX11_worthOf_4 w1_4 r_t_told_4 r_t_row_4 n z5 z4)))))
def fX11_worthOf (r_t_told : Nat → Int32) (r_t_row : Nat → Int32) (p1 : Int32) : Option (Int32) :=
  (fX11_worthOf_4 p1 r_t_told r_t_row FU (0 : Int32) (0 : Int32)).bind (fun y6 => some y6.2)
theorem hd_X11_worthOf : yX11_worthOf.cls = RX11 ∧ yX11_worthOf.cls ≠ "java/lang/invoke/MethodHandle" ∧ yX11_worthOf.cls ≠ "java/lang/invoke/VarHandle" ∧ (parseMethodDescriptor yX11_worthOf.desc).map (fun d => d.parameters.length) = some 1 := by decide +kernel
set_option maxHeartbeats 4000000 in
set_option maxRecDepth 100000 in
theorem k_X11_worthOf (l : Launch) (D : va_G) (C : Nat → ClassId) (q_t : Nat) (q_t_text : Nat) (q_t_told : Nat) (q_t_draft : Nat) (q_t_s : Nat) (q_t_images : Nat) (q_t_kept : Nat) (q_t_heard : Nat) (q_t_hours : Nat) (q_t_row : Nat) (q_t_best : Nat) (q_t_places : Nat) (q_t_pairs : Nat) (v_t_trace : Int64) (v_t_typed : Int32) (v_t_noted : Int32) (v_t_at : Int32) (v_t_sort : Int32) (v_t_start : Int32) (v_t_value : Int32) (v_t_bestMany : Int32) (v_t_bestWorth : Int32) (v_t_bestHour : Int32) (r_t_told : Nat → Int32) (r_t_row : Nat → Int32) (p1 : Int32) (sz : Nat) (out : Int32) (hf : fX11_worthOf r_t_told r_t_row p1 = some out) : MI l yX11_worthOf wsX11_worthOf ({ frames := 0, cells := 0, slots := 0, locals := 0 }) D C [.ref q_t, .int p1] [ob q_t 11 [.long v_t_trace, .ref q_t_text, .int v_t_typed, .ref q_t_told, .ref q_t_draft, .ref q_t_s, .ref q_t_images, .ref q_t_kept, .ref q_t_heard, .ref q_t_hours, .int v_t_noted, .int v_t_at, .int v_t_sort, .int v_t_start, .int v_t_value, .ref q_t_row, .ref q_t_best, .int v_t_bestMany, .int v_t_bestWorth, .int v_t_bestHour, .ref q_t_places, .ref q_t_pairs], ia C q_t_told 52 r_t_told, ia C q_t_row 8 r_t_row] [ob q_t 11 [.long v_t_trace, .ref q_t_text, .int v_t_typed, .ref q_t_told, .ref q_t_draft, .ref q_t_s, .ref q_t_images, .ref q_t_kept, .ref q_t_heard, .ref q_t_hours, .int v_t_noted, .int v_t_at, .int v_t_sort, .int v_t_start, .int v_t_value, .ref q_t_row, .ref q_t_best, .int v_t_bestMany, .int v_t_bestWorth, .int v_t_bestHour, .ref q_t_places, .ref q_t_pairs], ia C q_t_told 52 r_t_told, ia C q_t_row 8 r_t_row] sz (out) := by
  unfold fX11_worthOf at hf
  refine en_I (by decide) rfl (Nat.le_of_ble_eq_true rfl) ?_
  intro p e s m below meth c A ls H locs hx hb hr hlocks hml hts hown hK hP hD hS hA hl
  have hl : lv_has ls 4 [(0, .ref q_t), (1, .int p1)] := hl
  have inX11 : ∀ w ∈ u_ws RX11 TX11 22, w ∈ wsX11_worthOf := fun w h => List.mem_cons_of_mem _ (List.mem_append_right _ h)
  have LP4 : ∀ (Q : State → Prop) (n : Nat) (w3_4 : Int32) (w2_4 : Int32) (w1_4 : Int32) (v_t_trace_4 : Int64) (v_t_typed_4 : Int32) (v_t_noted_4 : Int32) (v_t_at_4 : Int32) (v_t_sort_4 : Int32) (v_t_start_4 : Int32) (v_t_value_4 : Int32) (v_t_bestMany_4 : Int32) (v_t_bestWorth_4 : Int32) (v_t_bestHour_4 : Int32) (r_t_told_4 : Nat → Int32) (r_t_row_4 : Nat → Int32) (y_4 : Int32 × Int32), fX11_worthOf_4 w1_4 r_t_told_4 r_t_row_4 n w3_4 w2_4 = some y_4 → ∀ (H : Heap) (locs : List Loc) (ls : Array Slot), va_P D vwCl [ob q_t 11 [.long v_t_trace_4, .ref q_t_text, .int v_t_typed_4, .ref q_t_told, .ref q_t_draft, .ref q_t_s, .ref q_t_images, .ref q_t_kept, .ref q_t_heard, .ref q_t_hours, .int v_t_noted_4, .int v_t_at_4, .int v_t_sort_4, .int v_t_start_4, .int v_t_value_4, .ref q_t_row, .ref q_t_best, .int v_t_bestMany_4, .int v_t_bestWorth_4, .int v_t_bestHour_4, .ref q_t_places, .ref q_t_pairs], ia C q_t_told 52 r_t_told_4, ia C q_t_row 8 r_t_row_4] H → va_D A [ob q_t 11 [.long v_t_trace_4, .ref q_t_text, .int v_t_typed_4, .ref q_t_told, .ref q_t_draft, .ref q_t_s, .ref q_t_images, .ref q_t_kept, .ref q_t_heard, .ref q_t_hours, .int v_t_noted_4, .int v_t_at_4, .int v_t_sort_4, .int v_t_start_4, .int v_t_value_4, .ref q_t_row, .ref q_t_best, .int v_t_bestMany_4, .int v_t_bestWorth_4, .int v_t_bestHour_4, .ref q_t_places, .ref q_t_pairs], ia C q_t_told 52 r_t_told_4, ia C q_t_row 8 r_t_row_4] → va_S A s.heap H locs → lv_has ls 4 [(3, .int w3_4), (2, .int w2_4), (0, .ref q_t), (1, .int w1_4)] → (∀ (H : Heap) (locs : List Loc) (ls : Array Slot), va_P D vwCl [ob q_t 11 [.long v_t_trace_4, .ref q_t_text, .int v_t_typed_4, .ref q_t_told, .ref q_t_draft, .ref q_t_s, .ref q_t_images, .ref q_t_kept, .ref q_t_heard, .ref q_t_hours, .int v_t_noted_4, .int v_t_at_4, .int v_t_sort_4, .int v_t_start_4, .int v_t_value_4, .ref q_t_row, .ref q_t_best, .int v_t_bestMany_4, .int v_t_bestWorth_4, .int v_t_bestHour_4, .ref q_t_places, .ref q_t_pairs], ia C q_t_told 52 r_t_told_4, ia C q_t_row 8 r_t_row_4] H → va_D A [ob q_t 11 [.long v_t_trace_4, .ref q_t_text, .int v_t_typed_4, .ref q_t_told, .ref q_t_draft, .ref q_t_s, .ref q_t_images, .ref q_t_kept, .ref q_t_heard, .ref q_t_hours, .int v_t_noted_4, .int v_t_at_4, .int v_t_sort_4, .int v_t_start_4, .int v_t_value_4, .ref q_t_row, .ref q_t_best, .int v_t_bestMany_4, .int v_t_bestWorth_4, .int v_t_bestHour_4, .ref q_t_places, .ref q_t_pairs], ia C q_t_told 52 r_t_told_4, ia C q_t_row 8 r_t_row_4] → va_S A s.heap H locs → lv_has ls 4 [(3, .int y_4.1), (2, .int y_4.2), (0, .ref q_t), (1, .int w1_4)] → W p l e ({ frames := 0, cells := 0, slots := 0, locals := 0 } : Room) s m ([.ref q_t, .int p1] : List Value).toArray below meth c H locs 0 0 Q (F0 m 32 ls [])) → W p l e ({ frames := 0, cells := 0, slots := 0, locals := 0 } : Room) s m ([.ref q_t, .int p1] : List Value).toArray below meth c H locs 0 0 Q (F0 m 4 ls []) := by
    intro Q n
    induction n with
    | zero =>
      intro w3_4 w2_4 w1_4 v_t_trace_4 v_t_typed_4 v_t_noted_4 v_t_at_4 v_t_sort_4 v_t_start_4 v_t_value_4 v_t_bestMany_4 v_t_bestWorth_4 v_t_bestHour_4 r_t_told_4 r_t_row_4 y_4 hf
      rw [fX11_worthOf_4] at hf
      cases hf
    | succ n ih =>
      intro w3_4 w2_4 w1_4 v_t_trace_4 v_t_typed_4 v_t_noted_4 v_t_at_4 v_t_sort_4 v_t_start_4 v_t_value_4 v_t_bestMany_4 v_t_bestWorth_4 v_t_bestHour_4 r_t_told_4 r_t_row_4 y_4 hf H locs ls hP hD hS hl KX0
      rw [fX11_worthOf_4] at hf
      refine lv_iload_n hx hb dX11_worthOf_4 rfl (lv_at hl 0 rfl) ?_
      refine lv_iload_n hx hb dX11_worthOf_5 rfl (lv_at hl 3 rfl) ?_
      refine lv_icmp_ge (tgt := 32) hx hb dX11_worthOf_6 (by decide) (fun c1 => ?_) (fun c1 => ?_)
      · have hf := of_pos hf c1
        obtain rfl := Option.some.inj hf
        exact KX0 _ _ _ hP hD hS (lv_sub hl [0, 1, 2, 3] rfl)
      · have hf := of_neg hf c1
        refine lv_iload_n hx hb dX11_worthOf_9 rfl (lv_at hl 1 rfl) ?_
        refine lv_aload_n hx hb dX11_worthOf_10 rfl (lv_at hl 2 rfl) ?_
        refine va_get (D := D) (ci := 11) (v := .ref q_t_told) (C := RX11) (T := TX11) (N := 22) hx hb hts inX11 hown hK hP 0 rfl rfl 3 (by decide) (hts (.fieldLink RX11 13 "LentCourageModel" "told" "[I") (List.mem_of_getElem? (i := 1) rfl)) (fun _ h9 => h9) rfl dX11_worthOf_11 ?_
        refine lv_bipush (v := (44 : Int32)) hx hb dX11_worthOf_14 (by decide) ?_
        refine lv_aload_n hx hb dX11_worthOf_16 rfl (lv_at hl 2 rfl) ?_
        refine va_get (D := D) (ci := 11) (v := .ref q_t_row) (C := RX11) (T := TX11) (N := 22) hx hb hts inX11 hown hK hP 0 rfl rfl 15 (by decide) (hts (.fieldLink RX11 35 "LentCourageModel" "row" "[I") (List.mem_of_getElem? (i := 2) rfl)) (fun _ h9 => h9) rfl dX11_worthOf_17 ?_
        refine lv_iload_n hx hb dX11_worthOf_20 rfl (lv_at hl 0 rfl) ?_
        obtain ⟨h2, hf⟩ := of_chk hf
        refine va_iald hx hb hK hP 2 0 rfl rfl h2 dX11_worthOf_21 ?_
        refine lv_iadd hx hb dX11_worthOf_22 ?_
        obtain ⟨h3, hf⟩ := of_chk hf
        refine va_iald hx hb hK hP 1 0 rfl rfl h3 dX11_worthOf_23 ?_
        refine lv_iadd hx hb dX11_worthOf_24 ?_
        refine lv_topi (fun z4 ez4 => ?_)
        have hf := of_lt hf ez4
        refine lv_istore_n (lv' := [(2, .int z4), (3, .int w3_4), (0, .ref q_t), (1, .int w1_4)]) hx hb dX11_worthOf_25 rfl hl (by decide) rfl (fun ls hl => ?_)
        obtain ⟨z5, ez5⟩ : ∃ y : Int32, y = (w3_4 + (1 : Int32)) := ⟨_, rfl⟩
        have hf := of_lt hf ez5
        refine lv_iinc (v := z5) (lv' := [(3, .int z5), (2, .int z4), (0, .ref q_t), (1, .int w1_4)]) hx hb dX11_worthOf_26 hl (k := 1) rfl (by rw [ez5]; rfl) (by decide) rfl (fun ls hl => ?_)
        refine lv_goto (tgt := 4) hx hb dX11_worthOf_29 (by decide) ?_
        exact ih _ _ _ _ _ _ _ _ _ _ _ _ _ _ _ _ hf H locs ls hP hD hS (lv_sub hl [0, 1, 2, 3] rfl) KX0
  refine lv_iconst (v := (0 : Int32)) hx hb dX11_worthOf_0 (by decide) ?_
  refine lv_istore_n (lv' := [(2, .int (0 : Int32)), (0, .ref q_t), (1, .int p1)]) hx hb dX11_worthOf_1 rfl hl (by decide) rfl (fun ls hl => ?_)
  refine lv_iconst (v := (0 : Int32)) hx hb dX11_worthOf_2 (by decide) ?_
  refine lv_istore_n (lv' := [(3, .int (0 : Int32)), (2, .int (0 : Int32)), (0, .ref q_t), (1, .int p1)]) hx hb dX11_worthOf_3 rfl hl (by decide) rfl (fun ls hl => ?_)
  obtain ⟨y6, hy6, hf⟩ := of_bind hf
  refine LP4 _ FU _ _ _ _ _ _ _ _ _ _ _ _ _ _ _ y6 hy6 H locs ls hP hD hS (lv_sub hl [0, 1, 2, 3] rfl) (fun H locs ls hP hD hS hl => ?_)
  refine lv_iload_n hx hb dX11_worthOf_32 rfl (lv_at hl 1 rfl) ?_
  obtain rfl := Option.some.inj hf
  exact ret_I hx hb hr hlocks hK hP hD hS dX11_worthOf_33

def fX11_rounds_28 (w1_28 : Int32) (r_t_told_28 : Nat → Int32) (r_t_s_28 : Nat → Int32) : Nat → Int32 → (Nat → Int32) → (Nat → Int32) → Option (Int32 × (Nat → Int32) × (Nat → Int32))
  | 0, _, _, _ => none
  | n + 1, w2_28, r_t_row_28, r_t_places_28 => (if (r_t_told_28 1) ≤ w2_28 then some (w2_28, r_t_row_28, r_t_places_28) else (fX11_mayBe r_t_told_28 r_t_s_28 r_t_row_28 r_t_places_28 w1_28 w2_28).bind (fun o4 => (if o4.1 = 0 then lt_ (w2_28 + (1 : Int32)) (fun z6 => fX11_rounds_28 w1_28 r_t_told_28 r_t_s_28 n z6 o4.2.1 o4.2.2) else some (w2_28, o4.2.1, o4.2.2))))
def fX11_rounds_125 (w1_125 : Int32) (r_t_row_125 : Nat → Int32) : Nat → Int32 → (Nat → Int32) → Option (Int32 × (Nat → Int32))
  | 0, _, _ => none
  | n + 1, w5_125, r_t_best_125 => (if w1_125 ≤ w5_125 then some (w5_125, r_t_best_125) else chk (vin w5_125 8) (lt_ (r_t_row_125 w5_125.toNatClampNeg) (fun z19 => lt_ (w5_125 + (1 : Int32)) (fun z20 => fX11_rounds_125 w1_125 r_t_row_125 n z20 (upd r_t_best_125 w5_125.toNatClampNeg z19)))))
def fX11_rounds_24 (r_t_told_24 : Nat → Int32) (r_t_s_24 : Nat → Int32) : Nat → Int32 → Int32 → Int32 → Int32 → Int32 → (Nat → Int32) → (Nat → Int32) → (Nat → Int32) → Option (Int32 × Int32 × Int32 × Int32 × Int32 × (Nat → Int32) × (Nat → Int32) × (Nat → Int32))
  | 0, _, _, _, _, _, _, _, _ => none
  | n + 1, w2_24, w1_24, v_t_bestMany_24, v_t_bestWorth_24, v_t_bestHour_24, r_t_row_24, r_t_best_24, r_t_places_24 => (if w1_24 < 0 then some (w2_24, w1_24, v_t_bestMany_24, v_t_bestWorth_24, v_t_bestHour_24, r_t_row_24, r_t_best_24, r_t_places_24) else (fX11_rounds_28 w1_24 r_t_told_24 r_t_s_24 FU w2_24 r_t_row_24 r_t_places_24).bind (fun y3 => (if (r_t_told_24 1) ≤ y3.1 then lt_ (w1_24 + (-1 : Int32)) (fun z5 => ((if z5 < 0 then some (0 : Int32) else chk (vin z5 8) (some ((y3.2.1 z5.toNatClampNeg) + (1 : Int32))))).bind (fun j6 => fX11_rounds_24 r_t_told_24 r_t_s_24 n j6 z5 v_t_bestMany_24 v_t_bestWorth_24 v_t_bestHour_24 y3.2.1 r_t_best_24 y3.2.2)) else lt_ (w1_24 + (1 : Int32)) (fun z9 => (fX11_worthOf r_t_told_24 y3.2.1 z9).bind (fun o10 => (fX11_wayOf r_t_told_24 r_t_s_24 y3.2.1 y3.2.2 z9).bind (fun o11 => (if v_t_bestWorth_24 < o10 then (fX11_rounds_125 z9 y3.2.1 FU (0 : Int32) r_t_best_24).bind (fun y13 => fX11_rounds_24 r_t_told_24 r_t_s_24 n (0 : Int32) z9 z9 o10 o11.1 y3.2.1 y13.2 o11.2) else (if o10 = v_t_bestWorth_24 then (if v_t_bestHour_24 ≤ o11.1 then fX11_rounds_24 r_t_told_24 r_t_s_24 n (0 : Int32) z9 v_t_bestMany_24 v_t_bestWorth_24 v_t_bestHour_24 y3.2.1 r_t_best_24 o11.2 else (fX11_rounds_125 z9 y3.2.1 FU (0 : Int32) r_t_best_24).bind (fun y16 => fX11_rounds_24 r_t_told_24 r_t_s_24 n (0 : Int32) z9 z9 o10 o11.1 y3.2.1 y16.2 o11.2)) else fX11_rounds_24 r_t_told_24 r_t_s_24 n (0 : Int32) z9 v_t_bestMany_24 v_t_bestWorth_24 v_t_bestHour_24 y3.2.1 r_t_best_24 o11.2))))))))
def fX11_rounds (r_t_told : Nat → Int32) (r_t_s : Nat → Int32) (r_t_row : Nat → Int32) (r_t_best : Nat → Int32) (r_t_places : Nat → Int32) : Option (Int32 × Int32 × Int32 × (Nat → Int32) × (Nat → Int32) × (Nat → Int32)) :=
  lt_ (r_t_s 0) (fun z1 => (fX11_rounds_24 r_t_told r_t_s FU (0 : Int32) (0 : Int32) (0 : Int32) (0 : Int32) z1 r_t_row r_t_best r_t_places).bind (fun y17 => some (y17.2.2.1, y17.2.2.2.1, y17.2.2.2.2.1, y17.2.2.2.2.2.1, y17.2.2.2.2.2.2.1, y17.2.2.2.2.2.2.2)))
theorem hd_X11_rounds : yX11_rounds.cls = RX11 ∧ yX11_rounds.cls ≠ "java/lang/invoke/MethodHandle" ∧ yX11_rounds.cls ≠ "java/lang/invoke/VarHandle" ∧ (parseMethodDescriptor yX11_rounds.desc).map (fun d => d.parameters.length) = some 0 := by decide +kernel
set_option maxHeartbeats 4000000 in
set_option maxRecDepth 100000 in
theorem k_X11_rounds (l : Launch) (D : va_G) (C : Nat → ClassId) (q_t : Nat) (q_t_text : Nat) (q_t_told : Nat) (q_t_draft : Nat) (q_t_s : Nat) (q_t_images : Nat) (q_t_kept : Nat) (q_t_heard : Nat) (q_t_hours : Nat) (q_t_row : Nat) (q_t_best : Nat) (q_t_places : Nat) (q_t_pairs : Nat) (v_t_trace : Int64) (v_t_typed : Int32) (v_t_noted : Int32) (v_t_at : Int32) (v_t_sort : Int32) (v_t_start : Int32) (v_t_value : Int32) (v_t_bestMany : Int32) (v_t_bestWorth : Int32) (v_t_bestHour : Int32) (r_t_told : Nat → Int32) (r_t_s : Nat → Int32) (r_t_row : Nat → Int32) (r_t_best : Nat → Int32) (r_t_places : Nat → Int32) (sz : Nat) (out : Int32 × Int32 × Int32 × (Nat → Int32) × (Nat → Int32) × (Nat → Int32)) (hf : fX11_rounds r_t_told r_t_s r_t_row r_t_best r_t_places = some out) : MV l yX11_rounds wsX11_rounds ({ frames := 4, cells := 0, slots := 0, locals := 92 }) D C [.ref q_t] [ob q_t 11 [.long v_t_trace, .ref q_t_text, .int v_t_typed, .ref q_t_told, .ref q_t_draft, .ref q_t_s, .ref q_t_images, .ref q_t_kept, .ref q_t_heard, .ref q_t_hours, .int v_t_noted, .int v_t_at, .int v_t_sort, .int v_t_start, .int v_t_value, .ref q_t_row, .ref q_t_best, .int v_t_bestMany, .int v_t_bestWorth, .int v_t_bestHour, .ref q_t_places, .ref q_t_pairs], ia C q_t_told 52 r_t_told, ia C q_t_s 254 r_t_s, ia C q_t_row 8 r_t_row, ia C q_t_best 8 r_t_best, ia C q_t_places 6 r_t_places] [ob q_t 11 [.long v_t_trace, .ref q_t_text, .int v_t_typed, .ref q_t_told, .ref q_t_draft, .ref q_t_s, .ref q_t_images, .ref q_t_kept, .ref q_t_heard, .ref q_t_hours, .int v_t_noted, .int v_t_at, .int v_t_sort, .int v_t_start, .int v_t_value, .ref q_t_row, .ref q_t_best, .int out.1, .int out.2.1, .int out.2.2.1, .ref q_t_places, .ref q_t_pairs], ia C q_t_told 52 r_t_told, ia C q_t_s 254 r_t_s, ia C q_t_row 8 out.2.2.2.1, ia C q_t_best 8 out.2.2.2.2.1, ia C q_t_places 6 out.2.2.2.2.2] sz := by
  unfold fX11_rounds at hf
  refine en_V (by decide) rfl (Nat.le_of_ble_eq_true rfl) ?_
  intro p e s m below meth c A ls H locs hx hb hr hlocks hml hts hown hK hP hD hS hA hl
  have hl : lv_has ls 6 [(0, .ref q_t)] := hl
  have inX11 : ∀ w ∈ u_ws RX11 TX11 22, w ∈ wsX11_rounds := fun w h => List.mem_cons_of_mem _ (List.mem_append_right _ h)
  have LP28 : ∀ (Q : State → Prop) (n : Nat) (w2_28 : Int32) (w1_28 : Int32) (v_t_trace_28 : Int64) (v_t_typed_28 : Int32) (v_t_noted_28 : Int32) (v_t_at_28 : Int32) (v_t_sort_28 : Int32) (v_t_start_28 : Int32) (v_t_value_28 : Int32) (v_t_bestMany_28 : Int32) (v_t_bestWorth_28 : Int32) (v_t_bestHour_28 : Int32) (r_t_told_28 : Nat → Int32) (r_t_s_28 : Nat → Int32) (r_t_row_28 : Nat → Int32) (r_t_best_28 : Nat → Int32) (r_t_places_28 : Nat → Int32) (y_28 : Int32 × (Nat → Int32) × (Nat → Int32)), fX11_rounds_28 w1_28 r_t_told_28 r_t_s_28 n w2_28 r_t_row_28 r_t_places_28 = some y_28 → ∀ (H : Heap) (locs : List Loc) (ls : Array Slot), va_P D vwCl [ob q_t 11 [.long v_t_trace_28, .ref q_t_text, .int v_t_typed_28, .ref q_t_told, .ref q_t_draft, .ref q_t_s, .ref q_t_images, .ref q_t_kept, .ref q_t_heard, .ref q_t_hours, .int v_t_noted_28, .int v_t_at_28, .int v_t_sort_28, .int v_t_start_28, .int v_t_value_28, .ref q_t_row, .ref q_t_best, .int v_t_bestMany_28, .int v_t_bestWorth_28, .int v_t_bestHour_28, .ref q_t_places, .ref q_t_pairs], ia C q_t_told 52 r_t_told_28, ia C q_t_s 254 r_t_s_28, ia C q_t_row 8 r_t_row_28, ia C q_t_best 8 r_t_best_28, ia C q_t_places 6 r_t_places_28] H → va_D A [ob q_t 11 [.long v_t_trace_28, .ref q_t_text, .int v_t_typed_28, .ref q_t_told, .ref q_t_draft, .ref q_t_s, .ref q_t_images, .ref q_t_kept, .ref q_t_heard, .ref q_t_hours, .int v_t_noted_28, .int v_t_at_28, .int v_t_sort_28, .int v_t_start_28, .int v_t_value_28, .ref q_t_row, .ref q_t_best, .int v_t_bestMany_28, .int v_t_bestWorth_28, .int v_t_bestHour_28, .ref q_t_places, .ref q_t_pairs], ia C q_t_told 52 r_t_told_28, ia C q_t_s 254 r_t_s_28, ia C q_t_row 8 r_t_row_28, ia C q_t_best 8 r_t_best_28, ia C q_t_places 6 r_t_places_28] → va_S A s.heap H locs → lv_has ls 6 [(2, .int w2_28), (1, .int w1_28), (0, .ref q_t)] → (∀ (H : Heap) (locs : List Loc) (ls : Array Slot), va_P D vwCl [ob q_t 11 [.long v_t_trace_28, .ref q_t_text, .int v_t_typed_28, .ref q_t_told, .ref q_t_draft, .ref q_t_s, .ref q_t_images, .ref q_t_kept, .ref q_t_heard, .ref q_t_hours, .int v_t_noted_28, .int v_t_at_28, .int v_t_sort_28, .int v_t_start_28, .int v_t_value_28, .ref q_t_row, .ref q_t_best, .int v_t_bestMany_28, .int v_t_bestWorth_28, .int v_t_bestHour_28, .ref q_t_places, .ref q_t_pairs], ia C q_t_told 52 r_t_told_28, ia C q_t_s 254 r_t_s_28, ia C q_t_row 8 y_28.2.1, ia C q_t_best 8 r_t_best_28, ia C q_t_places 6 y_28.2.2] H → va_D A [ob q_t 11 [.long v_t_trace_28, .ref q_t_text, .int v_t_typed_28, .ref q_t_told, .ref q_t_draft, .ref q_t_s, .ref q_t_images, .ref q_t_kept, .ref q_t_heard, .ref q_t_hours, .int v_t_noted_28, .int v_t_at_28, .int v_t_sort_28, .int v_t_start_28, .int v_t_value_28, .ref q_t_row, .ref q_t_best, .int v_t_bestMany_28, .int v_t_bestWorth_28, .int v_t_bestHour_28, .ref q_t_places, .ref q_t_pairs], ia C q_t_told 52 r_t_told_28, ia C q_t_s 254 r_t_s_28, ia C q_t_row 8 y_28.2.1, ia C q_t_best 8 r_t_best_28, ia C q_t_places 6 y_28.2.2] → va_S A s.heap H locs → lv_has ls 6 [(2, .int y_28.1), (1, .int w1_28), (0, .ref q_t)] → W p l e ({ frames := 4, cells := 0, slots := 0, locals := 92 } : Room) s m ([.ref q_t] : List Value).toArray below meth c H locs 0 0 Q (F0 m 53 ls [])) → W p l e ({ frames := 4, cells := 0, slots := 0, locals := 92 } : Room) s m ([.ref q_t] : List Value).toArray below meth c H locs 0 0 Q (F0 m 28 ls []) := by
    intro Q n
    induction n with
    | zero =>
      intro w2_28 w1_28 v_t_trace_28 v_t_typed_28 v_t_noted_28 v_t_at_28 v_t_sort_28 v_t_start_28 v_t_value_28 v_t_bestMany_28 v_t_bestWorth_28 v_t_bestHour_28 r_t_told_28 r_t_s_28 r_t_row_28 r_t_best_28 r_t_places_28 y_28 hf
      rw [fX11_rounds_28] at hf
      cases hf
    | succ n ih =>
      intro w2_28 w1_28 v_t_trace_28 v_t_typed_28 v_t_noted_28 v_t_at_28 v_t_sort_28 v_t_start_28 v_t_value_28 v_t_bestMany_28 v_t_bestWorth_28 v_t_bestHour_28 r_t_told_28 r_t_s_28 r_t_row_28 r_t_best_28 r_t_places_28 y_28 hf H locs ls hP hD hS hl KX0
      rw [fX11_rounds_28] at hf
      refine lv_iload_n hx hb dX11_rounds_28 rfl (lv_at hl 0 rfl) ?_
      refine lv_aload_n hx hb dX11_rounds_29 rfl (lv_at hl 2 rfl) ?_
      refine va_get (D := D) (ci := 11) (v := .ref q_t_told) (C := RX11) (T := TX11) (N := 22) hx hb hts inX11 hown hK hP 0 rfl rfl 3 (by decide) (hts (.fieldLink RX11 13 "LentCourageModel" "told" "[I") (List.mem_of_getElem? (i := 5) rfl)) (fun _ h9 => h9) rfl dX11_rounds_30 ?_
      refine lv_iconst (v := (1 : Int32)) hx hb dX11_rounds_33 (by decide) ?_
      refine ld_ialdK hx hb hK hP 1 0 rfl rfl (k := 1) (by decide) (by decide) (by decide) dX11_rounds_34 ?_
      refine lv_icmp_ge (tgt := 53) hx hb dX11_rounds_35 (by decide) (fun c3 => ?_) (fun c3 => ?_)
      · have hf := of_pos hf c3
        obtain rfl := Option.some.inj hf
        exact KX0 _ _ _ hP hD hS (lv_sub hl [0, 1, 2] rfl)
      · have hf := of_neg hf c3
        refine lv_aload_n hx hb dX11_rounds_38 rfl (lv_at hl 2 rfl) ?_
        refine lv_iload_n hx hb dX11_rounds_39 rfl (lv_at hl 1 rfl) ?_
        refine lv_iload_n hx hb dX11_rounds_40 rfl (lv_at hl 0 rfl) ?_
        obtain ⟨o4, ho4, hf⟩ := of_bind hf
        refine c_I (wr := [ia C q_t_best 8 r_t_best_28]) (W2 := [ob q_t 11 [.long v_t_trace_28, .ref q_t_text, .int v_t_typed_28, .ref q_t_told, .ref q_t_draft, .ref q_t_s, .ref q_t_images, .ref q_t_kept, .ref q_t_heard, .ref q_t_hours, .int v_t_noted_28, .int v_t_at_28, .int v_t_sort_28, .int v_t_start_28, .int v_t_value_28, .ref q_t_row, .ref q_t_best, .int v_t_bestMany_28, .int v_t_bestWorth_28, .int v_t_bestHour_28, .ref q_t_places, .ref q_t_pairs], ia C q_t_told 52 r_t_told_28, ia C q_t_s 254 r_t_s_28, ia C q_t_row 8 o4.2.1, ia C q_t_best 8 r_t_best_28, ia C q_t_places 6 o4.2.2]) (cV_run ⟨hx, hb, hml, hown, hts⟩ (k_X11_mayBe l D C q_t q_t_text q_t_told q_t_draft q_t_s q_t_images q_t_kept q_t_heard q_t_hours q_t_row q_t_best q_t_places q_t_pairs v_t_trace_28 v_t_typed_28 v_t_noted_28 v_t_at_28 v_t_sort_28 v_t_start_28 v_t_value_28 v_t_bestMany_28 v_t_bestWorth_28 v_t_bestHour_28 r_t_told_28 r_t_s_28 r_t_row_28 r_t_places_28 w1_28 w2_28 H.size o4 ho4) gX11_rounds_X11_mayBe rfl ⟨rfl, rfl⟩ hd_X11_mayBe ⟨(Nat.le_of_ble_eq_true rfl), (Nat.le_of_ble_eq_true rfl)⟩ rfl hK (cut_in hK hP hD [0, 1, 2, 3, 5] rfl (by decide)) (ci := 11) rfl rfl rfl hl.1 rfl (Nat.le_of_ble_eq_true rfl) dX11_rounds_41 ⟨Nat.zero_le _, Nat.zero_le _⟩) hP hD hS hA [0, 1, 2, 3, 5] [4] [1, 2, 3, 4, 0, 5] rfl rfl (by decide) (by decide) rfl (by decide) (fun H locs hP hD hS => ?_)
        have hP : va_P D vwCl [ob q_t 11 [.long v_t_trace_28, .ref q_t_text, .int v_t_typed_28, .ref q_t_told, .ref q_t_draft, .ref q_t_s, .ref q_t_images, .ref q_t_kept, .ref q_t_heard, .ref q_t_hours, .int v_t_noted_28, .int v_t_at_28, .int v_t_sort_28, .int v_t_start_28, .int v_t_value_28, .ref q_t_row, .ref q_t_best, .int v_t_bestMany_28, .int v_t_bestWorth_28, .int v_t_bestHour_28, .ref q_t_places, .ref q_t_pairs], ia C q_t_told 52 r_t_told_28, ia C q_t_s 254 r_t_s_28, ia C q_t_row 8 o4.2.1, ia C q_t_best 8 r_t_best_28, ia C q_t_places 6 o4.2.2] H := hP
        have hD : va_D A [ob q_t 11 [.long v_t_trace_28, .ref q_t_text, .int v_t_typed_28, .ref q_t_told, .ref q_t_draft, .ref q_t_s, .ref q_t_images, .ref q_t_kept, .ref q_t_heard, .ref q_t_hours, .int v_t_noted_28, .int v_t_at_28, .int v_t_sort_28, .int v_t_start_28, .int v_t_value_28, .ref q_t_row, .ref q_t_best, .int v_t_bestMany_28, .int v_t_bestWorth_28, .int v_t_bestHour_28, .ref q_t_places, .ref q_t_pairs], ia C q_t_told 52 r_t_told_28, ia C q_t_s 254 r_t_s_28, ia C q_t_row 8 o4.2.1, ia C q_t_best 8 r_t_best_28, ia C q_t_places 6 o4.2.2] := hD
        refine lv_if_ne (tgt := 53) hx hb dX11_rounds_44 (by decide) (fun c5 => ?_) (fun c5 => ?_)
        · have hf := of_neg hf c5
          obtain rfl := Option.some.inj hf
          exact KX0 _ _ _ hP hD hS (lv_sub hl [0, 1, 2] rfl)
        · have hf := of_pos hf c5
          obtain ⟨z6, ez6⟩ : ∃ y : Int32, y = (w2_28 + (1 : Int32)) := ⟨_, rfl⟩
          have hf := of_lt hf ez6
          refine lv_iinc (v := z6) (lv' := [(2, .int z6), (1, .int w1_28), (0, .ref q_t)]) hx hb dX11_rounds_47 hl (k := 0) rfl (by rw [ez6]; rfl) (by decide) rfl (fun ls hl => ?_)
          refine lv_goto (tgt := 28) hx hb dX11_rounds_50 (by decide) ?_
          exact ih _ _ _ _ _ _ _ _ _ _ _ _ _ _ _ _ _ _ hf H locs ls hP hD hS (lv_sub hl [0, 1, 2] rfl) KX0
  have LP125 : ∀ (Q : State → Prop) (n : Nat) (w5_125 : Int32) (w4_125 : Int32) (w3_125 : Int32) (w2_125 : Int32) (w1_125 : Int32) (v_t_trace_125 : Int64) (v_t_typed_125 : Int32) (v_t_noted_125 : Int32) (v_t_at_125 : Int32) (v_t_sort_125 : Int32) (v_t_start_125 : Int32) (v_t_value_125 : Int32) (v_t_bestMany_125 : Int32) (v_t_bestWorth_125 : Int32) (v_t_bestHour_125 : Int32) (r_t_told_125 : Nat → Int32) (r_t_s_125 : Nat → Int32) (r_t_row_125 : Nat → Int32) (r_t_best_125 : Nat → Int32) (r_t_places_125 : Nat → Int32) (y_125 : Int32 × (Nat → Int32)), fX11_rounds_125 w1_125 r_t_row_125 n w5_125 r_t_best_125 = some y_125 → ∀ (H : Heap) (locs : List Loc) (ls : Array Slot), va_P D vwCl [ob q_t 11 [.long v_t_trace_125, .ref q_t_text, .int v_t_typed_125, .ref q_t_told, .ref q_t_draft, .ref q_t_s, .ref q_t_images, .ref q_t_kept, .ref q_t_heard, .ref q_t_hours, .int v_t_noted_125, .int v_t_at_125, .int v_t_sort_125, .int v_t_start_125, .int v_t_value_125, .ref q_t_row, .ref q_t_best, .int v_t_bestMany_125, .int v_t_bestWorth_125, .int v_t_bestHour_125, .ref q_t_places, .ref q_t_pairs], ia C q_t_told 52 r_t_told_125, ia C q_t_s 254 r_t_s_125, ia C q_t_row 8 r_t_row_125, ia C q_t_best 8 r_t_best_125, ia C q_t_places 6 r_t_places_125] H → va_D A [ob q_t 11 [.long v_t_trace_125, .ref q_t_text, .int v_t_typed_125, .ref q_t_told, .ref q_t_draft, .ref q_t_s, .ref q_t_images, .ref q_t_kept, .ref q_t_heard, .ref q_t_hours, .int v_t_noted_125, .int v_t_at_125, .int v_t_sort_125, .int v_t_start_125, .int v_t_value_125, .ref q_t_row, .ref q_t_best, .int v_t_bestMany_125, .int v_t_bestWorth_125, .int v_t_bestHour_125, .ref q_t_places, .ref q_t_pairs], ia C q_t_told 52 r_t_told_125, ia C q_t_s 254 r_t_s_125, ia C q_t_row 8 r_t_row_125, ia C q_t_best 8 r_t_best_125, ia C q_t_places 6 r_t_places_125] → va_S A s.heap H locs → lv_has ls 6 [(5, .int w5_125), (4, .int w4_125), (3, .int w3_125), (2, .int w2_125), (1, .int w1_125), (0, .ref q_t)] → (∀ (H : Heap) (locs : List Loc) (ls : Array Slot), va_P D vwCl [ob q_t 11 [.long v_t_trace_125, .ref q_t_text, .int v_t_typed_125, .ref q_t_told, .ref q_t_draft, .ref q_t_s, .ref q_t_images, .ref q_t_kept, .ref q_t_heard, .ref q_t_hours, .int v_t_noted_125, .int v_t_at_125, .int v_t_sort_125, .int v_t_start_125, .int v_t_value_125, .ref q_t_row, .ref q_t_best, .int v_t_bestMany_125, .int v_t_bestWorth_125, .int v_t_bestHour_125, .ref q_t_places, .ref q_t_pairs], ia C q_t_told 52 r_t_told_125, ia C q_t_s 254 r_t_s_125, ia C q_t_row 8 r_t_row_125, ia C q_t_best 8 y_125.2, ia C q_t_places 6 r_t_places_125] H → va_D A [ob q_t 11 [.long v_t_trace_125, .ref q_t_text, .int v_t_typed_125, .ref q_t_told, .ref q_t_draft, .ref q_t_s, .ref q_t_images, .ref q_t_kept, .ref q_t_heard, .ref q_t_hours, .int v_t_noted_125, .int v_t_at_125, .int v_t_sort_125, .int v_t_start_125, .int v_t_value_125, .ref q_t_row, .ref q_t_best, .int v_t_bestMany_125, .int v_t_bestWorth_125, .int v_t_bestHour_125, .ref q_t_places, .ref q_t_pairs], ia C q_t_told 52 r_t_told_125, ia C q_t_s 254 r_t_s_125, ia C q_t_row 8 r_t_row_125, ia C q_t_best 8 y_125.2, ia C q_t_places 6 r_t_places_125] → va_S A s.heap H locs → lv_has ls 6 [(5, .int y_125.1), (4, .int w4_125), (3, .int w3_125), (2, .int w2_125), (1, .int w1_125), (0, .ref q_t)] → W p l e ({ frames := 4, cells := 0, slots := 0, locals := 92 } : Room) s m ([.ref q_t] : List Value).toArray below meth c H locs 0 0 Q (F0 m 151 ls [])) → W p l e ({ frames := 4, cells := 0, slots := 0, locals := 92 } : Room) s m ([.ref q_t] : List Value).toArray below meth c H locs 0 0 Q (F0 m 125 ls []) := by
    intro Q n
    induction n with
    | zero =>
      intro w5_125 w4_125 w3_125 w2_125 w1_125 v_t_trace_125 v_t_typed_125 v_t_noted_125 v_t_at_125 v_t_sort_125 v_t_start_125 v_t_value_125 v_t_bestMany_125 v_t_bestWorth_125 v_t_bestHour_125 r_t_told_125 r_t_s_125 r_t_row_125 r_t_best_125 r_t_places_125 y_125 hf
      rw [fX11_rounds_125] at hf
      cases hf
    | succ n ih =>
      intro w5_125 w4_125 w3_125 w2_125 w1_125 v_t_trace_125 v_t_typed_125 v_t_noted_125 v_t_at_125 v_t_sort_125 v_t_start_125 v_t_value_125 v_t_bestMany_125 v_t_bestWorth_125 v_t_bestHour_125 r_t_told_125 r_t_s_125 r_t_row_125 r_t_best_125 r_t_places_125 y_125 hf H locs ls hP hD hS hl KX0
      rw [fX11_rounds_125] at hf
      refine lv_iload hx hb dX11_rounds_125 (lv_at hl 0 rfl) ?_
      refine lv_iload_n hx hb dX11_rounds_127 rfl (lv_at hl 4 rfl) ?_
      refine lv_icmp_ge (tgt := 151) hx hb dX11_rounds_128 (by decide) (fun c17 => ?_) (fun c17 => ?_)
      · have hf := of_pos hf c17
        obtain rfl := Option.some.inj hf
        exact KX0 _ _ _ hP hD hS (lv_sub hl [0, 1, 2, 3, 4, 5] rfl)
      · have hf := of_neg hf c17
        refine lv_aload_n hx hb dX11_rounds_131 rfl (lv_at hl 5 rfl) ?_
        refine va_get (D := D) (ci := 11) (v := .ref q_t_best) (C := RX11) (T := TX11) (N := 22) hx hb hts inX11 hown hK hP 0 rfl rfl 16 (by decide) (hts (.fieldLink RX11 38 "LentCourageModel" "best" "[I") (List.mem_of_getElem? (i := 6) rfl)) (fun _ h9 => h9) rfl dX11_rounds_132 ?_
        refine lv_iload hx hb dX11_rounds_135 (lv_at hl 0 rfl) ?_
        refine lv_aload_n hx hb dX11_rounds_137 rfl (lv_at hl 5 rfl) ?_
        refine va_get (D := D) (ci := 11) (v := .ref q_t_row) (C := RX11) (T := TX11) (N := 22) hx hb hts inX11 hown hK hP 0 rfl rfl 15 (by decide) (hts (.fieldLink RX11 35 "LentCourageModel" "row" "[I") (List.mem_of_getElem? (i := 7) rfl)) (fun _ h9 => h9) rfl dX11_rounds_138 ?_
        refine lv_iload hx hb dX11_rounds_141 (lv_at hl 0 rfl) ?_
        obtain ⟨h18, hf⟩ := of_chk hf
        refine va_iald hx hb hK hP 3 0 rfl rfl h18 dX11_rounds_143 ?_
        refine lv_topi (fun z19 ez19 => ?_)
        have hf := of_lt hf ez19
        refine va_iast hx hb hK hP hD hS 4 0 rfl rfl h18 dX11_rounds_144 (fun H locs hP hD hS => ?_)
        have hP : va_P D vwCl [ob q_t 11 [.long v_t_trace_125, .ref q_t_text, .int v_t_typed_125, .ref q_t_told, .ref q_t_draft, .ref q_t_s, .ref q_t_images, .ref q_t_kept, .ref q_t_heard, .ref q_t_hours, .int v_t_noted_125, .int v_t_at_125, .int v_t_sort_125, .int v_t_start_125, .int v_t_value_125, .ref q_t_row, .ref q_t_best, .int v_t_bestMany_125, .int v_t_bestWorth_125, .int v_t_bestHour_125, .ref q_t_places, .ref q_t_pairs], ia C q_t_told 52 r_t_told_125, ia C q_t_s 254 r_t_s_125, ia C q_t_row 8 r_t_row_125, ia C q_t_best 8 (upd r_t_best_125 w5_125.toNatClampNeg z19), ia C q_t_places 6 r_t_places_125] H := hP
        have hD : va_D A [ob q_t 11 [.long v_t_trace_125, .ref q_t_text, .int v_t_typed_125, .ref q_t_told, .ref q_t_draft, .ref q_t_s, .ref q_t_images, .ref q_t_kept, .ref q_t_heard, .ref q_t_hours, .int v_t_noted_125, .int v_t_at_125, .int v_t_sort_125, .int v_t_start_125, .int v_t_value_125, .ref q_t_row, .ref q_t_best, .int v_t_bestMany_125, .int v_t_bestWorth_125, .int v_t_bestHour_125, .ref q_t_places, .ref q_t_pairs], ia C q_t_told 52 r_t_told_125, ia C q_t_s 254 r_t_s_125, ia C q_t_row 8 r_t_row_125, ia C q_t_best 8 (upd r_t_best_125 w5_125.toNatClampNeg z19), ia C q_t_places 6 r_t_places_125] := hD
        obtain ⟨z20, ez20⟩ : ∃ y : Int32, y = (w5_125 + (1 : Int32)) := ⟨_, rfl⟩
        have hf := of_lt hf ez20
        refine lv_iinc (v := z20) (lv' := [(5, .int z20), (4, .int w4_125), (3, .int w3_125), (2, .int w2_125), (1, .int w1_125), (0, .ref q_t)]) hx hb dX11_rounds_145 hl (k := 0) rfl (by rw [ez20]; rfl) (by decide) rfl (fun ls hl => ?_)
        refine lv_goto (tgt := 125) hx hb dX11_rounds_148 (by decide) ?_
        exact ih _ _ _ _ _ _ _ _ _ _ _ _ _ _ _ _ _ _ _ _ _ hf H locs ls hP hD hS (lv_sub hl [0, 1, 2, 3, 4, 5] rfl) KX0
  have LP24 : ∀ (Q : State → Prop) (n : Nat) (w2_24 : Int32) (w1_24 : Int32) (v_t_trace_24 : Int64) (v_t_typed_24 : Int32) (v_t_noted_24 : Int32) (v_t_at_24 : Int32) (v_t_sort_24 : Int32) (v_t_start_24 : Int32) (v_t_value_24 : Int32) (v_t_bestMany_24 : Int32) (v_t_bestWorth_24 : Int32) (v_t_bestHour_24 : Int32) (r_t_told_24 : Nat → Int32) (r_t_s_24 : Nat → Int32) (r_t_row_24 : Nat → Int32) (r_t_best_24 : Nat → Int32) (r_t_places_24 : Nat → Int32) (y_24 : Int32 × Int32 × Int32 × Int32 × Int32 × (Nat → Int32) × (Nat → Int32) × (Nat → Int32)), fX11_rounds_24 r_t_told_24 r_t_s_24 n w2_24 w1_24 v_t_bestMany_24 v_t_bestWorth_24 v_t_bestHour_24 r_t_row_24 r_t_best_24 r_t_places_24 = some y_24 → ∀ (H : Heap) (locs : List Loc) (ls : Array Slot), va_P D vwCl [ob q_t 11 [.long v_t_trace_24, .ref q_t_text, .int v_t_typed_24, .ref q_t_told, .ref q_t_draft, .ref q_t_s, .ref q_t_images, .ref q_t_kept, .ref q_t_heard, .ref q_t_hours, .int v_t_noted_24, .int v_t_at_24, .int v_t_sort_24, .int v_t_start_24, .int v_t_value_24, .ref q_t_row, .ref q_t_best, .int v_t_bestMany_24, .int v_t_bestWorth_24, .int v_t_bestHour_24, .ref q_t_places, .ref q_t_pairs], ia C q_t_told 52 r_t_told_24, ia C q_t_s 254 r_t_s_24, ia C q_t_row 8 r_t_row_24, ia C q_t_best 8 r_t_best_24, ia C q_t_places 6 r_t_places_24] H → va_D A [ob q_t 11 [.long v_t_trace_24, .ref q_t_text, .int v_t_typed_24, .ref q_t_told, .ref q_t_draft, .ref q_t_s, .ref q_t_images, .ref q_t_kept, .ref q_t_heard, .ref q_t_hours, .int v_t_noted_24, .int v_t_at_24, .int v_t_sort_24, .int v_t_start_24, .int v_t_value_24, .ref q_t_row, .ref q_t_best, .int v_t_bestMany_24, .int v_t_bestWorth_24, .int v_t_bestHour_24, .ref q_t_places, .ref q_t_pairs], ia C q_t_told 52 r_t_told_24, ia C q_t_s 254 r_t_s_24, ia C q_t_row 8 r_t_row_24, ia C q_t_best 8 r_t_best_24, ia C q_t_places 6 r_t_places_24] → va_S A s.heap H locs → lv_has ls 6 [(2, .int w2_24), (1, .int w1_24), (0, .ref q_t)] → (∀ (H : Heap) (locs : List Loc) (ls : Array Slot), va_P D vwCl [ob q_t 11 [.long v_t_trace_24, .ref q_t_text, .int v_t_typed_24, .ref q_t_told, .ref q_t_draft, .ref q_t_s, .ref q_t_images, .ref q_t_kept, .ref q_t_heard, .ref q_t_hours, .int v_t_noted_24, .int v_t_at_24, .int v_t_sort_24, .int v_t_start_24, .int v_t_value_24, .ref q_t_row, .ref q_t_best, .int y_24.2.2.1, .int y_24.2.2.2.1, .int y_24.2.2.2.2.1, .ref q_t_places, .ref q_t_pairs], ia C q_t_told 52 r_t_told_24, ia C q_t_s 254 r_t_s_24, ia C q_t_row 8 y_24.2.2.2.2.2.1, ia C q_t_best 8 y_24.2.2.2.2.2.2.1, ia C q_t_places 6 y_24.2.2.2.2.2.2.2] H → va_D A [ob q_t 11 [.long v_t_trace_24, .ref q_t_text, .int v_t_typed_24, .ref q_t_told, .ref q_t_draft, .ref q_t_s, .ref q_t_images, .ref q_t_kept, .ref q_t_heard, .ref q_t_hours, .int v_t_noted_24, .int v_t_at_24, .int v_t_sort_24, .int v_t_start_24, .int v_t_value_24, .ref q_t_row, .ref q_t_best, .int y_24.2.2.1, .int y_24.2.2.2.1, .int y_24.2.2.2.2.1, .ref q_t_places, .ref q_t_pairs], ia C q_t_told 52 r_t_told_24, ia C q_t_s 254 r_t_s_24, ia C q_t_row 8 y_24.2.2.2.2.2.1, ia C q_t_best 8 y_24.2.2.2.2.2.2.1, ia C q_t_places 6 y_24.2.2.2.2.2.2.2] → va_S A s.heap H locs → lv_has ls 6 [(2, .int y_24.1), (1, .int y_24.2.1), (0, .ref q_t)] → W p l e ({ frames := 4, cells := 0, slots := 0, locals := 92 } : Room) s m ([.ref q_t] : List Value).toArray below meth c H locs 0 0 Q (F0 m 177 ls [])) → W p l e ({ frames := 4, cells := 0, slots := 0, locals := 92 } : Room) s m ([.ref q_t] : List Value).toArray below meth c H locs 0 0 Q (F0 m 24 ls []) := by
    intro Q n
    induction n with
    | zero =>
      intro w2_24 w1_24 v_t_trace_24 v_t_typed_24 v_t_noted_24 v_t_at_24 v_t_sort_24 v_t_start_24 v_t_value_24 v_t_bestMany_24 v_t_bestWorth_24 v_t_bestHour_24 r_t_told_24 r_t_s_24 r_t_row_24 r_t_best_24 r_t_places_24 y_24 hf
      rw [fX11_rounds_24] at hf
      cases hf
    | succ n ih =>
      intro w2_24 w1_24 v_t_trace_24 v_t_typed_24 v_t_noted_24 v_t_at_24 v_t_sort_24 v_t_start_24 v_t_value_24 v_t_bestMany_24 v_t_bestWorth_24 v_t_bestHour_24 r_t_told_24 r_t_s_24 r_t_row_24 r_t_best_24 r_t_places_24 y_24 hf H locs ls hP hD hS hl KX0
      rw [fX11_rounds_24] at hf
      refine lv_iload_n hx hb dX11_rounds_24 rfl (lv_at hl 1 rfl) ?_
      refine lv_if_lt (tgt := 177) hx hb dX11_rounds_25 (by decide) (fun c2 => ?_) (fun c2 => ?_)
      · have hf := of_pos hf c2
        obtain rfl := Option.some.inj hf
        exact KX0 _ _ _ hP hD hS (lv_sub hl [0, 1, 2] rfl)
      · have hf := of_neg hf c2
        obtain ⟨y3, hy3, hf⟩ := of_bind hf
        refine LP28 _ FU _ _ _ _ _ _ _ _ _ _ _ _ _ _ _ _ _ y3 hy3 H locs ls hP hD hS (lv_sub hl [0, 1, 2] rfl) (fun H locs ls hP hD hS hl => ?_)
        refine lv_iload_n hx hb dX11_rounds_53 rfl (lv_at hl 0 rfl) ?_
        refine lv_aload_n hx hb dX11_rounds_54 rfl (lv_at hl 2 rfl) ?_
        refine va_get (D := D) (ci := 11) (v := .ref q_t_told) (C := RX11) (T := TX11) (N := 22) hx hb hts inX11 hown hK hP 0 rfl rfl 3 (by decide) (hts (.fieldLink RX11 13 "LentCourageModel" "told" "[I") (List.mem_of_getElem? (i := 5) rfl)) (fun _ h9 => h9) rfl dX11_rounds_55 ?_
        refine lv_iconst (v := (1 : Int32)) hx hb dX11_rounds_58 (by decide) ?_
        refine ld_ialdK hx hb hK hP 1 0 rfl rfl (k := 1) (by decide) (by decide) (by decide) dX11_rounds_59 ?_
        refine lv_icmp_ge (tgt := 154) hx hb dX11_rounds_60 (by decide) (fun c4 => ?_) (fun c4 => ?_)
        · have hf := of_pos hf c4
          obtain ⟨z5, ez5⟩ : ∃ y : Int32, y = (w1_24 + (-1 : Int32)) := ⟨_, rfl⟩
          have hf := of_lt hf ez5
          refine lv_iinc (v := z5) (lv' := [(1, .int z5), (2, .int y3.1), (0, .ref q_t)]) hx hb dX11_rounds_154 hl (k := 1) rfl (by rw [ez5]; rfl) (by decide) rfl (fun ls hl => ?_)
          refine lv_iload_n hx hb dX11_rounds_157 rfl (lv_at hl 0 rfl) ?_
          obtain ⟨j6, hrj6, hf⟩ := of_bind hf
          refine jn (fun H L g => ∃ ls, g = F0 m 173 ls [.int j6] ∧ va_P D vwCl [ob q_t 11 [.long v_t_trace_24, .ref q_t_text, .int v_t_typed_24, .ref q_t_told, .ref q_t_draft, .ref q_t_s, .ref q_t_images, .ref q_t_kept, .ref q_t_heard, .ref q_t_hours, .int v_t_noted_24, .int v_t_at_24, .int v_t_sort_24, .int v_t_start_24, .int v_t_value_24, .ref q_t_row, .ref q_t_best, .int v_t_bestMany_24, .int v_t_bestWorth_24, .int v_t_bestHour_24, .ref q_t_places, .ref q_t_pairs], ia C q_t_told 52 r_t_told_24, ia C q_t_s 254 r_t_s_24, ia C q_t_row 8 y3.2.1, ia C q_t_best 8 r_t_best_24, ia C q_t_places 6 y3.2.2] H ∧ va_D A [ob q_t 11 [.long v_t_trace_24, .ref q_t_text, .int v_t_typed_24, .ref q_t_told, .ref q_t_draft, .ref q_t_s, .ref q_t_images, .ref q_t_kept, .ref q_t_heard, .ref q_t_hours, .int v_t_noted_24, .int v_t_at_24, .int v_t_sort_24, .int v_t_start_24, .int v_t_value_24, .ref q_t_row, .ref q_t_best, .int v_t_bestMany_24, .int v_t_bestWorth_24, .int v_t_bestHour_24, .ref q_t_places, .ref q_t_pairs], ia C q_t_told 52 r_t_told_24, ia C q_t_s 254 r_t_s_24, ia C q_t_row 8 y3.2.1, ia C q_t_best 8 r_t_best_24, ia C q_t_places 6 y3.2.2] ∧ va_S A s.heap H L ∧ lv_has ls 6 [(1, .int z5), (2, .int y3.1), (0, .ref q_t)]) (fun H locs g hI => ?_) (fun Jj6 => ?_)
          · obtain ⟨ls, rfl, hP, hD, hS, hl⟩ := hI
            refine lv_istore_n (lv' := [(2, .int j6), (1, .int z5), (0, .ref q_t)]) hx hb dX11_rounds_173 rfl hl (by decide) rfl (fun ls hl => ?_)
            refine lv_goto (tgt := 24) hx hb dX11_rounds_174 (by decide) ?_
            exact ih _ _ _ _ _ _ _ _ _ _ _ _ _ _ _ _ _ _ hf H locs ls hP hD hS (lv_sub hl [0, 1, 2] rfl) KX0
          · have hf := hrj6
            refine lv_if_lt (tgt := 172) hx hb dX11_rounds_158 (by decide) (fun c7 => ?_) (fun c7 => ?_)
            · have hf := of_pos hf c7
              refine lv_iconst (v := (0 : Int32)) hx hb dX11_rounds_172 (by decide) ?_
              obtain rfl := Option.some.inj hf
              exact Jj6 _ _ _ ⟨_, rfl, hP, hD, hS, lv_sub hl [0, 1, 2] rfl⟩
            · have hf := of_neg hf c7
              refine lv_aload_n hx hb dX11_rounds_161 rfl (lv_at hl 2 rfl) ?_
              refine va_get (D := D) (ci := 11) (v := .ref q_t_row) (C := RX11) (T := TX11) (N := 22) hx hb hts inX11 hown hK hP 0 rfl rfl 15 (by decide) (hts (.fieldLink RX11 35 "LentCourageModel" "row" "[I") (List.mem_of_getElem? (i := 7) rfl)) (fun _ h9 => h9) rfl dX11_rounds_162 ?_
              refine lv_iload_n hx hb dX11_rounds_165 rfl (lv_at hl 0 rfl) ?_
              obtain ⟨h8, hf⟩ := of_chk hf
              refine va_iald hx hb hK hP 3 0 rfl rfl h8 dX11_rounds_166 ?_
              refine lv_iconst (v := (1 : Int32)) hx hb dX11_rounds_167 (by decide) ?_
              refine lv_iadd hx hb dX11_rounds_168 ?_
              refine lv_goto (tgt := 173) hx hb dX11_rounds_169 (by decide) ?_
              obtain rfl := Option.some.inj hf
              exact Jj6 _ _ _ ⟨_, rfl, hP, hD, hS, lv_sub hl [0, 1, 2] rfl⟩
        · have hf := of_neg hf c4
          obtain ⟨z9, ez9⟩ : ∃ y : Int32, y = (w1_24 + (1 : Int32)) := ⟨_, rfl⟩
          have hf := of_lt hf ez9
          refine lv_iinc (v := z9) (lv' := [(1, .int z9), (2, .int y3.1), (0, .ref q_t)]) hx hb dX11_rounds_63 hl (k := 1) rfl (by rw [ez9]; rfl) (by decide) rfl (fun ls hl => ?_)
          refine lv_iconst (v := (0 : Int32)) hx hb dX11_rounds_66 (by decide) ?_
          refine lv_istore_n (lv' := [(2, .int (0 : Int32)), (1, .int z9), (0, .ref q_t)]) hx hb dX11_rounds_67 rfl hl (by decide) rfl (fun ls hl => ?_)
          refine lv_aload_n hx hb dX11_rounds_68 rfl (lv_at hl 2 rfl) ?_
          refine lv_iload_n hx hb dX11_rounds_69 rfl (lv_at hl 1 rfl) ?_
          obtain ⟨o10, ho10, hf⟩ := of_bind hf
          refine c_I (wr := [ia C q_t_s 254 r_t_s_24, ia C q_t_best 8 r_t_best_24, ia C q_t_places 6 y3.2.2]) (W2 := [ob q_t 11 [.long v_t_trace_24, .ref q_t_text, .int v_t_typed_24, .ref q_t_told, .ref q_t_draft, .ref q_t_s, .ref q_t_images, .ref q_t_kept, .ref q_t_heard, .ref q_t_hours, .int v_t_noted_24, .int v_t_at_24, .int v_t_sort_24, .int v_t_start_24, .int v_t_value_24, .ref q_t_row, .ref q_t_best, .int v_t_bestMany_24, .int v_t_bestWorth_24, .int v_t_bestHour_24, .ref q_t_places, .ref q_t_pairs], ia C q_t_told 52 r_t_told_24, ia C q_t_s 254 r_t_s_24, ia C q_t_row 8 y3.2.1, ia C q_t_best 8 r_t_best_24, ia C q_t_places 6 y3.2.2]) (cV_run ⟨hx, hb, hml, hown, hts⟩ (k_X11_worthOf l D C q_t q_t_text q_t_told q_t_draft q_t_s q_t_images q_t_kept q_t_heard q_t_hours q_t_row q_t_best q_t_places q_t_pairs v_t_trace_24 v_t_typed_24 v_t_noted_24 v_t_at_24 v_t_sort_24 v_t_start_24 v_t_value_24 v_t_bestMany_24 v_t_bestWorth_24 v_t_bestHour_24 r_t_told_24 y3.2.1 z9 H.size o10 ho10) gX11_rounds_X11_worthOf rfl ⟨rfl, rfl⟩ hd_X11_worthOf ⟨(Nat.le_of_ble_eq_true rfl), (Nat.le_of_ble_eq_true rfl)⟩ rfl hK (cut_in hK hP hD [0, 1, 3] rfl (by decide)) (ci := 11) rfl rfl rfl hl.1 rfl (Nat.le_of_ble_eq_true rfl) dX11_rounds_70 ⟨Nat.zero_le _, Nat.zero_le _⟩) hP hD hS hA [0, 1, 3] [2, 4, 5] [3, 4, 0, 5, 1, 2] rfl rfl (by decide) (by decide) rfl (by decide) (fun H locs hP hD hS => ?_)
          have hP : va_P D vwCl [ob q_t 11 [.long v_t_trace_24, .ref q_t_text, .int v_t_typed_24, .ref q_t_told, .ref q_t_draft, .ref q_t_s, .ref q_t_images, .ref q_t_kept, .ref q_t_heard, .ref q_t_hours, .int v_t_noted_24, .int v_t_at_24, .int v_t_sort_24, .int v_t_start_24, .int v_t_value_24, .ref q_t_row, .ref q_t_best, .int v_t_bestMany_24, .int v_t_bestWorth_24, .int v_t_bestHour_24, .ref q_t_places, .ref q_t_pairs], ia C q_t_told 52 r_t_told_24, ia C q_t_s 254 r_t_s_24, ia C q_t_row 8 y3.2.1, ia C q_t_best 8 r_t_best_24, ia C q_t_places 6 y3.2.2] H := hP
          have hD : va_D A [ob q_t 11 [.long v_t_trace_24, .ref q_t_text, .int v_t_typed_24, .ref q_t_told, .ref q_t_draft, .ref q_t_s, .ref q_t_images, .ref q_t_kept, .ref q_t_heard, .ref q_t_hours, .int v_t_noted_24, .int v_t_at_24, .int v_t_sort_24, .int v_t_start_24, .int v_t_value_24, .ref q_t_row, .ref q_t_best, .int v_t_bestMany_24, .int v_t_bestWorth_24, .int v_t_bestHour_24, .ref q_t_places, .ref q_t_pairs], ia C q_t_told 52 r_t_told_24, ia C q_t_s 254 r_t_s_24, ia C q_t_row 8 y3.2.1, ia C q_t_best 8 r_t_best_24, ia C q_t_places 6 y3.2.2] := hD
          refine lv_istore_n (lv' := [(3, .int o10), (2, .int (0 : Int32)), (1, .int z9), (0, .ref q_t)]) hx hb dX11_rounds_73 rfl hl (by decide) rfl (fun ls hl => ?_)
          refine lv_aload_n hx hb dX11_rounds_74 rfl (lv_at hl 3 rfl) ?_
          refine lv_iload_n hx hb dX11_rounds_75 rfl (lv_at hl 2 rfl) ?_
          obtain ⟨o11, ho11, hf⟩ := of_bind hf
          refine c_I (wr := [ia C q_t_best 8 r_t_best_24]) (W2 := [ob q_t 11 [.long v_t_trace_24, .ref q_t_text, .int v_t_typed_24, .ref q_t_told, .ref q_t_draft, .ref q_t_s, .ref q_t_images, .ref q_t_kept, .ref q_t_heard, .ref q_t_hours, .int v_t_noted_24, .int v_t_at_24, .int v_t_sort_24, .int v_t_start_24, .int v_t_value_24, .ref q_t_row, .ref q_t_best, .int v_t_bestMany_24, .int v_t_bestWorth_24, .int v_t_bestHour_24, .ref q_t_places, .ref q_t_pairs], ia C q_t_told 52 r_t_told_24, ia C q_t_s 254 r_t_s_24, ia C q_t_row 8 y3.2.1, ia C q_t_best 8 r_t_best_24, ia C q_t_places 6 o11.2]) (cV_run ⟨hx, hb, hml, hown, hts⟩ (k_X11_wayOf l D C q_t q_t_text q_t_told q_t_draft q_t_s q_t_images q_t_kept q_t_heard q_t_hours q_t_row q_t_best q_t_places q_t_pairs v_t_trace_24 v_t_typed_24 v_t_noted_24 v_t_at_24 v_t_sort_24 v_t_start_24 v_t_value_24 v_t_bestMany_24 v_t_bestWorth_24 v_t_bestHour_24 r_t_told_24 r_t_s_24 y3.2.1 y3.2.2 z9 H.size o11 ho11) gX11_rounds_X11_wayOf rfl ⟨rfl, rfl⟩ hd_X11_wayOf ⟨(Nat.le_of_ble_eq_true rfl), (Nat.le_of_ble_eq_true rfl)⟩ rfl hK (cut_in hK hP hD [0, 1, 2, 3, 5] rfl (by decide)) (ci := 11) rfl rfl rfl hl.1 rfl (Nat.le_of_ble_eq_true rfl) dX11_rounds_76 ⟨Nat.zero_le _, Nat.zero_le _⟩) hP hD hS hA [0, 1, 2, 3, 5] [4] [1, 2, 3, 4, 0, 5] rfl rfl (by decide) (by decide) rfl (by decide) (fun H locs hP hD hS => ?_)
          have hP : va_P D vwCl [ob q_t 11 [.long v_t_trace_24, .ref q_t_text, .int v_t_typed_24, .ref q_t_told, .ref q_t_draft, .ref q_t_s, .ref q_t_images, .ref q_t_kept, .ref q_t_heard, .ref q_t_hours, .int v_t_noted_24, .int v_t_at_24, .int v_t_sort_24, .int v_t_start_24, .int v_t_value_24, .ref q_t_row, .ref q_t_best, .int v_t_bestMany_24, .int v_t_bestWorth_24, .int v_t_bestHour_24, .ref q_t_places, .ref q_t_pairs], ia C q_t_told 52 r_t_told_24, ia C q_t_s 254 r_t_s_24, ia C q_t_row 8 y3.2.1, ia C q_t_best 8 r_t_best_24, ia C q_t_places 6 o11.2] H := hP
          have hD : va_D A [ob q_t 11 [.long v_t_trace_24, .ref q_t_text, .int v_t_typed_24, .ref q_t_told, .ref q_t_draft, .ref q_t_s, .ref q_t_images, .ref q_t_kept, .ref q_t_heard, .ref q_t_hours, .int v_t_noted_24, .int v_t_at_24, .int v_t_sort_24, .int v_t_start_24, .int v_t_value_24, .ref q_t_row, .ref q_t_best, .int v_t_bestMany_24, .int v_t_bestWorth_24, .int v_t_bestHour_24, .ref q_t_places, .ref q_t_pairs], ia C q_t_told 52 r_t_told_24, ia C q_t_s 254 r_t_s_24, ia C q_t_row 8 y3.2.1, ia C q_t_best 8 r_t_best_24, ia C q_t_places 6 o11.2] := hD
          refine lv_istore (lv' := [(4, .int o11.1), (3, .int o10), (2, .int (0 : Int32)), (1, .int z9), (0, .ref q_t)]) hx hb dX11_rounds_79 hl (by decide) rfl (fun ls hl => ?_)
          refine lv_iload_n hx hb dX11_rounds_81 rfl (lv_at hl 1 rfl) ?_
          refine lv_aload_n hx hb dX11_rounds_82 rfl (lv_at hl 4 rfl) ?_
          refine va_get (D := D) (ci := 11) (v := .int v_t_bestWorth_24) (C := RX11) (T := TX11) (N := 22) hx hb hts inX11 hown hK hP 0 rfl rfl 18 (by decide) (hts (.fieldLink RX11 142 "LentCourageModel" "bestWorth" "I") (List.mem_of_getElem? (i := 2) rfl)) (fun _ h9 => h9) rfl dX11_rounds_83 ?_
          refine lv_icmp_gt (tgt := 106) hx hb dX11_rounds_86 (by decide) (fun c12 => ?_) (fun c12 => ?_)
          · have hf := of_pos hf c12
            refine lv_aload_n hx hb dX11_rounds_106 rfl (lv_at hl 4 rfl) ?_
            refine lv_iload_n hx hb dX11_rounds_107 rfl (lv_at hl 3 rfl) ?_
            refine va_put (D := D) (ci := 11) (v := .int z9) (ty := .int) (C := RX11) (T := TX11) (N := 22) hx hb hts inX11 tyX11 tyX11_ok nmX11 hown hK hP hD hS 0 rfl rfl 17 (by decide) (hts (.fieldLink RX11 139 "LentCourageModel" "bestMany" "I") (List.mem_of_getElem? (i := 1) rfl)) (fun _ h9 => h9) rfl (tyX11_ok 17 (by decide)) rfl rfl (Nat.le_of_ble_eq_true rfl) dX11_rounds_108 (fun H locs hP hD hS => ?_)
            have hP : va_P D vwCl [ob q_t 11 [.long v_t_trace_24, .ref q_t_text, .int v_t_typed_24, .ref q_t_told, .ref q_t_draft, .ref q_t_s, .ref q_t_images, .ref q_t_kept, .ref q_t_heard, .ref q_t_hours, .int v_t_noted_24, .int v_t_at_24, .int v_t_sort_24, .int v_t_start_24, .int v_t_value_24, .ref q_t_row, .ref q_t_best, .int z9, .int v_t_bestWorth_24, .int v_t_bestHour_24, .ref q_t_places, .ref q_t_pairs], ia C q_t_told 52 r_t_told_24, ia C q_t_s 254 r_t_s_24, ia C q_t_row 8 y3.2.1, ia C q_t_best 8 r_t_best_24, ia C q_t_places 6 o11.2] H := hP
            have hD : va_D A [ob q_t 11 [.long v_t_trace_24, .ref q_t_text, .int v_t_typed_24, .ref q_t_told, .ref q_t_draft, .ref q_t_s, .ref q_t_images, .ref q_t_kept, .ref q_t_heard, .ref q_t_hours, .int v_t_noted_24, .int v_t_at_24, .int v_t_sort_24, .int v_t_start_24, .int v_t_value_24, .ref q_t_row, .ref q_t_best, .int z9, .int v_t_bestWorth_24, .int v_t_bestHour_24, .ref q_t_places, .ref q_t_pairs], ia C q_t_told 52 r_t_told_24, ia C q_t_s 254 r_t_s_24, ia C q_t_row 8 y3.2.1, ia C q_t_best 8 r_t_best_24, ia C q_t_places 6 o11.2] := hD
            refine lv_aload_n hx hb dX11_rounds_111 rfl (lv_at hl 4 rfl) ?_
            refine lv_iload_n hx hb dX11_rounds_112 rfl (lv_at hl 1 rfl) ?_
            refine va_put (D := D) (ci := 11) (v := .int o10) (ty := .int) (C := RX11) (T := TX11) (N := 22) hx hb hts inX11 tyX11 tyX11_ok nmX11 hown hK hP hD hS 0 rfl rfl 18 (by decide) (hts (.fieldLink RX11 142 "LentCourageModel" "bestWorth" "I") (List.mem_of_getElem? (i := 2) rfl)) (fun _ h9 => h9) rfl (tyX11_ok 18 (by decide)) rfl rfl (Nat.le_of_ble_eq_true rfl) dX11_rounds_113 (fun H locs hP hD hS => ?_)
            have hP : va_P D vwCl [ob q_t 11 [.long v_t_trace_24, .ref q_t_text, .int v_t_typed_24, .ref q_t_told, .ref q_t_draft, .ref q_t_s, .ref q_t_images, .ref q_t_kept, .ref q_t_heard, .ref q_t_hours, .int v_t_noted_24, .int v_t_at_24, .int v_t_sort_24, .int v_t_start_24, .int v_t_value_24, .ref q_t_row, .ref q_t_best, .int z9, .int o10, .int v_t_bestHour_24, .ref q_t_places, .ref q_t_pairs], ia C q_t_told 52 r_t_told_24, ia C q_t_s 254 r_t_s_24, ia C q_t_row 8 y3.2.1, ia C q_t_best 8 r_t_best_24, ia C q_t_places 6 o11.2] H := hP
            have hD : va_D A [ob q_t 11 [.long v_t_trace_24, .ref q_t_text, .int v_t_typed_24, .ref q_t_told, .ref q_t_draft, .ref q_t_s, .ref q_t_images, .ref q_t_kept, .ref q_t_heard, .ref q_t_hours, .int v_t_noted_24, .int v_t_at_24, .int v_t_sort_24, .int v_t_start_24, .int v_t_value_24, .ref q_t_row, .ref q_t_best, .int z9, .int o10, .int v_t_bestHour_24, .ref q_t_places, .ref q_t_pairs], ia C q_t_told 52 r_t_told_24, ia C q_t_s 254 r_t_s_24, ia C q_t_row 8 y3.2.1, ia C q_t_best 8 r_t_best_24, ia C q_t_places 6 o11.2] := hD
            refine lv_aload_n hx hb dX11_rounds_116 rfl (lv_at hl 4 rfl) ?_
            refine lv_iload hx hb dX11_rounds_117 (lv_at hl 0 rfl) ?_
            refine va_put (D := D) (ci := 11) (v := .int o11.1) (ty := .int) (C := RX11) (T := TX11) (N := 22) hx hb hts inX11 tyX11 tyX11_ok nmX11 hown hK hP hD hS 0 rfl rfl 19 (by decide) (hts (.fieldLink RX11 145 "LentCourageModel" "bestHour" "I") (List.mem_of_getElem? (i := 4) rfl)) (fun _ h9 => h9) rfl (tyX11_ok 19 (by decide)) rfl rfl (Nat.le_of_ble_eq_true rfl) dX11_rounds_119 (fun H locs hP hD hS => ?_)
            have hP : va_P D vwCl [ob q_t 11 [.long v_t_trace_24, .ref q_t_text, .int v_t_typed_24, .ref q_t_told, .ref q_t_draft, .ref q_t_s, .ref q_t_images, .ref q_t_kept, .ref q_t_heard, .ref q_t_hours, .int v_t_noted_24, .int v_t_at_24, .int v_t_sort_24, .int v_t_start_24, .int v_t_value_24, .ref q_t_row, .ref q_t_best, .int z9, .int o10, .int o11.1, .ref q_t_places, .ref q_t_pairs], ia C q_t_told 52 r_t_told_24, ia C q_t_s 254 r_t_s_24, ia C q_t_row 8 y3.2.1, ia C q_t_best 8 r_t_best_24, ia C q_t_places 6 o11.2] H := hP
            have hD : va_D A [ob q_t 11 [.long v_t_trace_24, .ref q_t_text, .int v_t_typed_24, .ref q_t_told, .ref q_t_draft, .ref q_t_s, .ref q_t_images, .ref q_t_kept, .ref q_t_heard, .ref q_t_hours, .int v_t_noted_24, .int v_t_at_24, .int v_t_sort_24, .int v_t_start_24, .int v_t_value_24, .ref q_t_row, .ref q_t_best, .int z9, .int o10, .int o11.1, .ref q_t_places, .ref q_t_pairs], ia C q_t_told 52 r_t_told_24, ia C q_t_s 254 r_t_s_24, ia C q_t_row 8 y3.2.1, ia C q_t_best 8 r_t_best_24, ia C q_t_places 6 o11.2] := hD
            refine lv_iconst (v := (0 : Int32)) hx hb dX11_rounds_122 (by decide) ?_
            refine lv_istore (lv' := [(5, .int (0 : Int32)), (4, .int o11.1), (3, .int o10), (2, .int (0 : Int32)), (1, .int z9), (0, .ref q_t)]) hx hb dX11_rounds_123 hl (by decide) rfl (fun ls hl => ?_)
            obtain ⟨y13, hy13, hf⟩ := of_bind hf
            refine LP125 _ FU _ _ _ _ _ _ _ _ _ _ _ _ _ _ _ _ _ _ _ _ y13 hy13 H locs ls hP hD hS (lv_sub hl [0, 1, 2, 3, 4, 5] rfl) (fun H locs ls hP hD hS hl => ?_)
            refine lv_goto (tgt := 24) hx hb dX11_rounds_151 (by decide) ?_
            exact ih _ _ _ _ _ _ _ _ _ _ _ _ _ _ _ _ _ _ hf H locs ls hP hD hS (lv_sub hl [3, 4, 5] rfl) KX0
          · have hf := of_neg hf c12
            refine lv_iload_n hx hb dX11_rounds_89 rfl (lv_at hl 1 rfl) ?_
            refine lv_aload_n hx hb dX11_rounds_90 rfl (lv_at hl 4 rfl) ?_
            refine va_get (D := D) (ci := 11) (v := .int v_t_bestWorth_24) (C := RX11) (T := TX11) (N := 22) hx hb hts inX11 hown hK hP 0 rfl rfl 18 (by decide) (hts (.fieldLink RX11 142 "LentCourageModel" "bestWorth" "I") (List.mem_of_getElem? (i := 2) rfl)) (fun _ h9 => h9) rfl dX11_rounds_91 ?_
            refine lv_icmp_ne (tgt := 151) hx hb dX11_rounds_94 (by decide) (fun c14 => ?_) (fun c14 => ?_)
            · have hf := of_neg hf c14
              refine lv_goto (tgt := 24) hx hb dX11_rounds_151 (by decide) ?_
              exact ih _ _ _ _ _ _ _ _ _ _ _ _ _ _ _ _ _ _ hf H locs ls hP hD hS (lv_sub hl [2, 3, 4] rfl) KX0
            · have hf := of_pos hf c14
              refine lv_iload hx hb dX11_rounds_97 (lv_at hl 0 rfl) ?_
              refine lv_aload_n hx hb dX11_rounds_99 rfl (lv_at hl 4 rfl) ?_
              refine va_get (D := D) (ci := 11) (v := .int v_t_bestHour_24) (C := RX11) (T := TX11) (N := 22) hx hb hts inX11 hown hK hP 0 rfl rfl 19 (by decide) (hts (.fieldLink RX11 145 "LentCourageModel" "bestHour" "I") (List.mem_of_getElem? (i := 4) rfl)) (fun _ h9 => h9) rfl dX11_rounds_100 ?_
              refine lv_icmp_ge (tgt := 151) hx hb dX11_rounds_103 (by decide) (fun c15 => ?_) (fun c15 => ?_)
              · have hf := of_pos hf c15
                refine lv_goto (tgt := 24) hx hb dX11_rounds_151 (by decide) ?_
                exact ih _ _ _ _ _ _ _ _ _ _ _ _ _ _ _ _ _ _ hf H locs ls hP hD hS (lv_sub hl [2, 3, 4] rfl) KX0
              · have hf := of_neg hf c15
                refine lv_aload_n hx hb dX11_rounds_106 rfl (lv_at hl 4 rfl) ?_
                refine lv_iload_n hx hb dX11_rounds_107 rfl (lv_at hl 3 rfl) ?_
                refine va_put (D := D) (ci := 11) (v := .int z9) (ty := .int) (C := RX11) (T := TX11) (N := 22) hx hb hts inX11 tyX11 tyX11_ok nmX11 hown hK hP hD hS 0 rfl rfl 17 (by decide) (hts (.fieldLink RX11 139 "LentCourageModel" "bestMany" "I") (List.mem_of_getElem? (i := 1) rfl)) (fun _ h9 => h9) rfl (tyX11_ok 17 (by decide)) rfl rfl (Nat.le_of_ble_eq_true rfl) dX11_rounds_108 (fun H locs hP hD hS => ?_)
                have hP : va_P D vwCl [ob q_t 11 [.long v_t_trace_24, .ref q_t_text, .int v_t_typed_24, .ref q_t_told, .ref q_t_draft, .ref q_t_s, .ref q_t_images, .ref q_t_kept, .ref q_t_heard, .ref q_t_hours, .int v_t_noted_24, .int v_t_at_24, .int v_t_sort_24, .int v_t_start_24, .int v_t_value_24, .ref q_t_row, .ref q_t_best, .int z9, .int v_t_bestWorth_24, .int v_t_bestHour_24, .ref q_t_places, .ref q_t_pairs], ia C q_t_told 52 r_t_told_24, ia C q_t_s 254 r_t_s_24, ia C q_t_row 8 y3.2.1, ia C q_t_best 8 r_t_best_24, ia C q_t_places 6 o11.2] H := hP
                have hD : va_D A [ob q_t 11 [.long v_t_trace_24, .ref q_t_text, .int v_t_typed_24, .ref q_t_told, .ref q_t_draft, .ref q_t_s, .ref q_t_images, .ref q_t_kept, .ref q_t_heard, .ref q_t_hours, .int v_t_noted_24, .int v_t_at_24, .int v_t_sort_24, .int v_t_start_24, .int v_t_value_24, .ref q_t_row, .ref q_t_best, .int z9, .int v_t_bestWorth_24, .int v_t_bestHour_24, .ref q_t_places, .ref q_t_pairs], ia C q_t_told 52 r_t_told_24, ia C q_t_s 254 r_t_s_24, ia C q_t_row 8 y3.2.1, ia C q_t_best 8 r_t_best_24, ia C q_t_places 6 o11.2] := hD
                refine lv_aload_n hx hb dX11_rounds_111 rfl (lv_at hl 4 rfl) ?_
                refine lv_iload_n hx hb dX11_rounds_112 rfl (lv_at hl 1 rfl) ?_
                refine va_put (D := D) (ci := 11) (v := .int o10) (ty := .int) (C := RX11) (T := TX11) (N := 22) hx hb hts inX11 tyX11 tyX11_ok nmX11 hown hK hP hD hS 0 rfl rfl 18 (by decide) (hts (.fieldLink RX11 142 "LentCourageModel" "bestWorth" "I") (List.mem_of_getElem? (i := 2) rfl)) (fun _ h9 => h9) rfl (tyX11_ok 18 (by decide)) rfl rfl (Nat.le_of_ble_eq_true rfl) dX11_rounds_113 (fun H locs hP hD hS => ?_)
                have hP : va_P D vwCl [ob q_t 11 [.long v_t_trace_24, .ref q_t_text, .int v_t_typed_24, .ref q_t_told, .ref q_t_draft, .ref q_t_s, .ref q_t_images, .ref q_t_kept, .ref q_t_heard, .ref q_t_hours, .int v_t_noted_24, .int v_t_at_24, .int v_t_sort_24, .int v_t_start_24, .int v_t_value_24, .ref q_t_row, .ref q_t_best, .int z9, .int o10, .int v_t_bestHour_24, .ref q_t_places, .ref q_t_pairs], ia C q_t_told 52 r_t_told_24, ia C q_t_s 254 r_t_s_24, ia C q_t_row 8 y3.2.1, ia C q_t_best 8 r_t_best_24, ia C q_t_places 6 o11.2] H := hP
                have hD : va_D A [ob q_t 11 [.long v_t_trace_24, .ref q_t_text, .int v_t_typed_24, .ref q_t_told, .ref q_t_draft, .ref q_t_s, .ref q_t_images, .ref q_t_kept, .ref q_t_heard, .ref q_t_hours, .int v_t_noted_24, .int v_t_at_24, .int v_t_sort_24, .int v_t_start_24, .int v_t_value_24, .ref q_t_row, .ref q_t_best, .int z9, .int o10, .int v_t_bestHour_24, .ref q_t_places, .ref q_t_pairs], ia C q_t_told 52 r_t_told_24, ia C q_t_s 254 r_t_s_24, ia C q_t_row 8 y3.2.1, ia C q_t_best 8 r_t_best_24, ia C q_t_places 6 o11.2] := hD
                refine lv_aload_n hx hb dX11_rounds_116 rfl (lv_at hl 4 rfl) ?_
                refine lv_iload hx hb dX11_rounds_117 (lv_at hl 0 rfl) ?_
                refine va_put (D := D) (ci := 11) (v := .int o11.1) (ty := .int) (C := RX11) (T := TX11) (N := 22) hx hb hts inX11 tyX11 tyX11_ok nmX11 hown hK hP hD hS 0 rfl rfl 19 (by decide) (hts (.fieldLink RX11 145 "LentCourageModel" "bestHour" "I") (List.mem_of_getElem? (i := 4) rfl)) (fun _ h9 => h9) rfl (tyX11_ok 19 (by decide)) rfl rfl (Nat.le_of_ble_eq_true rfl) dX11_rounds_119 (fun H locs hP hD hS => ?_)
                have hP : va_P D vwCl [ob q_t 11 [.long v_t_trace_24, .ref q_t_text, .int v_t_typed_24, .ref q_t_told, .ref q_t_draft, .ref q_t_s, .ref q_t_images, .ref q_t_kept, .ref q_t_heard, .ref q_t_hours, .int v_t_noted_24, .int v_t_at_24, .int v_t_sort_24, .int v_t_start_24, .int v_t_value_24, .ref q_t_row, .ref q_t_best, .int z9, .int o10, .int o11.1, .ref q_t_places, .ref q_t_pairs], ia C q_t_told 52 r_t_told_24, ia C q_t_s 254 r_t_s_24, ia C q_t_row 8 y3.2.1, ia C q_t_best 8 r_t_best_24, ia C q_t_places 6 o11.2] H := hP
                have hD : va_D A [ob q_t 11 [.long v_t_trace_24, .ref q_t_text, .int v_t_typed_24, .ref q_t_told, .ref q_t_draft, .ref q_t_s, .ref q_t_images, .ref q_t_kept, .ref q_t_heard, .ref q_t_hours, .int v_t_noted_24, .int v_t_at_24, .int v_t_sort_24, .int v_t_start_24, .int v_t_value_24, .ref q_t_row, .ref q_t_best, .int z9, .int o10, .int o11.1, .ref q_t_places, .ref q_t_pairs], ia C q_t_told 52 r_t_told_24, ia C q_t_s 254 r_t_s_24, ia C q_t_row 8 y3.2.1, ia C q_t_best 8 r_t_best_24, ia C q_t_places 6 o11.2] := hD
                refine lv_iconst (v := (0 : Int32)) hx hb dX11_rounds_122 (by decide) ?_
                refine lv_istore (lv' := [(5, .int (0 : Int32)), (4, .int o11.1), (3, .int o10), (2, .int (0 : Int32)), (1, .int z9), (0, .ref q_t)]) hx hb dX11_rounds_123 hl (by decide) rfl (fun ls hl => ?_)
                obtain ⟨y16, hy16, hf⟩ := of_bind hf
                refine LP125 _ FU _ _ _ _ _ _ _ _ _ _ _ _ _ _ _ _ _ _ _ _ y16 hy16 H locs ls hP hD hS (lv_sub hl [0, 1, 2, 3, 4, 5] rfl) (fun H locs ls hP hD hS hl => ?_)
                refine lv_goto (tgt := 24) hx hb dX11_rounds_151 (by decide) ?_
                exact ih _ _ _ _ _ _ _ _ _ _ _ _ _ _ _ _ _ _ hf H locs ls hP hD hS (lv_sub hl [3, 4, 5] rfl) KX0
  refine lv_aload_n hx hb dX11_rounds_0 rfl (lv_at hl 0 rfl) ?_
  refine lv_iconst (v := (0 : Int32)) hx hb dX11_rounds_1 (by decide) ?_
  refine va_put (D := D) (ci := 11) (v := .int (0 : Int32)) (ty := .int) (C := RX11) (T := TX11) (N := 22) hx hb hts inX11 tyX11 tyX11_ok nmX11 hown hK hP hD hS 0 rfl rfl 17 (by decide) (hts (.fieldLink RX11 139 "LentCourageModel" "bestMany" "I") (List.mem_of_getElem? (i := 1) rfl)) (fun _ h9 => h9) rfl (tyX11_ok 17 (by decide)) rfl rfl (Nat.le_of_ble_eq_true rfl) dX11_rounds_2 (fun H locs hP hD hS => ?_)
  have hP : va_P D vwCl [ob q_t 11 [.long v_t_trace, .ref q_t_text, .int v_t_typed, .ref q_t_told, .ref q_t_draft, .ref q_t_s, .ref q_t_images, .ref q_t_kept, .ref q_t_heard, .ref q_t_hours, .int v_t_noted, .int v_t_at, .int v_t_sort, .int v_t_start, .int v_t_value, .ref q_t_row, .ref q_t_best, .int (0 : Int32), .int v_t_bestWorth, .int v_t_bestHour, .ref q_t_places, .ref q_t_pairs], ia C q_t_told 52 r_t_told, ia C q_t_s 254 r_t_s, ia C q_t_row 8 r_t_row, ia C q_t_best 8 r_t_best, ia C q_t_places 6 r_t_places] H := hP
  have hD : va_D A [ob q_t 11 [.long v_t_trace, .ref q_t_text, .int v_t_typed, .ref q_t_told, .ref q_t_draft, .ref q_t_s, .ref q_t_images, .ref q_t_kept, .ref q_t_heard, .ref q_t_hours, .int v_t_noted, .int v_t_at, .int v_t_sort, .int v_t_start, .int v_t_value, .ref q_t_row, .ref q_t_best, .int (0 : Int32), .int v_t_bestWorth, .int v_t_bestHour, .ref q_t_places, .ref q_t_pairs], ia C q_t_told 52 r_t_told, ia C q_t_s 254 r_t_s, ia C q_t_row 8 r_t_row, ia C q_t_best 8 r_t_best, ia C q_t_places 6 r_t_places] := hD
  refine lv_aload_n hx hb dX11_rounds_5 rfl (lv_at hl 0 rfl) ?_
  refine lv_iconst (v := (0 : Int32)) hx hb dX11_rounds_6 (by decide) ?_
  refine va_put (D := D) (ci := 11) (v := .int (0 : Int32)) (ty := .int) (C := RX11) (T := TX11) (N := 22) hx hb hts inX11 tyX11 tyX11_ok nmX11 hown hK hP hD hS 0 rfl rfl 18 (by decide) (hts (.fieldLink RX11 142 "LentCourageModel" "bestWorth" "I") (List.mem_of_getElem? (i := 2) rfl)) (fun _ h9 => h9) rfl (tyX11_ok 18 (by decide)) rfl rfl (Nat.le_of_ble_eq_true rfl) dX11_rounds_7 (fun H locs hP hD hS => ?_)
  have hP : va_P D vwCl [ob q_t 11 [.long v_t_trace, .ref q_t_text, .int v_t_typed, .ref q_t_told, .ref q_t_draft, .ref q_t_s, .ref q_t_images, .ref q_t_kept, .ref q_t_heard, .ref q_t_hours, .int v_t_noted, .int v_t_at, .int v_t_sort, .int v_t_start, .int v_t_value, .ref q_t_row, .ref q_t_best, .int (0 : Int32), .int (0 : Int32), .int v_t_bestHour, .ref q_t_places, .ref q_t_pairs], ia C q_t_told 52 r_t_told, ia C q_t_s 254 r_t_s, ia C q_t_row 8 r_t_row, ia C q_t_best 8 r_t_best, ia C q_t_places 6 r_t_places] H := hP
  have hD : va_D A [ob q_t 11 [.long v_t_trace, .ref q_t_text, .int v_t_typed, .ref q_t_told, .ref q_t_draft, .ref q_t_s, .ref q_t_images, .ref q_t_kept, .ref q_t_heard, .ref q_t_hours, .int v_t_noted, .int v_t_at, .int v_t_sort, .int v_t_start, .int v_t_value, .ref q_t_row, .ref q_t_best, .int (0 : Int32), .int (0 : Int32), .int v_t_bestHour, .ref q_t_places, .ref q_t_pairs], ia C q_t_told 52 r_t_told, ia C q_t_s 254 r_t_s, ia C q_t_row 8 r_t_row, ia C q_t_best 8 r_t_best, ia C q_t_places 6 r_t_places] := hD
  refine lv_aload_n hx hb dX11_rounds_10 rfl (lv_at hl 0 rfl) ?_
  refine lv_aload_n hx hb dX11_rounds_11 rfl (lv_at hl 0 rfl) ?_
  refine va_get (D := D) (ci := 11) (v := .ref q_t_s) (C := RX11) (T := TX11) (N := 22) hx hb hts inX11 hown hK hP 0 rfl rfl 5 (by decide) (hts (.fieldLink RX11 19 "LentCourageModel" "s" "[I") (List.mem_of_getElem? (i := 3) rfl)) (fun _ h9 => h9) rfl dX11_rounds_12 ?_
  refine lv_iconst (v := (0 : Int32)) hx hb dX11_rounds_15 (by decide) ?_
  refine ld_ialdK hx hb hK hP 2 0 rfl rfl (k := 0) (by decide) (by decide) (by decide) dX11_rounds_16 ?_
  refine lv_topi (fun z1 ez1 => ?_)
  have hf := of_lt hf ez1
  refine va_put (D := D) (ci := 11) (v := .int z1) (ty := .int) (C := RX11) (T := TX11) (N := 22) hx hb hts inX11 tyX11 tyX11_ok nmX11 hown hK hP hD hS 0 rfl rfl 19 (by decide) (hts (.fieldLink RX11 145 "LentCourageModel" "bestHour" "I") (List.mem_of_getElem? (i := 4) rfl)) (fun _ h9 => h9) rfl (tyX11_ok 19 (by decide)) rfl rfl (Nat.le_of_ble_eq_true rfl) dX11_rounds_17 (fun H locs hP hD hS => ?_)
  have hP : va_P D vwCl [ob q_t 11 [.long v_t_trace, .ref q_t_text, .int v_t_typed, .ref q_t_told, .ref q_t_draft, .ref q_t_s, .ref q_t_images, .ref q_t_kept, .ref q_t_heard, .ref q_t_hours, .int v_t_noted, .int v_t_at, .int v_t_sort, .int v_t_start, .int v_t_value, .ref q_t_row, .ref q_t_best, .int (0 : Int32), .int (0 : Int32), .int z1, .ref q_t_places, .ref q_t_pairs], ia C q_t_told 52 r_t_told, ia C q_t_s 254 r_t_s, ia C q_t_row 8 r_t_row, ia C q_t_best 8 r_t_best, ia C q_t_places 6 r_t_places] H := hP
  have hD : va_D A [ob q_t 11 [.long v_t_trace, .ref q_t_text, .int v_t_typed, .ref q_t_told, .ref q_t_draft, .ref q_t_s, .ref q_t_images, .ref q_t_kept, .ref q_t_heard, .ref q_t_hours, .int v_t_noted, .int v_t_at, .int v_t_sort, .int v_t_start, .int v_t_value, .ref q_t_row, .ref q_t_best, .int (0 : Int32), .int (0 : Int32), .int z1, .ref q_t_places, .ref q_t_pairs], ia C q_t_told 52 r_t_told, ia C q_t_s 254 r_t_s, ia C q_t_row 8 r_t_row, ia C q_t_best 8 r_t_best, ia C q_t_places 6 r_t_places] := hD
  refine lv_iconst (v := (0 : Int32)) hx hb dX11_rounds_20 (by decide) ?_
  refine lv_istore_n (lv' := [(1, .int (0 : Int32)), (0, .ref q_t)]) hx hb dX11_rounds_21 rfl hl (by decide) rfl (fun ls hl => ?_)
  refine lv_iconst (v := (0 : Int32)) hx hb dX11_rounds_22 (by decide) ?_
  refine lv_istore_n (lv' := [(2, .int (0 : Int32)), (1, .int (0 : Int32)), (0, .ref q_t)]) hx hb dX11_rounds_23 rfl hl (by decide) rfl (fun ls hl => ?_)
  obtain ⟨y17, hy17, hf⟩ := of_bind hf
  refine LP24 _ FU _ _ _ _ _ _ _ _ _ _ _ _ _ _ _ _ _ y17 hy17 H locs ls hP hD hS (lv_sub hl [0, 1, 2] rfl) (fun H locs ls hP hD hS hl => ?_)
  obtain rfl := Option.some.inj hf
  exact ret_V hx hb hr hlocks hK hP hD hS dX11_rounds_177

def fX11_round (v_t_bestMany : Int32) (v_t_bestWorth : Int32) (v_t_bestHour : Int32) (r_t_told : Nat → Int32) (r_t_s : Nat → Int32) (r_t_row : Nat → Int32) (r_t_best : Nat → Int32) (r_t_places : Nat → Int32) (p1 : Int32) : Option (Int32 × Int32 × Int32 × Int32 × (Nat → Int32) × (Nat → Int32) × (Nat → Int32)) :=
  (fX11_in p1 (-3 : Int32) (7 : Int32)).bind (fun o1 => (if o1 = 0 then some ((-1 : Int32), v_t_bestMany, v_t_bestWorth, v_t_bestHour, r_t_row, r_t_best, r_t_places) else (fX11_rounds r_t_told r_t_s r_t_row r_t_best r_t_places).bind (fun o3 => ((if p1 = (-1 : Int32) then some o3.2.1 else (if p1 = (-2 : Int32) then some o3.2.2.1 else (if p1 = (-3 : Int32) then some o3.1 else (if o3.1 ≤ p1 then some (-9 : Int32) else chk (vin p1 8) (some (o3.2.2.2.2.1 p1.toNatClampNeg))))))).bind (fun j4 => some (j4, o3.1, o3.2.1, o3.2.2.1, o3.2.2.2.1, o3.2.2.2.2.1, o3.2.2.2.2.2)))))
theorem hd_X11_round : yX11_round.cls = RX11 ∧ yX11_round.cls ≠ "java/lang/invoke/MethodHandle" ∧ yX11_round.cls ≠ "java/lang/invoke/VarHandle" ∧ (parseMethodDescriptor yX11_round.desc).map (fun d => d.parameters.length) = some 1 := by decide +kernel
set_option maxHeartbeats 4000000 in
set_option maxRecDepth 100000 in
theorem k_X11_round (l : Launch) (D : va_G) (C : Nat → ClassId) (q_t : Nat) (q_t_text : Nat) (q_t_told : Nat) (q_t_draft : Nat) (q_t_s : Nat) (q_t_images : Nat) (q_t_kept : Nat) (q_t_heard : Nat) (q_t_hours : Nat) (q_t_row : Nat) (q_t_best : Nat) (q_t_places : Nat) (q_t_pairs : Nat) (v_t_trace : Int64) (v_t_typed : Int32) (v_t_noted : Int32) (v_t_at : Int32) (v_t_sort : Int32) (v_t_start : Int32) (v_t_value : Int32) (v_t_bestMany : Int32) (v_t_bestWorth : Int32) (v_t_bestHour : Int32) (r_t_told : Nat → Int32) (r_t_s : Nat → Int32) (r_t_row : Nat → Int32) (r_t_best : Nat → Int32) (r_t_places : Nat → Int32) (p1 : Int32) (sz : Nat) (out : Int32 × Int32 × Int32 × Int32 × (Nat → Int32) × (Nat → Int32) × (Nat → Int32)) (hf : fX11_round v_t_bestMany v_t_bestWorth v_t_bestHour r_t_told r_t_s r_t_row r_t_best r_t_places p1 = some out) : MI l yX11_round wsX11_round ({ frames := 5, cells := 0, slots := 0, locals := 117 }) D C [.ref q_t, .int p1] [ob q_t 11 [.long v_t_trace, .ref q_t_text, .int v_t_typed, .ref q_t_told, .ref q_t_draft, .ref q_t_s, .ref q_t_images, .ref q_t_kept, .ref q_t_heard, .ref q_t_hours, .int v_t_noted, .int v_t_at, .int v_t_sort, .int v_t_start, .int v_t_value, .ref q_t_row, .ref q_t_best, .int v_t_bestMany, .int v_t_bestWorth, .int v_t_bestHour, .ref q_t_places, .ref q_t_pairs], ia C q_t_told 52 r_t_told, ia C q_t_s 254 r_t_s, ia C q_t_row 8 r_t_row, ia C q_t_best 8 r_t_best, ia C q_t_places 6 r_t_places] [ob q_t 11 [.long v_t_trace, .ref q_t_text, .int v_t_typed, .ref q_t_told, .ref q_t_draft, .ref q_t_s, .ref q_t_images, .ref q_t_kept, .ref q_t_heard, .ref q_t_hours, .int v_t_noted, .int v_t_at, .int v_t_sort, .int v_t_start, .int v_t_value, .ref q_t_row, .ref q_t_best, .int out.2.1, .int out.2.2.1, .int out.2.2.2.1, .ref q_t_places, .ref q_t_pairs], ia C q_t_told 52 r_t_told, ia C q_t_s 254 r_t_s, ia C q_t_row 8 out.2.2.2.2.1, ia C q_t_best 8 out.2.2.2.2.2.1, ia C q_t_places 6 out.2.2.2.2.2.2] sz (out.1) := by
  unfold fX11_round at hf
  refine en_I (by decide) rfl (Nat.le_of_ble_eq_true rfl) ?_
  intro p e s m below meth c A ls H locs hx hb hr hlocks hml hts hown hK hP hD hS hA hl
  have hl : lv_has ls 2 [(0, .ref q_t), (1, .int p1)] := hl
  have inX11 : ∀ w ∈ u_ws RX11 TX11 22, w ∈ wsX11_round := fun w h => List.mem_cons_of_mem _ (List.mem_append_right _ h)
  refine lv_iload_n hx hb dX11_round_0 rfl (lv_at hl 1 rfl) ?_
  refine lv_bipush (v := (-3 : Int32)) hx hb dX11_round_1 (by decide) ?_
  refine lv_bipush (v := (7 : Int32)) hx hb dX11_round_3 (by decide) ?_
  obtain ⟨o1, ho1, hf⟩ := of_bind hf
  refine c_I (wr := [ob q_t 11 [.long v_t_trace, .ref q_t_text, .int v_t_typed, .ref q_t_told, .ref q_t_draft, .ref q_t_s, .ref q_t_images, .ref q_t_kept, .ref q_t_heard, .ref q_t_hours, .int v_t_noted, .int v_t_at, .int v_t_sort, .int v_t_start, .int v_t_value, .ref q_t_row, .ref q_t_best, .int v_t_bestMany, .int v_t_bestWorth, .int v_t_bestHour, .ref q_t_places, .ref q_t_pairs], ia C q_t_told 52 r_t_told, ia C q_t_s 254 r_t_s, ia C q_t_row 8 r_t_row, ia C q_t_best 8 r_t_best, ia C q_t_places 6 r_t_places]) (W2 := [ob q_t 11 [.long v_t_trace, .ref q_t_text, .int v_t_typed, .ref q_t_told, .ref q_t_draft, .ref q_t_s, .ref q_t_images, .ref q_t_kept, .ref q_t_heard, .ref q_t_hours, .int v_t_noted, .int v_t_at, .int v_t_sort, .int v_t_start, .int v_t_value, .ref q_t_row, .ref q_t_best, .int v_t_bestMany, .int v_t_bestWorth, .int v_t_bestHour, .ref q_t_places, .ref q_t_pairs], ia C q_t_told 52 r_t_told, ia C q_t_s 254 r_t_s, ia C q_t_row 8 r_t_row, ia C q_t_best 8 r_t_best, ia C q_t_places 6 r_t_places]) (cS_run ⟨hx, hb, hml, hown, hts⟩ (k_X11_in l D C p1 (-3 : Int32) (7 : Int32) H.size o1 ho1) gX11_round_X11_in rfl ⟨rfl, rfl⟩ hd_X11_in ⟨(Nat.le_of_ble_eq_true rfl), (Nat.le_of_ble_eq_true rfl)⟩ rfl hK (cut_in hK hP hD [] rfl (by decide)) hl.1 rfl (Nat.le_of_ble_eq_true rfl) dX11_round_5 ⟨Nat.zero_le _, Nat.zero_le _⟩) hP hD hS hA [] [0, 1, 2, 3, 4, 5] [0, 1, 2, 3, 4, 5] rfl rfl (by decide) (by decide) rfl (by decide) (fun H locs hP hD hS => ?_)
  have hP : va_P D vwCl [ob q_t 11 [.long v_t_trace, .ref q_t_text, .int v_t_typed, .ref q_t_told, .ref q_t_draft, .ref q_t_s, .ref q_t_images, .ref q_t_kept, .ref q_t_heard, .ref q_t_hours, .int v_t_noted, .int v_t_at, .int v_t_sort, .int v_t_start, .int v_t_value, .ref q_t_row, .ref q_t_best, .int v_t_bestMany, .int v_t_bestWorth, .int v_t_bestHour, .ref q_t_places, .ref q_t_pairs], ia C q_t_told 52 r_t_told, ia C q_t_s 254 r_t_s, ia C q_t_row 8 r_t_row, ia C q_t_best 8 r_t_best, ia C q_t_places 6 r_t_places] H := hP
  have hD : va_D A [ob q_t 11 [.long v_t_trace, .ref q_t_text, .int v_t_typed, .ref q_t_told, .ref q_t_draft, .ref q_t_s, .ref q_t_images, .ref q_t_kept, .ref q_t_heard, .ref q_t_hours, .int v_t_noted, .int v_t_at, .int v_t_sort, .int v_t_start, .int v_t_value, .ref q_t_row, .ref q_t_best, .int v_t_bestMany, .int v_t_bestWorth, .int v_t_bestHour, .ref q_t_places, .ref q_t_pairs], ia C q_t_told 52 r_t_told, ia C q_t_s 254 r_t_s, ia C q_t_row 8 r_t_row, ia C q_t_best 8 r_t_best, ia C q_t_places 6 r_t_places] := hD
  refine lv_if_ne (tgt := 13) hx hb dX11_round_8 (by decide) (fun c2 => ?_) (fun c2 => ?_)
  · have hf := of_neg hf c2
    refine lv_aload_n hx hb dX11_round_13 rfl (lv_at hl 0 rfl) ?_
    obtain ⟨o3, ho3, hf⟩ := of_bind hf
    refine c_V (wr := []) (W2 := [ob q_t 11 [.long v_t_trace, .ref q_t_text, .int v_t_typed, .ref q_t_told, .ref q_t_draft, .ref q_t_s, .ref q_t_images, .ref q_t_kept, .ref q_t_heard, .ref q_t_hours, .int v_t_noted, .int v_t_at, .int v_t_sort, .int v_t_start, .int v_t_value, .ref q_t_row, .ref q_t_best, .int o3.1, .int o3.2.1, .int o3.2.2.1, .ref q_t_places, .ref q_t_pairs], ia C q_t_told 52 r_t_told, ia C q_t_s 254 r_t_s, ia C q_t_row 8 o3.2.2.2.1, ia C q_t_best 8 o3.2.2.2.2.1, ia C q_t_places 6 o3.2.2.2.2.2]) (cV_run ⟨hx, hb, hml, hown, hts⟩ (k_X11_rounds l D C q_t q_t_text q_t_told q_t_draft q_t_s q_t_images q_t_kept q_t_heard q_t_hours q_t_row q_t_best q_t_places q_t_pairs v_t_trace v_t_typed v_t_noted v_t_at v_t_sort v_t_start v_t_value v_t_bestMany v_t_bestWorth v_t_bestHour r_t_told r_t_s r_t_row r_t_best r_t_places H.size o3 ho3) gX11_round_X11_rounds rfl ⟨rfl, rfl⟩ hd_X11_rounds ⟨(Nat.le_of_ble_eq_true rfl), (Nat.le_of_ble_eq_true rfl)⟩ rfl hK (cut_in hK hP hD [0, 1, 2, 3, 4, 5] rfl (by decide)) (ci := 11) rfl rfl rfl hl.1 rfl (Nat.le_of_ble_eq_true rfl) dX11_round_14 ⟨Nat.zero_le _, Nat.zero_le _⟩) hP hD hS hA [0, 1, 2, 3, 4, 5] [] [0, 1, 2, 3, 4, 5] rfl rfl (by decide) (by decide) rfl (by decide) (fun H locs hP hD hS => ?_)
    have hP : va_P D vwCl [ob q_t 11 [.long v_t_trace, .ref q_t_text, .int v_t_typed, .ref q_t_told, .ref q_t_draft, .ref q_t_s, .ref q_t_images, .ref q_t_kept, .ref q_t_heard, .ref q_t_hours, .int v_t_noted, .int v_t_at, .int v_t_sort, .int v_t_start, .int v_t_value, .ref q_t_row, .ref q_t_best, .int o3.1, .int o3.2.1, .int o3.2.2.1, .ref q_t_places, .ref q_t_pairs], ia C q_t_told 52 r_t_told, ia C q_t_s 254 r_t_s, ia C q_t_row 8 o3.2.2.2.1, ia C q_t_best 8 o3.2.2.2.2.1, ia C q_t_places 6 o3.2.2.2.2.2] H := hP
    have hD : va_D A [ob q_t 11 [.long v_t_trace, .ref q_t_text, .int v_t_typed, .ref q_t_told, .ref q_t_draft, .ref q_t_s, .ref q_t_images, .ref q_t_kept, .ref q_t_heard, .ref q_t_hours, .int v_t_noted, .int v_t_at, .int v_t_sort, .int v_t_start, .int v_t_value, .ref q_t_row, .ref q_t_best, .int o3.1, .int o3.2.1, .int o3.2.2.1, .ref q_t_places, .ref q_t_pairs], ia C q_t_told 52 r_t_told, ia C q_t_s 254 r_t_s, ia C q_t_row 8 o3.2.2.2.1, ia C q_t_best 8 o3.2.2.2.2.1, ia C q_t_places 6 o3.2.2.2.2.2] := hD
    refine lv_iload_n hx hb dX11_round_17 rfl (lv_at hl 1 rfl) ?_
    refine lv_iconst (v := (-1 : Int32)) hx hb dX11_round_18 (by decide) ?_
    obtain ⟨j4, hrj4, hf⟩ := of_bind hf
    refine jn (fun H L g => ∃ ls, g = F0 m 74 ls [.int j4] ∧ va_P D vwCl [ob q_t 11 [.long v_t_trace, .ref q_t_text, .int v_t_typed, .ref q_t_told, .ref q_t_draft, .ref q_t_s, .ref q_t_images, .ref q_t_kept, .ref q_t_heard, .ref q_t_hours, .int v_t_noted, .int v_t_at, .int v_t_sort, .int v_t_start, .int v_t_value, .ref q_t_row, .ref q_t_best, .int o3.1, .int o3.2.1, .int o3.2.2.1, .ref q_t_places, .ref q_t_pairs], ia C q_t_told 52 r_t_told, ia C q_t_s 254 r_t_s, ia C q_t_row 8 o3.2.2.2.1, ia C q_t_best 8 o3.2.2.2.2.1, ia C q_t_places 6 o3.2.2.2.2.2] H ∧ va_D A [ob q_t 11 [.long v_t_trace, .ref q_t_text, .int v_t_typed, .ref q_t_told, .ref q_t_draft, .ref q_t_s, .ref q_t_images, .ref q_t_kept, .ref q_t_heard, .ref q_t_hours, .int v_t_noted, .int v_t_at, .int v_t_sort, .int v_t_start, .int v_t_value, .ref q_t_row, .ref q_t_best, .int o3.1, .int o3.2.1, .int o3.2.2.1, .ref q_t_places, .ref q_t_pairs], ia C q_t_told 52 r_t_told, ia C q_t_s 254 r_t_s, ia C q_t_row 8 o3.2.2.2.1, ia C q_t_best 8 o3.2.2.2.2.1, ia C q_t_places 6 o3.2.2.2.2.2] ∧ va_S A s.heap H L ∧ lv_has ls 2 [(0, .ref q_t), (1, .int p1)]) (fun H locs g hI => ?_) (fun Jj4 => ?_)
    · obtain ⟨ls, rfl, hP, hD, hS, hl⟩ := hI
      obtain rfl := Option.some.inj hf
      exact ret_I hx hb hr hlocks hK hP hD hS dX11_round_74
    · have hf := hrj4
      refine lv_icmp_ne (tgt := 29) hx hb dX11_round_19 (by decide) (fun c5 => ?_) (fun c5 => ?_)
      · have hf := of_neg hf c5
        refine lv_iload_n hx hb dX11_round_29 rfl (lv_at hl 1 rfl) ?_
        refine lv_bipush (v := (-2 : Int32)) hx hb dX11_round_30 (by decide) ?_
        refine lv_icmp_ne (tgt := 42) hx hb dX11_round_32 (by decide) (fun c6 => ?_) (fun c6 => ?_)
        · have hf := of_neg hf c6
          refine lv_iload_n hx hb dX11_round_42 rfl (lv_at hl 1 rfl) ?_
          refine lv_bipush (v := (-3 : Int32)) hx hb dX11_round_43 (by decide) ?_
          refine lv_icmp_ne (tgt := 55) hx hb dX11_round_45 (by decide) (fun c7 => ?_) (fun c7 => ?_)
          · have hf := of_neg hf c7
            refine lv_iload_n hx hb dX11_round_55 rfl (lv_at hl 1 rfl) ?_
            refine lv_aload_n hx hb dX11_round_56 rfl (lv_at hl 0 rfl) ?_
            refine va_get (D := D) (ci := 11) (v := .int o3.1) (C := RX11) (T := TX11) (N := 22) hx hb hts inX11 hown hK hP 0 rfl rfl 17 (by decide) (hts (.fieldLink RX11 139 "LentCourageModel" "bestMany" "I") (List.mem_of_getElem? (i := 3) rfl)) (fun _ h9 => h9) rfl dX11_round_57 ?_
            refine lv_icmp_ge (tgt := 72) hx hb dX11_round_60 (by decide) (fun c8 => ?_) (fun c8 => ?_)
            · have hf := of_pos hf c8
              refine lv_bipush (v := (-9 : Int32)) hx hb dX11_round_72 (by decide) ?_
              obtain rfl := Option.some.inj hf
              exact Jj4 _ _ _ ⟨_, rfl, hP, hD, hS, lv_sub hl [0, 1] rfl⟩
            · have hf := of_neg hf c8
              refine lv_aload_n hx hb dX11_round_63 rfl (lv_at hl 0 rfl) ?_
              refine va_get (D := D) (ci := 11) (v := .ref q_t_best) (C := RX11) (T := TX11) (N := 22) hx hb hts inX11 hown hK hP 0 rfl rfl 16 (by decide) (hts (.fieldLink RX11 38 "LentCourageModel" "best" "[I") (List.mem_of_getElem? (i := 4) rfl)) (fun _ h9 => h9) rfl dX11_round_64 ?_
              refine lv_iload_n hx hb dX11_round_67 rfl (lv_at hl 1 rfl) ?_
              obtain ⟨h9, hf⟩ := of_chk hf
              refine va_iald hx hb hK hP 4 0 rfl rfl h9 dX11_round_68 ?_
              refine lv_goto (tgt := 74) hx hb dX11_round_69 (by decide) ?_
              obtain rfl := Option.some.inj hf
              exact Jj4 _ _ _ ⟨_, rfl, hP, hD, hS, lv_sub hl [0, 1] rfl⟩
          · have hf := of_pos hf c7
            refine lv_aload_n hx hb dX11_round_48 rfl (lv_at hl 0 rfl) ?_
            refine va_get (D := D) (ci := 11) (v := .int o3.1) (C := RX11) (T := TX11) (N := 22) hx hb hts inX11 hown hK hP 0 rfl rfl 17 (by decide) (hts (.fieldLink RX11 139 "LentCourageModel" "bestMany" "I") (List.mem_of_getElem? (i := 3) rfl)) (fun _ h9 => h9) rfl dX11_round_49 ?_
            refine lv_goto (tgt := 74) hx hb dX11_round_52 (by decide) ?_
            obtain rfl := Option.some.inj hf
            exact Jj4 _ _ _ ⟨_, rfl, hP, hD, hS, lv_sub hl [0, 1] rfl⟩
        · have hf := of_pos hf c6
          refine lv_aload_n hx hb dX11_round_35 rfl (lv_at hl 0 rfl) ?_
          refine va_get (D := D) (ci := 11) (v := .int o3.2.2.1) (C := RX11) (T := TX11) (N := 22) hx hb hts inX11 hown hK hP 0 rfl rfl 19 (by decide) (hts (.fieldLink RX11 145 "LentCourageModel" "bestHour" "I") (List.mem_of_getElem? (i := 2) rfl)) (fun _ h9 => h9) rfl dX11_round_36 ?_
          refine lv_goto (tgt := 74) hx hb dX11_round_39 (by decide) ?_
          obtain rfl := Option.some.inj hf
          exact Jj4 _ _ _ ⟨_, rfl, hP, hD, hS, lv_sub hl [0, 1] rfl⟩
      · have hf := of_pos hf c5
        refine lv_aload_n hx hb dX11_round_22 rfl (lv_at hl 0 rfl) ?_
        refine va_get (D := D) (ci := 11) (v := .int o3.2.1) (C := RX11) (T := TX11) (N := 22) hx hb hts inX11 hown hK hP 0 rfl rfl 18 (by decide) (hts (.fieldLink RX11 142 "LentCourageModel" "bestWorth" "I") (List.mem_of_getElem? (i := 1) rfl)) (fun _ h9 => h9) rfl dX11_round_23 ?_
        refine lv_goto (tgt := 74) hx hb dX11_round_26 (by decide) ?_
        obtain rfl := Option.some.inj hf
        exact Jj4 _ _ _ ⟨_, rfl, hP, hD, hS, lv_sub hl [0, 1] rfl⟩
  · have hf := of_pos hf c2
    refine lv_iconst (v := (-1 : Int32)) hx hb dX11_round_11 (by decide) ?_
    obtain rfl := Option.some.inj hf
    exact ret_I hx hb hr hlocks hK hP hD hS dX11_round_12

def fX11_comes (r_t_told : Nat → Int32) (p1 : Int32) (p2 : Int32) (p3 : Int32) : Option (Int32) :=
  chk (vin ((12 : Int32) + p3) 52) (chk (vin ((6 : Int32) + (r_t_told ((12 : Int32) + p3).toNatClampNeg)) 52) (lt_ (r_t_told ((6 : Int32) + (r_t_told ((12 : Int32) + p3).toNatClampNeg)).toNatClampNeg) (fun z3 => (fX11_far p1 z3).bind (fun o4 => chk (vin ((20 : Int32) + p3) 52) ((fX11_far z3 (r_t_told ((20 : Int32) + p3).toNatClampNeg)).bind (fun o6 => chk (vin ((28 : Int32) + p3) 52) (some (if (r_t_told ((28 : Int32) + p3).toNatClampNeg) < ((p2 + o4) + o6) then (0 : Int32) else (1 : Int32)))))))))
theorem hd_X11_comes : yX11_comes.cls = RX11 ∧ yX11_comes.cls ≠ "java/lang/invoke/MethodHandle" ∧ yX11_comes.cls ≠ "java/lang/invoke/VarHandle" ∧ (parseMethodDescriptor yX11_comes.desc).map (fun d => d.parameters.length) = some 3 := by decide +kernel
set_option maxHeartbeats 4000000 in
set_option maxRecDepth 100000 in
theorem k_X11_comes (l : Launch) (D : va_G) (C : Nat → ClassId) (q_t : Nat) (q_t_text : Nat) (q_t_told : Nat) (q_t_draft : Nat) (q_t_s : Nat) (q_t_images : Nat) (q_t_kept : Nat) (q_t_heard : Nat) (q_t_hours : Nat) (q_t_row : Nat) (q_t_best : Nat) (q_t_places : Nat) (q_t_pairs : Nat) (v_t_trace : Int64) (v_t_typed : Int32) (v_t_noted : Int32) (v_t_at : Int32) (v_t_sort : Int32) (v_t_start : Int32) (v_t_value : Int32) (v_t_bestMany : Int32) (v_t_bestWorth : Int32) (v_t_bestHour : Int32) (r_t_told : Nat → Int32) (p1 : Int32) (p2 : Int32) (p3 : Int32) (sz : Nat) (out : Int32) (hf : fX11_comes r_t_told p1 p2 p3 = some out) : MI l yX11_comes wsX11_comes ({ frames := 1, cells := 0, slots := 0, locals := 21 }) D C [.ref q_t, .int p1, .int p2, .int p3] [ob q_t 11 [.long v_t_trace, .ref q_t_text, .int v_t_typed, .ref q_t_told, .ref q_t_draft, .ref q_t_s, .ref q_t_images, .ref q_t_kept, .ref q_t_heard, .ref q_t_hours, .int v_t_noted, .int v_t_at, .int v_t_sort, .int v_t_start, .int v_t_value, .ref q_t_row, .ref q_t_best, .int v_t_bestMany, .int v_t_bestWorth, .int v_t_bestHour, .ref q_t_places, .ref q_t_pairs], ia C q_t_told 52 r_t_told] [ob q_t 11 [.long v_t_trace, .ref q_t_text, .int v_t_typed, .ref q_t_told, .ref q_t_draft, .ref q_t_s, .ref q_t_images, .ref q_t_kept, .ref q_t_heard, .ref q_t_hours, .int v_t_noted, .int v_t_at, .int v_t_sort, .int v_t_start, .int v_t_value, .ref q_t_row, .ref q_t_best, .int v_t_bestMany, .int v_t_bestWorth, .int v_t_bestHour, .ref q_t_places, .ref q_t_pairs], ia C q_t_told 52 r_t_told] sz (out) := by
  unfold fX11_comes at hf
  refine en_I (by decide) rfl (Nat.le_of_ble_eq_true rfl) ?_
  intro p e s m below meth c A ls H locs hx hb hr hlocks hml hts hown hK hP hD hS hA hl
  have hl : lv_has ls 5 [(0, .ref q_t), (1, .int p1), (2, .int p2), (3, .int p3)] := hl
  have inX11 : ∀ w ∈ u_ws RX11 TX11 22, w ∈ wsX11_comes := fun w h => List.mem_cons_of_mem _ (List.mem_append_right _ h)
  refine lv_aload_n hx hb dX11_comes_0 rfl (lv_at hl 0 rfl) ?_
  refine va_get (D := D) (ci := 11) (v := .ref q_t_told) (C := RX11) (T := TX11) (N := 22) hx hb hts inX11 hown hK hP 0 rfl rfl 3 (by decide) (hts (.fieldLink RX11 13 "LentCourageModel" "told" "[I") (List.mem_of_getElem? (i := 1) rfl)) (fun _ h9 => h9) rfl dX11_comes_1 ?_
  refine lv_bipush (v := (6 : Int32)) hx hb dX11_comes_4 (by decide) ?_
  refine lv_aload_n hx hb dX11_comes_6 rfl (lv_at hl 0 rfl) ?_
  refine va_get (D := D) (ci := 11) (v := .ref q_t_told) (C := RX11) (T := TX11) (N := 22) hx hb hts inX11 hown hK hP 0 rfl rfl 3 (by decide) (hts (.fieldLink RX11 13 "LentCourageModel" "told" "[I") (List.mem_of_getElem? (i := 1) rfl)) (fun _ h9 => h9) rfl dX11_comes_7 ?_
  refine lv_bipush (v := (12 : Int32)) hx hb dX11_comes_10 (by decide) ?_
  refine lv_iload_n hx hb dX11_comes_12 rfl (lv_at hl 3 rfl) ?_
  refine lv_iadd hx hb dX11_comes_13 ?_
  obtain ⟨h1, hf⟩ := of_chk hf
  refine va_iald hx hb hK hP 1 0 rfl rfl h1 dX11_comes_14 ?_
  refine lv_iadd hx hb dX11_comes_15 ?_
  obtain ⟨h2, hf⟩ := of_chk hf
  refine va_iald hx hb hK hP 1 0 rfl rfl h2 dX11_comes_16 ?_
  refine lv_topi (fun z3 ez3 => ?_)
  have hf := of_lt hf ez3
  refine lv_istore (lv' := [(4, .int z3), (0, .ref q_t), (1, .int p1), (2, .int p2), (3, .int p3)]) hx hb dX11_comes_17 hl (by decide) rfl (fun ls hl => ?_)
  refine lv_iload_n hx hb dX11_comes_19 rfl (lv_at hl 3 rfl) ?_
  refine lv_iload_n hx hb dX11_comes_20 rfl (lv_at hl 2 rfl) ?_
  refine lv_iload hx hb dX11_comes_21 (lv_at hl 0 rfl) ?_
  obtain ⟨o4, ho4, hf⟩ := of_bind hf
  refine c_I (wr := [ob q_t 11 [.long v_t_trace, .ref q_t_text, .int v_t_typed, .ref q_t_told, .ref q_t_draft, .ref q_t_s, .ref q_t_images, .ref q_t_kept, .ref q_t_heard, .ref q_t_hours, .int v_t_noted, .int v_t_at, .int v_t_sort, .int v_t_start, .int v_t_value, .ref q_t_row, .ref q_t_best, .int v_t_bestMany, .int v_t_bestWorth, .int v_t_bestHour, .ref q_t_places, .ref q_t_pairs], ia C q_t_told 52 r_t_told]) (W2 := [ob q_t 11 [.long v_t_trace, .ref q_t_text, .int v_t_typed, .ref q_t_told, .ref q_t_draft, .ref q_t_s, .ref q_t_images, .ref q_t_kept, .ref q_t_heard, .ref q_t_hours, .int v_t_noted, .int v_t_at, .int v_t_sort, .int v_t_start, .int v_t_value, .ref q_t_row, .ref q_t_best, .int v_t_bestMany, .int v_t_bestWorth, .int v_t_bestHour, .ref q_t_places, .ref q_t_pairs], ia C q_t_told 52 r_t_told]) (cS_run ⟨hx, hb, hml, hown, hts⟩ (k_X11_far l D C p1 z3 H.size o4 ho4) gX11_comes_X11_far rfl ⟨rfl, rfl⟩ hd_X11_far ⟨(Nat.le_of_ble_eq_true rfl), (Nat.le_of_ble_eq_true rfl)⟩ rfl hK (cut_in hK hP hD [] rfl (by decide)) hl.1 rfl (Nat.le_of_ble_eq_true rfl) dX11_comes_23 ⟨Nat.zero_le _, Nat.zero_le _⟩) hP hD hS hA [] [0, 1] [0, 1] rfl rfl (by decide) (by decide) rfl (by decide) (fun H locs hP hD hS => ?_)
  have hP : va_P D vwCl [ob q_t 11 [.long v_t_trace, .ref q_t_text, .int v_t_typed, .ref q_t_told, .ref q_t_draft, .ref q_t_s, .ref q_t_images, .ref q_t_kept, .ref q_t_heard, .ref q_t_hours, .int v_t_noted, .int v_t_at, .int v_t_sort, .int v_t_start, .int v_t_value, .ref q_t_row, .ref q_t_best, .int v_t_bestMany, .int v_t_bestWorth, .int v_t_bestHour, .ref q_t_places, .ref q_t_pairs], ia C q_t_told 52 r_t_told] H := hP
  have hD : va_D A [ob q_t 11 [.long v_t_trace, .ref q_t_text, .int v_t_typed, .ref q_t_told, .ref q_t_draft, .ref q_t_s, .ref q_t_images, .ref q_t_kept, .ref q_t_heard, .ref q_t_hours, .int v_t_noted, .int v_t_at, .int v_t_sort, .int v_t_start, .int v_t_value, .ref q_t_row, .ref q_t_best, .int v_t_bestMany, .int v_t_bestWorth, .int v_t_bestHour, .ref q_t_places, .ref q_t_pairs], ia C q_t_told 52 r_t_told] := hD
  refine lv_iadd hx hb dX11_comes_26 ?_
  refine lv_iload hx hb dX11_comes_27 (lv_at hl 0 rfl) ?_
  refine lv_aload_n hx hb dX11_comes_29 rfl (lv_at hl 1 rfl) ?_
  refine va_get (D := D) (ci := 11) (v := .ref q_t_told) (C := RX11) (T := TX11) (N := 22) hx hb hts inX11 hown hK hP 0 rfl rfl 3 (by decide) (hts (.fieldLink RX11 13 "LentCourageModel" "told" "[I") (List.mem_of_getElem? (i := 1) rfl)) (fun _ h9 => h9) rfl dX11_comes_30 ?_
  refine lv_bipush (v := (20 : Int32)) hx hb dX11_comes_33 (by decide) ?_
  refine lv_iload_n hx hb dX11_comes_35 rfl (lv_at hl 4 rfl) ?_
  refine lv_iadd hx hb dX11_comes_36 ?_
  obtain ⟨h5, hf⟩ := of_chk hf
  refine va_iald hx hb hK hP 1 0 rfl rfl h5 dX11_comes_37 ?_
  obtain ⟨o6, ho6, hf⟩ := of_bind hf
  refine c_I (wr := [ob q_t 11 [.long v_t_trace, .ref q_t_text, .int v_t_typed, .ref q_t_told, .ref q_t_draft, .ref q_t_s, .ref q_t_images, .ref q_t_kept, .ref q_t_heard, .ref q_t_hours, .int v_t_noted, .int v_t_at, .int v_t_sort, .int v_t_start, .int v_t_value, .ref q_t_row, .ref q_t_best, .int v_t_bestMany, .int v_t_bestWorth, .int v_t_bestHour, .ref q_t_places, .ref q_t_pairs], ia C q_t_told 52 r_t_told]) (W2 := [ob q_t 11 [.long v_t_trace, .ref q_t_text, .int v_t_typed, .ref q_t_told, .ref q_t_draft, .ref q_t_s, .ref q_t_images, .ref q_t_kept, .ref q_t_heard, .ref q_t_hours, .int v_t_noted, .int v_t_at, .int v_t_sort, .int v_t_start, .int v_t_value, .ref q_t_row, .ref q_t_best, .int v_t_bestMany, .int v_t_bestWorth, .int v_t_bestHour, .ref q_t_places, .ref q_t_pairs], ia C q_t_told 52 r_t_told]) (cS_run ⟨hx, hb, hml, hown, hts⟩ (k_X11_far l D C z3 (r_t_told ((20 : Int32) + p3).toNatClampNeg) H.size o6 ho6) gX11_comes_X11_far rfl ⟨rfl, rfl⟩ hd_X11_far ⟨(Nat.le_of_ble_eq_true rfl), (Nat.le_of_ble_eq_true rfl)⟩ rfl hK (cut_in hK hP hD [] rfl (by decide)) hl.1 rfl (Nat.le_of_ble_eq_true rfl) dX11_comes_38 ⟨Nat.zero_le _, Nat.zero_le _⟩) hP hD hS hA [] [0, 1] [0, 1] rfl rfl (by decide) (by decide) rfl (by decide) (fun H locs hP hD hS => ?_)
  have hP : va_P D vwCl [ob q_t 11 [.long v_t_trace, .ref q_t_text, .int v_t_typed, .ref q_t_told, .ref q_t_draft, .ref q_t_s, .ref q_t_images, .ref q_t_kept, .ref q_t_heard, .ref q_t_hours, .int v_t_noted, .int v_t_at, .int v_t_sort, .int v_t_start, .int v_t_value, .ref q_t_row, .ref q_t_best, .int v_t_bestMany, .int v_t_bestWorth, .int v_t_bestHour, .ref q_t_places, .ref q_t_pairs], ia C q_t_told 52 r_t_told] H := hP
  have hD : va_D A [ob q_t 11 [.long v_t_trace, .ref q_t_text, .int v_t_typed, .ref q_t_told, .ref q_t_draft, .ref q_t_s, .ref q_t_images, .ref q_t_kept, .ref q_t_heard, .ref q_t_hours, .int v_t_noted, .int v_t_at, .int v_t_sort, .int v_t_start, .int v_t_value, .ref q_t_row, .ref q_t_best, .int v_t_bestMany, .int v_t_bestWorth, .int v_t_bestHour, .ref q_t_places, .ref q_t_pairs], ia C q_t_told 52 r_t_told] := hD
  refine lv_iadd hx hb dX11_comes_41 ?_
  refine lv_aload_n hx hb dX11_comes_42 rfl (lv_at hl 1 rfl) ?_
  refine va_get (D := D) (ci := 11) (v := .ref q_t_told) (C := RX11) (T := TX11) (N := 22) hx hb hts inX11 hown hK hP 0 rfl rfl 3 (by decide) (hts (.fieldLink RX11 13 "LentCourageModel" "told" "[I") (List.mem_of_getElem? (i := 1) rfl)) (fun _ h9 => h9) rfl dX11_comes_43 ?_
  refine lv_bipush (v := (28 : Int32)) hx hb dX11_comes_46 (by decide) ?_
  refine lv_iload_n hx hb dX11_comes_48 rfl (lv_at hl 4 rfl) ?_
  refine lv_iadd hx hb dX11_comes_49 ?_
  obtain ⟨h7, hf⟩ := of_chk hf
  refine va_iald hx hb hK hP 1 0 rfl rfl h7 dX11_comes_50 ?_
  refine jp (g2 := F0 m 59 ls [.int (if (r_t_told ((28 : Int32) + p3).toNatClampNeg) < ((p2 + o4) + o6) then (0 : Int32) else (1 : Int32))]) ?_ (fun JP => ?_)
  · obtain rfl := Option.some.inj hf
    exact ret_Z hx hb hr hlocks (by repeat (first | exact okZ_0 | exact okZ_1 | apply okZ_ite)) hK hP hD hS dX11_comes_59
  · refine lv_icmp_gt (tgt := 58) hx hb dX11_comes_51 (by decide) (fun c8 => ?_) (fun c8 => ?_)
    · refine lv_iconst (v := (0 : Int32)) hx hb dX11_comes_58 (by decide) ?_
      exact W.eq (congrArg (fun x => F0 m 59 ls (Value.int x :: [])) (if_pos c8).symm) JP
    · refine lv_iconst (v := (1 : Int32)) hx hb dX11_comes_54 (by decide) ?_
      refine lv_goto (tgt := 59) hx hb dX11_comes_55 (by decide) ?_
      exact W.eq (congrArg (fun x => F0 m 59 ls (Value.int x :: [])) (if_neg c8).symm) JP

def fX11_spoons_9 (w1_9 : Int32) (r_t_told_9 : Nat → Int32) : Nat → Int32 → Option (Nat × Int32)
  | 0, _ => none
  | n + 1, w2_9 => (if w1_9 ≤ w2_9 then some (0, w2_9) else (fX11_comes r_t_told_9 (r_t_told_9 2) (0 : Int32) w2_9).bind (fun o3 => (if o3 = 0 then some (1, w2_9) else lt_ (w2_9 + (1 : Int32)) (fun z5 => fX11_spoons_9 w1_9 r_t_told_9 n z5))))
def fX11_spoons_40 (w1_40 : Int32) : Nat → Int32 → (Nat → Int32) → Option (Int32 × (Nat → Int32))
  | 0, _, _ => none
  | n + 1, w2_40, r_t_pairs_40 => (if ((1 : Int32) <<< (w1_40 &&& 31)) ≤ w2_40 then some (w2_40, r_t_pairs_40) else lt_ (if w2_40 = 0 then (0 : Int32) else (-1 : Int32)) (fun z9 => chk (vin w2_40 256) (lt_ (w2_40 + (1 : Int32)) (fun z11 => fX11_spoons_40 w1_40 n z11 (upd r_t_pairs_40 w2_40.toNatClampNeg z9)))))
def fX11_spoons_92 (w4_92 : Int32) (w3_92 : Int32) (w1_92 : Int32) (r_t_told_92 : Nat → Int32) : Nat → Int32 → Int32 → (Nat → Int32) → Option (Int32 × Int32 × (Nat → Int32))
  | 0, _, _, _ => none
  | n + 1, w5_92, w2_92, r_t_pairs_92 => (if w1_92 ≤ w5_92 then some (w5_92, w2_92, r_t_pairs_92) else chk (vin w4_92 256) ((if (r_t_pairs_92 w4_92.toNatClampNeg) < 0 then some (w5_92, w2_92, r_t_pairs_92) else chk (vin ((28 : Int32) + w5_92) 52) (chk (vin ((28 : Int32) + w3_92) 52) (lt_ (if (r_t_told_92 ((28 : Int32) + w3_92).toNatClampNeg) < (r_t_told_92 ((28 : Int32) + w5_92).toNatClampNeg) then (1 : Int32) else (if (r_t_told_92 ((28 : Int32) + w5_92).toNatClampNeg) = (r_t_told_92 ((28 : Int32) + w3_92).toNatClampNeg) then (if w5_92 ≤ w3_92 then (0 : Int32) else (1 : Int32)) else (0 : Int32))) (fun z24 => ((if z24 = 0 then some (0 : Int32) else (fX11_has w4_92 w5_92).bind (fun o27 => (if o27 = 0 then chk (vin ((12 : Int32) + w5_92) 52) (chk (vin ((12 : Int32) + w3_92) 52) ((if (r_t_told_92 ((12 : Int32) + w5_92).toNatClampNeg) = (r_t_told_92 ((12 : Int32) + w3_92).toNatClampNeg) then some (0 : Int32) else chk (vin ((20 : Int32) + w3_92) 52) ((fX11_comes r_t_told_92 (r_t_told_92 ((20 : Int32) + w3_92).toNatClampNeg) (r_t_told_92 ((28 : Int32) + w3_92).toNatClampNeg) w5_92).bind (fun o33 => (if o33 = 0 then some (0 : Int32) else some (1 : Int32))))))) else some (0 : Int32))))).bind (fun j25 => ((if j25 = 0 then chk (vin (w4_92 ||| ((1 : Int32) <<< (w5_92 &&& 31))) 256) (some (r_t_pairs_92 (w4_92 ||| ((1 : Int32) <<< (w5_92 &&& 31))).toNatClampNeg)) else chk (vin (w4_92 ||| ((1 : Int32) <<< (w5_92 &&& 31))) 256) ((if ((r_t_pairs_92 w4_92.toNatClampNeg) + (1 : Int32)) ≤ (r_t_pairs_92 (w4_92 ||| ((1 : Int32) <<< (w5_92 &&& 31))).toNatClampNeg) then some (r_t_pairs_92 (w4_92 ||| ((1 : Int32) <<< (w5_92 &&& 31))).toNatClampNeg) else some ((r_t_pairs_92 w4_92.toNatClampNeg) + (1 : Int32)))))).bind (fun j35 => chk (vin (w4_92 ||| ((1 : Int32) <<< (w5_92 &&& 31))) 256) (lt_ (if j25 = 0 then w2_92 else (if (((upd r_t_pairs_92 (w4_92 ||| ((1 : Int32) <<< (w5_92 &&& 31))).toNatClampNeg j35) w4_92.toNatClampNeg) + (1 : Int32)) ≤ w2_92 then w2_92 else (((upd r_t_pairs_92 (w4_92 ||| ((1 : Int32) <<< (w5_92 &&& 31))).toNatClampNeg j35) w4_92.toNatClampNeg) + (1 : Int32)))) (fun z43 => lt_ (w5_92 + (1 : Int32)) (fun z44 => fX11_spoons_92 w4_92 w3_92 w1_92 r_t_told_92 n z44 z43 (upd r_t_pairs_92 (w4_92 ||| ((1 : Int32) <<< (w5_92 &&& 31))).toNatClampNeg j35))))))))))))
def fX11_spoons_84 (w3_84 : Int32) (w1_84 : Int32) (r_t_told_84 : Nat → Int32) : Nat → Int32 → Int32 → (Nat → Int32) → Option (Int32 × Int32 × (Nat → Int32))
  | 0, _, _, _ => none
  | n + 1, w4_84, w2_84, r_t_pairs_84 => (if w4_84 < 0 then some (w4_84, w2_84, r_t_pairs_84) else (fX11_spoons_92 w4_84 w3_84 w1_84 r_t_told_84 FU (0 : Int32) w2_84 r_t_pairs_84).bind (fun y16 => lt_ (w4_84 + (-1 : Int32)) (fun z17 => fX11_spoons_84 w3_84 w1_84 r_t_told_84 n z17 y16.2.1 y16.2.2)))
def fX11_spoons_72 (w1_72 : Int32) (r_t_told_72 : Nat → Int32) : Nat → Int32 → Int32 → (Nat → Int32) → Option (Int32 × Int32 × (Nat → Int32))
  | 0, _, _, _ => none
  | n + 1, w3_72, w2_72, r_t_pairs_72 => (if w1_72 ≤ w3_72 then some (w3_72, w2_72, r_t_pairs_72) else lt_ (((1 : Int32) <<< (w1_72 &&& 31)) - (1 : Int32)) (fun z14 => (fX11_spoons_84 w3_72 w1_72 r_t_told_72 FU z14 w2_72 r_t_pairs_72).bind (fun y15 => lt_ (w3_72 + (1 : Int32)) (fun z16 => fX11_spoons_72 w1_72 r_t_told_72 n z16 y15.2.1 y15.2.2))))
def fX11_spoons (r_t_told : Nat → Int32) (r_t_pairs : Nat → Int32) : Option (Int32 × (Nat → Int32)) :=
  lt_ (r_t_told 1) (fun z1 => (fX11_spoons_9 z1 r_t_told FU (0 : Int32)).bind (fun y6 => (if y6.1 = 0 then (fX11_spoons_40 z1 FU (0 : Int32) r_t_pairs).bind (fun y12 => (fX11_spoons_72 z1 r_t_told FU (0 : Int32) (0 : Int32) y12.2).bind (fun y17 => some ((z1 - y17.2.1), y17.2.2))) else some ((-9 : Int32), r_t_pairs))))
theorem hd_X11_spoons : yX11_spoons.cls = RX11 ∧ yX11_spoons.cls ≠ "java/lang/invoke/MethodHandle" ∧ yX11_spoons.cls ≠ "java/lang/invoke/VarHandle" ∧ (parseMethodDescriptor yX11_spoons.desc).map (fun d => d.parameters.length) = some 0 := by decide +kernel
set_option maxHeartbeats 4000000 in
set_option maxRecDepth 100000 in
theorem k_X11_spoons (l : Launch) (D : va_G) (C : Nat → ClassId) (q_t : Nat) (q_t_text : Nat) (q_t_told : Nat) (q_t_draft : Nat) (q_t_s : Nat) (q_t_images : Nat) (q_t_kept : Nat) (q_t_heard : Nat) (q_t_hours : Nat) (q_t_row : Nat) (q_t_best : Nat) (q_t_places : Nat) (q_t_pairs : Nat) (v_t_trace : Int64) (v_t_typed : Int32) (v_t_noted : Int32) (v_t_at : Int32) (v_t_sort : Int32) (v_t_start : Int32) (v_t_value : Int32) (v_t_bestMany : Int32) (v_t_bestWorth : Int32) (v_t_bestHour : Int32) (r_t_told : Nat → Int32) (r_t_pairs : Nat → Int32) (sz : Nat) (out : Int32 × (Nat → Int32)) (hf : fX11_spoons r_t_told r_t_pairs = some out) : MI l yX11_spoons wsX11_spoons ({ frames := 2, cells := 0, slots := 0, locals := 45 }) D C [.ref q_t] [ob q_t 11 [.long v_t_trace, .ref q_t_text, .int v_t_typed, .ref q_t_told, .ref q_t_draft, .ref q_t_s, .ref q_t_images, .ref q_t_kept, .ref q_t_heard, .ref q_t_hours, .int v_t_noted, .int v_t_at, .int v_t_sort, .int v_t_start, .int v_t_value, .ref q_t_row, .ref q_t_best, .int v_t_bestMany, .int v_t_bestWorth, .int v_t_bestHour, .ref q_t_places, .ref q_t_pairs], ia C q_t_told 52 r_t_told, ia C q_t_pairs 256 r_t_pairs] [ob q_t 11 [.long v_t_trace, .ref q_t_text, .int v_t_typed, .ref q_t_told, .ref q_t_draft, .ref q_t_s, .ref q_t_images, .ref q_t_kept, .ref q_t_heard, .ref q_t_hours, .int v_t_noted, .int v_t_at, .int v_t_sort, .int v_t_start, .int v_t_value, .ref q_t_row, .ref q_t_best, .int v_t_bestMany, .int v_t_bestWorth, .int v_t_bestHour, .ref q_t_places, .ref q_t_pairs], ia C q_t_told 52 r_t_told, ia C q_t_pairs 256 out.2] sz (out.1) := by
  unfold fX11_spoons at hf
  refine en_I (by decide) rfl (Nat.le_of_ble_eq_true rfl) ?_
  intro p e s m below meth c A ls H locs hx hb hr hlocks hml hts hown hK hP hD hS hA hl
  have hl : lv_has ls 8 [(0, .ref q_t)] := hl
  have inX11 : ∀ w ∈ u_ws RX11 TX11 22, w ∈ wsX11_spoons := fun w h => List.mem_cons_of_mem _ (List.mem_append_right _ h)
  have LP9 : ∀ (Q : State → Prop) (n : Nat) (w2_9 : Int32) (w1_9 : Int32) (v_t_trace_9 : Int64) (v_t_typed_9 : Int32) (v_t_noted_9 : Int32) (v_t_at_9 : Int32) (v_t_sort_9 : Int32) (v_t_start_9 : Int32) (v_t_value_9 : Int32) (v_t_bestMany_9 : Int32) (v_t_bestWorth_9 : Int32) (v_t_bestHour_9 : Int32) (r_t_told_9 : Nat → Int32) (r_t_pairs_9 : Nat → Int32) (y_9 : Nat × Int32), fX11_spoons_9 w1_9 r_t_told_9 n w2_9 = some y_9 → ∀ (H : Heap) (locs : List Loc) (ls : Array Slot), va_P D vwCl [ob q_t 11 [.long v_t_trace_9, .ref q_t_text, .int v_t_typed_9, .ref q_t_told, .ref q_t_draft, .ref q_t_s, .ref q_t_images, .ref q_t_kept, .ref q_t_heard, .ref q_t_hours, .int v_t_noted_9, .int v_t_at_9, .int v_t_sort_9, .int v_t_start_9, .int v_t_value_9, .ref q_t_row, .ref q_t_best, .int v_t_bestMany_9, .int v_t_bestWorth_9, .int v_t_bestHour_9, .ref q_t_places, .ref q_t_pairs], ia C q_t_told 52 r_t_told_9, ia C q_t_pairs 256 r_t_pairs_9] H → va_D A [ob q_t 11 [.long v_t_trace_9, .ref q_t_text, .int v_t_typed_9, .ref q_t_told, .ref q_t_draft, .ref q_t_s, .ref q_t_images, .ref q_t_kept, .ref q_t_heard, .ref q_t_hours, .int v_t_noted_9, .int v_t_at_9, .int v_t_sort_9, .int v_t_start_9, .int v_t_value_9, .ref q_t_row, .ref q_t_best, .int v_t_bestMany_9, .int v_t_bestWorth_9, .int v_t_bestHour_9, .ref q_t_places, .ref q_t_pairs], ia C q_t_told 52 r_t_told_9, ia C q_t_pairs 256 r_t_pairs_9] → va_S A s.heap H locs → lv_has ls 8 [(2, .int w2_9), (1, .int w1_9), (0, .ref q_t)] → (∀ (H : Heap) (locs : List Loc) (ls : Array Slot), y_9.1 = 0 → va_P D vwCl [ob q_t 11 [.long v_t_trace_9, .ref q_t_text, .int v_t_typed_9, .ref q_t_told, .ref q_t_draft, .ref q_t_s, .ref q_t_images, .ref q_t_kept, .ref q_t_heard, .ref q_t_hours, .int v_t_noted_9, .int v_t_at_9, .int v_t_sort_9, .int v_t_start_9, .int v_t_value_9, .ref q_t_row, .ref q_t_best, .int v_t_bestMany_9, .int v_t_bestWorth_9, .int v_t_bestHour_9, .ref q_t_places, .ref q_t_pairs], ia C q_t_told 52 r_t_told_9, ia C q_t_pairs 256 r_t_pairs_9] H → va_D A [ob q_t 11 [.long v_t_trace_9, .ref q_t_text, .int v_t_typed_9, .ref q_t_told, .ref q_t_draft, .ref q_t_s, .ref q_t_images, .ref q_t_kept, .ref q_t_heard, .ref q_t_hours, .int v_t_noted_9, .int v_t_at_9, .int v_t_sort_9, .int v_t_start_9, .int v_t_value_9, .ref q_t_row, .ref q_t_best, .int v_t_bestMany_9, .int v_t_bestWorth_9, .int v_t_bestHour_9, .ref q_t_places, .ref q_t_pairs], ia C q_t_told 52 r_t_told_9, ia C q_t_pairs 256 r_t_pairs_9] → va_S A s.heap H locs → lv_has ls 8 [(2, .int y_9.2), (1, .int w1_9), (0, .ref q_t)] → W p l e ({ frames := 2, cells := 0, slots := 0, locals := 45 } : Room) s m ([.ref q_t] : List Value).toArray below meth c H locs 0 0 Q (F0 m 38 ls [])) → (∀ (H : Heap) (locs : List Loc) (ls : Array Slot), y_9.1 = 1 → va_P D vwCl [ob q_t 11 [.long v_t_trace_9, .ref q_t_text, .int v_t_typed_9, .ref q_t_told, .ref q_t_draft, .ref q_t_s, .ref q_t_images, .ref q_t_kept, .ref q_t_heard, .ref q_t_hours, .int v_t_noted_9, .int v_t_at_9, .int v_t_sort_9, .int v_t_start_9, .int v_t_value_9, .ref q_t_row, .ref q_t_best, .int v_t_bestMany_9, .int v_t_bestWorth_9, .int v_t_bestHour_9, .ref q_t_places, .ref q_t_pairs], ia C q_t_told 52 r_t_told_9, ia C q_t_pairs 256 r_t_pairs_9] H → va_D A [ob q_t 11 [.long v_t_trace_9, .ref q_t_text, .int v_t_typed_9, .ref q_t_told, .ref q_t_draft, .ref q_t_s, .ref q_t_images, .ref q_t_kept, .ref q_t_heard, .ref q_t_hours, .int v_t_noted_9, .int v_t_at_9, .int v_t_sort_9, .int v_t_start_9, .int v_t_value_9, .ref q_t_row, .ref q_t_best, .int v_t_bestMany_9, .int v_t_bestWorth_9, .int v_t_bestHour_9, .ref q_t_places, .ref q_t_pairs], ia C q_t_told 52 r_t_told_9, ia C q_t_pairs 256 r_t_pairs_9] → va_S A s.heap H locs → lv_has ls 8 [(2, .int y_9.2), (1, .int w1_9), (0, .ref q_t)] → W p l e ({ frames := 2, cells := 0, slots := 0, locals := 45 } : Room) s m ([.ref q_t] : List Value).toArray below meth c H locs 0 0 Q (F0 m 29 ls [])) → W p l e ({ frames := 2, cells := 0, slots := 0, locals := 45 } : Room) s m ([.ref q_t] : List Value).toArray below meth c H locs 0 0 Q (F0 m 9 ls []) := by
    intro Q n
    induction n with
    | zero =>
      intro w2_9 w1_9 v_t_trace_9 v_t_typed_9 v_t_noted_9 v_t_at_9 v_t_sort_9 v_t_start_9 v_t_value_9 v_t_bestMany_9 v_t_bestWorth_9 v_t_bestHour_9 r_t_told_9 r_t_pairs_9 y_9 hf
      rw [fX11_spoons_9] at hf
      cases hf
    | succ n ih =>
      intro w2_9 w1_9 v_t_trace_9 v_t_typed_9 v_t_noted_9 v_t_at_9 v_t_sort_9 v_t_start_9 v_t_value_9 v_t_bestMany_9 v_t_bestWorth_9 v_t_bestHour_9 r_t_told_9 r_t_pairs_9 y_9 hf H locs ls hP hD hS hl KX0 KX1
      rw [fX11_spoons_9] at hf
      refine lv_iload_n hx hb dX11_spoons_9 rfl (lv_at hl 0 rfl) ?_
      refine lv_iload_n hx hb dX11_spoons_10 rfl (lv_at hl 1 rfl) ?_
      refine lv_icmp_ge (tgt := 38) hx hb dX11_spoons_11 (by decide) (fun c2 => ?_) (fun c2 => ?_)
      · have hf := of_pos hf c2
        obtain rfl := Option.some.inj hf
        exact KX0 _ _ _ rfl hP hD hS (lv_sub hl [0, 1, 2] rfl)
      · have hf := of_neg hf c2
        refine lv_aload_n hx hb dX11_spoons_14 rfl (lv_at hl 2 rfl) ?_
        refine lv_aload_n hx hb dX11_spoons_15 rfl (lv_at hl 2 rfl) ?_
        refine va_get (D := D) (ci := 11) (v := .ref q_t_told) (C := RX11) (T := TX11) (N := 22) hx hb hts inX11 hown hK hP 0 rfl rfl 3 (by decide) (hts (.fieldLink RX11 13 "LentCourageModel" "told" "[I") (List.mem_of_getElem? (i := 1) rfl)) (fun _ h9 => h9) rfl dX11_spoons_16 ?_
        refine lv_iconst (v := (2 : Int32)) hx hb dX11_spoons_19 (by decide) ?_
        refine ld_ialdK hx hb hK hP 1 0 rfl rfl (k := 2) (by decide) (by decide) (by decide) dX11_spoons_20 ?_
        refine lv_iconst (v := (0 : Int32)) hx hb dX11_spoons_21 (by decide) ?_
        refine lv_iload_n hx hb dX11_spoons_22 rfl (lv_at hl 0 rfl) ?_
        obtain ⟨o3, ho3, hf⟩ := of_bind hf
        refine c_I (wr := [ia C q_t_pairs 256 r_t_pairs_9]) (W2 := [ob q_t 11 [.long v_t_trace_9, .ref q_t_text, .int v_t_typed_9, .ref q_t_told, .ref q_t_draft, .ref q_t_s, .ref q_t_images, .ref q_t_kept, .ref q_t_heard, .ref q_t_hours, .int v_t_noted_9, .int v_t_at_9, .int v_t_sort_9, .int v_t_start_9, .int v_t_value_9, .ref q_t_row, .ref q_t_best, .int v_t_bestMany_9, .int v_t_bestWorth_9, .int v_t_bestHour_9, .ref q_t_places, .ref q_t_pairs], ia C q_t_told 52 r_t_told_9, ia C q_t_pairs 256 r_t_pairs_9]) (cV_run ⟨hx, hb, hml, hown, hts⟩ (k_X11_comes l D C q_t q_t_text q_t_told q_t_draft q_t_s q_t_images q_t_kept q_t_heard q_t_hours q_t_row q_t_best q_t_places q_t_pairs v_t_trace_9 v_t_typed_9 v_t_noted_9 v_t_at_9 v_t_sort_9 v_t_start_9 v_t_value_9 v_t_bestMany_9 v_t_bestWorth_9 v_t_bestHour_9 r_t_told_9 (r_t_told_9 2) (0 : Int32) w2_9 H.size o3 ho3) gX11_spoons_X11_comes rfl ⟨rfl, rfl⟩ hd_X11_comes ⟨(Nat.le_of_ble_eq_true rfl), (Nat.le_of_ble_eq_true rfl)⟩ rfl hK (cut_in hK hP hD [0, 1] rfl (by decide)) (ci := 11) rfl rfl rfl hl.1 rfl (Nat.le_of_ble_eq_true rfl) dX11_spoons_23 ⟨Nat.zero_le _, Nat.zero_le _⟩) hP hD hS hA [0, 1] [2] [1, 2, 0] rfl rfl (by decide) (by decide) rfl (by decide) (fun H locs hP hD hS => ?_)
        have hP : va_P D vwCl [ob q_t 11 [.long v_t_trace_9, .ref q_t_text, .int v_t_typed_9, .ref q_t_told, .ref q_t_draft, .ref q_t_s, .ref q_t_images, .ref q_t_kept, .ref q_t_heard, .ref q_t_hours, .int v_t_noted_9, .int v_t_at_9, .int v_t_sort_9, .int v_t_start_9, .int v_t_value_9, .ref q_t_row, .ref q_t_best, .int v_t_bestMany_9, .int v_t_bestWorth_9, .int v_t_bestHour_9, .ref q_t_places, .ref q_t_pairs], ia C q_t_told 52 r_t_told_9, ia C q_t_pairs 256 r_t_pairs_9] H := hP
        have hD : va_D A [ob q_t 11 [.long v_t_trace_9, .ref q_t_text, .int v_t_typed_9, .ref q_t_told, .ref q_t_draft, .ref q_t_s, .ref q_t_images, .ref q_t_kept, .ref q_t_heard, .ref q_t_hours, .int v_t_noted_9, .int v_t_at_9, .int v_t_sort_9, .int v_t_start_9, .int v_t_value_9, .ref q_t_row, .ref q_t_best, .int v_t_bestMany_9, .int v_t_bestWorth_9, .int v_t_bestHour_9, .ref q_t_places, .ref q_t_pairs], ia C q_t_told 52 r_t_told_9, ia C q_t_pairs 256 r_t_pairs_9] := hD
        refine lv_if_ne (tgt := 32) hx hb dX11_spoons_26 (by decide) (fun c4 => ?_) (fun c4 => ?_)
        · have hf := of_neg hf c4
          obtain ⟨z5, ez5⟩ : ∃ y : Int32, y = (w2_9 + (1 : Int32)) := ⟨_, rfl⟩
          have hf := of_lt hf ez5
          refine lv_iinc (v := z5) (lv' := [(2, .int z5), (1, .int w1_9), (0, .ref q_t)]) hx hb dX11_spoons_32 hl (k := 0) rfl (by rw [ez5]; rfl) (by decide) rfl (fun ls hl => ?_)
          refine lv_goto (tgt := 9) hx hb dX11_spoons_35 (by decide) ?_
          exact ih _ _ _ _ _ _ _ _ _ _ _ _ _ _ _ hf H locs ls hP hD hS (lv_sub hl [0, 1, 2] rfl) KX0 KX1
        · have hf := of_pos hf c4
          obtain rfl := Option.some.inj hf
          exact KX1 _ _ _ rfl hP hD hS (lv_sub hl [0, 1, 2] rfl)
  have LP40 : ∀ (Q : State → Prop) (n : Nat) (w2_40 : Int32) (w1_40 : Int32) (v_t_trace_40 : Int64) (v_t_typed_40 : Int32) (v_t_noted_40 : Int32) (v_t_at_40 : Int32) (v_t_sort_40 : Int32) (v_t_start_40 : Int32) (v_t_value_40 : Int32) (v_t_bestMany_40 : Int32) (v_t_bestWorth_40 : Int32) (v_t_bestHour_40 : Int32) (r_t_told_40 : Nat → Int32) (r_t_pairs_40 : Nat → Int32) (y_40 : Int32 × (Nat → Int32)), fX11_spoons_40 w1_40 n w2_40 r_t_pairs_40 = some y_40 → ∀ (H : Heap) (locs : List Loc) (ls : Array Slot), va_P D vwCl [ob q_t 11 [.long v_t_trace_40, .ref q_t_text, .int v_t_typed_40, .ref q_t_told, .ref q_t_draft, .ref q_t_s, .ref q_t_images, .ref q_t_kept, .ref q_t_heard, .ref q_t_hours, .int v_t_noted_40, .int v_t_at_40, .int v_t_sort_40, .int v_t_start_40, .int v_t_value_40, .ref q_t_row, .ref q_t_best, .int v_t_bestMany_40, .int v_t_bestWorth_40, .int v_t_bestHour_40, .ref q_t_places, .ref q_t_pairs], ia C q_t_told 52 r_t_told_40, ia C q_t_pairs 256 r_t_pairs_40] H → va_D A [ob q_t 11 [.long v_t_trace_40, .ref q_t_text, .int v_t_typed_40, .ref q_t_told, .ref q_t_draft, .ref q_t_s, .ref q_t_images, .ref q_t_kept, .ref q_t_heard, .ref q_t_hours, .int v_t_noted_40, .int v_t_at_40, .int v_t_sort_40, .int v_t_start_40, .int v_t_value_40, .ref q_t_row, .ref q_t_best, .int v_t_bestMany_40, .int v_t_bestWorth_40, .int v_t_bestHour_40, .ref q_t_places, .ref q_t_pairs], ia C q_t_told 52 r_t_told_40, ia C q_t_pairs 256 r_t_pairs_40] → va_S A s.heap H locs → lv_has ls 8 [(2, .int w2_40), (1, .int w1_40), (0, .ref q_t)] → (∀ (H : Heap) (locs : List Loc) (ls : Array Slot), va_P D vwCl [ob q_t 11 [.long v_t_trace_40, .ref q_t_text, .int v_t_typed_40, .ref q_t_told, .ref q_t_draft, .ref q_t_s, .ref q_t_images, .ref q_t_kept, .ref q_t_heard, .ref q_t_hours, .int v_t_noted_40, .int v_t_at_40, .int v_t_sort_40, .int v_t_start_40, .int v_t_value_40, .ref q_t_row, .ref q_t_best, .int v_t_bestMany_40, .int v_t_bestWorth_40, .int v_t_bestHour_40, .ref q_t_places, .ref q_t_pairs], ia C q_t_told 52 r_t_told_40, ia C q_t_pairs 256 y_40.2] H → va_D A [ob q_t 11 [.long v_t_trace_40, .ref q_t_text, .int v_t_typed_40, .ref q_t_told, .ref q_t_draft, .ref q_t_s, .ref q_t_images, .ref q_t_kept, .ref q_t_heard, .ref q_t_hours, .int v_t_noted_40, .int v_t_at_40, .int v_t_sort_40, .int v_t_start_40, .int v_t_value_40, .ref q_t_row, .ref q_t_best, .int v_t_bestMany_40, .int v_t_bestWorth_40, .int v_t_bestHour_40, .ref q_t_places, .ref q_t_pairs], ia C q_t_told 52 r_t_told_40, ia C q_t_pairs 256 y_40.2] → va_S A s.heap H locs → lv_has ls 8 [(2, .int y_40.1), (1, .int w1_40), (0, .ref q_t)] → W p l e ({ frames := 2, cells := 0, slots := 0, locals := 45 } : Room) s m ([.ref q_t] : List Value).toArray below meth c H locs 0 0 Q (F0 m 68 ls [])) → W p l e ({ frames := 2, cells := 0, slots := 0, locals := 45 } : Room) s m ([.ref q_t] : List Value).toArray below meth c H locs 0 0 Q (F0 m 40 ls []) := by
    intro Q n
    induction n with
    | zero =>
      intro w2_40 w1_40 v_t_trace_40 v_t_typed_40 v_t_noted_40 v_t_at_40 v_t_sort_40 v_t_start_40 v_t_value_40 v_t_bestMany_40 v_t_bestWorth_40 v_t_bestHour_40 r_t_told_40 r_t_pairs_40 y_40 hf
      rw [fX11_spoons_40] at hf
      cases hf
    | succ n ih =>
      intro w2_40 w1_40 v_t_trace_40 v_t_typed_40 v_t_noted_40 v_t_at_40 v_t_sort_40 v_t_start_40 v_t_value_40 v_t_bestMany_40 v_t_bestWorth_40 v_t_bestHour_40 r_t_told_40 r_t_pairs_40 y_40 hf H locs ls hP hD hS hl KX0
      rw [fX11_spoons_40] at hf
      refine lv_iload_n hx hb dX11_spoons_40 rfl (lv_at hl 0 rfl) ?_
      refine lv_iconst (v := (1 : Int32)) hx hb dX11_spoons_41 (by decide) ?_
      refine lv_iload_n hx hb dX11_spoons_42 rfl (lv_at hl 1 rfl) ?_
      refine lv_ishl hx hb dX11_spoons_43 ?_
      refine lv_icmp_ge (tgt := 68) hx hb dX11_spoons_44 (by decide) (fun c7 => ?_) (fun c7 => ?_)
      · have hf := of_pos hf c7
        obtain rfl := Option.some.inj hf
        exact KX0 _ _ _ hP hD hS (lv_sub hl [0, 1, 2] rfl)
      · have hf := of_neg hf c7
        refine lv_aload_n hx hb dX11_spoons_47 rfl (lv_at hl 2 rfl) ?_
        refine va_get (D := D) (ci := 11) (v := .ref q_t_pairs) (C := RX11) (T := TX11) (N := 22) hx hb hts inX11 hown hK hP 0 rfl rfl 21 (by decide) (hts (.fieldLink RX11 44 "LentCourageModel" "pairs" "[I") (List.mem_of_getElem? (i := 2) rfl)) (fun _ h9 => h9) rfl dX11_spoons_48 ?_
        refine lv_iload_n hx hb dX11_spoons_51 rfl (lv_at hl 0 rfl) ?_
        refine lv_iload_n hx hb dX11_spoons_52 rfl (lv_at hl 0 rfl) ?_
        refine jp (g2 := F0 m 61 ls [.int (if w2_40 = 0 then (0 : Int32) else (-1 : Int32)), .int w2_40, .ref q_t_pairs]) ?_ (fun JP => ?_)
        · refine lv_topi (fun z9 ez9 => ?_)
          have hf := of_lt hf ez9
          obtain ⟨h10, hf⟩ := of_chk hf
          refine va_iast hx hb hK hP hD hS 2 0 rfl rfl h10 dX11_spoons_61 (fun H locs hP hD hS => ?_)
          have hP : va_P D vwCl [ob q_t 11 [.long v_t_trace_40, .ref q_t_text, .int v_t_typed_40, .ref q_t_told, .ref q_t_draft, .ref q_t_s, .ref q_t_images, .ref q_t_kept, .ref q_t_heard, .ref q_t_hours, .int v_t_noted_40, .int v_t_at_40, .int v_t_sort_40, .int v_t_start_40, .int v_t_value_40, .ref q_t_row, .ref q_t_best, .int v_t_bestMany_40, .int v_t_bestWorth_40, .int v_t_bestHour_40, .ref q_t_places, .ref q_t_pairs], ia C q_t_told 52 r_t_told_40, ia C q_t_pairs 256 (upd r_t_pairs_40 w2_40.toNatClampNeg z9)] H := hP
          have hD : va_D A [ob q_t 11 [.long v_t_trace_40, .ref q_t_text, .int v_t_typed_40, .ref q_t_told, .ref q_t_draft, .ref q_t_s, .ref q_t_images, .ref q_t_kept, .ref q_t_heard, .ref q_t_hours, .int v_t_noted_40, .int v_t_at_40, .int v_t_sort_40, .int v_t_start_40, .int v_t_value_40, .ref q_t_row, .ref q_t_best, .int v_t_bestMany_40, .int v_t_bestWorth_40, .int v_t_bestHour_40, .ref q_t_places, .ref q_t_pairs], ia C q_t_told 52 r_t_told_40, ia C q_t_pairs 256 (upd r_t_pairs_40 w2_40.toNatClampNeg z9)] := hD
          obtain ⟨z11, ez11⟩ : ∃ y : Int32, y = (w2_40 + (1 : Int32)) := ⟨_, rfl⟩
          have hf := of_lt hf ez11
          refine lv_iinc (v := z11) (lv' := [(2, .int z11), (1, .int w1_40), (0, .ref q_t)]) hx hb dX11_spoons_62 hl (k := 0) rfl (by rw [ez11]; rfl) (by decide) rfl (fun ls hl => ?_)
          refine lv_goto (tgt := 40) hx hb dX11_spoons_65 (by decide) ?_
          exact ih _ _ _ _ _ _ _ _ _ _ _ _ _ _ _ hf H locs ls hP hD hS (lv_sub hl [0, 1, 2] rfl) KX0
        · refine lv_if_ne (tgt := 60) hx hb dX11_spoons_53 (by decide) (fun c8 => ?_) (fun c8 => ?_)
          · refine lv_iconst (v := (-1 : Int32)) hx hb dX11_spoons_60 (by decide) ?_
            exact W.eq (congrArg (fun x => F0 m 61 ls (Value.int x :: [.int w2_40, .ref q_t_pairs])) (if_neg c8).symm) JP
          · refine lv_iconst (v := (0 : Int32)) hx hb dX11_spoons_56 (by decide) ?_
            refine lv_goto (tgt := 61) hx hb dX11_spoons_57 (by decide) ?_
            exact W.eq (congrArg (fun x => F0 m 61 ls (Value.int x :: [.int w2_40, .ref q_t_pairs])) (if_pos c8).symm) JP
  have LP92 : ∀ (Q : State → Prop) (n : Nat) (w5_92 : Int32) (w4_92 : Int32) (w3_92 : Int32) (w2_92 : Int32) (w1_92 : Int32) (v_t_trace_92 : Int64) (v_t_typed_92 : Int32) (v_t_noted_92 : Int32) (v_t_at_92 : Int32) (v_t_sort_92 : Int32) (v_t_start_92 : Int32) (v_t_value_92 : Int32) (v_t_bestMany_92 : Int32) (v_t_bestWorth_92 : Int32) (v_t_bestHour_92 : Int32) (r_t_told_92 : Nat → Int32) (r_t_pairs_92 : Nat → Int32) (y_92 : Int32 × Int32 × (Nat → Int32)), fX11_spoons_92 w4_92 w3_92 w1_92 r_t_told_92 n w5_92 w2_92 r_t_pairs_92 = some y_92 → ∀ (H : Heap) (locs : List Loc) (ls : Array Slot), va_P D vwCl [ob q_t 11 [.long v_t_trace_92, .ref q_t_text, .int v_t_typed_92, .ref q_t_told, .ref q_t_draft, .ref q_t_s, .ref q_t_images, .ref q_t_kept, .ref q_t_heard, .ref q_t_hours, .int v_t_noted_92, .int v_t_at_92, .int v_t_sort_92, .int v_t_start_92, .int v_t_value_92, .ref q_t_row, .ref q_t_best, .int v_t_bestMany_92, .int v_t_bestWorth_92, .int v_t_bestHour_92, .ref q_t_places, .ref q_t_pairs], ia C q_t_told 52 r_t_told_92, ia C q_t_pairs 256 r_t_pairs_92] H → va_D A [ob q_t 11 [.long v_t_trace_92, .ref q_t_text, .int v_t_typed_92, .ref q_t_told, .ref q_t_draft, .ref q_t_s, .ref q_t_images, .ref q_t_kept, .ref q_t_heard, .ref q_t_hours, .int v_t_noted_92, .int v_t_at_92, .int v_t_sort_92, .int v_t_start_92, .int v_t_value_92, .ref q_t_row, .ref q_t_best, .int v_t_bestMany_92, .int v_t_bestWorth_92, .int v_t_bestHour_92, .ref q_t_places, .ref q_t_pairs], ia C q_t_told 52 r_t_told_92, ia C q_t_pairs 256 r_t_pairs_92] → va_S A s.heap H locs → lv_has ls 8 [(5, .int w5_92), (4, .int w4_92), (3, .int w3_92), (2, .int w2_92), (1, .int w1_92), (0, .ref q_t)] → (∀ (H : Heap) (locs : List Loc) (ls : Array Slot), va_P D vwCl [ob q_t 11 [.long v_t_trace_92, .ref q_t_text, .int v_t_typed_92, .ref q_t_told, .ref q_t_draft, .ref q_t_s, .ref q_t_images, .ref q_t_kept, .ref q_t_heard, .ref q_t_hours, .int v_t_noted_92, .int v_t_at_92, .int v_t_sort_92, .int v_t_start_92, .int v_t_value_92, .ref q_t_row, .ref q_t_best, .int v_t_bestMany_92, .int v_t_bestWorth_92, .int v_t_bestHour_92, .ref q_t_places, .ref q_t_pairs], ia C q_t_told 52 r_t_told_92, ia C q_t_pairs 256 y_92.2.2] H → va_D A [ob q_t 11 [.long v_t_trace_92, .ref q_t_text, .int v_t_typed_92, .ref q_t_told, .ref q_t_draft, .ref q_t_s, .ref q_t_images, .ref q_t_kept, .ref q_t_heard, .ref q_t_hours, .int v_t_noted_92, .int v_t_at_92, .int v_t_sort_92, .int v_t_start_92, .int v_t_value_92, .ref q_t_row, .ref q_t_best, .int v_t_bestMany_92, .int v_t_bestWorth_92, .int v_t_bestHour_92, .ref q_t_places, .ref q_t_pairs], ia C q_t_told 52 r_t_told_92, ia C q_t_pairs 256 y_92.2.2] → va_S A s.heap H locs → lv_has ls 8 [(5, .int y_92.1), (4, .int w4_92), (3, .int w3_92), (2, .int y_92.2.1), (1, .int w1_92), (0, .ref q_t)] → W p l e ({ frames := 2, cells := 0, slots := 0, locals := 45 } : Room) s m ([.ref q_t] : List Value).toArray below meth c H locs 0 0 Q (F0 m 339 ls [])) → W p l e ({ frames := 2, cells := 0, slots := 0, locals := 45 } : Room) s m ([.ref q_t] : List Value).toArray below meth c H locs 0 0 Q (F0 m 92 ls []) := by
    intro Q n
    induction n with
    | zero =>
      intro w5_92 w4_92 w3_92 w2_92 w1_92 v_t_trace_92 v_t_typed_92 v_t_noted_92 v_t_at_92 v_t_sort_92 v_t_start_92 v_t_value_92 v_t_bestMany_92 v_t_bestWorth_92 v_t_bestHour_92 r_t_told_92 r_t_pairs_92 y_92 hf
      rw [fX11_spoons_92] at hf
      cases hf
    | succ n ih =>
      intro w5_92 w4_92 w3_92 w2_92 w1_92 v_t_trace_92 v_t_typed_92 v_t_noted_92 v_t_at_92 v_t_sort_92 v_t_start_92 v_t_value_92 v_t_bestMany_92 v_t_bestWorth_92 v_t_bestHour_92 r_t_told_92 r_t_pairs_92 y_92 hf H locs ls hP hD hS hl KX0
      rw [fX11_spoons_92] at hf
      refine lv_iload hx hb dX11_spoons_92 (lv_at hl 0 rfl) ?_
      refine lv_iload_n hx hb dX11_spoons_94 rfl (lv_at hl 4 rfl) ?_
      refine lv_icmp_ge (tgt := 339) hx hb dX11_spoons_95 (by decide) (fun c16 => ?_) (fun c16 => ?_)
      · have hf := of_pos hf c16
        obtain rfl := Option.some.inj hf
        exact KX0 _ _ _ hP hD hS (lv_sub hl [0, 1, 2, 3, 4, 5] rfl)
      · have hf := of_neg hf c16
        refine lv_aload_n hx hb dX11_spoons_98 rfl (lv_at hl 5 rfl) ?_
        refine va_get (D := D) (ci := 11) (v := .ref q_t_pairs) (C := RX11) (T := TX11) (N := 22) hx hb hts inX11 hown hK hP 0 rfl rfl 21 (by decide) (hts (.fieldLink RX11 44 "LentCourageModel" "pairs" "[I") (List.mem_of_getElem? (i := 2) rfl)) (fun _ h9 => h9) rfl dX11_spoons_99 ?_
        refine lv_iload hx hb dX11_spoons_102 (lv_at hl 1 rfl) ?_
        obtain ⟨h17, hf⟩ := of_chk hf
        refine va_iald hx hb hK hP 2 0 rfl rfl h17 dX11_spoons_104 ?_
        refine lv_if_lt (tgt := 339) hx hb dX11_spoons_105 (by decide) (fun c18 => ?_) (fun c18 => ?_)
        · have hf := of_pos hf c18
          obtain rfl := Option.some.inj hf
          exact KX0 _ _ _ hP hD hS (lv_sub hl [0, 1, 2, 3, 4, 5] rfl)
        · have hf := of_neg hf c18
          refine lv_aload_n hx hb dX11_spoons_108 rfl (lv_at hl 5 rfl) ?_
          refine va_get (D := D) (ci := 11) (v := .ref q_t_told) (C := RX11) (T := TX11) (N := 22) hx hb hts inX11 hown hK hP 0 rfl rfl 3 (by decide) (hts (.fieldLink RX11 13 "LentCourageModel" "told" "[I") (List.mem_of_getElem? (i := 1) rfl)) (fun _ h9 => h9) rfl dX11_spoons_109 ?_
          refine lv_bipush (v := (28 : Int32)) hx hb dX11_spoons_112 (by decide) ?_
          refine lv_iload hx hb dX11_spoons_114 (lv_at hl 0 rfl) ?_
          refine lv_iadd hx hb dX11_spoons_116 ?_
          obtain ⟨h19, hf⟩ := of_chk hf
          refine va_iald hx hb hK hP 1 0 rfl rfl h19 dX11_spoons_117 ?_
          refine lv_aload_n hx hb dX11_spoons_118 rfl (lv_at hl 5 rfl) ?_
          refine va_get (D := D) (ci := 11) (v := .ref q_t_told) (C := RX11) (T := TX11) (N := 22) hx hb hts inX11 hown hK hP 0 rfl rfl 3 (by decide) (hts (.fieldLink RX11 13 "LentCourageModel" "told" "[I") (List.mem_of_getElem? (i := 1) rfl)) (fun _ h9 => h9) rfl dX11_spoons_119 ?_
          refine lv_bipush (v := (28 : Int32)) hx hb dX11_spoons_122 (by decide) ?_
          refine lv_iload_n hx hb dX11_spoons_124 rfl (lv_at hl 2 rfl) ?_
          refine lv_iadd hx hb dX11_spoons_125 ?_
          obtain ⟨h20, hf⟩ := of_chk hf
          refine va_iald hx hb hK hP 1 0 rfl rfl h20 dX11_spoons_126 ?_
          refine jp (g2 := F0 m 163 ls [.int (if (r_t_told_92 ((28 : Int32) + w3_92).toNatClampNeg) < (r_t_told_92 ((28 : Int32) + w5_92).toNatClampNeg) then (1 : Int32) else (if (r_t_told_92 ((28 : Int32) + w5_92).toNatClampNeg) = (r_t_told_92 ((28 : Int32) + w3_92).toNatClampNeg) then (if w5_92 ≤ w3_92 then (0 : Int32) else (1 : Int32)) else (0 : Int32)))]) ?_ (fun JP => ?_)
          · refine lv_topi (fun z24 ez24 => ?_)
            have hf := of_lt hf ez24
            have bz24 : okZ z24 := ez24 ▸ (by repeat (first | exact okZ_0 | exact okZ_1 | apply okZ_ite))
            refine lv_istore (lv' := [(6, .int z24), (5, .int w5_92), (4, .int w4_92), (3, .int w3_92), (2, .int w2_92), (1, .int w1_92), (0, .ref q_t)]) hx hb dX11_spoons_163 hl (by decide) rfl (fun ls hl => ?_)
            refine lv_iload hx hb dX11_spoons_165 (lv_at hl 0 rfl) ?_
            obtain ⟨j25, hrj25, hf⟩ := of_bind hf
            refine jn (fun H L g => ∃ ls, g = F0 m 234 ls [.int j25] ∧ va_P D vwCl [ob q_t 11 [.long v_t_trace_92, .ref q_t_text, .int v_t_typed_92, .ref q_t_told, .ref q_t_draft, .ref q_t_s, .ref q_t_images, .ref q_t_kept, .ref q_t_heard, .ref q_t_hours, .int v_t_noted_92, .int v_t_at_92, .int v_t_sort_92, .int v_t_start_92, .int v_t_value_92, .ref q_t_row, .ref q_t_best, .int v_t_bestMany_92, .int v_t_bestWorth_92, .int v_t_bestHour_92, .ref q_t_places, .ref q_t_pairs], ia C q_t_told 52 r_t_told_92, ia C q_t_pairs 256 r_t_pairs_92] H ∧ va_D A [ob q_t 11 [.long v_t_trace_92, .ref q_t_text, .int v_t_typed_92, .ref q_t_told, .ref q_t_draft, .ref q_t_s, .ref q_t_images, .ref q_t_kept, .ref q_t_heard, .ref q_t_hours, .int v_t_noted_92, .int v_t_at_92, .int v_t_sort_92, .int v_t_start_92, .int v_t_value_92, .ref q_t_row, .ref q_t_best, .int v_t_bestMany_92, .int v_t_bestWorth_92, .int v_t_bestHour_92, .ref q_t_places, .ref q_t_pairs], ia C q_t_told 52 r_t_told_92, ia C q_t_pairs 256 r_t_pairs_92] ∧ va_S A s.heap H L ∧ lv_has ls 8 [(6, .int z24), (5, .int w5_92), (4, .int w4_92), (3, .int w3_92), (2, .int w2_92), (1, .int w1_92), (0, .ref q_t)]) (fun H locs g hI => ?_) (fun Jj25 => ?_)
            · obtain ⟨ls, rfl, hP, hD, hS, hl⟩ := hI
              refine lv_istore (lv' := [(7, .int j25), (6, .int z24), (5, .int w5_92), (4, .int w4_92), (3, .int w3_92), (2, .int w2_92), (1, .int w1_92), (0, .ref q_t)]) hx hb dX11_spoons_234 hl (by decide) rfl (fun ls hl => ?_)
              refine lv_aload_n hx hb dX11_spoons_236 rfl (lv_at hl 7 rfl) ?_
              refine va_get (D := D) (ci := 11) (v := .ref q_t_pairs) (C := RX11) (T := TX11) (N := 22) hx hb hts inX11 hown hK hP 0 rfl rfl 21 (by decide) (hts (.fieldLink RX11 44 "LentCourageModel" "pairs" "[I") (List.mem_of_getElem? (i := 2) rfl)) (fun _ h9 => h9) rfl dX11_spoons_237 ?_
              refine lv_iload hx hb dX11_spoons_240 (lv_at hl 3 rfl) ?_
              refine lv_iconst (v := (1 : Int32)) hx hb dX11_spoons_242 (by decide) ?_
              refine lv_iload hx hb dX11_spoons_243 (lv_at hl 2 rfl) ?_
              refine lv_ishl hx hb dX11_spoons_245 ?_
              refine lv_ior hx hb dX11_spoons_246 ?_
              refine lv_iload hx hb dX11_spoons_247 (lv_at hl 0 rfl) ?_
              obtain ⟨j35, hrj35, hf⟩ := of_bind hf
              refine jn (fun H L g => ∃ ls, g = F0 m 300 ls [.int j35, .int (w4_92 ||| ((1 : Int32) <<< (w5_92 &&& 31))), .ref q_t_pairs] ∧ va_P D vwCl [ob q_t 11 [.long v_t_trace_92, .ref q_t_text, .int v_t_typed_92, .ref q_t_told, .ref q_t_draft, .ref q_t_s, .ref q_t_images, .ref q_t_kept, .ref q_t_heard, .ref q_t_hours, .int v_t_noted_92, .int v_t_at_92, .int v_t_sort_92, .int v_t_start_92, .int v_t_value_92, .ref q_t_row, .ref q_t_best, .int v_t_bestMany_92, .int v_t_bestWorth_92, .int v_t_bestHour_92, .ref q_t_places, .ref q_t_pairs], ia C q_t_told 52 r_t_told_92, ia C q_t_pairs 256 r_t_pairs_92] H ∧ va_D A [ob q_t 11 [.long v_t_trace_92, .ref q_t_text, .int v_t_typed_92, .ref q_t_told, .ref q_t_draft, .ref q_t_s, .ref q_t_images, .ref q_t_kept, .ref q_t_heard, .ref q_t_hours, .int v_t_noted_92, .int v_t_at_92, .int v_t_sort_92, .int v_t_start_92, .int v_t_value_92, .ref q_t_row, .ref q_t_best, .int v_t_bestMany_92, .int v_t_bestWorth_92, .int v_t_bestHour_92, .ref q_t_places, .ref q_t_pairs], ia C q_t_told 52 r_t_told_92, ia C q_t_pairs 256 r_t_pairs_92] ∧ va_S A s.heap H L ∧ lv_has ls 8 [(7, .int j25), (6, .int z24), (5, .int w5_92), (4, .int w4_92), (3, .int w3_92), (2, .int w2_92), (1, .int w1_92), (0, .ref q_t)]) (fun H locs g hI => ?_) (fun Jj35 => ?_)
              · obtain ⟨ls, rfl, hP, hD, hS, hl⟩ := hI
                obtain ⟨h40, hf⟩ := of_chk hf
                refine va_iast hx hb hK hP hD hS 2 0 rfl rfl h40 dX11_spoons_300 (fun H locs hP hD hS => ?_)
                have hP : va_P D vwCl [ob q_t 11 [.long v_t_trace_92, .ref q_t_text, .int v_t_typed_92, .ref q_t_told, .ref q_t_draft, .ref q_t_s, .ref q_t_images, .ref q_t_kept, .ref q_t_heard, .ref q_t_hours, .int v_t_noted_92, .int v_t_at_92, .int v_t_sort_92, .int v_t_start_92, .int v_t_value_92, .ref q_t_row, .ref q_t_best, .int v_t_bestMany_92, .int v_t_bestWorth_92, .int v_t_bestHour_92, .ref q_t_places, .ref q_t_pairs], ia C q_t_told 52 r_t_told_92, ia C q_t_pairs 256 (upd r_t_pairs_92 (w4_92 ||| ((1 : Int32) <<< (w5_92 &&& 31))).toNatClampNeg j35)] H := hP
                have hD : va_D A [ob q_t 11 [.long v_t_trace_92, .ref q_t_text, .int v_t_typed_92, .ref q_t_told, .ref q_t_draft, .ref q_t_s, .ref q_t_images, .ref q_t_kept, .ref q_t_heard, .ref q_t_hours, .int v_t_noted_92, .int v_t_at_92, .int v_t_sort_92, .int v_t_start_92, .int v_t_value_92, .ref q_t_row, .ref q_t_best, .int v_t_bestMany_92, .int v_t_bestWorth_92, .int v_t_bestHour_92, .ref q_t_places, .ref q_t_pairs], ia C q_t_told 52 r_t_told_92, ia C q_t_pairs 256 (upd r_t_pairs_92 (w4_92 ||| ((1 : Int32) <<< (w5_92 &&& 31))).toNatClampNeg j35)] := hD
                refine lv_iload hx hb dX11_spoons_301 (lv_at hl 0 rfl) ?_
                refine jp (g2 := F0 m 332 ls [.int (if j25 = 0 then w2_92 else (if (((upd r_t_pairs_92 (w4_92 ||| ((1 : Int32) <<< (w5_92 &&& 31))).toNatClampNeg j35) w4_92.toNatClampNeg) + (1 : Int32)) ≤ w2_92 then w2_92 else (((upd r_t_pairs_92 (w4_92 ||| ((1 : Int32) <<< (w5_92 &&& 31))).toNatClampNeg j35) w4_92.toNatClampNeg) + (1 : Int32))))]) ?_ (fun JP => ?_)
                · refine lv_topi (fun z43 ez43 => ?_)
                  have hf := of_lt hf ez43
                  refine lv_istore_n (lv' := [(2, .int z43), (7, .int j25), (6, .int z24), (5, .int w5_92), (4, .int w4_92), (3, .int w3_92), (1, .int w1_92), (0, .ref q_t)]) hx hb dX11_spoons_332 rfl hl (by decide) rfl (fun ls hl => ?_)
                  obtain ⟨z44, ez44⟩ : ∃ y : Int32, y = (w5_92 + (1 : Int32)) := ⟨_, rfl⟩
                  have hf := of_lt hf ez44
                  refine lv_iinc (v := z44) (lv' := [(5, .int z44), (2, .int z43), (7, .int j25), (6, .int z24), (4, .int w4_92), (3, .int w3_92), (1, .int w1_92), (0, .ref q_t)]) hx hb dX11_spoons_333 hl (k := 3) rfl (by rw [ez44]; rfl) (by decide) rfl (fun ls hl => ?_)
                  refine lv_goto (tgt := 92) hx hb dX11_spoons_336 (by decide) ?_
                  exact ih _ _ _ _ _ _ _ _ _ _ _ _ _ _ _ _ _ _ hf H locs ls hP hD hS (lv_sub hl [0, 4, 5, 1, 6, 7] rfl) KX0
                · refine lv_if_eq (tgt := 331) hx hb dX11_spoons_303 (by decide) (fun c41 => ?_) (fun c41 => ?_)
                  · refine lv_iload_n hx hb dX11_spoons_331 rfl (lv_at hl 5 rfl) ?_
                    exact W.eq (congrArg (fun x => F0 m 332 ls (Value.int x :: [])) (if_pos c41).symm) JP
                  · refine lv_aload_n hx hb dX11_spoons_306 rfl (lv_at hl 7 rfl) ?_
                    refine va_get (D := D) (ci := 11) (v := .ref q_t_pairs) (C := RX11) (T := TX11) (N := 22) hx hb hts inX11 hown hK hP 0 rfl rfl 21 (by decide) (hts (.fieldLink RX11 44 "LentCourageModel" "pairs" "[I") (List.mem_of_getElem? (i := 2) rfl)) (fun _ h9 => h9) rfl dX11_spoons_307 ?_
                    refine lv_iload hx hb dX11_spoons_310 (lv_at hl 3 rfl) ?_
                    refine va_iald hx hb hK hP 2 0 rfl rfl h17 dX11_spoons_312 ?_
                    refine lv_iconst (v := (1 : Int32)) hx hb dX11_spoons_313 (by decide) ?_
                    refine lv_iadd hx hb dX11_spoons_314 ?_
                    refine lv_iload_n hx hb dX11_spoons_315 rfl (lv_at hl 5 rfl) ?_
                    refine lv_icmp_le (tgt := 331) hx hb dX11_spoons_316 (by decide) (fun c42 => ?_) (fun c42 => ?_)
                    · refine lv_iload_n hx hb dX11_spoons_331 rfl (lv_at hl 5 rfl) ?_
                      exact W.eq (congrArg (fun x => F0 m 332 ls (Value.int x :: [])) ((if_neg c41).trans (if_pos c42)).symm) JP
                    · refine lv_aload_n hx hb dX11_spoons_319 rfl (lv_at hl 7 rfl) ?_
                      refine va_get (D := D) (ci := 11) (v := .ref q_t_pairs) (C := RX11) (T := TX11) (N := 22) hx hb hts inX11 hown hK hP 0 rfl rfl 21 (by decide) (hts (.fieldLink RX11 44 "LentCourageModel" "pairs" "[I") (List.mem_of_getElem? (i := 2) rfl)) (fun _ h9 => h9) rfl dX11_spoons_320 ?_
                      refine lv_iload hx hb dX11_spoons_323 (lv_at hl 3 rfl) ?_
                      refine va_iald hx hb hK hP 2 0 rfl rfl h17 dX11_spoons_325 ?_
                      refine lv_iconst (v := (1 : Int32)) hx hb dX11_spoons_326 (by decide) ?_
                      refine lv_iadd hx hb dX11_spoons_327 ?_
                      refine lv_goto (tgt := 332) hx hb dX11_spoons_328 (by decide) ?_
                      exact W.eq (congrArg (fun x => F0 m 332 ls (Value.int x :: [])) ((if_neg c41).trans (if_neg c42)).symm) JP
              · have hf := hrj35
                refine lv_if_eq (tgt := 288) hx hb dX11_spoons_249 (by decide) (fun c36 => ?_) (fun c36 => ?_)
                · have hf := of_pos hf c36
                  refine lv_aload_n hx hb dX11_spoons_288 rfl (lv_at hl 7 rfl) ?_
                  refine va_get (D := D) (ci := 11) (v := .ref q_t_pairs) (C := RX11) (T := TX11) (N := 22) hx hb hts inX11 hown hK hP 0 rfl rfl 21 (by decide) (hts (.fieldLink RX11 44 "LentCourageModel" "pairs" "[I") (List.mem_of_getElem? (i := 2) rfl)) (fun _ h9 => h9) rfl dX11_spoons_289 ?_
                  refine lv_iload hx hb dX11_spoons_292 (lv_at hl 3 rfl) ?_
                  refine lv_iconst (v := (1 : Int32)) hx hb dX11_spoons_294 (by decide) ?_
                  refine lv_iload hx hb dX11_spoons_295 (lv_at hl 2 rfl) ?_
                  refine lv_ishl hx hb dX11_spoons_297 ?_
                  refine lv_ior hx hb dX11_spoons_298 ?_
                  obtain ⟨h37, hf⟩ := of_chk hf
                  refine va_iald hx hb hK hP 2 0 rfl rfl h37 dX11_spoons_299 ?_
                  obtain rfl := Option.some.inj hf
                  exact Jj35 _ _ _ ⟨_, rfl, hP, hD, hS, lv_sub hl [0, 1, 2, 3, 4, 5, 6, 7] rfl⟩
                · have hf := of_neg hf c36
                  refine lv_aload_n hx hb dX11_spoons_252 rfl (lv_at hl 7 rfl) ?_
                  refine va_get (D := D) (ci := 11) (v := .ref q_t_pairs) (C := RX11) (T := TX11) (N := 22) hx hb hts inX11 hown hK hP 0 rfl rfl 21 (by decide) (hts (.fieldLink RX11 44 "LentCourageModel" "pairs" "[I") (List.mem_of_getElem? (i := 2) rfl)) (fun _ h9 => h9) rfl dX11_spoons_253 ?_
                  refine lv_iload hx hb dX11_spoons_256 (lv_at hl 3 rfl) ?_
                  refine va_iald hx hb hK hP 2 0 rfl rfl h17 dX11_spoons_258 ?_
                  refine lv_iconst (v := (1 : Int32)) hx hb dX11_spoons_259 (by decide) ?_
                  refine lv_iadd hx hb dX11_spoons_260 ?_
                  refine lv_aload_n hx hb dX11_spoons_261 rfl (lv_at hl 7 rfl) ?_
                  refine va_get (D := D) (ci := 11) (v := .ref q_t_pairs) (C := RX11) (T := TX11) (N := 22) hx hb hts inX11 hown hK hP 0 rfl rfl 21 (by decide) (hts (.fieldLink RX11 44 "LentCourageModel" "pairs" "[I") (List.mem_of_getElem? (i := 2) rfl)) (fun _ h9 => h9) rfl dX11_spoons_262 ?_
                  refine lv_iload hx hb dX11_spoons_265 (lv_at hl 3 rfl) ?_
                  refine lv_iconst (v := (1 : Int32)) hx hb dX11_spoons_267 (by decide) ?_
                  refine lv_iload hx hb dX11_spoons_268 (lv_at hl 2 rfl) ?_
                  refine lv_ishl hx hb dX11_spoons_270 ?_
                  refine lv_ior hx hb dX11_spoons_271 ?_
                  obtain ⟨h38, hf⟩ := of_chk hf
                  refine va_iald hx hb hK hP 2 0 rfl rfl h38 dX11_spoons_272 ?_
                  refine lv_icmp_le (tgt := 288) hx hb dX11_spoons_273 (by decide) (fun c39 => ?_) (fun c39 => ?_)
                  · have hf := of_pos hf c39
                    refine lv_aload_n hx hb dX11_spoons_288 rfl (lv_at hl 7 rfl) ?_
                    refine va_get (D := D) (ci := 11) (v := .ref q_t_pairs) (C := RX11) (T := TX11) (N := 22) hx hb hts inX11 hown hK hP 0 rfl rfl 21 (by decide) (hts (.fieldLink RX11 44 "LentCourageModel" "pairs" "[I") (List.mem_of_getElem? (i := 2) rfl)) (fun _ h9 => h9) rfl dX11_spoons_289 ?_
                    refine lv_iload hx hb dX11_spoons_292 (lv_at hl 3 rfl) ?_
                    refine lv_iconst (v := (1 : Int32)) hx hb dX11_spoons_294 (by decide) ?_
                    refine lv_iload hx hb dX11_spoons_295 (lv_at hl 2 rfl) ?_
                    refine lv_ishl hx hb dX11_spoons_297 ?_
                    refine lv_ior hx hb dX11_spoons_298 ?_
                    refine va_iald hx hb hK hP 2 0 rfl rfl h38 dX11_spoons_299 ?_
                    obtain rfl := Option.some.inj hf
                    exact Jj35 _ _ _ ⟨_, rfl, hP, hD, hS, lv_sub hl [0, 1, 2, 3, 4, 5, 6, 7] rfl⟩
                  · have hf := of_neg hf c39
                    refine lv_aload_n hx hb dX11_spoons_276 rfl (lv_at hl 7 rfl) ?_
                    refine va_get (D := D) (ci := 11) (v := .ref q_t_pairs) (C := RX11) (T := TX11) (N := 22) hx hb hts inX11 hown hK hP 0 rfl rfl 21 (by decide) (hts (.fieldLink RX11 44 "LentCourageModel" "pairs" "[I") (List.mem_of_getElem? (i := 2) rfl)) (fun _ h9 => h9) rfl dX11_spoons_277 ?_
                    refine lv_iload hx hb dX11_spoons_280 (lv_at hl 3 rfl) ?_
                    refine va_iald hx hb hK hP 2 0 rfl rfl h17 dX11_spoons_282 ?_
                    refine lv_iconst (v := (1 : Int32)) hx hb dX11_spoons_283 (by decide) ?_
                    refine lv_iadd hx hb dX11_spoons_284 ?_
                    refine lv_goto (tgt := 300) hx hb dX11_spoons_285 (by decide) ?_
                    obtain rfl := Option.some.inj hf
                    exact Jj35 _ _ _ ⟨_, rfl, hP, hD, hS, lv_sub hl [0, 1, 2, 3, 4, 5, 6, 7] rfl⟩
            · have hf := hrj25
              refine lv_if_eq (tgt := 233) hx hb dX11_spoons_167 (by decide) (fun c26 => ?_) (fun c26 => ?_)
              · have hf := of_pos hf c26
                refine lv_iconst (v := (0 : Int32)) hx hb dX11_spoons_233 (by decide) ?_
                obtain rfl := Option.some.inj hf
                exact Jj25 _ _ _ ⟨_, rfl, hP, hD, hS, lv_sub hl [0, 1, 2, 3, 4, 5, 6] rfl⟩
              · have hf := of_neg hf c26
                refine lv_iload hx hb dX11_spoons_170 (lv_at hl 2 rfl) ?_
                refine lv_iload hx hb dX11_spoons_172 (lv_at hl 1 rfl) ?_
                obtain ⟨o27, ho27, hf⟩ := of_bind hf
                refine c_I (wr := [ob q_t 11 [.long v_t_trace_92, .ref q_t_text, .int v_t_typed_92, .ref q_t_told, .ref q_t_draft, .ref q_t_s, .ref q_t_images, .ref q_t_kept, .ref q_t_heard, .ref q_t_hours, .int v_t_noted_92, .int v_t_at_92, .int v_t_sort_92, .int v_t_start_92, .int v_t_value_92, .ref q_t_row, .ref q_t_best, .int v_t_bestMany_92, .int v_t_bestWorth_92, .int v_t_bestHour_92, .ref q_t_places, .ref q_t_pairs], ia C q_t_told 52 r_t_told_92, ia C q_t_pairs 256 r_t_pairs_92]) (W2 := [ob q_t 11 [.long v_t_trace_92, .ref q_t_text, .int v_t_typed_92, .ref q_t_told, .ref q_t_draft, .ref q_t_s, .ref q_t_images, .ref q_t_kept, .ref q_t_heard, .ref q_t_hours, .int v_t_noted_92, .int v_t_at_92, .int v_t_sort_92, .int v_t_start_92, .int v_t_value_92, .ref q_t_row, .ref q_t_best, .int v_t_bestMany_92, .int v_t_bestWorth_92, .int v_t_bestHour_92, .ref q_t_places, .ref q_t_pairs], ia C q_t_told 52 r_t_told_92, ia C q_t_pairs 256 r_t_pairs_92]) (cS_run ⟨hx, hb, hml, hown, hts⟩ (k_X11_has l D C w4_92 w5_92 H.size o27 ho27) gX11_spoons_X11_has rfl ⟨rfl, rfl⟩ hd_X11_has ⟨(Nat.le_of_ble_eq_true rfl), (Nat.le_of_ble_eq_true rfl)⟩ rfl hK (cut_in hK hP hD [] rfl (by decide)) hl.1 rfl (Nat.le_of_ble_eq_true rfl) dX11_spoons_174 ⟨Nat.zero_le _, Nat.zero_le _⟩) hP hD hS hA [] [0, 1, 2] [0, 1, 2] rfl rfl (by decide) (by decide) rfl (by decide) (fun H locs hP hD hS => ?_)
                have hP : va_P D vwCl [ob q_t 11 [.long v_t_trace_92, .ref q_t_text, .int v_t_typed_92, .ref q_t_told, .ref q_t_draft, .ref q_t_s, .ref q_t_images, .ref q_t_kept, .ref q_t_heard, .ref q_t_hours, .int v_t_noted_92, .int v_t_at_92, .int v_t_sort_92, .int v_t_start_92, .int v_t_value_92, .ref q_t_row, .ref q_t_best, .int v_t_bestMany_92, .int v_t_bestWorth_92, .int v_t_bestHour_92, .ref q_t_places, .ref q_t_pairs], ia C q_t_told 52 r_t_told_92, ia C q_t_pairs 256 r_t_pairs_92] H := hP
                have hD : va_D A [ob q_t 11 [.long v_t_trace_92, .ref q_t_text, .int v_t_typed_92, .ref q_t_told, .ref q_t_draft, .ref q_t_s, .ref q_t_images, .ref q_t_kept, .ref q_t_heard, .ref q_t_hours, .int v_t_noted_92, .int v_t_at_92, .int v_t_sort_92, .int v_t_start_92, .int v_t_value_92, .ref q_t_row, .ref q_t_best, .int v_t_bestMany_92, .int v_t_bestWorth_92, .int v_t_bestHour_92, .ref q_t_places, .ref q_t_pairs], ia C q_t_told 52 r_t_told_92, ia C q_t_pairs 256 r_t_pairs_92] := hD
                refine lv_if_ne (tgt := 233) hx hb dX11_spoons_177 (by decide) (fun c28 => ?_) (fun c28 => ?_)
                · have hf := of_neg hf c28
                  refine lv_iconst (v := (0 : Int32)) hx hb dX11_spoons_233 (by decide) ?_
                  obtain rfl := Option.some.inj hf
                  exact Jj25 _ _ _ ⟨_, rfl, hP, hD, hS, lv_sub hl [0, 1, 2, 3, 4, 5, 6] rfl⟩
                · have hf := of_pos hf c28
                  refine lv_aload_n hx hb dX11_spoons_180 rfl (lv_at hl 6 rfl) ?_
                  refine va_get (D := D) (ci := 11) (v := .ref q_t_told) (C := RX11) (T := TX11) (N := 22) hx hb hts inX11 hown hK hP 0 rfl rfl 3 (by decide) (hts (.fieldLink RX11 13 "LentCourageModel" "told" "[I") (List.mem_of_getElem? (i := 1) rfl)) (fun _ h9 => h9) rfl dX11_spoons_181 ?_
                  refine lv_bipush (v := (12 : Int32)) hx hb dX11_spoons_184 (by decide) ?_
                  refine lv_iload hx hb dX11_spoons_186 (lv_at hl 1 rfl) ?_
                  refine lv_iadd hx hb dX11_spoons_188 ?_
                  obtain ⟨h29, hf⟩ := of_chk hf
                  refine va_iald hx hb hK hP 1 0 rfl rfl h29 dX11_spoons_189 ?_
                  refine lv_aload_n hx hb dX11_spoons_190 rfl (lv_at hl 6 rfl) ?_
                  refine va_get (D := D) (ci := 11) (v := .ref q_t_told) (C := RX11) (T := TX11) (N := 22) hx hb hts inX11 hown hK hP 0 rfl rfl 3 (by decide) (hts (.fieldLink RX11 13 "LentCourageModel" "told" "[I") (List.mem_of_getElem? (i := 1) rfl)) (fun _ h9 => h9) rfl dX11_spoons_191 ?_
                  refine lv_bipush (v := (12 : Int32)) hx hb dX11_spoons_194 (by decide) ?_
                  refine lv_iload_n hx hb dX11_spoons_196 rfl (lv_at hl 3 rfl) ?_
                  refine lv_iadd hx hb dX11_spoons_197 ?_
                  obtain ⟨h30, hf⟩ := of_chk hf
                  refine va_iald hx hb hK hP 1 0 rfl rfl h30 dX11_spoons_198 ?_
                  refine lv_icmp_eq (tgt := 233) hx hb dX11_spoons_199 (by decide) (fun c31 => ?_) (fun c31 => ?_)
                  · have hf := of_pos hf c31
                    refine lv_iconst (v := (0 : Int32)) hx hb dX11_spoons_233 (by decide) ?_
                    obtain rfl := Option.some.inj hf
                    exact Jj25 _ _ _ ⟨_, rfl, hP, hD, hS, lv_sub hl [0, 1, 2, 3, 4, 5, 6] rfl⟩
                  · have hf := of_neg hf c31
                    refine lv_aload_n hx hb dX11_spoons_202 rfl (lv_at hl 6 rfl) ?_
                    refine lv_aload_n hx hb dX11_spoons_203 rfl (lv_at hl 6 rfl) ?_
                    refine va_get (D := D) (ci := 11) (v := .ref q_t_told) (C := RX11) (T := TX11) (N := 22) hx hb hts inX11 hown hK hP 0 rfl rfl 3 (by decide) (hts (.fieldLink RX11 13 "LentCourageModel" "told" "[I") (List.mem_of_getElem? (i := 1) rfl)) (fun _ h9 => h9) rfl dX11_spoons_204 ?_
                    refine lv_bipush (v := (20 : Int32)) hx hb dX11_spoons_207 (by decide) ?_
                    refine lv_iload_n hx hb dX11_spoons_209 rfl (lv_at hl 3 rfl) ?_
                    refine lv_iadd hx hb dX11_spoons_210 ?_
                    obtain ⟨h32, hf⟩ := of_chk hf
                    refine va_iald hx hb hK hP 1 0 rfl rfl h32 dX11_spoons_211 ?_
                    refine lv_aload_n hx hb dX11_spoons_212 rfl (lv_at hl 6 rfl) ?_
                    refine va_get (D := D) (ci := 11) (v := .ref q_t_told) (C := RX11) (T := TX11) (N := 22) hx hb hts inX11 hown hK hP 0 rfl rfl 3 (by decide) (hts (.fieldLink RX11 13 "LentCourageModel" "told" "[I") (List.mem_of_getElem? (i := 1) rfl)) (fun _ h9 => h9) rfl dX11_spoons_213 ?_
                    refine lv_bipush (v := (28 : Int32)) hx hb dX11_spoons_216 (by decide) ?_
                    refine lv_iload_n hx hb dX11_spoons_218 rfl (lv_at hl 3 rfl) ?_
                    refine lv_iadd hx hb dX11_spoons_219 ?_
                    refine va_iald hx hb hK hP 1 0 rfl rfl h20 dX11_spoons_220 ?_
                    refine lv_iload hx hb dX11_spoons_221 (lv_at hl 1 rfl) ?_
                    obtain ⟨o33, ho33, hf⟩ := of_bind hf
                    refine c_I (wr := [ia C q_t_pairs 256 r_t_pairs_92]) (W2 := [ob q_t 11 [.long v_t_trace_92, .ref q_t_text, .int v_t_typed_92, .ref q_t_told, .ref q_t_draft, .ref q_t_s, .ref q_t_images, .ref q_t_kept, .ref q_t_heard, .ref q_t_hours, .int v_t_noted_92, .int v_t_at_92, .int v_t_sort_92, .int v_t_start_92, .int v_t_value_92, .ref q_t_row, .ref q_t_best, .int v_t_bestMany_92, .int v_t_bestWorth_92, .int v_t_bestHour_92, .ref q_t_places, .ref q_t_pairs], ia C q_t_told 52 r_t_told_92, ia C q_t_pairs 256 r_t_pairs_92]) (cV_run ⟨hx, hb, hml, hown, hts⟩ (k_X11_comes l D C q_t q_t_text q_t_told q_t_draft q_t_s q_t_images q_t_kept q_t_heard q_t_hours q_t_row q_t_best q_t_places q_t_pairs v_t_trace_92 v_t_typed_92 v_t_noted_92 v_t_at_92 v_t_sort_92 v_t_start_92 v_t_value_92 v_t_bestMany_92 v_t_bestWorth_92 v_t_bestHour_92 r_t_told_92 (r_t_told_92 ((20 : Int32) + w3_92).toNatClampNeg) (r_t_told_92 ((28 : Int32) + w3_92).toNatClampNeg) w5_92 H.size o33 ho33) gX11_spoons_X11_comes rfl ⟨rfl, rfl⟩ hd_X11_comes ⟨(Nat.le_of_ble_eq_true rfl), (Nat.le_of_ble_eq_true rfl)⟩ rfl hK (cut_in hK hP hD [0, 1] rfl (by decide)) (ci := 11) rfl rfl rfl hl.1 rfl (Nat.le_of_ble_eq_true rfl) dX11_spoons_223 ⟨Nat.zero_le _, Nat.zero_le _⟩) hP hD hS hA [0, 1] [2] [1, 2, 0] rfl rfl (by decide) (by decide) rfl (by decide) (fun H locs hP hD hS => ?_)
                    have hP : va_P D vwCl [ob q_t 11 [.long v_t_trace_92, .ref q_t_text, .int v_t_typed_92, .ref q_t_told, .ref q_t_draft, .ref q_t_s, .ref q_t_images, .ref q_t_kept, .ref q_t_heard, .ref q_t_hours, .int v_t_noted_92, .int v_t_at_92, .int v_t_sort_92, .int v_t_start_92, .int v_t_value_92, .ref q_t_row, .ref q_t_best, .int v_t_bestMany_92, .int v_t_bestWorth_92, .int v_t_bestHour_92, .ref q_t_places, .ref q_t_pairs], ia C q_t_told 52 r_t_told_92, ia C q_t_pairs 256 r_t_pairs_92] H := hP
                    have hD : va_D A [ob q_t 11 [.long v_t_trace_92, .ref q_t_text, .int v_t_typed_92, .ref q_t_told, .ref q_t_draft, .ref q_t_s, .ref q_t_images, .ref q_t_kept, .ref q_t_heard, .ref q_t_hours, .int v_t_noted_92, .int v_t_at_92, .int v_t_sort_92, .int v_t_start_92, .int v_t_value_92, .ref q_t_row, .ref q_t_best, .int v_t_bestMany_92, .int v_t_bestWorth_92, .int v_t_bestHour_92, .ref q_t_places, .ref q_t_pairs], ia C q_t_told 52 r_t_told_92, ia C q_t_pairs 256 r_t_pairs_92] := hD
                    refine lv_if_eq (tgt := 233) hx hb dX11_spoons_226 (by decide) (fun c34 => ?_) (fun c34 => ?_)
                    · have hf := of_pos hf c34
                      refine lv_iconst (v := (0 : Int32)) hx hb dX11_spoons_233 (by decide) ?_
                      obtain rfl := Option.some.inj hf
                      exact Jj25 _ _ _ ⟨_, rfl, hP, hD, hS, lv_sub hl [0, 1, 2, 3, 4, 5, 6] rfl⟩
                    · have hf := of_neg hf c34
                      refine lv_iconst (v := (1 : Int32)) hx hb dX11_spoons_229 (by decide) ?_
                      refine lv_goto (tgt := 234) hx hb dX11_spoons_230 (by decide) ?_
                      obtain rfl := Option.some.inj hf
                      exact Jj25 _ _ _ ⟨_, rfl, hP, hD, hS, lv_sub hl [0, 1, 2, 3, 4, 5, 6] rfl⟩
          · refine lv_icmp_gt (tgt := 158) hx hb dX11_spoons_127 (by decide) (fun c21 => ?_) (fun c21 => ?_)
            · refine lv_iconst (v := (1 : Int32)) hx hb dX11_spoons_158 (by decide) ?_
              refine lv_goto (tgt := 163) hx hb dX11_spoons_159 (by decide) ?_
              exact W.eq (congrArg (fun x => F0 m 163 ls (Value.int x :: [])) (if_pos c21).symm) JP
            · refine lv_aload_n hx hb dX11_spoons_130 rfl (lv_at hl 5 rfl) ?_
              refine va_get (D := D) (ci := 11) (v := .ref q_t_told) (C := RX11) (T := TX11) (N := 22) hx hb hts inX11 hown hK hP 0 rfl rfl 3 (by decide) (hts (.fieldLink RX11 13 "LentCourageModel" "told" "[I") (List.mem_of_getElem? (i := 1) rfl)) (fun _ h9 => h9) rfl dX11_spoons_131 ?_
              refine lv_bipush (v := (28 : Int32)) hx hb dX11_spoons_134 (by decide) ?_
              refine lv_iload hx hb dX11_spoons_136 (lv_at hl 0 rfl) ?_
              refine lv_iadd hx hb dX11_spoons_138 ?_
              refine va_iald hx hb hK hP 1 0 rfl rfl h19 dX11_spoons_139 ?_
              refine lv_aload_n hx hb dX11_spoons_140 rfl (lv_at hl 5 rfl) ?_
              refine va_get (D := D) (ci := 11) (v := .ref q_t_told) (C := RX11) (T := TX11) (N := 22) hx hb hts inX11 hown hK hP 0 rfl rfl 3 (by decide) (hts (.fieldLink RX11 13 "LentCourageModel" "told" "[I") (List.mem_of_getElem? (i := 1) rfl)) (fun _ h9 => h9) rfl dX11_spoons_141 ?_
              refine lv_bipush (v := (28 : Int32)) hx hb dX11_spoons_144 (by decide) ?_
              refine lv_iload_n hx hb dX11_spoons_146 rfl (lv_at hl 2 rfl) ?_
              refine lv_iadd hx hb dX11_spoons_147 ?_
              refine va_iald hx hb hK hP 1 0 rfl rfl h20 dX11_spoons_148 ?_
              refine lv_icmp_ne (tgt := 162) hx hb dX11_spoons_149 (by decide) (fun c22 => ?_) (fun c22 => ?_)
              · refine lv_iconst (v := (0 : Int32)) hx hb dX11_spoons_162 (by decide) ?_
                exact W.eq (congrArg (fun x => F0 m 163 ls (Value.int x :: [])) ((if_neg c21).trans (if_neg c22)).symm) JP
              · refine lv_iload hx hb dX11_spoons_152 (lv_at hl 0 rfl) ?_
                refine lv_iload_n hx hb dX11_spoons_154 rfl (lv_at hl 2 rfl) ?_
                refine lv_icmp_le (tgt := 162) hx hb dX11_spoons_155 (by decide) (fun c23 => ?_) (fun c23 => ?_)
                · refine lv_iconst (v := (0 : Int32)) hx hb dX11_spoons_162 (by decide) ?_
                  exact W.eq (congrArg (fun x => F0 m 163 ls (Value.int x :: [])) (((if_neg c21).trans (if_pos c22)).trans (if_pos c23)).symm) JP
                · refine lv_iconst (v := (1 : Int32)) hx hb dX11_spoons_158 (by decide) ?_
                  refine lv_goto (tgt := 163) hx hb dX11_spoons_159 (by decide) ?_
                  exact W.eq (congrArg (fun x => F0 m 163 ls (Value.int x :: [])) (((if_neg c21).trans (if_pos c22)).trans (if_neg c23)).symm) JP
  have LP84 : ∀ (Q : State → Prop) (n : Nat) (w4_84 : Int32) (w3_84 : Int32) (w2_84 : Int32) (w1_84 : Int32) (v_t_trace_84 : Int64) (v_t_typed_84 : Int32) (v_t_noted_84 : Int32) (v_t_at_84 : Int32) (v_t_sort_84 : Int32) (v_t_start_84 : Int32) (v_t_value_84 : Int32) (v_t_bestMany_84 : Int32) (v_t_bestWorth_84 : Int32) (v_t_bestHour_84 : Int32) (r_t_told_84 : Nat → Int32) (r_t_pairs_84 : Nat → Int32) (y_84 : Int32 × Int32 × (Nat → Int32)), fX11_spoons_84 w3_84 w1_84 r_t_told_84 n w4_84 w2_84 r_t_pairs_84 = some y_84 → ∀ (H : Heap) (locs : List Loc) (ls : Array Slot), va_P D vwCl [ob q_t 11 [.long v_t_trace_84, .ref q_t_text, .int v_t_typed_84, .ref q_t_told, .ref q_t_draft, .ref q_t_s, .ref q_t_images, .ref q_t_kept, .ref q_t_heard, .ref q_t_hours, .int v_t_noted_84, .int v_t_at_84, .int v_t_sort_84, .int v_t_start_84, .int v_t_value_84, .ref q_t_row, .ref q_t_best, .int v_t_bestMany_84, .int v_t_bestWorth_84, .int v_t_bestHour_84, .ref q_t_places, .ref q_t_pairs], ia C q_t_told 52 r_t_told_84, ia C q_t_pairs 256 r_t_pairs_84] H → va_D A [ob q_t 11 [.long v_t_trace_84, .ref q_t_text, .int v_t_typed_84, .ref q_t_told, .ref q_t_draft, .ref q_t_s, .ref q_t_images, .ref q_t_kept, .ref q_t_heard, .ref q_t_hours, .int v_t_noted_84, .int v_t_at_84, .int v_t_sort_84, .int v_t_start_84, .int v_t_value_84, .ref q_t_row, .ref q_t_best, .int v_t_bestMany_84, .int v_t_bestWorth_84, .int v_t_bestHour_84, .ref q_t_places, .ref q_t_pairs], ia C q_t_told 52 r_t_told_84, ia C q_t_pairs 256 r_t_pairs_84] → va_S A s.heap H locs → lv_has ls 8 [(4, .int w4_84), (3, .int w3_84), (2, .int w2_84), (1, .int w1_84), (0, .ref q_t)] → (∀ (H : Heap) (locs : List Loc) (ls : Array Slot), va_P D vwCl [ob q_t 11 [.long v_t_trace_84, .ref q_t_text, .int v_t_typed_84, .ref q_t_told, .ref q_t_draft, .ref q_t_s, .ref q_t_images, .ref q_t_kept, .ref q_t_heard, .ref q_t_hours, .int v_t_noted_84, .int v_t_at_84, .int v_t_sort_84, .int v_t_start_84, .int v_t_value_84, .ref q_t_row, .ref q_t_best, .int v_t_bestMany_84, .int v_t_bestWorth_84, .int v_t_bestHour_84, .ref q_t_places, .ref q_t_pairs], ia C q_t_told 52 r_t_told_84, ia C q_t_pairs 256 y_84.2.2] H → va_D A [ob q_t 11 [.long v_t_trace_84, .ref q_t_text, .int v_t_typed_84, .ref q_t_told, .ref q_t_draft, .ref q_t_s, .ref q_t_images, .ref q_t_kept, .ref q_t_heard, .ref q_t_hours, .int v_t_noted_84, .int v_t_at_84, .int v_t_sort_84, .int v_t_start_84, .int v_t_value_84, .ref q_t_row, .ref q_t_best, .int v_t_bestMany_84, .int v_t_bestWorth_84, .int v_t_bestHour_84, .ref q_t_places, .ref q_t_pairs], ia C q_t_told 52 r_t_told_84, ia C q_t_pairs 256 y_84.2.2] → va_S A s.heap H locs → lv_has ls 8 [(4, .int y_84.1), (3, .int w3_84), (2, .int y_84.2.1), (1, .int w1_84), (0, .ref q_t)] → W p l e ({ frames := 2, cells := 0, slots := 0, locals := 45 } : Room) s m ([.ref q_t] : List Value).toArray below meth c H locs 0 0 Q (F0 m 345 ls [])) → W p l e ({ frames := 2, cells := 0, slots := 0, locals := 45 } : Room) s m ([.ref q_t] : List Value).toArray below meth c H locs 0 0 Q (F0 m 84 ls []) := by
    intro Q n
    induction n with
    | zero =>
      intro w4_84 w3_84 w2_84 w1_84 v_t_trace_84 v_t_typed_84 v_t_noted_84 v_t_at_84 v_t_sort_84 v_t_start_84 v_t_value_84 v_t_bestMany_84 v_t_bestWorth_84 v_t_bestHour_84 r_t_told_84 r_t_pairs_84 y_84 hf
      rw [fX11_spoons_84] at hf
      cases hf
    | succ n ih =>
      intro w4_84 w3_84 w2_84 w1_84 v_t_trace_84 v_t_typed_84 v_t_noted_84 v_t_at_84 v_t_sort_84 v_t_start_84 v_t_value_84 v_t_bestMany_84 v_t_bestWorth_84 v_t_bestHour_84 r_t_told_84 r_t_pairs_84 y_84 hf H locs ls hP hD hS hl KX0
      rw [fX11_spoons_84] at hf
      refine lv_iload hx hb dX11_spoons_84 (lv_at hl 0 rfl) ?_
      refine lv_if_lt (tgt := 345) hx hb dX11_spoons_86 (by decide) (fun c15 => ?_) (fun c15 => ?_)
      · have hf := of_pos hf c15
        obtain rfl := Option.some.inj hf
        exact KX0 _ _ _ hP hD hS (lv_sub hl [0, 1, 2, 3, 4] rfl)
      · have hf := of_neg hf c15
        refine lv_iconst (v := (0 : Int32)) hx hb dX11_spoons_89 (by decide) ?_
        refine lv_istore (lv' := [(5, .int (0 : Int32)), (4, .int w4_84), (3, .int w3_84), (2, .int w2_84), (1, .int w1_84), (0, .ref q_t)]) hx hb dX11_spoons_90 hl (by decide) rfl (fun ls hl => ?_)
        obtain ⟨y16, hy16, hf⟩ := of_bind hf
        refine LP92 _ FU _ _ _ _ _ _ _ _ _ _ _ _ _ _ _ _ _ y16 hy16 H locs ls hP hD hS (lv_sub hl [0, 1, 2, 3, 4, 5] rfl) (fun H locs ls hP hD hS hl => ?_)
        obtain ⟨z17, ez17⟩ : ∃ y : Int32, y = (w4_84 + (-1 : Int32)) := ⟨_, rfl⟩
        have hf := of_lt hf ez17
        refine lv_iinc (v := z17) (lv' := [(4, .int z17), (5, .int y16.1), (3, .int w3_84), (2, .int y16.2.1), (1, .int w1_84), (0, .ref q_t)]) hx hb dX11_spoons_339 hl (k := 1) rfl (by rw [ez17]; rfl) (by decide) rfl (fun ls hl => ?_)
        refine lv_goto (tgt := 84) hx hb dX11_spoons_342 (by decide) ?_
        exact ih _ _ _ _ _ _ _ _ _ _ _ _ _ _ _ _ _ hf H locs ls hP hD hS (lv_sub hl [0, 2, 3, 4, 5] rfl) KX0
  have LP72 : ∀ (Q : State → Prop) (n : Nat) (w3_72 : Int32) (w2_72 : Int32) (w1_72 : Int32) (v_t_trace_72 : Int64) (v_t_typed_72 : Int32) (v_t_noted_72 : Int32) (v_t_at_72 : Int32) (v_t_sort_72 : Int32) (v_t_start_72 : Int32) (v_t_value_72 : Int32) (v_t_bestMany_72 : Int32) (v_t_bestWorth_72 : Int32) (v_t_bestHour_72 : Int32) (r_t_told_72 : Nat → Int32) (r_t_pairs_72 : Nat → Int32) (y_72 : Int32 × Int32 × (Nat → Int32)), fX11_spoons_72 w1_72 r_t_told_72 n w3_72 w2_72 r_t_pairs_72 = some y_72 → ∀ (H : Heap) (locs : List Loc) (ls : Array Slot), va_P D vwCl [ob q_t 11 [.long v_t_trace_72, .ref q_t_text, .int v_t_typed_72, .ref q_t_told, .ref q_t_draft, .ref q_t_s, .ref q_t_images, .ref q_t_kept, .ref q_t_heard, .ref q_t_hours, .int v_t_noted_72, .int v_t_at_72, .int v_t_sort_72, .int v_t_start_72, .int v_t_value_72, .ref q_t_row, .ref q_t_best, .int v_t_bestMany_72, .int v_t_bestWorth_72, .int v_t_bestHour_72, .ref q_t_places, .ref q_t_pairs], ia C q_t_told 52 r_t_told_72, ia C q_t_pairs 256 r_t_pairs_72] H → va_D A [ob q_t 11 [.long v_t_trace_72, .ref q_t_text, .int v_t_typed_72, .ref q_t_told, .ref q_t_draft, .ref q_t_s, .ref q_t_images, .ref q_t_kept, .ref q_t_heard, .ref q_t_hours, .int v_t_noted_72, .int v_t_at_72, .int v_t_sort_72, .int v_t_start_72, .int v_t_value_72, .ref q_t_row, .ref q_t_best, .int v_t_bestMany_72, .int v_t_bestWorth_72, .int v_t_bestHour_72, .ref q_t_places, .ref q_t_pairs], ia C q_t_told 52 r_t_told_72, ia C q_t_pairs 256 r_t_pairs_72] → va_S A s.heap H locs → lv_has ls 8 [(3, .int w3_72), (2, .int w2_72), (1, .int w1_72), (0, .ref q_t)] → (∀ (H : Heap) (locs : List Loc) (ls : Array Slot), va_P D vwCl [ob q_t 11 [.long v_t_trace_72, .ref q_t_text, .int v_t_typed_72, .ref q_t_told, .ref q_t_draft, .ref q_t_s, .ref q_t_images, .ref q_t_kept, .ref q_t_heard, .ref q_t_hours, .int v_t_noted_72, .int v_t_at_72, .int v_t_sort_72, .int v_t_start_72, .int v_t_value_72, .ref q_t_row, .ref q_t_best, .int v_t_bestMany_72, .int v_t_bestWorth_72, .int v_t_bestHour_72, .ref q_t_places, .ref q_t_pairs], ia C q_t_told 52 r_t_told_72, ia C q_t_pairs 256 y_72.2.2] H → va_D A [ob q_t 11 [.long v_t_trace_72, .ref q_t_text, .int v_t_typed_72, .ref q_t_told, .ref q_t_draft, .ref q_t_s, .ref q_t_images, .ref q_t_kept, .ref q_t_heard, .ref q_t_hours, .int v_t_noted_72, .int v_t_at_72, .int v_t_sort_72, .int v_t_start_72, .int v_t_value_72, .ref q_t_row, .ref q_t_best, .int v_t_bestMany_72, .int v_t_bestWorth_72, .int v_t_bestHour_72, .ref q_t_places, .ref q_t_pairs], ia C q_t_told 52 r_t_told_72, ia C q_t_pairs 256 y_72.2.2] → va_S A s.heap H locs → lv_has ls 8 [(3, .int y_72.1), (2, .int y_72.2.1), (1, .int w1_72), (0, .ref q_t)] → W p l e ({ frames := 2, cells := 0, slots := 0, locals := 45 } : Room) s m ([.ref q_t] : List Value).toArray below meth c H locs 0 0 Q (F0 m 351 ls [])) → W p l e ({ frames := 2, cells := 0, slots := 0, locals := 45 } : Room) s m ([.ref q_t] : List Value).toArray below meth c H locs 0 0 Q (F0 m 72 ls []) := by
    intro Q n
    induction n with
    | zero =>
      intro w3_72 w2_72 w1_72 v_t_trace_72 v_t_typed_72 v_t_noted_72 v_t_at_72 v_t_sort_72 v_t_start_72 v_t_value_72 v_t_bestMany_72 v_t_bestWorth_72 v_t_bestHour_72 r_t_told_72 r_t_pairs_72 y_72 hf
      rw [fX11_spoons_72] at hf
      cases hf
    | succ n ih =>
      intro w3_72 w2_72 w1_72 v_t_trace_72 v_t_typed_72 v_t_noted_72 v_t_at_72 v_t_sort_72 v_t_start_72 v_t_value_72 v_t_bestMany_72 v_t_bestWorth_72 v_t_bestHour_72 r_t_told_72 r_t_pairs_72 y_72 hf H locs ls hP hD hS hl KX0
      rw [fX11_spoons_72] at hf
      refine lv_iload_n hx hb dX11_spoons_72 rfl (lv_at hl 0 rfl) ?_
      refine lv_iload_n hx hb dX11_spoons_73 rfl (lv_at hl 2 rfl) ?_
      refine lv_icmp_ge (tgt := 351) hx hb dX11_spoons_74 (by decide) (fun c13 => ?_) (fun c13 => ?_)
      · have hf := of_pos hf c13
        obtain rfl := Option.some.inj hf
        exact KX0 _ _ _ hP hD hS (lv_sub hl [0, 1, 2, 3] rfl)
      · have hf := of_neg hf c13
        refine lv_iconst (v := (1 : Int32)) hx hb dX11_spoons_77 (by decide) ?_
        refine lv_iload_n hx hb dX11_spoons_78 rfl (lv_at hl 2 rfl) ?_
        refine lv_ishl hx hb dX11_spoons_79 ?_
        refine lv_iconst (v := (1 : Int32)) hx hb dX11_spoons_80 (by decide) ?_
        refine lv_isub hx hb dX11_spoons_81 ?_
        refine lv_topi (fun z14 ez14 => ?_)
        have hf := of_lt hf ez14
        refine lv_istore (lv' := [(4, .int z14), (3, .int w3_72), (2, .int w2_72), (1, .int w1_72), (0, .ref q_t)]) hx hb dX11_spoons_82 hl (by decide) rfl (fun ls hl => ?_)
        obtain ⟨y15, hy15, hf⟩ := of_bind hf
        refine LP84 _ FU _ _ _ _ _ _ _ _ _ _ _ _ _ _ _ _ y15 hy15 H locs ls hP hD hS (lv_sub hl [0, 1, 2, 3, 4] rfl) (fun H locs ls hP hD hS hl => ?_)
        obtain ⟨z16, ez16⟩ : ∃ y : Int32, y = (w3_72 + (1 : Int32)) := ⟨_, rfl⟩
        have hf := of_lt hf ez16
        refine lv_iinc (v := z16) (lv' := [(3, .int z16), (4, .int y15.1), (2, .int y15.2.1), (1, .int w1_72), (0, .ref q_t)]) hx hb dX11_spoons_345 hl (k := 1) rfl (by rw [ez16]; rfl) (by decide) rfl (fun ls hl => ?_)
        refine lv_goto (tgt := 72) hx hb dX11_spoons_348 (by decide) ?_
        exact ih _ _ _ _ _ _ _ _ _ _ _ _ _ _ _ _ hf H locs ls hP hD hS (lv_sub hl [0, 2, 3, 4] rfl) KX0
  refine lv_aload_n hx hb dX11_spoons_0 rfl (lv_at hl 0 rfl) ?_
  refine va_get (D := D) (ci := 11) (v := .ref q_t_told) (C := RX11) (T := TX11) (N := 22) hx hb hts inX11 hown hK hP 0 rfl rfl 3 (by decide) (hts (.fieldLink RX11 13 "LentCourageModel" "told" "[I") (List.mem_of_getElem? (i := 1) rfl)) (fun _ h9 => h9) rfl dX11_spoons_1 ?_
  refine lv_iconst (v := (1 : Int32)) hx hb dX11_spoons_4 (by decide) ?_
  refine ld_ialdK hx hb hK hP 1 0 rfl rfl (k := 1) (by decide) (by decide) (by decide) dX11_spoons_5 ?_
  refine lv_topi (fun z1 ez1 => ?_)
  have hf := of_lt hf ez1
  refine lv_istore_n (lv' := [(1, .int z1), (0, .ref q_t)]) hx hb dX11_spoons_6 rfl hl (by decide) rfl (fun ls hl => ?_)
  refine lv_iconst (v := (0 : Int32)) hx hb dX11_spoons_7 (by decide) ?_
  refine lv_istore_n (lv' := [(2, .int (0 : Int32)), (1, .int z1), (0, .ref q_t)]) hx hb dX11_spoons_8 rfl hl (by decide) rfl (fun ls hl => ?_)
  obtain ⟨y6, hy6, hf⟩ := of_bind hf
  refine LP9 _ FU _ _ _ _ _ _ _ _ _ _ _ _ _ _ y6 hy6 H locs ls hP hD hS (lv_sub hl [0, 1, 2] rfl) (fun H locs ls hz hP hD hS hl => ?_) (fun H locs ls hz hP hD hS hl => ?_)
  · have hf := hf
    have hf := of_pos hf hz
    refine lv_iconst (v := (0 : Int32)) hx hb dX11_spoons_38 (by decide) ?_
    refine lv_istore_n (lv' := [(2, .int (0 : Int32)), (1, .int z1), (0, .ref q_t)]) hx hb dX11_spoons_39 rfl hl (by decide) rfl (fun ls hl => ?_)
    obtain ⟨y12, hy12, hf⟩ := of_bind hf
    refine LP40 _ FU _ _ _ _ _ _ _ _ _ _ _ _ _ _ y12 hy12 H locs ls hP hD hS (lv_sub hl [0, 1, 2] rfl) (fun H locs ls hP hD hS hl => ?_)
    refine lv_iconst (v := (0 : Int32)) hx hb dX11_spoons_68 (by decide) ?_
    refine lv_istore_n (lv' := [(2, .int (0 : Int32)), (1, .int z1), (0, .ref q_t)]) hx hb dX11_spoons_69 rfl hl (by decide) rfl (fun ls hl => ?_)
    refine lv_iconst (v := (0 : Int32)) hx hb dX11_spoons_70 (by decide) ?_
    refine lv_istore_n (lv' := [(3, .int (0 : Int32)), (2, .int (0 : Int32)), (1, .int z1), (0, .ref q_t)]) hx hb dX11_spoons_71 rfl hl (by decide) rfl (fun ls hl => ?_)
    obtain ⟨y17, hy17, hf⟩ := of_bind hf
    refine LP72 _ FU _ _ _ _ _ _ _ _ _ _ _ _ _ _ _ y17 hy17 H locs ls hP hD hS (lv_sub hl [0, 1, 2, 3] rfl) (fun H locs ls hP hD hS hl => ?_)
    refine lv_iload_n hx hb dX11_spoons_351 rfl (lv_at hl 2 rfl) ?_
    refine lv_iload_n hx hb dX11_spoons_352 rfl (lv_at hl 1 rfl) ?_
    refine lv_isub hx hb dX11_spoons_353 ?_
    obtain rfl := Option.some.inj hf
    exact ret_I hx hb hr hlocks hK hP hD hS dX11_spoons_354
  · have hf := hf
    have hf := of_neg hf (by rw [hz]; decide)
    refine lv_bipush (v := (-9 : Int32)) hx hb dX11_spoons_29 (by decide) ?_
    obtain rfl := Option.some.inj hf
    exact ret_I hx hb hr hlocks hK hP hD hS dX11_spoons_31

def fX11_drawn_31 (w2_31 : Int32) (r_t_told_31 : Nat → Int32) (r_t_s_31 : Nat → Int32) : Nat → Int32 → Int32 → Int64 → (Nat → Int32) → (Nat → Int32) → Option (Int32 × Int32 × Int64 × (Nat → Int32) × (Nat → Int32))
  | 0, _, _, _, _, _ => none
  | n + 1, w6_31, w5_31, w3_31, r_t_row_31, r_t_places_31 => (if w2_31 ≤ w6_31 then some (w6_31, w5_31, w3_31, r_t_row_31, r_t_places_31) else (if (r_t_told_31 1) ≤ 0 then some (w6_31, w5_31, w3_31, r_t_row_31, r_t_places_31) else lt_ ((((75 : Int64) * w3_31) + (74 : Int64)) - (((75 : Int64) * w3_31) + (74 : Int64)) / (65537 : Int64) * (65537 : Int64)) (fun z8 => chk (¬ (((r_t_told_31 1)).toInt64) = 0) ((fX11_mayBe r_t_told_31 r_t_s_31 r_t_row_31 r_t_places_31 w5_31 (((z8 - z8 / (((r_t_told_31 1)).toInt64) * (((r_t_told_31 1)).toInt64))).toInt32)).bind (fun o10 => lt_ (w5_31 + (if o10.1 = 0 then (0 : Int32) else (1 : Int32))) (fun z12 => lt_ (w6_31 + (1 : Int32)) (fun z13 => fX11_drawn_31 w2_31 r_t_told_31 r_t_s_31 n z13 z12 z8 o10.2.1 o10.2.2)))))))
def fX11_drawn (r_t_told : Nat → Int32) (r_t_s : Nat → Int32) (r_t_row : Nat → Int32) (r_t_places : Nat → Int32) (p1 : Int32) (p2 : Int32) : Option (Int32 × (Nat → Int32) × (Nat → Int32)) :=
  (fX11_in p1 (0 : Int32) (99999 : Int32)).bind (fun o1 => (if o1 = 0 then some ((-1 : Int32), r_t_row, r_t_places) else (fX11_in p2 (0 : Int32) (20 : Int32)).bind (fun o3 => (if o3 = 0 then some ((-1 : Int32), r_t_row, r_t_places) else lt_ ((p1).toInt64) (fun z5 => (fX11_drawn_31 p2 r_t_told r_t_s FU (0 : Int32) (0 : Int32) z5 r_t_row r_t_places).bind (fun y14 => (fX11_worthOf r_t_told y14.2.2.2.1 y14.2.1).bind (fun o15 => some (o15, y14.2.2.2.1, y14.2.2.2.2))))))))
theorem hd_X11_drawn : yX11_drawn.cls = RX11 ∧ yX11_drawn.cls ≠ "java/lang/invoke/MethodHandle" ∧ yX11_drawn.cls ≠ "java/lang/invoke/VarHandle" ∧ (parseMethodDescriptor yX11_drawn.desc).map (fun d => d.parameters.length) = some 2 := by decide +kernel
set_option maxHeartbeats 4000000 in
set_option maxRecDepth 100000 in
theorem k_X11_drawn (l : Launch) (D : va_G) (C : Nat → ClassId) (q_t : Nat) (q_t_text : Nat) (q_t_told : Nat) (q_t_draft : Nat) (q_t_s : Nat) (q_t_images : Nat) (q_t_kept : Nat) (q_t_heard : Nat) (q_t_hours : Nat) (q_t_row : Nat) (q_t_best : Nat) (q_t_places : Nat) (q_t_pairs : Nat) (v_t_trace : Int64) (v_t_typed : Int32) (v_t_noted : Int32) (v_t_at : Int32) (v_t_sort : Int32) (v_t_start : Int32) (v_t_value : Int32) (v_t_bestMany : Int32) (v_t_bestWorth : Int32) (v_t_bestHour : Int32) (r_t_told : Nat → Int32) (r_t_s : Nat → Int32) (r_t_row : Nat → Int32) (r_t_places : Nat → Int32) (p1 : Int32) (p2 : Int32) (sz : Nat) (out : Int32 × (Nat → Int32) × (Nat → Int32)) (hf : fX11_drawn r_t_told r_t_s r_t_row r_t_places p1 p2 = some out) : MI l yX11_drawn wsX11_drawn ({ frames := 4, cells := 0, slots := 0, locals := 92 }) D C [.ref q_t, .int p1, .int p2] [ob q_t 11 [.long v_t_trace, .ref q_t_text, .int v_t_typed, .ref q_t_told, .ref q_t_draft, .ref q_t_s, .ref q_t_images, .ref q_t_kept, .ref q_t_heard, .ref q_t_hours, .int v_t_noted, .int v_t_at, .int v_t_sort, .int v_t_start, .int v_t_value, .ref q_t_row, .ref q_t_best, .int v_t_bestMany, .int v_t_bestWorth, .int v_t_bestHour, .ref q_t_places, .ref q_t_pairs], ia C q_t_told 52 r_t_told, ia C q_t_s 254 r_t_s, ia C q_t_row 8 r_t_row, ia C q_t_places 6 r_t_places] [ob q_t 11 [.long v_t_trace, .ref q_t_text, .int v_t_typed, .ref q_t_told, .ref q_t_draft, .ref q_t_s, .ref q_t_images, .ref q_t_kept, .ref q_t_heard, .ref q_t_hours, .int v_t_noted, .int v_t_at, .int v_t_sort, .int v_t_start, .int v_t_value, .ref q_t_row, .ref q_t_best, .int v_t_bestMany, .int v_t_bestWorth, .int v_t_bestHour, .ref q_t_places, .ref q_t_pairs], ia C q_t_told 52 r_t_told, ia C q_t_s 254 r_t_s, ia C q_t_row 8 out.2.1, ia C q_t_places 6 out.2.2] sz (out.1) := by
  unfold fX11_drawn at hf
  refine en_I (by decide) rfl (Nat.le_of_ble_eq_true rfl) ?_
  intro p e s m below meth c A ls H locs hx hb hr hlocks hml hts hown hK hP hD hS hA hl
  have hl : lv_has ls 7 [(0, .ref q_t), (1, .int p1), (2, .int p2)] := hl
  have inX11 : ∀ w ∈ u_ws RX11 TX11 22, w ∈ wsX11_drawn := fun w h => List.mem_cons_of_mem _ (List.mem_append_right _ h)
  have LP31 : ∀ (Q : State → Prop) (n : Nat) (w6_31 : Int32) (w5_31 : Int32) (w3_31 : Int64) (w1_31 : Int32) (w2_31 : Int32) (v_t_trace_31 : Int64) (v_t_typed_31 : Int32) (v_t_noted_31 : Int32) (v_t_at_31 : Int32) (v_t_sort_31 : Int32) (v_t_start_31 : Int32) (v_t_value_31 : Int32) (v_t_bestMany_31 : Int32) (v_t_bestWorth_31 : Int32) (v_t_bestHour_31 : Int32) (r_t_told_31 : Nat → Int32) (r_t_s_31 : Nat → Int32) (r_t_row_31 : Nat → Int32) (r_t_places_31 : Nat → Int32) (y_31 : Int32 × Int32 × Int64 × (Nat → Int32) × (Nat → Int32)), fX11_drawn_31 w2_31 r_t_told_31 r_t_s_31 n w6_31 w5_31 w3_31 r_t_row_31 r_t_places_31 = some y_31 → ∀ (H : Heap) (locs : List Loc) (ls : Array Slot), va_P D vwCl [ob q_t 11 [.long v_t_trace_31, .ref q_t_text, .int v_t_typed_31, .ref q_t_told, .ref q_t_draft, .ref q_t_s, .ref q_t_images, .ref q_t_kept, .ref q_t_heard, .ref q_t_hours, .int v_t_noted_31, .int v_t_at_31, .int v_t_sort_31, .int v_t_start_31, .int v_t_value_31, .ref q_t_row, .ref q_t_best, .int v_t_bestMany_31, .int v_t_bestWorth_31, .int v_t_bestHour_31, .ref q_t_places, .ref q_t_pairs], ia C q_t_told 52 r_t_told_31, ia C q_t_s 254 r_t_s_31, ia C q_t_row 8 r_t_row_31, ia C q_t_places 6 r_t_places_31] H → va_D A [ob q_t 11 [.long v_t_trace_31, .ref q_t_text, .int v_t_typed_31, .ref q_t_told, .ref q_t_draft, .ref q_t_s, .ref q_t_images, .ref q_t_kept, .ref q_t_heard, .ref q_t_hours, .int v_t_noted_31, .int v_t_at_31, .int v_t_sort_31, .int v_t_start_31, .int v_t_value_31, .ref q_t_row, .ref q_t_best, .int v_t_bestMany_31, .int v_t_bestWorth_31, .int v_t_bestHour_31, .ref q_t_places, .ref q_t_pairs], ia C q_t_told 52 r_t_told_31, ia C q_t_s 254 r_t_s_31, ia C q_t_row 8 r_t_row_31, ia C q_t_places 6 r_t_places_31] → va_S A s.heap H locs → lv_has ls 7 [(6, .int w6_31), (5, .int w5_31), (3, .long w3_31), (0, .ref q_t), (1, .int w1_31), (2, .int w2_31)] → (∀ (H : Heap) (locs : List Loc) (ls : Array Slot), va_P D vwCl [ob q_t 11 [.long v_t_trace_31, .ref q_t_text, .int v_t_typed_31, .ref q_t_told, .ref q_t_draft, .ref q_t_s, .ref q_t_images, .ref q_t_kept, .ref q_t_heard, .ref q_t_hours, .int v_t_noted_31, .int v_t_at_31, .int v_t_sort_31, .int v_t_start_31, .int v_t_value_31, .ref q_t_row, .ref q_t_best, .int v_t_bestMany_31, .int v_t_bestWorth_31, .int v_t_bestHour_31, .ref q_t_places, .ref q_t_pairs], ia C q_t_told 52 r_t_told_31, ia C q_t_s 254 r_t_s_31, ia C q_t_row 8 y_31.2.2.2.1, ia C q_t_places 6 y_31.2.2.2.2] H → va_D A [ob q_t 11 [.long v_t_trace_31, .ref q_t_text, .int v_t_typed_31, .ref q_t_told, .ref q_t_draft, .ref q_t_s, .ref q_t_images, .ref q_t_kept, .ref q_t_heard, .ref q_t_hours, .int v_t_noted_31, .int v_t_at_31, .int v_t_sort_31, .int v_t_start_31, .int v_t_value_31, .ref q_t_row, .ref q_t_best, .int v_t_bestMany_31, .int v_t_bestWorth_31, .int v_t_bestHour_31, .ref q_t_places, .ref q_t_pairs], ia C q_t_told 52 r_t_told_31, ia C q_t_s 254 r_t_s_31, ia C q_t_row 8 y_31.2.2.2.1, ia C q_t_places 6 y_31.2.2.2.2] → va_S A s.heap H locs → lv_has ls 7 [(6, .int y_31.1), (5, .int y_31.2.1), (3, .long y_31.2.2.1), (0, .ref q_t), (1, .int w1_31), (2, .int w2_31)] → W p l e ({ frames := 4, cells := 0, slots := 0, locals := 92 } : Room) s m ([.ref q_t, .int p1, .int p2] : List Value).toArray below meth c H locs 0 0 Q (F0 m 95 ls [])) → W p l e ({ frames := 4, cells := 0, slots := 0, locals := 92 } : Room) s m ([.ref q_t, .int p1, .int p2] : List Value).toArray below meth c H locs 0 0 Q (F0 m 31 ls []) := by
    intro Q n
    induction n with
    | zero =>
      intro w6_31 w5_31 w3_31 w1_31 w2_31 v_t_trace_31 v_t_typed_31 v_t_noted_31 v_t_at_31 v_t_sort_31 v_t_start_31 v_t_value_31 v_t_bestMany_31 v_t_bestWorth_31 v_t_bestHour_31 r_t_told_31 r_t_s_31 r_t_row_31 r_t_places_31 y_31 hf
      rw [fX11_drawn_31] at hf
      cases hf
    | succ n ih =>
      intro w6_31 w5_31 w3_31 w1_31 w2_31 v_t_trace_31 v_t_typed_31 v_t_noted_31 v_t_at_31 v_t_sort_31 v_t_start_31 v_t_value_31 v_t_bestMany_31 v_t_bestWorth_31 v_t_bestHour_31 r_t_told_31 r_t_s_31 r_t_row_31 r_t_places_31 y_31 hf H locs ls hP hD hS hl KX0
      rw [fX11_drawn_31] at hf
      refine lv_iload hx hb dX11_drawn_31 (lv_at hl 0 rfl) ?_
      refine lv_iload_n hx hb dX11_drawn_33 rfl (lv_at hl 5 rfl) ?_
      refine lv_icmp_ge (tgt := 95) hx hb dX11_drawn_34 (by decide) (fun c6 => ?_) (fun c6 => ?_)
      · have hf := of_pos hf c6
        obtain rfl := Option.some.inj hf
        exact KX0 _ _ _ hP hD hS (lv_sub hl [0, 1, 2, 3, 4, 5] rfl)
      · have hf := of_neg hf c6
        refine lv_aload_n hx hb dX11_drawn_37 rfl (lv_at hl 3 rfl) ?_
        refine va_get (D := D) (ci := 11) (v := .ref q_t_told) (C := RX11) (T := TX11) (N := 22) hx hb hts inX11 hown hK hP 0 rfl rfl 3 (by decide) (hts (.fieldLink RX11 13 "LentCourageModel" "told" "[I") (List.mem_of_getElem? (i := 2) rfl)) (fun _ h9 => h9) rfl dX11_drawn_38 ?_
        refine lv_iconst (v := (1 : Int32)) hx hb dX11_drawn_41 (by decide) ?_
        refine ld_ialdK hx hb hK hP 1 0 rfl rfl (k := 1) (by decide) (by decide) (by decide) dX11_drawn_42 ?_
        refine lv_if_le (tgt := 95) hx hb dX11_drawn_43 (by decide) (fun c7 => ?_) (fun c7 => ?_)
        · have hf := of_pos hf c7
          obtain rfl := Option.some.inj hf
          exact KX0 _ _ _ hP hD hS (lv_sub hl [0, 1, 2, 3, 4, 5] rfl)
        · have hf := of_neg hf c7
          refine lv_ldc2 hx hb hown (hts (.constantLong RX11 161 (75)) (List.mem_of_getElem? (i := 3) rfl)) dX11_drawn_46 ?_
          refine lv_lload_n hx hb dX11_drawn_49 rfl (lv_at hl 2 rfl) ?_
          refine lv_lmul hx hb dX11_drawn_50 ?_
          refine lv_ldc2 hx hb hown (hts (.constantLong RX11 163 (74)) (List.mem_of_getElem? (i := 4) rfl)) dX11_drawn_51 ?_
          refine lv_ladd hx hb dX11_drawn_54 ?_
          refine lv_ldc2 hx hb hown (hts (.constantLong RX11 165 (65537)) (List.mem_of_getElem? (i := 5) rfl)) dX11_drawn_55 ?_
          refine lv_lrem hx hb dX11_drawn_58 (by decide) ?_
          refine lv_topl (fun z8 ez8 => ?_)
          have hf := of_lt hf ez8
          refine lv_lstore_n (lv' := [(3, .long z8), (6, .int w6_31), (5, .int w5_31), (0, .ref q_t), (1, .int w1_31), (2, .int w2_31)]) hx hb dX11_drawn_59 rfl hl (by decide) rfl (fun ls hl => ?_)
          refine lv_iload hx hb dX11_drawn_60 (lv_at hl 2 rfl) ?_
          refine lv_aload_n hx hb dX11_drawn_62 rfl (lv_at hl 3 rfl) ?_
          refine lv_iload hx hb dX11_drawn_63 (lv_at hl 2 rfl) ?_
          refine lv_lload_n hx hb dX11_drawn_65 rfl (lv_at hl 0 rfl) ?_
          refine lv_aload_n hx hb dX11_drawn_66 rfl (lv_at hl 3 rfl) ?_
          refine va_get (D := D) (ci := 11) (v := .ref q_t_told) (C := RX11) (T := TX11) (N := 22) hx hb hts inX11 hown hK hP 0 rfl rfl 3 (by decide) (hts (.fieldLink RX11 13 "LentCourageModel" "told" "[I") (List.mem_of_getElem? (i := 2) rfl)) (fun _ h9 => h9) rfl dX11_drawn_67 ?_
          refine lv_iconst (v := (1 : Int32)) hx hb dX11_drawn_70 (by decide) ?_
          refine ld_ialdK hx hb hK hP 1 0 rfl rfl (k := 1) (by decide) (by decide) (by decide) dX11_drawn_71 ?_
          refine lv_i2l hx hb dX11_drawn_72 rfl ?_
          obtain ⟨h9, hf⟩ := of_chk hf
          refine lv_lrem hx hb dX11_drawn_73 h9 ?_
          refine lv_l2i hx hb dX11_drawn_74 rfl ?_
          obtain ⟨o10, ho10, hf⟩ := of_bind hf
          refine c_I (wr := []) (W2 := [ob q_t 11 [.long v_t_trace_31, .ref q_t_text, .int v_t_typed_31, .ref q_t_told, .ref q_t_draft, .ref q_t_s, .ref q_t_images, .ref q_t_kept, .ref q_t_heard, .ref q_t_hours, .int v_t_noted_31, .int v_t_at_31, .int v_t_sort_31, .int v_t_start_31, .int v_t_value_31, .ref q_t_row, .ref q_t_best, .int v_t_bestMany_31, .int v_t_bestWorth_31, .int v_t_bestHour_31, .ref q_t_places, .ref q_t_pairs], ia C q_t_told 52 r_t_told_31, ia C q_t_s 254 r_t_s_31, ia C q_t_row 8 o10.2.1, ia C q_t_places 6 o10.2.2]) (cV_run ⟨hx, hb, hml, hown, hts⟩ (k_X11_mayBe l D C q_t q_t_text q_t_told q_t_draft q_t_s q_t_images q_t_kept q_t_heard q_t_hours q_t_row q_t_best q_t_places q_t_pairs v_t_trace_31 v_t_typed_31 v_t_noted_31 v_t_at_31 v_t_sort_31 v_t_start_31 v_t_value_31 v_t_bestMany_31 v_t_bestWorth_31 v_t_bestHour_31 r_t_told_31 r_t_s_31 r_t_row_31 r_t_places_31 w5_31 (((z8 - z8 / (((r_t_told_31 1)).toInt64) * (((r_t_told_31 1)).toInt64))).toInt32) H.size o10 ho10) gX11_drawn_X11_mayBe rfl ⟨rfl, rfl⟩ hd_X11_mayBe ⟨(Nat.le_of_ble_eq_true rfl), (Nat.le_of_ble_eq_true rfl)⟩ rfl hK (cut_in hK hP hD [0, 1, 2, 3, 4] rfl (by decide)) (ci := 11) rfl rfl rfl hl.1 rfl (Nat.le_of_ble_eq_true rfl) dX11_drawn_75 ⟨Nat.zero_le _, Nat.zero_le _⟩) hP hD hS hA [0, 1, 2, 3, 4] [] [0, 1, 2, 3, 4] rfl rfl (by decide) (by decide) rfl (by decide) (fun H locs hP hD hS => ?_)
          have hP : va_P D vwCl [ob q_t 11 [.long v_t_trace_31, .ref q_t_text, .int v_t_typed_31, .ref q_t_told, .ref q_t_draft, .ref q_t_s, .ref q_t_images, .ref q_t_kept, .ref q_t_heard, .ref q_t_hours, .int v_t_noted_31, .int v_t_at_31, .int v_t_sort_31, .int v_t_start_31, .int v_t_value_31, .ref q_t_row, .ref q_t_best, .int v_t_bestMany_31, .int v_t_bestWorth_31, .int v_t_bestHour_31, .ref q_t_places, .ref q_t_pairs], ia C q_t_told 52 r_t_told_31, ia C q_t_s 254 r_t_s_31, ia C q_t_row 8 o10.2.1, ia C q_t_places 6 o10.2.2] H := hP
          have hD : va_D A [ob q_t 11 [.long v_t_trace_31, .ref q_t_text, .int v_t_typed_31, .ref q_t_told, .ref q_t_draft, .ref q_t_s, .ref q_t_images, .ref q_t_kept, .ref q_t_heard, .ref q_t_hours, .int v_t_noted_31, .int v_t_at_31, .int v_t_sort_31, .int v_t_start_31, .int v_t_value_31, .ref q_t_row, .ref q_t_best, .int v_t_bestMany_31, .int v_t_bestWorth_31, .int v_t_bestHour_31, .ref q_t_places, .ref q_t_pairs], ia C q_t_told 52 r_t_told_31, ia C q_t_s 254 r_t_s_31, ia C q_t_row 8 o10.2.1, ia C q_t_places 6 o10.2.2] := hD
          refine jp (g2 := F0 m 86 ls [.int (if o10.1 = 0 then (0 : Int32) else (1 : Int32)), .int w5_31]) ?_ (fun JP => ?_)
          · refine lv_iadd hx hb dX11_drawn_86 ?_
            refine lv_topi (fun z12 ez12 => ?_)
            have hf := of_lt hf ez12
            refine lv_istore (lv' := [(5, .int z12), (3, .long z8), (6, .int w6_31), (0, .ref q_t), (1, .int w1_31), (2, .int w2_31)]) hx hb dX11_drawn_87 hl (by decide) rfl (fun ls hl => ?_)
            obtain ⟨z13, ez13⟩ : ∃ y : Int32, y = (w6_31 + (1 : Int32)) := ⟨_, rfl⟩
            have hf := of_lt hf ez13
            refine lv_iinc (v := z13) (lv' := [(6, .int z13), (5, .int z12), (3, .long z8), (0, .ref q_t), (1, .int w1_31), (2, .int w2_31)]) hx hb dX11_drawn_89 hl (k := 2) rfl (by rw [ez13]; rfl) (by decide) rfl (fun ls hl => ?_)
            refine lv_goto (tgt := 31) hx hb dX11_drawn_92 (by decide) ?_
            exact ih _ _ _ _ _ _ _ _ _ _ _ _ _ _ _ _ _ _ _ _ hf H locs ls hP hD hS (lv_sub hl [0, 1, 2, 3, 4, 5] rfl) KX0
          · refine lv_if_eq (tgt := 85) hx hb dX11_drawn_78 (by decide) (fun c11 => ?_) (fun c11 => ?_)
            · refine lv_iconst (v := (0 : Int32)) hx hb dX11_drawn_85 (by decide) ?_
              exact W.eq (congrArg (fun x => F0 m 86 ls (Value.int x :: [.int w5_31])) (if_pos c11).symm) JP
            · refine lv_iconst (v := (1 : Int32)) hx hb dX11_drawn_81 (by decide) ?_
              refine lv_goto (tgt := 86) hx hb dX11_drawn_82 (by decide) ?_
              exact W.eq (congrArg (fun x => F0 m 86 ls (Value.int x :: [.int w5_31])) (if_neg c11).symm) JP
  refine lv_iload_n hx hb dX11_drawn_0 rfl (lv_at hl 1 rfl) ?_
  refine lv_iconst (v := (0 : Int32)) hx hb dX11_drawn_1 (by decide) ?_
  refine lv_ldc hx hb hown (hts (.constant RX11 160 (99999)) (List.mem_of_getElem? (i := 1) rfl)) dX11_drawn_2 ?_
  obtain ⟨o1, ho1, hf⟩ := of_bind hf
  refine c_I (wr := [ob q_t 11 [.long v_t_trace, .ref q_t_text, .int v_t_typed, .ref q_t_told, .ref q_t_draft, .ref q_t_s, .ref q_t_images, .ref q_t_kept, .ref q_t_heard, .ref q_t_hours, .int v_t_noted, .int v_t_at, .int v_t_sort, .int v_t_start, .int v_t_value, .ref q_t_row, .ref q_t_best, .int v_t_bestMany, .int v_t_bestWorth, .int v_t_bestHour, .ref q_t_places, .ref q_t_pairs], ia C q_t_told 52 r_t_told, ia C q_t_s 254 r_t_s, ia C q_t_row 8 r_t_row, ia C q_t_places 6 r_t_places]) (W2 := [ob q_t 11 [.long v_t_trace, .ref q_t_text, .int v_t_typed, .ref q_t_told, .ref q_t_draft, .ref q_t_s, .ref q_t_images, .ref q_t_kept, .ref q_t_heard, .ref q_t_hours, .int v_t_noted, .int v_t_at, .int v_t_sort, .int v_t_start, .int v_t_value, .ref q_t_row, .ref q_t_best, .int v_t_bestMany, .int v_t_bestWorth, .int v_t_bestHour, .ref q_t_places, .ref q_t_pairs], ia C q_t_told 52 r_t_told, ia C q_t_s 254 r_t_s, ia C q_t_row 8 r_t_row, ia C q_t_places 6 r_t_places]) (cS_run ⟨hx, hb, hml, hown, hts⟩ (k_X11_in l D C p1 (0 : Int32) (99999 : Int32) H.size o1 ho1) gX11_drawn_X11_in rfl ⟨rfl, rfl⟩ hd_X11_in ⟨(Nat.le_of_ble_eq_true rfl), (Nat.le_of_ble_eq_true rfl)⟩ rfl hK (cut_in hK hP hD [] rfl (by decide)) hl.1 rfl (Nat.le_of_ble_eq_true rfl) dX11_drawn_4 ⟨Nat.zero_le _, Nat.zero_le _⟩) hP hD hS hA [] [0, 1, 2, 3, 4] [0, 1, 2, 3, 4] rfl rfl (by decide) (by decide) rfl (by decide) (fun H locs hP hD hS => ?_)
  have hP : va_P D vwCl [ob q_t 11 [.long v_t_trace, .ref q_t_text, .int v_t_typed, .ref q_t_told, .ref q_t_draft, .ref q_t_s, .ref q_t_images, .ref q_t_kept, .ref q_t_heard, .ref q_t_hours, .int v_t_noted, .int v_t_at, .int v_t_sort, .int v_t_start, .int v_t_value, .ref q_t_row, .ref q_t_best, .int v_t_bestMany, .int v_t_bestWorth, .int v_t_bestHour, .ref q_t_places, .ref q_t_pairs], ia C q_t_told 52 r_t_told, ia C q_t_s 254 r_t_s, ia C q_t_row 8 r_t_row, ia C q_t_places 6 r_t_places] H := hP
  have hD : va_D A [ob q_t 11 [.long v_t_trace, .ref q_t_text, .int v_t_typed, .ref q_t_told, .ref q_t_draft, .ref q_t_s, .ref q_t_images, .ref q_t_kept, .ref q_t_heard, .ref q_t_hours, .int v_t_noted, .int v_t_at, .int v_t_sort, .int v_t_start, .int v_t_value, .ref q_t_row, .ref q_t_best, .int v_t_bestMany, .int v_t_bestWorth, .int v_t_bestHour, .ref q_t_places, .ref q_t_pairs], ia C q_t_told 52 r_t_told, ia C q_t_s 254 r_t_s, ia C q_t_row 8 r_t_row, ia C q_t_places 6 r_t_places] := hD
  refine lv_if_eq (tgt := 20) hx hb dX11_drawn_7 (by decide) (fun c2 => ?_) (fun c2 => ?_)
  · have hf := of_pos hf c2
    refine lv_iconst (v := (-1 : Int32)) hx hb dX11_drawn_20 (by decide) ?_
    obtain rfl := Option.some.inj hf
    exact ret_I hx hb hr hlocks hK hP hD hS dX11_drawn_21
  · have hf := of_neg hf c2
    refine lv_iload_n hx hb dX11_drawn_10 rfl (lv_at hl 2 rfl) ?_
    refine lv_iconst (v := (0 : Int32)) hx hb dX11_drawn_11 (by decide) ?_
    refine lv_bipush (v := (20 : Int32)) hx hb dX11_drawn_12 (by decide) ?_
    obtain ⟨o3, ho3, hf⟩ := of_bind hf
    refine c_I (wr := [ob q_t 11 [.long v_t_trace, .ref q_t_text, .int v_t_typed, .ref q_t_told, .ref q_t_draft, .ref q_t_s, .ref q_t_images, .ref q_t_kept, .ref q_t_heard, .ref q_t_hours, .int v_t_noted, .int v_t_at, .int v_t_sort, .int v_t_start, .int v_t_value, .ref q_t_row, .ref q_t_best, .int v_t_bestMany, .int v_t_bestWorth, .int v_t_bestHour, .ref q_t_places, .ref q_t_pairs], ia C q_t_told 52 r_t_told, ia C q_t_s 254 r_t_s, ia C q_t_row 8 r_t_row, ia C q_t_places 6 r_t_places]) (W2 := [ob q_t 11 [.long v_t_trace, .ref q_t_text, .int v_t_typed, .ref q_t_told, .ref q_t_draft, .ref q_t_s, .ref q_t_images, .ref q_t_kept, .ref q_t_heard, .ref q_t_hours, .int v_t_noted, .int v_t_at, .int v_t_sort, .int v_t_start, .int v_t_value, .ref q_t_row, .ref q_t_best, .int v_t_bestMany, .int v_t_bestWorth, .int v_t_bestHour, .ref q_t_places, .ref q_t_pairs], ia C q_t_told 52 r_t_told, ia C q_t_s 254 r_t_s, ia C q_t_row 8 r_t_row, ia C q_t_places 6 r_t_places]) (cS_run ⟨hx, hb, hml, hown, hts⟩ (k_X11_in l D C p2 (0 : Int32) (20 : Int32) H.size o3 ho3) gX11_drawn_X11_in rfl ⟨rfl, rfl⟩ hd_X11_in ⟨(Nat.le_of_ble_eq_true rfl), (Nat.le_of_ble_eq_true rfl)⟩ rfl hK (cut_in hK hP hD [] rfl (by decide)) hl.1 rfl (Nat.le_of_ble_eq_true rfl) dX11_drawn_14 ⟨Nat.zero_le _, Nat.zero_le _⟩) hP hD hS hA [] [0, 1, 2, 3, 4] [0, 1, 2, 3, 4] rfl rfl (by decide) (by decide) rfl (by decide) (fun H locs hP hD hS => ?_)
    have hP : va_P D vwCl [ob q_t 11 [.long v_t_trace, .ref q_t_text, .int v_t_typed, .ref q_t_told, .ref q_t_draft, .ref q_t_s, .ref q_t_images, .ref q_t_kept, .ref q_t_heard, .ref q_t_hours, .int v_t_noted, .int v_t_at, .int v_t_sort, .int v_t_start, .int v_t_value, .ref q_t_row, .ref q_t_best, .int v_t_bestMany, .int v_t_bestWorth, .int v_t_bestHour, .ref q_t_places, .ref q_t_pairs], ia C q_t_told 52 r_t_told, ia C q_t_s 254 r_t_s, ia C q_t_row 8 r_t_row, ia C q_t_places 6 r_t_places] H := hP
    have hD : va_D A [ob q_t 11 [.long v_t_trace, .ref q_t_text, .int v_t_typed, .ref q_t_told, .ref q_t_draft, .ref q_t_s, .ref q_t_images, .ref q_t_kept, .ref q_t_heard, .ref q_t_hours, .int v_t_noted, .int v_t_at, .int v_t_sort, .int v_t_start, .int v_t_value, .ref q_t_row, .ref q_t_best, .int v_t_bestMany, .int v_t_bestWorth, .int v_t_bestHour, .ref q_t_places, .ref q_t_pairs], ia C q_t_told 52 r_t_told, ia C q_t_s 254 r_t_s, ia C q_t_row 8 r_t_row, ia C q_t_places 6 r_t_places] := hD
    refine lv_if_ne (tgt := 22) hx hb dX11_drawn_17 (by decide) (fun c4 => ?_) (fun c4 => ?_)
    · have hf := of_neg hf c4
      refine lv_iload_n hx hb dX11_drawn_22 rfl (lv_at hl 1 rfl) ?_
      refine lv_i2l hx hb dX11_drawn_23 rfl ?_
      refine lv_topl (fun z5 ez5 => ?_)
      have hf := of_lt hf ez5
      refine lv_lstore_n (lv' := [(3, .long z5), (0, .ref q_t), (1, .int p1), (2, .int p2)]) hx hb dX11_drawn_24 rfl hl (by decide) rfl (fun ls hl => ?_)
      refine lv_iconst (v := (0 : Int32)) hx hb dX11_drawn_25 (by decide) ?_
      refine lv_istore (lv' := [(5, .int (0 : Int32)), (3, .long z5), (0, .ref q_t), (1, .int p1), (2, .int p2)]) hx hb dX11_drawn_26 hl (by decide) rfl (fun ls hl => ?_)
      refine lv_iconst (v := (0 : Int32)) hx hb dX11_drawn_28 (by decide) ?_
      refine lv_istore (lv' := [(6, .int (0 : Int32)), (5, .int (0 : Int32)), (3, .long z5), (0, .ref q_t), (1, .int p1), (2, .int p2)]) hx hb dX11_drawn_29 hl (by decide) rfl (fun ls hl => ?_)
      obtain ⟨y14, hy14, hf⟩ := of_bind hf
      refine LP31 _ FU _ _ _ _ _ _ _ _ _ _ _ _ _ _ _ _ _ _ _ y14 hy14 H locs ls hP hD hS (lv_sub hl [0, 1, 2, 3, 4, 5] rfl) (fun H locs ls hP hD hS hl => ?_)
      refine lv_aload_n hx hb dX11_drawn_95 rfl (lv_at hl 3 rfl) ?_
      refine lv_iload hx hb dX11_drawn_96 (lv_at hl 1 rfl) ?_
      obtain ⟨o15, ho15, hf⟩ := of_bind hf
      refine c_I (wr := [ia C q_t_s 254 r_t_s, ia C q_t_places 6 y14.2.2.2.2]) (W2 := [ob q_t 11 [.long v_t_trace, .ref q_t_text, .int v_t_typed, .ref q_t_told, .ref q_t_draft, .ref q_t_s, .ref q_t_images, .ref q_t_kept, .ref q_t_heard, .ref q_t_hours, .int v_t_noted, .int v_t_at, .int v_t_sort, .int v_t_start, .int v_t_value, .ref q_t_row, .ref q_t_best, .int v_t_bestMany, .int v_t_bestWorth, .int v_t_bestHour, .ref q_t_places, .ref q_t_pairs], ia C q_t_told 52 r_t_told, ia C q_t_s 254 r_t_s, ia C q_t_row 8 y14.2.2.2.1, ia C q_t_places 6 y14.2.2.2.2]) (cV_run ⟨hx, hb, hml, hown, hts⟩ (k_X11_worthOf l D C q_t q_t_text q_t_told q_t_draft q_t_s q_t_images q_t_kept q_t_heard q_t_hours q_t_row q_t_best q_t_places q_t_pairs v_t_trace v_t_typed v_t_noted v_t_at v_t_sort v_t_start v_t_value v_t_bestMany v_t_bestWorth v_t_bestHour r_t_told y14.2.2.2.1 y14.2.1 H.size o15 ho15) gX11_drawn_X11_worthOf rfl ⟨rfl, rfl⟩ hd_X11_worthOf ⟨(Nat.le_of_ble_eq_true rfl), (Nat.le_of_ble_eq_true rfl)⟩ rfl hK (cut_in hK hP hD [0, 1, 3] rfl (by decide)) (ci := 11) rfl rfl rfl hl.1 rfl (Nat.le_of_ble_eq_true rfl) dX11_drawn_98 ⟨Nat.zero_le _, Nat.zero_le _⟩) hP hD hS hA [0, 1, 3] [2, 4] [2, 3, 0, 4, 1] rfl rfl (by decide) (by decide) rfl (by decide) (fun H locs hP hD hS => ?_)
      have hP : va_P D vwCl [ob q_t 11 [.long v_t_trace, .ref q_t_text, .int v_t_typed, .ref q_t_told, .ref q_t_draft, .ref q_t_s, .ref q_t_images, .ref q_t_kept, .ref q_t_heard, .ref q_t_hours, .int v_t_noted, .int v_t_at, .int v_t_sort, .int v_t_start, .int v_t_value, .ref q_t_row, .ref q_t_best, .int v_t_bestMany, .int v_t_bestWorth, .int v_t_bestHour, .ref q_t_places, .ref q_t_pairs], ia C q_t_told 52 r_t_told, ia C q_t_s 254 r_t_s, ia C q_t_row 8 y14.2.2.2.1, ia C q_t_places 6 y14.2.2.2.2] H := hP
      have hD : va_D A [ob q_t 11 [.long v_t_trace, .ref q_t_text, .int v_t_typed, .ref q_t_told, .ref q_t_draft, .ref q_t_s, .ref q_t_images, .ref q_t_kept, .ref q_t_heard, .ref q_t_hours, .int v_t_noted, .int v_t_at, .int v_t_sort, .int v_t_start, .int v_t_value, .ref q_t_row, .ref q_t_best, .int v_t_bestMany, .int v_t_bestWorth, .int v_t_bestHour, .ref q_t_places, .ref q_t_pairs], ia C q_t_told 52 r_t_told, ia C q_t_s 254 r_t_s, ia C q_t_row 8 y14.2.2.2.1, ia C q_t_places 6 y14.2.2.2.2] := hD
      obtain rfl := Option.some.inj hf
      exact ret_I hx hb hr hlocks hK hP hD hS dX11_drawn_101
    · have hf := of_pos hf c4
      refine lv_iconst (v := (-1 : Int32)) hx hb dX11_drawn_20 (by decide) ?_
      obtain rfl := Option.some.inj hf
      exact ret_I hx hb hr hlocks hK hP hD hS dX11_drawn_21

def fX11_odds_40 (r_t_told_40 : Nat → Int32) (r_t_s_40 : Nat → Int32) : Nat → Int32 → Int32 → Int32 → Option (Int32 × Int32 × Int32)
  | 0, _, _, _ => none
  | n + 1, w6_40, w5_40, w4_40 => (if (r_t_told_40 1) ≤ w6_40 then some (w6_40, w5_40, w4_40) else (fX11_isDone r_t_s_40 w6_40).bind (fun o8 => lt_ (w4_40 + (if o8 = 0 then (1 : Int32) else (0 : Int32))) (fun z10 => (fX11_isDone r_t_s_40 w6_40).bind (fun o11 => lt_ (w5_40 * (if o11 = 0 then (10 : Int32) else (1 : Int32))) (fun z13 => lt_ (w6_40 + (1 : Int32)) (fun z14 => fX11_odds_40 r_t_told_40 r_t_s_40 n z14 z13 z10))))))
def fX11_odds_120 (w7_120 : Int32) (w4_120 : Int32) (w1_120 : Int32) : Nat → Int32 → Int32 → Int32 → Option (Int32 × Int32 × Int32)
  | 0, _, _, _ => none
  | n + 1, w10_120, w9_120, w8_120 => (if w4_120 ≤ w10_120 then some (w10_120, w9_120, w8_120) else (fX11_has w7_120 w10_120).bind (fun o18 => lt_ (w8_120 * (if o18 = 0 then ((10 : Int32) - w1_120) else w1_120)) (fun z20 => lt_ (w9_120 + ((w7_120 >>> (w10_120 &&& 31)) &&& (1 : Int32))) (fun z21 => lt_ (w10_120 + (1 : Int32)) (fun z22 => fX11_odds_120 w7_120 w4_120 w1_120 n z22 z21 z20)))))
def fX11_odds_102 (w4_102 : Int32) (w1_102 : Int32) (w2_102 : Int32) : Nat → Int32 → Int32 → Option (Int32 × Int32)
  | 0, _, _ => none
  | n + 1, w7_102, w6_102 => (if ((1 : Int32) <<< (w4_102 &&& 31)) ≤ w7_102 then some (w7_102, w6_102) else (fX11_odds_120 w7_102 w4_102 w1_102 FU (0 : Int32) (0 : Int32) (1 : Int32)).bind (fun y17 => lt_ (w6_102 + (if w2_102 < y17.2.1 then (0 : Int32) else y17.2.2)) (fun z19 => lt_ (w7_102 + (1 : Int32)) (fun z20 => fX11_odds_102 w4_102 w1_102 w2_102 n z20 z19))))
def fX11_odds_199 : Nat → Int32 → Int32 → Option (Int32 × Int32)
  | 0, _, _ => none
  | n + 1, w8_199, w7_199 => (if w8_199 ≤ 0 then some (w8_199, w7_199) else chk (¬ w8_199 = 0) (lt_ (w7_199 - w7_199 / w8_199 * w8_199) (fun z24 => fX11_odds_199  n z24 w8_199)))
def fX11_odds (r_t_told : Nat → Int32) (r_t_s : Nat → Int32) (p1 : Int32) (p2 : Int32) (p3 : Int32) : Option (Int32) :=
  (fX11_in p1 (0 : Int32) (10 : Int32)).bind (fun o1 => (if o1 = 0 then some (-1 : Int32) else (fX11_in p2 (0 : Int32) (8 : Int32)).bind (fun o3 => (if o3 = 0 then some (-1 : Int32) else (fX11_in p3 (0 : Int32) (1 : Int32)).bind (fun o5 => (if o5 = 0 then some (-1 : Int32) else (fX11_odds_40 r_t_told r_t_s FU (0 : Int32) (1 : Int32) (0 : Int32)).bind (fun y15 => (fX11_odds_102 y15.2.2 p1 p2 FU (0 : Int32) (0 : Int32)).bind (fun y21 => (fX11_odds_199  FU y15.2.1 y21.2).bind (fun y25 => ((if p3 = 0 then chk (¬ y25.2 = 0) (some (y21.2 / y25.2)) else chk (¬ y25.2 = 0) (some (y15.2.1 / y25.2)))).bind (fun j26 => some j26))))))))))
theorem hd_X11_odds : yX11_odds.cls = RX11 ∧ yX11_odds.cls ≠ "java/lang/invoke/MethodHandle" ∧ yX11_odds.cls ≠ "java/lang/invoke/VarHandle" ∧ (parseMethodDescriptor yX11_odds.desc).map (fun d => d.parameters.length) = some 3 := by decide +kernel
set_option maxHeartbeats 4000000 in
set_option maxRecDepth 100000 in
theorem k_X11_odds (l : Launch) (D : va_G) (C : Nat → ClassId) (q_t : Nat) (q_t_text : Nat) (q_t_told : Nat) (q_t_draft : Nat) (q_t_s : Nat) (q_t_images : Nat) (q_t_kept : Nat) (q_t_heard : Nat) (q_t_hours : Nat) (q_t_row : Nat) (q_t_best : Nat) (q_t_places : Nat) (q_t_pairs : Nat) (v_t_trace : Int64) (v_t_typed : Int32) (v_t_noted : Int32) (v_t_at : Int32) (v_t_sort : Int32) (v_t_start : Int32) (v_t_value : Int32) (v_t_bestMany : Int32) (v_t_bestWorth : Int32) (v_t_bestHour : Int32) (r_t_told : Nat → Int32) (r_t_s : Nat → Int32) (p1 : Int32) (p2 : Int32) (p3 : Int32) (sz : Nat) (out : Int32) (hf : fX11_odds r_t_told r_t_s p1 p2 p3 = some out) : MI l yX11_odds wsX11_odds ({ frames := 2, cells := 0, slots := 0, locals := 42 }) D C [.ref q_t, .int p1, .int p2, .int p3] [ob q_t 11 [.long v_t_trace, .ref q_t_text, .int v_t_typed, .ref q_t_told, .ref q_t_draft, .ref q_t_s, .ref q_t_images, .ref q_t_kept, .ref q_t_heard, .ref q_t_hours, .int v_t_noted, .int v_t_at, .int v_t_sort, .int v_t_start, .int v_t_value, .ref q_t_row, .ref q_t_best, .int v_t_bestMany, .int v_t_bestWorth, .int v_t_bestHour, .ref q_t_places, .ref q_t_pairs], ia C q_t_told 52 r_t_told, ia C q_t_s 254 r_t_s] [ob q_t 11 [.long v_t_trace, .ref q_t_text, .int v_t_typed, .ref q_t_told, .ref q_t_draft, .ref q_t_s, .ref q_t_images, .ref q_t_kept, .ref q_t_heard, .ref q_t_hours, .int v_t_noted, .int v_t_at, .int v_t_sort, .int v_t_start, .int v_t_value, .ref q_t_row, .ref q_t_best, .int v_t_bestMany, .int v_t_bestWorth, .int v_t_bestHour, .ref q_t_places, .ref q_t_pairs], ia C q_t_told 52 r_t_told, ia C q_t_s 254 r_t_s] sz (out) := by
  unfold fX11_odds at hf
  refine en_I (by decide) rfl (Nat.le_of_ble_eq_true rfl) ?_
  intro p e s m below meth c A ls H locs hx hb hr hlocks hml hts hown hK hP hD hS hA hl
  have hl : lv_has ls 11 [(0, .ref q_t), (1, .int p1), (2, .int p2), (3, .int p3)] := hl
  have inX11 : ∀ w ∈ u_ws RX11 TX11 22, w ∈ wsX11_odds := fun w h => List.mem_cons_of_mem _ (List.mem_append_right _ h)
  have LP40 : ∀ (Q : State → Prop) (n : Nat) (w6_40 : Int32) (w5_40 : Int32) (w4_40 : Int32) (w1_40 : Int32) (w2_40 : Int32) (w3_40 : Int32) (v_t_trace_40 : Int64) (v_t_typed_40 : Int32) (v_t_noted_40 : Int32) (v_t_at_40 : Int32) (v_t_sort_40 : Int32) (v_t_start_40 : Int32) (v_t_value_40 : Int32) (v_t_bestMany_40 : Int32) (v_t_bestWorth_40 : Int32) (v_t_bestHour_40 : Int32) (r_t_told_40 : Nat → Int32) (r_t_s_40 : Nat → Int32) (y_40 : Int32 × Int32 × Int32), fX11_odds_40 r_t_told_40 r_t_s_40 n w6_40 w5_40 w4_40 = some y_40 → ∀ (H : Heap) (locs : List Loc) (ls : Array Slot), va_P D vwCl [ob q_t 11 [.long v_t_trace_40, .ref q_t_text, .int v_t_typed_40, .ref q_t_told, .ref q_t_draft, .ref q_t_s, .ref q_t_images, .ref q_t_kept, .ref q_t_heard, .ref q_t_hours, .int v_t_noted_40, .int v_t_at_40, .int v_t_sort_40, .int v_t_start_40, .int v_t_value_40, .ref q_t_row, .ref q_t_best, .int v_t_bestMany_40, .int v_t_bestWorth_40, .int v_t_bestHour_40, .ref q_t_places, .ref q_t_pairs], ia C q_t_told 52 r_t_told_40, ia C q_t_s 254 r_t_s_40] H → va_D A [ob q_t 11 [.long v_t_trace_40, .ref q_t_text, .int v_t_typed_40, .ref q_t_told, .ref q_t_draft, .ref q_t_s, .ref q_t_images, .ref q_t_kept, .ref q_t_heard, .ref q_t_hours, .int v_t_noted_40, .int v_t_at_40, .int v_t_sort_40, .int v_t_start_40, .int v_t_value_40, .ref q_t_row, .ref q_t_best, .int v_t_bestMany_40, .int v_t_bestWorth_40, .int v_t_bestHour_40, .ref q_t_places, .ref q_t_pairs], ia C q_t_told 52 r_t_told_40, ia C q_t_s 254 r_t_s_40] → va_S A s.heap H locs → lv_has ls 11 [(6, .int w6_40), (5, .int w5_40), (4, .int w4_40), (0, .ref q_t), (1, .int w1_40), (2, .int w2_40), (3, .int w3_40)] → (∀ (H : Heap) (locs : List Loc) (ls : Array Slot), va_P D vwCl [ob q_t 11 [.long v_t_trace_40, .ref q_t_text, .int v_t_typed_40, .ref q_t_told, .ref q_t_draft, .ref q_t_s, .ref q_t_images, .ref q_t_kept, .ref q_t_heard, .ref q_t_hours, .int v_t_noted_40, .int v_t_at_40, .int v_t_sort_40, .int v_t_start_40, .int v_t_value_40, .ref q_t_row, .ref q_t_best, .int v_t_bestMany_40, .int v_t_bestWorth_40, .int v_t_bestHour_40, .ref q_t_places, .ref q_t_pairs], ia C q_t_told 52 r_t_told_40, ia C q_t_s 254 r_t_s_40] H → va_D A [ob q_t 11 [.long v_t_trace_40, .ref q_t_text, .int v_t_typed_40, .ref q_t_told, .ref q_t_draft, .ref q_t_s, .ref q_t_images, .ref q_t_kept, .ref q_t_heard, .ref q_t_hours, .int v_t_noted_40, .int v_t_at_40, .int v_t_sort_40, .int v_t_start_40, .int v_t_value_40, .ref q_t_row, .ref q_t_best, .int v_t_bestMany_40, .int v_t_bestWorth_40, .int v_t_bestHour_40, .ref q_t_places, .ref q_t_pairs], ia C q_t_told 52 r_t_told_40, ia C q_t_s 254 r_t_s_40] → va_S A s.heap H locs → lv_has ls 11 [(6, .int y_40.1), (5, .int y_40.2.1), (4, .int y_40.2.2), (0, .ref q_t), (1, .int w1_40), (2, .int w2_40), (3, .int w3_40)] → W p l e ({ frames := 2, cells := 0, slots := 0, locals := 42 } : Room) s m ([.ref q_t, .int p1, .int p2, .int p3] : List Value).toArray below meth c H locs 0 0 Q (F0 m 96 ls [])) → W p l e ({ frames := 2, cells := 0, slots := 0, locals := 42 } : Room) s m ([.ref q_t, .int p1, .int p2, .int p3] : List Value).toArray below meth c H locs 0 0 Q (F0 m 40 ls []) := by
    intro Q n
    induction n with
    | zero =>
      intro w6_40 w5_40 w4_40 w1_40 w2_40 w3_40 v_t_trace_40 v_t_typed_40 v_t_noted_40 v_t_at_40 v_t_sort_40 v_t_start_40 v_t_value_40 v_t_bestMany_40 v_t_bestWorth_40 v_t_bestHour_40 r_t_told_40 r_t_s_40 y_40 hf
      rw [fX11_odds_40] at hf
      cases hf
    | succ n ih =>
      intro w6_40 w5_40 w4_40 w1_40 w2_40 w3_40 v_t_trace_40 v_t_typed_40 v_t_noted_40 v_t_at_40 v_t_sort_40 v_t_start_40 v_t_value_40 v_t_bestMany_40 v_t_bestWorth_40 v_t_bestHour_40 r_t_told_40 r_t_s_40 y_40 hf H locs ls hP hD hS hl KX0
      rw [fX11_odds_40] at hf
      refine lv_iload hx hb dX11_odds_40 (lv_at hl 0 rfl) ?_
      refine lv_aload_n hx hb dX11_odds_42 rfl (lv_at hl 3 rfl) ?_
      refine va_get (D := D) (ci := 11) (v := .ref q_t_told) (C := RX11) (T := TX11) (N := 22) hx hb hts inX11 hown hK hP 0 rfl rfl 3 (by decide) (hts (.fieldLink RX11 13 "LentCourageModel" "told" "[I") (List.mem_of_getElem? (i := 1) rfl)) (fun _ h9 => h9) rfl dX11_odds_43 ?_
      refine lv_iconst (v := (1 : Int32)) hx hb dX11_odds_46 (by decide) ?_
      refine ld_ialdK hx hb hK hP 1 0 rfl rfl (k := 1) (by decide) (by decide) (by decide) dX11_odds_47 ?_
      refine lv_icmp_ge (tgt := 96) hx hb dX11_odds_48 (by decide) (fun c7 => ?_) (fun c7 => ?_)
      · have hf := of_pos hf c7
        obtain rfl := Option.some.inj hf
        exact KX0 _ _ _ hP hD hS (lv_sub hl [0, 1, 2, 3, 4, 5, 6] rfl)
      · have hf := of_neg hf c7
        refine lv_iload hx hb dX11_odds_51 (lv_at hl 2 rfl) ?_
        refine lv_aload_n hx hb dX11_odds_53 rfl (lv_at hl 3 rfl) ?_
        refine lv_iload hx hb dX11_odds_54 (lv_at hl 0 rfl) ?_
        obtain ⟨o8, ho8, hf⟩ := of_bind hf
        refine c_I (wr := [ia C q_t_told 52 r_t_told_40]) (W2 := [ob q_t 11 [.long v_t_trace_40, .ref q_t_text, .int v_t_typed_40, .ref q_t_told, .ref q_t_draft, .ref q_t_s, .ref q_t_images, .ref q_t_kept, .ref q_t_heard, .ref q_t_hours, .int v_t_noted_40, .int v_t_at_40, .int v_t_sort_40, .int v_t_start_40, .int v_t_value_40, .ref q_t_row, .ref q_t_best, .int v_t_bestMany_40, .int v_t_bestWorth_40, .int v_t_bestHour_40, .ref q_t_places, .ref q_t_pairs], ia C q_t_told 52 r_t_told_40, ia C q_t_s 254 r_t_s_40]) (cV_run ⟨hx, hb, hml, hown, hts⟩ (k_X11_isDone l D C q_t q_t_text q_t_told q_t_draft q_t_s q_t_images q_t_kept q_t_heard q_t_hours q_t_row q_t_best q_t_places q_t_pairs v_t_trace_40 v_t_typed_40 v_t_noted_40 v_t_at_40 v_t_sort_40 v_t_start_40 v_t_value_40 v_t_bestMany_40 v_t_bestWorth_40 v_t_bestHour_40 r_t_s_40 w6_40 H.size o8 ho8) gX11_odds_X11_isDone rfl ⟨rfl, rfl⟩ hd_X11_isDone ⟨(Nat.le_of_ble_eq_true rfl), (Nat.le_of_ble_eq_true rfl)⟩ rfl hK (cut_in hK hP hD [0, 2] rfl (by decide)) (ci := 11) rfl rfl rfl hl.1 rfl (Nat.le_of_ble_eq_true rfl) dX11_odds_56 ⟨Nat.zero_le _, Nat.zero_le _⟩) hP hD hS hA [0, 2] [1] [1, 0, 2] rfl rfl (by decide) (by decide) rfl (by decide) (fun H locs hP hD hS => ?_)
        have hP : va_P D vwCl [ob q_t 11 [.long v_t_trace_40, .ref q_t_text, .int v_t_typed_40, .ref q_t_told, .ref q_t_draft, .ref q_t_s, .ref q_t_images, .ref q_t_kept, .ref q_t_heard, .ref q_t_hours, .int v_t_noted_40, .int v_t_at_40, .int v_t_sort_40, .int v_t_start_40, .int v_t_value_40, .ref q_t_row, .ref q_t_best, .int v_t_bestMany_40, .int v_t_bestWorth_40, .int v_t_bestHour_40, .ref q_t_places, .ref q_t_pairs], ia C q_t_told 52 r_t_told_40, ia C q_t_s 254 r_t_s_40] H := hP
        have hD : va_D A [ob q_t 11 [.long v_t_trace_40, .ref q_t_text, .int v_t_typed_40, .ref q_t_told, .ref q_t_draft, .ref q_t_s, .ref q_t_images, .ref q_t_kept, .ref q_t_heard, .ref q_t_hours, .int v_t_noted_40, .int v_t_at_40, .int v_t_sort_40, .int v_t_start_40, .int v_t_value_40, .ref q_t_row, .ref q_t_best, .int v_t_bestMany_40, .int v_t_bestWorth_40, .int v_t_bestHour_40, .ref q_t_places, .ref q_t_pairs], ia C q_t_told 52 r_t_told_40, ia C q_t_s 254 r_t_s_40] := hD
        refine jp (g2 := F0 m 67 ls [.int (if o8 = 0 then (1 : Int32) else (0 : Int32)), .int w4_40]) ?_ (fun JP => ?_)
        · refine lv_iadd hx hb dX11_odds_67 ?_
          refine lv_topi (fun z10 ez10 => ?_)
          have hf := of_lt hf ez10
          refine lv_istore (lv' := [(4, .int z10), (6, .int w6_40), (5, .int w5_40), (0, .ref q_t), (1, .int w1_40), (2, .int w2_40), (3, .int w3_40)]) hx hb dX11_odds_68 hl (by decide) rfl (fun ls hl => ?_)
          refine lv_iload hx hb dX11_odds_70 (lv_at hl 2 rfl) ?_
          refine lv_aload_n hx hb dX11_odds_72 rfl (lv_at hl 3 rfl) ?_
          refine lv_iload hx hb dX11_odds_73 (lv_at hl 1 rfl) ?_
          obtain ⟨o11, ho11, hf⟩ := of_bind hf
          refine c_I (wr := [ia C q_t_told 52 r_t_told_40]) (W2 := [ob q_t 11 [.long v_t_trace_40, .ref q_t_text, .int v_t_typed_40, .ref q_t_told, .ref q_t_draft, .ref q_t_s, .ref q_t_images, .ref q_t_kept, .ref q_t_heard, .ref q_t_hours, .int v_t_noted_40, .int v_t_at_40, .int v_t_sort_40, .int v_t_start_40, .int v_t_value_40, .ref q_t_row, .ref q_t_best, .int v_t_bestMany_40, .int v_t_bestWorth_40, .int v_t_bestHour_40, .ref q_t_places, .ref q_t_pairs], ia C q_t_told 52 r_t_told_40, ia C q_t_s 254 r_t_s_40]) (cV_run ⟨hx, hb, hml, hown, hts⟩ (k_X11_isDone l D C q_t q_t_text q_t_told q_t_draft q_t_s q_t_images q_t_kept q_t_heard q_t_hours q_t_row q_t_best q_t_places q_t_pairs v_t_trace_40 v_t_typed_40 v_t_noted_40 v_t_at_40 v_t_sort_40 v_t_start_40 v_t_value_40 v_t_bestMany_40 v_t_bestWorth_40 v_t_bestHour_40 r_t_s_40 w6_40 H.size o11 ho11) gX11_odds_X11_isDone rfl ⟨rfl, rfl⟩ hd_X11_isDone ⟨(Nat.le_of_ble_eq_true rfl), (Nat.le_of_ble_eq_true rfl)⟩ rfl hK (cut_in hK hP hD [0, 2] rfl (by decide)) (ci := 11) rfl rfl rfl hl.1 rfl (Nat.le_of_ble_eq_true rfl) dX11_odds_75 ⟨Nat.zero_le _, Nat.zero_le _⟩) hP hD hS hA [0, 2] [1] [1, 0, 2] rfl rfl (by decide) (by decide) rfl (by decide) (fun H locs hP hD hS => ?_)
          have hP : va_P D vwCl [ob q_t 11 [.long v_t_trace_40, .ref q_t_text, .int v_t_typed_40, .ref q_t_told, .ref q_t_draft, .ref q_t_s, .ref q_t_images, .ref q_t_kept, .ref q_t_heard, .ref q_t_hours, .int v_t_noted_40, .int v_t_at_40, .int v_t_sort_40, .int v_t_start_40, .int v_t_value_40, .ref q_t_row, .ref q_t_best, .int v_t_bestMany_40, .int v_t_bestWorth_40, .int v_t_bestHour_40, .ref q_t_places, .ref q_t_pairs], ia C q_t_told 52 r_t_told_40, ia C q_t_s 254 r_t_s_40] H := hP
          have hD : va_D A [ob q_t 11 [.long v_t_trace_40, .ref q_t_text, .int v_t_typed_40, .ref q_t_told, .ref q_t_draft, .ref q_t_s, .ref q_t_images, .ref q_t_kept, .ref q_t_heard, .ref q_t_hours, .int v_t_noted_40, .int v_t_at_40, .int v_t_sort_40, .int v_t_start_40, .int v_t_value_40, .ref q_t_row, .ref q_t_best, .int v_t_bestMany_40, .int v_t_bestWorth_40, .int v_t_bestHour_40, .ref q_t_places, .ref q_t_pairs], ia C q_t_told 52 r_t_told_40, ia C q_t_s 254 r_t_s_40] := hD
          refine jp (g2 := F0 m 87 ls [.int (if o11 = 0 then (10 : Int32) else (1 : Int32)), .int w5_40]) ?_ (fun JP => ?_)
          · refine lv_imul hx hb dX11_odds_87 ?_
            refine lv_topi (fun z13 ez13 => ?_)
            have hf := of_lt hf ez13
            refine lv_istore (lv' := [(5, .int z13), (4, .int z10), (6, .int w6_40), (0, .ref q_t), (1, .int w1_40), (2, .int w2_40), (3, .int w3_40)]) hx hb dX11_odds_88 hl (by decide) rfl (fun ls hl => ?_)
            obtain ⟨z14, ez14⟩ : ∃ y : Int32, y = (w6_40 + (1 : Int32)) := ⟨_, rfl⟩
            have hf := of_lt hf ez14
            refine lv_iinc (v := z14) (lv' := [(6, .int z14), (5, .int z13), (4, .int z10), (0, .ref q_t), (1, .int w1_40), (2, .int w2_40), (3, .int w3_40)]) hx hb dX11_odds_90 hl (k := 2) rfl (by rw [ez14]; rfl) (by decide) rfl (fun ls hl => ?_)
            refine lv_goto (tgt := 40) hx hb dX11_odds_93 (by decide) ?_
            exact ih _ _ _ _ _ _ _ _ _ _ _ _ _ _ _ _ _ _ _ hf H locs ls hP hD hS (lv_sub hl [0, 1, 2, 3, 4, 5, 6] rfl) KX0
          · refine lv_if_eq (tgt := 85) hx hb dX11_odds_78 (by decide) (fun c12 => ?_) (fun c12 => ?_)
            · refine lv_bipush (v := (10 : Int32)) hx hb dX11_odds_85 (by decide) ?_
              exact W.eq (congrArg (fun x => F0 m 87 ls (Value.int x :: [.int w5_40])) (if_pos c12).symm) JP
            · refine lv_iconst (v := (1 : Int32)) hx hb dX11_odds_81 (by decide) ?_
              refine lv_goto (tgt := 87) hx hb dX11_odds_82 (by decide) ?_
              exact W.eq (congrArg (fun x => F0 m 87 ls (Value.int x :: [.int w5_40])) (if_neg c12).symm) JP
        · refine lv_if_eq (tgt := 66) hx hb dX11_odds_59 (by decide) (fun c9 => ?_) (fun c9 => ?_)
          · refine lv_iconst (v := (1 : Int32)) hx hb dX11_odds_66 (by decide) ?_
            exact W.eq (congrArg (fun x => F0 m 67 ls (Value.int x :: [.int w4_40])) (if_pos c9).symm) JP
          · refine lv_iconst (v := (0 : Int32)) hx hb dX11_odds_62 (by decide) ?_
            refine lv_goto (tgt := 67) hx hb dX11_odds_63 (by decide) ?_
            exact W.eq (congrArg (fun x => F0 m 67 ls (Value.int x :: [.int w4_40])) (if_neg c9).symm) JP
  have LP120 : ∀ (Q : State → Prop) (n : Nat) (w10_120 : Int32) (w9_120 : Int32) (w8_120 : Int32) (w7_120 : Int32) (w6_120 : Int32) (w5_120 : Int32) (w4_120 : Int32) (w1_120 : Int32) (w2_120 : Int32) (w3_120 : Int32) (v_t_trace_120 : Int64) (v_t_typed_120 : Int32) (v_t_noted_120 : Int32) (v_t_at_120 : Int32) (v_t_sort_120 : Int32) (v_t_start_120 : Int32) (v_t_value_120 : Int32) (v_t_bestMany_120 : Int32) (v_t_bestWorth_120 : Int32) (v_t_bestHour_120 : Int32) (r_t_told_120 : Nat → Int32) (r_t_s_120 : Nat → Int32) (y_120 : Int32 × Int32 × Int32), fX11_odds_120 w7_120 w4_120 w1_120 n w10_120 w9_120 w8_120 = some y_120 → ∀ (H : Heap) (locs : List Loc) (ls : Array Slot), va_P D vwCl [ob q_t 11 [.long v_t_trace_120, .ref q_t_text, .int v_t_typed_120, .ref q_t_told, .ref q_t_draft, .ref q_t_s, .ref q_t_images, .ref q_t_kept, .ref q_t_heard, .ref q_t_hours, .int v_t_noted_120, .int v_t_at_120, .int v_t_sort_120, .int v_t_start_120, .int v_t_value_120, .ref q_t_row, .ref q_t_best, .int v_t_bestMany_120, .int v_t_bestWorth_120, .int v_t_bestHour_120, .ref q_t_places, .ref q_t_pairs], ia C q_t_told 52 r_t_told_120, ia C q_t_s 254 r_t_s_120] H → va_D A [ob q_t 11 [.long v_t_trace_120, .ref q_t_text, .int v_t_typed_120, .ref q_t_told, .ref q_t_draft, .ref q_t_s, .ref q_t_images, .ref q_t_kept, .ref q_t_heard, .ref q_t_hours, .int v_t_noted_120, .int v_t_at_120, .int v_t_sort_120, .int v_t_start_120, .int v_t_value_120, .ref q_t_row, .ref q_t_best, .int v_t_bestMany_120, .int v_t_bestWorth_120, .int v_t_bestHour_120, .ref q_t_places, .ref q_t_pairs], ia C q_t_told 52 r_t_told_120, ia C q_t_s 254 r_t_s_120] → va_S A s.heap H locs → lv_has ls 11 [(10, .int w10_120), (9, .int w9_120), (8, .int w8_120), (7, .int w7_120), (6, .int w6_120), (5, .int w5_120), (4, .int w4_120), (0, .ref q_t), (1, .int w1_120), (2, .int w2_120), (3, .int w3_120)] → (∀ (H : Heap) (locs : List Loc) (ls : Array Slot), va_P D vwCl [ob q_t 11 [.long v_t_trace_120, .ref q_t_text, .int v_t_typed_120, .ref q_t_told, .ref q_t_draft, .ref q_t_s, .ref q_t_images, .ref q_t_kept, .ref q_t_heard, .ref q_t_hours, .int v_t_noted_120, .int v_t_at_120, .int v_t_sort_120, .int v_t_start_120, .int v_t_value_120, .ref q_t_row, .ref q_t_best, .int v_t_bestMany_120, .int v_t_bestWorth_120, .int v_t_bestHour_120, .ref q_t_places, .ref q_t_pairs], ia C q_t_told 52 r_t_told_120, ia C q_t_s 254 r_t_s_120] H → va_D A [ob q_t 11 [.long v_t_trace_120, .ref q_t_text, .int v_t_typed_120, .ref q_t_told, .ref q_t_draft, .ref q_t_s, .ref q_t_images, .ref q_t_kept, .ref q_t_heard, .ref q_t_hours, .int v_t_noted_120, .int v_t_at_120, .int v_t_sort_120, .int v_t_start_120, .int v_t_value_120, .ref q_t_row, .ref q_t_best, .int v_t_bestMany_120, .int v_t_bestWorth_120, .int v_t_bestHour_120, .ref q_t_places, .ref q_t_pairs], ia C q_t_told 52 r_t_told_120, ia C q_t_s 254 r_t_s_120] → va_S A s.heap H locs → lv_has ls 11 [(10, .int y_120.1), (9, .int y_120.2.1), (8, .int y_120.2.2), (7, .int w7_120), (6, .int w6_120), (5, .int w5_120), (4, .int w4_120), (0, .ref q_t), (1, .int w1_120), (2, .int w2_120), (3, .int w3_120)] → W p l e ({ frames := 2, cells := 0, slots := 0, locals := 42 } : Room) s m ([.ref q_t, .int p1, .int p2, .int p3] : List Value).toArray below meth c H locs 0 0 Q (F0 m 168 ls [])) → W p l e ({ frames := 2, cells := 0, slots := 0, locals := 42 } : Room) s m ([.ref q_t, .int p1, .int p2, .int p3] : List Value).toArray below meth c H locs 0 0 Q (F0 m 120 ls []) := by
    intro Q n
    induction n with
    | zero =>
      intro w10_120 w9_120 w8_120 w7_120 w6_120 w5_120 w4_120 w1_120 w2_120 w3_120 v_t_trace_120 v_t_typed_120 v_t_noted_120 v_t_at_120 v_t_sort_120 v_t_start_120 v_t_value_120 v_t_bestMany_120 v_t_bestWorth_120 v_t_bestHour_120 r_t_told_120 r_t_s_120 y_120 hf
      rw [fX11_odds_120] at hf
      cases hf
    | succ n ih =>
      intro w10_120 w9_120 w8_120 w7_120 w6_120 w5_120 w4_120 w1_120 w2_120 w3_120 v_t_trace_120 v_t_typed_120 v_t_noted_120 v_t_at_120 v_t_sort_120 v_t_start_120 v_t_value_120 v_t_bestMany_120 v_t_bestWorth_120 v_t_bestHour_120 r_t_told_120 r_t_s_120 y_120 hf H locs ls hP hD hS hl KX0
      rw [fX11_odds_120] at hf
      refine lv_iload hx hb dX11_odds_120 (lv_at hl 0 rfl) ?_
      refine lv_iload hx hb dX11_odds_122 (lv_at hl 6 rfl) ?_
      refine lv_icmp_ge (tgt := 168) hx hb dX11_odds_124 (by decide) (fun c17 => ?_) (fun c17 => ?_)
      · have hf := of_pos hf c17
        obtain rfl := Option.some.inj hf
        exact KX0 _ _ _ hP hD hS (lv_sub hl [0, 1, 2, 3, 4, 5, 6, 7, 8, 9, 10] rfl)
      · have hf := of_neg hf c17
        refine lv_iload hx hb dX11_odds_127 (lv_at hl 2 rfl) ?_
        refine lv_iload hx hb dX11_odds_129 (lv_at hl 3 rfl) ?_
        refine lv_iload hx hb dX11_odds_131 (lv_at hl 0 rfl) ?_
        obtain ⟨o18, ho18, hf⟩ := of_bind hf
        refine c_I (wr := [ob q_t 11 [.long v_t_trace_120, .ref q_t_text, .int v_t_typed_120, .ref q_t_told, .ref q_t_draft, .ref q_t_s, .ref q_t_images, .ref q_t_kept, .ref q_t_heard, .ref q_t_hours, .int v_t_noted_120, .int v_t_at_120, .int v_t_sort_120, .int v_t_start_120, .int v_t_value_120, .ref q_t_row, .ref q_t_best, .int v_t_bestMany_120, .int v_t_bestWorth_120, .int v_t_bestHour_120, .ref q_t_places, .ref q_t_pairs], ia C q_t_told 52 r_t_told_120, ia C q_t_s 254 r_t_s_120]) (W2 := [ob q_t 11 [.long v_t_trace_120, .ref q_t_text, .int v_t_typed_120, .ref q_t_told, .ref q_t_draft, .ref q_t_s, .ref q_t_images, .ref q_t_kept, .ref q_t_heard, .ref q_t_hours, .int v_t_noted_120, .int v_t_at_120, .int v_t_sort_120, .int v_t_start_120, .int v_t_value_120, .ref q_t_row, .ref q_t_best, .int v_t_bestMany_120, .int v_t_bestWorth_120, .int v_t_bestHour_120, .ref q_t_places, .ref q_t_pairs], ia C q_t_told 52 r_t_told_120, ia C q_t_s 254 r_t_s_120]) (cS_run ⟨hx, hb, hml, hown, hts⟩ (k_X11_has l D C w7_120 w10_120 H.size o18 ho18) gX11_odds_X11_has rfl ⟨rfl, rfl⟩ hd_X11_has ⟨(Nat.le_of_ble_eq_true rfl), (Nat.le_of_ble_eq_true rfl)⟩ rfl hK (cut_in hK hP hD [] rfl (by decide)) hl.1 rfl (Nat.le_of_ble_eq_true rfl) dX11_odds_133 ⟨Nat.zero_le _, Nat.zero_le _⟩) hP hD hS hA [] [0, 1, 2] [0, 1, 2] rfl rfl (by decide) (by decide) rfl (by decide) (fun H locs hP hD hS => ?_)
        have hP : va_P D vwCl [ob q_t 11 [.long v_t_trace_120, .ref q_t_text, .int v_t_typed_120, .ref q_t_told, .ref q_t_draft, .ref q_t_s, .ref q_t_images, .ref q_t_kept, .ref q_t_heard, .ref q_t_hours, .int v_t_noted_120, .int v_t_at_120, .int v_t_sort_120, .int v_t_start_120, .int v_t_value_120, .ref q_t_row, .ref q_t_best, .int v_t_bestMany_120, .int v_t_bestWorth_120, .int v_t_bestHour_120, .ref q_t_places, .ref q_t_pairs], ia C q_t_told 52 r_t_told_120, ia C q_t_s 254 r_t_s_120] H := hP
        have hD : va_D A [ob q_t 11 [.long v_t_trace_120, .ref q_t_text, .int v_t_typed_120, .ref q_t_told, .ref q_t_draft, .ref q_t_s, .ref q_t_images, .ref q_t_kept, .ref q_t_heard, .ref q_t_hours, .int v_t_noted_120, .int v_t_at_120, .int v_t_sort_120, .int v_t_start_120, .int v_t_value_120, .ref q_t_row, .ref q_t_best, .int v_t_bestMany_120, .int v_t_bestWorth_120, .int v_t_bestHour_120, .ref q_t_places, .ref q_t_pairs], ia C q_t_told 52 r_t_told_120, ia C q_t_s 254 r_t_s_120] := hD
        refine jp (g2 := F0 m 147 ls [.int (if o18 = 0 then ((10 : Int32) - w1_120) else w1_120), .int w8_120]) ?_ (fun JP => ?_)
        · refine lv_imul hx hb dX11_odds_147 ?_
          refine lv_topi (fun z20 ez20 => ?_)
          have hf := of_lt hf ez20
          refine lv_istore (lv' := [(8, .int z20), (10, .int w10_120), (9, .int w9_120), (7, .int w7_120), (6, .int w6_120), (5, .int w5_120), (4, .int w4_120), (0, .ref q_t), (1, .int w1_120), (2, .int w2_120), (3, .int w3_120)]) hx hb dX11_odds_148 hl (by decide) rfl (fun ls hl => ?_)
          refine lv_iload hx hb dX11_odds_150 (lv_at hl 2 rfl) ?_
          refine lv_iload hx hb dX11_odds_152 (lv_at hl 3 rfl) ?_
          refine lv_iload hx hb dX11_odds_154 (lv_at hl 1 rfl) ?_
          refine lv_ishr hx hb dX11_odds_156 ?_
          refine lv_iconst (v := (1 : Int32)) hx hb dX11_odds_157 (by decide) ?_
          refine lv_iand hx hb dX11_odds_158 ?_
          refine lv_iadd hx hb dX11_odds_159 ?_
          refine lv_topi (fun z21 ez21 => ?_)
          have hf := of_lt hf ez21
          refine lv_istore (lv' := [(9, .int z21), (8, .int z20), (10, .int w10_120), (7, .int w7_120), (6, .int w6_120), (5, .int w5_120), (4, .int w4_120), (0, .ref q_t), (1, .int w1_120), (2, .int w2_120), (3, .int w3_120)]) hx hb dX11_odds_160 hl (by decide) rfl (fun ls hl => ?_)
          obtain ⟨z22, ez22⟩ : ∃ y : Int32, y = (w10_120 + (1 : Int32)) := ⟨_, rfl⟩
          have hf := of_lt hf ez22
          refine lv_iinc (v := z22) (lv' := [(10, .int z22), (9, .int z21), (8, .int z20), (7, .int w7_120), (6, .int w6_120), (5, .int w5_120), (4, .int w4_120), (0, .ref q_t), (1, .int w1_120), (2, .int w2_120), (3, .int w3_120)]) hx hb dX11_odds_162 hl (k := 2) rfl (by rw [ez22]; rfl) (by decide) rfl (fun ls hl => ?_)
          refine lv_goto (tgt := 120) hx hb dX11_odds_165 (by decide) ?_
          exact ih _ _ _ _ _ _ _ _ _ _ _ _ _ _ _ _ _ _ _ _ _ _ _ hf H locs ls hP hD hS (lv_sub hl [0, 1, 2, 3, 4, 5, 6, 7, 8, 9, 10] rfl) KX0
        · refine lv_if_eq (tgt := 143) hx hb dX11_odds_136 (by decide) (fun c19 => ?_) (fun c19 => ?_)
          · refine lv_bipush (v := (10 : Int32)) hx hb dX11_odds_143 (by decide) ?_
            refine lv_iload_n hx hb dX11_odds_145 rfl (lv_at hl 8 rfl) ?_
            refine lv_isub hx hb dX11_odds_146 ?_
            exact W.eq (congrArg (fun x => F0 m 147 ls (Value.int x :: [.int w8_120])) (if_pos c19).symm) JP
          · refine lv_iload_n hx hb dX11_odds_139 rfl (lv_at hl 8 rfl) ?_
            refine lv_goto (tgt := 147) hx hb dX11_odds_140 (by decide) ?_
            exact W.eq (congrArg (fun x => F0 m 147 ls (Value.int x :: [.int w8_120])) (if_neg c19).symm) JP
  have LP102 : ∀ (Q : State → Prop) (n : Nat) (w7_102 : Int32) (w6_102 : Int32) (w5_102 : Int32) (w4_102 : Int32) (w1_102 : Int32) (w2_102 : Int32) (w3_102 : Int32) (v_t_trace_102 : Int64) (v_t_typed_102 : Int32) (v_t_noted_102 : Int32) (v_t_at_102 : Int32) (v_t_sort_102 : Int32) (v_t_start_102 : Int32) (v_t_value_102 : Int32) (v_t_bestMany_102 : Int32) (v_t_bestWorth_102 : Int32) (v_t_bestHour_102 : Int32) (r_t_told_102 : Nat → Int32) (r_t_s_102 : Nat → Int32) (y_102 : Int32 × Int32), fX11_odds_102 w4_102 w1_102 w2_102 n w7_102 w6_102 = some y_102 → ∀ (H : Heap) (locs : List Loc) (ls : Array Slot), va_P D vwCl [ob q_t 11 [.long v_t_trace_102, .ref q_t_text, .int v_t_typed_102, .ref q_t_told, .ref q_t_draft, .ref q_t_s, .ref q_t_images, .ref q_t_kept, .ref q_t_heard, .ref q_t_hours, .int v_t_noted_102, .int v_t_at_102, .int v_t_sort_102, .int v_t_start_102, .int v_t_value_102, .ref q_t_row, .ref q_t_best, .int v_t_bestMany_102, .int v_t_bestWorth_102, .int v_t_bestHour_102, .ref q_t_places, .ref q_t_pairs], ia C q_t_told 52 r_t_told_102, ia C q_t_s 254 r_t_s_102] H → va_D A [ob q_t 11 [.long v_t_trace_102, .ref q_t_text, .int v_t_typed_102, .ref q_t_told, .ref q_t_draft, .ref q_t_s, .ref q_t_images, .ref q_t_kept, .ref q_t_heard, .ref q_t_hours, .int v_t_noted_102, .int v_t_at_102, .int v_t_sort_102, .int v_t_start_102, .int v_t_value_102, .ref q_t_row, .ref q_t_best, .int v_t_bestMany_102, .int v_t_bestWorth_102, .int v_t_bestHour_102, .ref q_t_places, .ref q_t_pairs], ia C q_t_told 52 r_t_told_102, ia C q_t_s 254 r_t_s_102] → va_S A s.heap H locs → lv_has ls 11 [(7, .int w7_102), (6, .int w6_102), (5, .int w5_102), (4, .int w4_102), (0, .ref q_t), (1, .int w1_102), (2, .int w2_102), (3, .int w3_102)] → (∀ (H : Heap) (locs : List Loc) (ls : Array Slot), va_P D vwCl [ob q_t 11 [.long v_t_trace_102, .ref q_t_text, .int v_t_typed_102, .ref q_t_told, .ref q_t_draft, .ref q_t_s, .ref q_t_images, .ref q_t_kept, .ref q_t_heard, .ref q_t_hours, .int v_t_noted_102, .int v_t_at_102, .int v_t_sort_102, .int v_t_start_102, .int v_t_value_102, .ref q_t_row, .ref q_t_best, .int v_t_bestMany_102, .int v_t_bestWorth_102, .int v_t_bestHour_102, .ref q_t_places, .ref q_t_pairs], ia C q_t_told 52 r_t_told_102, ia C q_t_s 254 r_t_s_102] H → va_D A [ob q_t 11 [.long v_t_trace_102, .ref q_t_text, .int v_t_typed_102, .ref q_t_told, .ref q_t_draft, .ref q_t_s, .ref q_t_images, .ref q_t_kept, .ref q_t_heard, .ref q_t_hours, .int v_t_noted_102, .int v_t_at_102, .int v_t_sort_102, .int v_t_start_102, .int v_t_value_102, .ref q_t_row, .ref q_t_best, .int v_t_bestMany_102, .int v_t_bestWorth_102, .int v_t_bestHour_102, .ref q_t_places, .ref q_t_pairs], ia C q_t_told 52 r_t_told_102, ia C q_t_s 254 r_t_s_102] → va_S A s.heap H locs → lv_has ls 11 [(7, .int y_102.1), (6, .int y_102.2), (5, .int w5_102), (4, .int w4_102), (0, .ref q_t), (1, .int w1_102), (2, .int w2_102), (3, .int w3_102)] → W p l e ({ frames := 2, cells := 0, slots := 0, locals := 42 } : Room) s m ([.ref q_t, .int p1, .int p2, .int p3] : List Value).toArray below meth c H locs 0 0 Q (F0 m 191 ls [])) → W p l e ({ frames := 2, cells := 0, slots := 0, locals := 42 } : Room) s m ([.ref q_t, .int p1, .int p2, .int p3] : List Value).toArray below meth c H locs 0 0 Q (F0 m 102 ls []) := by
    intro Q n
    induction n with
    | zero =>
      intro w7_102 w6_102 w5_102 w4_102 w1_102 w2_102 w3_102 v_t_trace_102 v_t_typed_102 v_t_noted_102 v_t_at_102 v_t_sort_102 v_t_start_102 v_t_value_102 v_t_bestMany_102 v_t_bestWorth_102 v_t_bestHour_102 r_t_told_102 r_t_s_102 y_102 hf
      rw [fX11_odds_102] at hf
      cases hf
    | succ n ih =>
      intro w7_102 w6_102 w5_102 w4_102 w1_102 w2_102 w3_102 v_t_trace_102 v_t_typed_102 v_t_noted_102 v_t_at_102 v_t_sort_102 v_t_start_102 v_t_value_102 v_t_bestMany_102 v_t_bestWorth_102 v_t_bestHour_102 r_t_told_102 r_t_s_102 y_102 hf H locs ls hP hD hS hl KX0
      rw [fX11_odds_102] at hf
      refine lv_iload hx hb dX11_odds_102 (lv_at hl 0 rfl) ?_
      refine lv_iconst (v := (1 : Int32)) hx hb dX11_odds_104 (by decide) ?_
      refine lv_iload hx hb dX11_odds_105 (lv_at hl 3 rfl) ?_
      refine lv_ishl hx hb dX11_odds_107 ?_
      refine lv_icmp_ge (tgt := 191) hx hb dX11_odds_108 (by decide) (fun c16 => ?_) (fun c16 => ?_)
      · have hf := of_pos hf c16
        obtain rfl := Option.some.inj hf
        exact KX0 _ _ _ hP hD hS (lv_sub hl [0, 1, 2, 3, 4, 5, 6, 7] rfl)
      · have hf := of_neg hf c16
        refine lv_iconst (v := (1 : Int32)) hx hb dX11_odds_111 (by decide) ?_
        refine lv_istore (lv' := [(8, .int (1 : Int32)), (7, .int w7_102), (6, .int w6_102), (5, .int w5_102), (4, .int w4_102), (0, .ref q_t), (1, .int w1_102), (2, .int w2_102), (3, .int w3_102)]) hx hb dX11_odds_112 hl (by decide) rfl (fun ls hl => ?_)
        refine lv_iconst (v := (0 : Int32)) hx hb dX11_odds_114 (by decide) ?_
        refine lv_istore (lv' := [(9, .int (0 : Int32)), (8, .int (1 : Int32)), (7, .int w7_102), (6, .int w6_102), (5, .int w5_102), (4, .int w4_102), (0, .ref q_t), (1, .int w1_102), (2, .int w2_102), (3, .int w3_102)]) hx hb dX11_odds_115 hl (by decide) rfl (fun ls hl => ?_)
        refine lv_iconst (v := (0 : Int32)) hx hb dX11_odds_117 (by decide) ?_
        refine lv_istore (lv' := [(10, .int (0 : Int32)), (9, .int (0 : Int32)), (8, .int (1 : Int32)), (7, .int w7_102), (6, .int w6_102), (5, .int w5_102), (4, .int w4_102), (0, .ref q_t), (1, .int w1_102), (2, .int w2_102), (3, .int w3_102)]) hx hb dX11_odds_118 hl (by decide) rfl (fun ls hl => ?_)
        obtain ⟨y17, hy17, hf⟩ := of_bind hf
        refine LP120 _ FU _ _ _ _ _ _ _ _ _ _ _ _ _ _ _ _ _ _ _ _ _ _ y17 hy17 H locs ls hP hD hS (lv_sub hl [0, 1, 2, 3, 4, 5, 6, 7, 8, 9, 10] rfl) (fun H locs ls hP hD hS hl => ?_)
        refine lv_iload hx hb dX11_odds_168 (lv_at hl 4 rfl) ?_
        refine lv_iload hx hb dX11_odds_170 (lv_at hl 1 rfl) ?_
        refine lv_iload_n hx hb dX11_odds_172 rfl (lv_at hl 9 rfl) ?_
        refine jp (g2 := F0 m 182 ls [.int (if w2_102 < y17.2.1 then (0 : Int32) else y17.2.2), .int w6_102]) ?_ (fun JP => ?_)
        · refine lv_iadd hx hb dX11_odds_182 ?_
          refine lv_topi (fun z19 ez19 => ?_)
          have hf := of_lt hf ez19
          refine lv_istore (lv' := [(6, .int z19), (10, .int y17.1), (9, .int y17.2.1), (8, .int y17.2.2), (7, .int w7_102), (5, .int w5_102), (4, .int w4_102), (0, .ref q_t), (1, .int w1_102), (2, .int w2_102), (3, .int w3_102)]) hx hb dX11_odds_183 hl (by decide) rfl (fun ls hl => ?_)
          obtain ⟨z20, ez20⟩ : ∃ y : Int32, y = (w7_102 + (1 : Int32)) := ⟨_, rfl⟩
          have hf := of_lt hf ez20
          refine lv_iinc (v := z20) (lv' := [(7, .int z20), (6, .int z19), (10, .int y17.1), (9, .int y17.2.1), (8, .int y17.2.2), (5, .int w5_102), (4, .int w4_102), (0, .ref q_t), (1, .int w1_102), (2, .int w2_102), (3, .int w3_102)]) hx hb dX11_odds_185 hl (k := 4) rfl (by rw [ez20]; rfl) (by decide) rfl (fun ls hl => ?_)
          refine lv_goto (tgt := 102) hx hb dX11_odds_188 (by decide) ?_
          exact ih _ _ _ _ _ _ _ _ _ _ _ _ _ _ _ _ _ _ _ _ hf H locs ls hP hD hS (lv_sub hl [0, 1, 5, 6, 7, 8, 9, 10] rfl) KX0
        · refine lv_icmp_gt (tgt := 181) hx hb dX11_odds_173 (by decide) (fun c18 => ?_) (fun c18 => ?_)
          · refine lv_iconst (v := (0 : Int32)) hx hb dX11_odds_181 (by decide) ?_
            exact W.eq (congrArg (fun x => F0 m 182 ls (Value.int x :: [.int w6_102])) (if_pos c18).symm) JP
          · refine lv_iload hx hb dX11_odds_176 (lv_at hl 2 rfl) ?_
            refine lv_goto (tgt := 182) hx hb dX11_odds_178 (by decide) ?_
            exact W.eq (congrArg (fun x => F0 m 182 ls (Value.int x :: [.int w6_102])) (if_neg c18).symm) JP
  have LP199 : ∀ (Q : State → Prop) (n : Nat) (w8_199 : Int32) (w7_199 : Int32) (w6_199 : Int32) (w5_199 : Int32) (w4_199 : Int32) (w1_199 : Int32) (w2_199 : Int32) (w3_199 : Int32) (v_t_trace_199 : Int64) (v_t_typed_199 : Int32) (v_t_noted_199 : Int32) (v_t_at_199 : Int32) (v_t_sort_199 : Int32) (v_t_start_199 : Int32) (v_t_value_199 : Int32) (v_t_bestMany_199 : Int32) (v_t_bestWorth_199 : Int32) (v_t_bestHour_199 : Int32) (r_t_told_199 : Nat → Int32) (r_t_s_199 : Nat → Int32) (y_199 : Int32 × Int32), fX11_odds_199  n w8_199 w7_199 = some y_199 → ∀ (H : Heap) (locs : List Loc) (ls : Array Slot), va_P D vwCl [ob q_t 11 [.long v_t_trace_199, .ref q_t_text, .int v_t_typed_199, .ref q_t_told, .ref q_t_draft, .ref q_t_s, .ref q_t_images, .ref q_t_kept, .ref q_t_heard, .ref q_t_hours, .int v_t_noted_199, .int v_t_at_199, .int v_t_sort_199, .int v_t_start_199, .int v_t_value_199, .ref q_t_row, .ref q_t_best, .int v_t_bestMany_199, .int v_t_bestWorth_199, .int v_t_bestHour_199, .ref q_t_places, .ref q_t_pairs], ia C q_t_told 52 r_t_told_199, ia C q_t_s 254 r_t_s_199] H → va_D A [ob q_t 11 [.long v_t_trace_199, .ref q_t_text, .int v_t_typed_199, .ref q_t_told, .ref q_t_draft, .ref q_t_s, .ref q_t_images, .ref q_t_kept, .ref q_t_heard, .ref q_t_hours, .int v_t_noted_199, .int v_t_at_199, .int v_t_sort_199, .int v_t_start_199, .int v_t_value_199, .ref q_t_row, .ref q_t_best, .int v_t_bestMany_199, .int v_t_bestWorth_199, .int v_t_bestHour_199, .ref q_t_places, .ref q_t_pairs], ia C q_t_told 52 r_t_told_199, ia C q_t_s 254 r_t_s_199] → va_S A s.heap H locs → lv_has ls 11 [(8, .int w8_199), (7, .int w7_199), (6, .int w6_199), (5, .int w5_199), (4, .int w4_199), (0, .ref q_t), (1, .int w1_199), (2, .int w2_199), (3, .int w3_199)] → (∀ (H : Heap) (locs : List Loc) (ls : Array Slot), va_P D vwCl [ob q_t 11 [.long v_t_trace_199, .ref q_t_text, .int v_t_typed_199, .ref q_t_told, .ref q_t_draft, .ref q_t_s, .ref q_t_images, .ref q_t_kept, .ref q_t_heard, .ref q_t_hours, .int v_t_noted_199, .int v_t_at_199, .int v_t_sort_199, .int v_t_start_199, .int v_t_value_199, .ref q_t_row, .ref q_t_best, .int v_t_bestMany_199, .int v_t_bestWorth_199, .int v_t_bestHour_199, .ref q_t_places, .ref q_t_pairs], ia C q_t_told 52 r_t_told_199, ia C q_t_s 254 r_t_s_199] H → va_D A [ob q_t 11 [.long v_t_trace_199, .ref q_t_text, .int v_t_typed_199, .ref q_t_told, .ref q_t_draft, .ref q_t_s, .ref q_t_images, .ref q_t_kept, .ref q_t_heard, .ref q_t_hours, .int v_t_noted_199, .int v_t_at_199, .int v_t_sort_199, .int v_t_start_199, .int v_t_value_199, .ref q_t_row, .ref q_t_best, .int v_t_bestMany_199, .int v_t_bestWorth_199, .int v_t_bestHour_199, .ref q_t_places, .ref q_t_pairs], ia C q_t_told 52 r_t_told_199, ia C q_t_s 254 r_t_s_199] → va_S A s.heap H locs → lv_has ls 11 [(8, .int y_199.1), (7, .int y_199.2), (6, .int w6_199), (5, .int w5_199), (4, .int w4_199), (0, .ref q_t), (1, .int w1_199), (2, .int w2_199), (3, .int w3_199)] → W p l e ({ frames := 2, cells := 0, slots := 0, locals := 42 } : Room) s m ([.ref q_t, .int p1, .int p2, .int p3] : List Value).toArray below meth c H locs 0 0 Q (F0 m 222 ls [])) → W p l e ({ frames := 2, cells := 0, slots := 0, locals := 42 } : Room) s m ([.ref q_t, .int p1, .int p2, .int p3] : List Value).toArray below meth c H locs 0 0 Q (F0 m 199 ls []) := by
    intro Q n
    induction n with
    | zero =>
      intro w8_199 w7_199 w6_199 w5_199 w4_199 w1_199 w2_199 w3_199 v_t_trace_199 v_t_typed_199 v_t_noted_199 v_t_at_199 v_t_sort_199 v_t_start_199 v_t_value_199 v_t_bestMany_199 v_t_bestWorth_199 v_t_bestHour_199 r_t_told_199 r_t_s_199 y_199 hf
      rw [fX11_odds_199] at hf
      cases hf
    | succ n ih =>
      intro w8_199 w7_199 w6_199 w5_199 w4_199 w1_199 w2_199 w3_199 v_t_trace_199 v_t_typed_199 v_t_noted_199 v_t_at_199 v_t_sort_199 v_t_start_199 v_t_value_199 v_t_bestMany_199 v_t_bestWorth_199 v_t_bestHour_199 r_t_told_199 r_t_s_199 y_199 hf H locs ls hP hD hS hl KX0
      rw [fX11_odds_199] at hf
      refine lv_iload hx hb dX11_odds_199 (lv_at hl 0 rfl) ?_
      refine lv_if_le (tgt := 222) hx hb dX11_odds_201 (by decide) (fun c22 => ?_) (fun c22 => ?_)
      · have hf := of_pos hf c22
        obtain rfl := Option.some.inj hf
        exact KX0 _ _ _ hP hD hS (lv_sub hl [0, 1, 2, 3, 4, 5, 6, 7, 8] rfl)
      · have hf := of_neg hf c22
        refine lv_iload hx hb dX11_odds_204 (lv_at hl 1 rfl) ?_
        refine lv_iload hx hb dX11_odds_206 (lv_at hl 0 rfl) ?_
        obtain ⟨h23, hf⟩ := of_chk hf
        refine lv_irem hx hb dX11_odds_208 h23 ?_
        refine lv_topi (fun z24 ez24 => ?_)
        have hf := of_lt hf ez24
        refine lv_istore (lv' := [(9, .int z24), (8, .int w8_199), (7, .int w7_199), (6, .int w6_199), (5, .int w5_199), (4, .int w4_199), (0, .ref q_t), (1, .int w1_199), (2, .int w2_199), (3, .int w3_199)]) hx hb dX11_odds_209 hl (by decide) rfl (fun ls hl => ?_)
        refine lv_iload hx hb dX11_odds_211 (lv_at hl 1 rfl) ?_
        refine lv_istore (lv' := [(7, .int w8_199), (9, .int z24), (8, .int w8_199), (6, .int w6_199), (5, .int w5_199), (4, .int w4_199), (0, .ref q_t), (1, .int w1_199), (2, .int w2_199), (3, .int w3_199)]) hx hb dX11_odds_213 hl (by decide) rfl (fun ls hl => ?_)
        refine lv_iload hx hb dX11_odds_215 (lv_at hl 1 rfl) ?_
        refine lv_istore (lv' := [(8, .int z24), (7, .int w8_199), (9, .int z24), (6, .int w6_199), (5, .int w5_199), (4, .int w4_199), (0, .ref q_t), (1, .int w1_199), (2, .int w2_199), (3, .int w3_199)]) hx hb dX11_odds_217 hl (by decide) rfl (fun ls hl => ?_)
        refine lv_goto (tgt := 199) hx hb dX11_odds_219 (by decide) ?_
        exact ih _ _ _ _ _ _ _ _ _ _ _ _ _ _ _ _ _ _ _ _ _ hf H locs ls hP hD hS (lv_sub hl [0, 1, 3, 4, 5, 6, 7, 8, 9] rfl) KX0
  refine lv_iload_n hx hb dX11_odds_0 rfl (lv_at hl 1 rfl) ?_
  refine lv_iconst (v := (0 : Int32)) hx hb dX11_odds_1 (by decide) ?_
  refine lv_bipush (v := (10 : Int32)) hx hb dX11_odds_2 (by decide) ?_
  obtain ⟨o1, ho1, hf⟩ := of_bind hf
  refine c_I (wr := [ob q_t 11 [.long v_t_trace, .ref q_t_text, .int v_t_typed, .ref q_t_told, .ref q_t_draft, .ref q_t_s, .ref q_t_images, .ref q_t_kept, .ref q_t_heard, .ref q_t_hours, .int v_t_noted, .int v_t_at, .int v_t_sort, .int v_t_start, .int v_t_value, .ref q_t_row, .ref q_t_best, .int v_t_bestMany, .int v_t_bestWorth, .int v_t_bestHour, .ref q_t_places, .ref q_t_pairs], ia C q_t_told 52 r_t_told, ia C q_t_s 254 r_t_s]) (W2 := [ob q_t 11 [.long v_t_trace, .ref q_t_text, .int v_t_typed, .ref q_t_told, .ref q_t_draft, .ref q_t_s, .ref q_t_images, .ref q_t_kept, .ref q_t_heard, .ref q_t_hours, .int v_t_noted, .int v_t_at, .int v_t_sort, .int v_t_start, .int v_t_value, .ref q_t_row, .ref q_t_best, .int v_t_bestMany, .int v_t_bestWorth, .int v_t_bestHour, .ref q_t_places, .ref q_t_pairs], ia C q_t_told 52 r_t_told, ia C q_t_s 254 r_t_s]) (cS_run ⟨hx, hb, hml, hown, hts⟩ (k_X11_in l D C p1 (0 : Int32) (10 : Int32) H.size o1 ho1) gX11_odds_X11_in rfl ⟨rfl, rfl⟩ hd_X11_in ⟨(Nat.le_of_ble_eq_true rfl), (Nat.le_of_ble_eq_true rfl)⟩ rfl hK (cut_in hK hP hD [] rfl (by decide)) hl.1 rfl (Nat.le_of_ble_eq_true rfl) dX11_odds_4 ⟨Nat.zero_le _, Nat.zero_le _⟩) hP hD hS hA [] [0, 1, 2] [0, 1, 2] rfl rfl (by decide) (by decide) rfl (by decide) (fun H locs hP hD hS => ?_)
  have hP : va_P D vwCl [ob q_t 11 [.long v_t_trace, .ref q_t_text, .int v_t_typed, .ref q_t_told, .ref q_t_draft, .ref q_t_s, .ref q_t_images, .ref q_t_kept, .ref q_t_heard, .ref q_t_hours, .int v_t_noted, .int v_t_at, .int v_t_sort, .int v_t_start, .int v_t_value, .ref q_t_row, .ref q_t_best, .int v_t_bestMany, .int v_t_bestWorth, .int v_t_bestHour, .ref q_t_places, .ref q_t_pairs], ia C q_t_told 52 r_t_told, ia C q_t_s 254 r_t_s] H := hP
  have hD : va_D A [ob q_t 11 [.long v_t_trace, .ref q_t_text, .int v_t_typed, .ref q_t_told, .ref q_t_draft, .ref q_t_s, .ref q_t_images, .ref q_t_kept, .ref q_t_heard, .ref q_t_hours, .int v_t_noted, .int v_t_at, .int v_t_sort, .int v_t_start, .int v_t_value, .ref q_t_row, .ref q_t_best, .int v_t_bestMany, .int v_t_bestWorth, .int v_t_bestHour, .ref q_t_places, .ref q_t_pairs], ia C q_t_told 52 r_t_told, ia C q_t_s 254 r_t_s] := hD
  refine lv_if_eq (tgt := 29) hx hb dX11_odds_7 (by decide) (fun c2 => ?_) (fun c2 => ?_)
  · have hf := of_pos hf c2
    refine lv_iconst (v := (-1 : Int32)) hx hb dX11_odds_29 (by decide) ?_
    obtain rfl := Option.some.inj hf
    exact ret_I hx hb hr hlocks hK hP hD hS dX11_odds_30
  · have hf := of_neg hf c2
    refine lv_iload_n hx hb dX11_odds_10 rfl (lv_at hl 2 rfl) ?_
    refine lv_iconst (v := (0 : Int32)) hx hb dX11_odds_11 (by decide) ?_
    refine lv_bipush (v := (8 : Int32)) hx hb dX11_odds_12 (by decide) ?_
    obtain ⟨o3, ho3, hf⟩ := of_bind hf
    refine c_I (wr := [ob q_t 11 [.long v_t_trace, .ref q_t_text, .int v_t_typed, .ref q_t_told, .ref q_t_draft, .ref q_t_s, .ref q_t_images, .ref q_t_kept, .ref q_t_heard, .ref q_t_hours, .int v_t_noted, .int v_t_at, .int v_t_sort, .int v_t_start, .int v_t_value, .ref q_t_row, .ref q_t_best, .int v_t_bestMany, .int v_t_bestWorth, .int v_t_bestHour, .ref q_t_places, .ref q_t_pairs], ia C q_t_told 52 r_t_told, ia C q_t_s 254 r_t_s]) (W2 := [ob q_t 11 [.long v_t_trace, .ref q_t_text, .int v_t_typed, .ref q_t_told, .ref q_t_draft, .ref q_t_s, .ref q_t_images, .ref q_t_kept, .ref q_t_heard, .ref q_t_hours, .int v_t_noted, .int v_t_at, .int v_t_sort, .int v_t_start, .int v_t_value, .ref q_t_row, .ref q_t_best, .int v_t_bestMany, .int v_t_bestWorth, .int v_t_bestHour, .ref q_t_places, .ref q_t_pairs], ia C q_t_told 52 r_t_told, ia C q_t_s 254 r_t_s]) (cS_run ⟨hx, hb, hml, hown, hts⟩ (k_X11_in l D C p2 (0 : Int32) (8 : Int32) H.size o3 ho3) gX11_odds_X11_in rfl ⟨rfl, rfl⟩ hd_X11_in ⟨(Nat.le_of_ble_eq_true rfl), (Nat.le_of_ble_eq_true rfl)⟩ rfl hK (cut_in hK hP hD [] rfl (by decide)) hl.1 rfl (Nat.le_of_ble_eq_true rfl) dX11_odds_14 ⟨Nat.zero_le _, Nat.zero_le _⟩) hP hD hS hA [] [0, 1, 2] [0, 1, 2] rfl rfl (by decide) (by decide) rfl (by decide) (fun H locs hP hD hS => ?_)
    have hP : va_P D vwCl [ob q_t 11 [.long v_t_trace, .ref q_t_text, .int v_t_typed, .ref q_t_told, .ref q_t_draft, .ref q_t_s, .ref q_t_images, .ref q_t_kept, .ref q_t_heard, .ref q_t_hours, .int v_t_noted, .int v_t_at, .int v_t_sort, .int v_t_start, .int v_t_value, .ref q_t_row, .ref q_t_best, .int v_t_bestMany, .int v_t_bestWorth, .int v_t_bestHour, .ref q_t_places, .ref q_t_pairs], ia C q_t_told 52 r_t_told, ia C q_t_s 254 r_t_s] H := hP
    have hD : va_D A [ob q_t 11 [.long v_t_trace, .ref q_t_text, .int v_t_typed, .ref q_t_told, .ref q_t_draft, .ref q_t_s, .ref q_t_images, .ref q_t_kept, .ref q_t_heard, .ref q_t_hours, .int v_t_noted, .int v_t_at, .int v_t_sort, .int v_t_start, .int v_t_value, .ref q_t_row, .ref q_t_best, .int v_t_bestMany, .int v_t_bestWorth, .int v_t_bestHour, .ref q_t_places, .ref q_t_pairs], ia C q_t_told 52 r_t_told, ia C q_t_s 254 r_t_s] := hD
    refine lv_if_eq (tgt := 29) hx hb dX11_odds_17 (by decide) (fun c4 => ?_) (fun c4 => ?_)
    · have hf := of_pos hf c4
      refine lv_iconst (v := (-1 : Int32)) hx hb dX11_odds_29 (by decide) ?_
      obtain rfl := Option.some.inj hf
      exact ret_I hx hb hr hlocks hK hP hD hS dX11_odds_30
    · have hf := of_neg hf c4
      refine lv_iload_n hx hb dX11_odds_20 rfl (lv_at hl 3 rfl) ?_
      refine lv_iconst (v := (0 : Int32)) hx hb dX11_odds_21 (by decide) ?_
      refine lv_iconst (v := (1 : Int32)) hx hb dX11_odds_22 (by decide) ?_
      obtain ⟨o5, ho5, hf⟩ := of_bind hf
      refine c_I (wr := [ob q_t 11 [.long v_t_trace, .ref q_t_text, .int v_t_typed, .ref q_t_told, .ref q_t_draft, .ref q_t_s, .ref q_t_images, .ref q_t_kept, .ref q_t_heard, .ref q_t_hours, .int v_t_noted, .int v_t_at, .int v_t_sort, .int v_t_start, .int v_t_value, .ref q_t_row, .ref q_t_best, .int v_t_bestMany, .int v_t_bestWorth, .int v_t_bestHour, .ref q_t_places, .ref q_t_pairs], ia C q_t_told 52 r_t_told, ia C q_t_s 254 r_t_s]) (W2 := [ob q_t 11 [.long v_t_trace, .ref q_t_text, .int v_t_typed, .ref q_t_told, .ref q_t_draft, .ref q_t_s, .ref q_t_images, .ref q_t_kept, .ref q_t_heard, .ref q_t_hours, .int v_t_noted, .int v_t_at, .int v_t_sort, .int v_t_start, .int v_t_value, .ref q_t_row, .ref q_t_best, .int v_t_bestMany, .int v_t_bestWorth, .int v_t_bestHour, .ref q_t_places, .ref q_t_pairs], ia C q_t_told 52 r_t_told, ia C q_t_s 254 r_t_s]) (cS_run ⟨hx, hb, hml, hown, hts⟩ (k_X11_in l D C p3 (0 : Int32) (1 : Int32) H.size o5 ho5) gX11_odds_X11_in rfl ⟨rfl, rfl⟩ hd_X11_in ⟨(Nat.le_of_ble_eq_true rfl), (Nat.le_of_ble_eq_true rfl)⟩ rfl hK (cut_in hK hP hD [] rfl (by decide)) hl.1 rfl (Nat.le_of_ble_eq_true rfl) dX11_odds_23 ⟨Nat.zero_le _, Nat.zero_le _⟩) hP hD hS hA [] [0, 1, 2] [0, 1, 2] rfl rfl (by decide) (by decide) rfl (by decide) (fun H locs hP hD hS => ?_)
      have hP : va_P D vwCl [ob q_t 11 [.long v_t_trace, .ref q_t_text, .int v_t_typed, .ref q_t_told, .ref q_t_draft, .ref q_t_s, .ref q_t_images, .ref q_t_kept, .ref q_t_heard, .ref q_t_hours, .int v_t_noted, .int v_t_at, .int v_t_sort, .int v_t_start, .int v_t_value, .ref q_t_row, .ref q_t_best, .int v_t_bestMany, .int v_t_bestWorth, .int v_t_bestHour, .ref q_t_places, .ref q_t_pairs], ia C q_t_told 52 r_t_told, ia C q_t_s 254 r_t_s] H := hP
      have hD : va_D A [ob q_t 11 [.long v_t_trace, .ref q_t_text, .int v_t_typed, .ref q_t_told, .ref q_t_draft, .ref q_t_s, .ref q_t_images, .ref q_t_kept, .ref q_t_heard, .ref q_t_hours, .int v_t_noted, .int v_t_at, .int v_t_sort, .int v_t_start, .int v_t_value, .ref q_t_row, .ref q_t_best, .int v_t_bestMany, .int v_t_bestWorth, .int v_t_bestHour, .ref q_t_places, .ref q_t_pairs], ia C q_t_told 52 r_t_told, ia C q_t_s 254 r_t_s] := hD
      refine lv_if_ne (tgt := 31) hx hb dX11_odds_26 (by decide) (fun c6 => ?_) (fun c6 => ?_)
      · have hf := of_neg hf c6
        refine lv_iconst (v := (0 : Int32)) hx hb dX11_odds_31 (by decide) ?_
        refine lv_istore (lv' := [(4, .int (0 : Int32)), (0, .ref q_t), (1, .int p1), (2, .int p2), (3, .int p3)]) hx hb dX11_odds_32 hl (by decide) rfl (fun ls hl => ?_)
        refine lv_iconst (v := (1 : Int32)) hx hb dX11_odds_34 (by decide) ?_
        refine lv_istore (lv' := [(5, .int (1 : Int32)), (4, .int (0 : Int32)), (0, .ref q_t), (1, .int p1), (2, .int p2), (3, .int p3)]) hx hb dX11_odds_35 hl (by decide) rfl (fun ls hl => ?_)
        refine lv_iconst (v := (0 : Int32)) hx hb dX11_odds_37 (by decide) ?_
        refine lv_istore (lv' := [(6, .int (0 : Int32)), (5, .int (1 : Int32)), (4, .int (0 : Int32)), (0, .ref q_t), (1, .int p1), (2, .int p2), (3, .int p3)]) hx hb dX11_odds_38 hl (by decide) rfl (fun ls hl => ?_)
        obtain ⟨y15, hy15, hf⟩ := of_bind hf
        refine LP40 _ FU _ _ _ _ _ _ _ _ _ _ _ _ _ _ _ _ _ _ y15 hy15 H locs ls hP hD hS (lv_sub hl [0, 1, 2, 3, 4, 5, 6] rfl) (fun H locs ls hP hD hS hl => ?_)
        refine lv_iconst (v := (0 : Int32)) hx hb dX11_odds_96 (by decide) ?_
        refine lv_istore (lv' := [(6, .int (0 : Int32)), (5, .int y15.2.1), (4, .int y15.2.2), (0, .ref q_t), (1, .int p1), (2, .int p2), (3, .int p3)]) hx hb dX11_odds_97 hl (by decide) rfl (fun ls hl => ?_)
        refine lv_iconst (v := (0 : Int32)) hx hb dX11_odds_99 (by decide) ?_
        refine lv_istore (lv' := [(7, .int (0 : Int32)), (6, .int (0 : Int32)), (5, .int y15.2.1), (4, .int y15.2.2), (0, .ref q_t), (1, .int p1), (2, .int p2), (3, .int p3)]) hx hb dX11_odds_100 hl (by decide) rfl (fun ls hl => ?_)
        obtain ⟨y21, hy21, hf⟩ := of_bind hf
        refine LP102 _ FU _ _ _ _ _ _ _ _ _ _ _ _ _ _ _ _ _ _ _ y21 hy21 H locs ls hP hD hS (lv_sub hl [0, 1, 2, 3, 4, 5, 6, 7] rfl) (fun H locs ls hP hD hS hl => ?_)
        refine lv_iload hx hb dX11_odds_191 (lv_at hl 1 rfl) ?_
        refine lv_istore (lv' := [(7, .int y21.2), (6, .int y21.2), (5, .int y15.2.1), (4, .int y15.2.2), (0, .ref q_t), (1, .int p1), (2, .int p2), (3, .int p3)]) hx hb dX11_odds_193 hl (by decide) rfl (fun ls hl => ?_)
        refine lv_iload hx hb dX11_odds_195 (lv_at hl 2 rfl) ?_
        refine lv_istore (lv' := [(8, .int y15.2.1), (7, .int y21.2), (6, .int y21.2), (5, .int y15.2.1), (4, .int y15.2.2), (0, .ref q_t), (1, .int p1), (2, .int p2), (3, .int p3)]) hx hb dX11_odds_197 hl (by decide) rfl (fun ls hl => ?_)
        obtain ⟨y25, hy25, hf⟩ := of_bind hf
        refine LP199 _ FU _ _ _ _ _ _ _ _ _ _ _ _ _ _ _ _ _ _ _ _ y25 hy25 H locs ls hP hD hS (lv_sub hl [0, 1, 2, 3, 4, 5, 6, 7, 8] rfl) (fun H locs ls hP hD hS hl => ?_)
        refine lv_iload_n hx hb dX11_odds_222 rfl (lv_at hl 8 rfl) ?_
        obtain ⟨j26, hrj26, hf⟩ := of_bind hf
        refine jn (fun H L g => ∃ ls, g = F0 m 239 ls [.int j26] ∧ va_P D vwCl [ob q_t 11 [.long v_t_trace, .ref q_t_text, .int v_t_typed, .ref q_t_told, .ref q_t_draft, .ref q_t_s, .ref q_t_images, .ref q_t_kept, .ref q_t_heard, .ref q_t_hours, .int v_t_noted, .int v_t_at, .int v_t_sort, .int v_t_start, .int v_t_value, .ref q_t_row, .ref q_t_best, .int v_t_bestMany, .int v_t_bestWorth, .int v_t_bestHour, .ref q_t_places, .ref q_t_pairs], ia C q_t_told 52 r_t_told, ia C q_t_s 254 r_t_s] H ∧ va_D A [ob q_t 11 [.long v_t_trace, .ref q_t_text, .int v_t_typed, .ref q_t_told, .ref q_t_draft, .ref q_t_s, .ref q_t_images, .ref q_t_kept, .ref q_t_heard, .ref q_t_hours, .int v_t_noted, .int v_t_at, .int v_t_sort, .int v_t_start, .int v_t_value, .ref q_t_row, .ref q_t_best, .int v_t_bestMany, .int v_t_bestWorth, .int v_t_bestHour, .ref q_t_places, .ref q_t_pairs], ia C q_t_told 52 r_t_told, ia C q_t_s 254 r_t_s] ∧ va_S A s.heap H L ∧ lv_has ls 11 [(8, .int y25.1), (7, .int y25.2), (6, .int y21.2), (5, .int y15.2.1), (4, .int y15.2.2), (0, .ref q_t), (1, .int p1), (2, .int p2), (3, .int p3)]) (fun H locs g hI => ?_) (fun Jj26 => ?_)
        · obtain ⟨ls, rfl, hP, hD, hS, hl⟩ := hI
          obtain rfl := Option.some.inj hf
          exact ret_I hx hb hr hlocks hK hP hD hS dX11_odds_239
        · have hf := hrj26
          refine lv_if_ne (tgt := 234) hx hb dX11_odds_223 (by decide) (fun c27 => ?_) (fun c27 => ?_)
          · have hf := of_neg hf c27
            refine lv_iload hx hb dX11_odds_234 (lv_at hl 3 rfl) ?_
            refine lv_iload hx hb dX11_odds_236 (lv_at hl 1 rfl) ?_
            obtain ⟨h28, hf⟩ := of_chk hf
            refine lv_idiv hx hb dX11_odds_238 h28 ?_
            obtain rfl := Option.some.inj hf
            exact Jj26 _ _ _ ⟨_, rfl, hP, hD, hS, lv_sub hl [0, 1, 2, 3, 4, 5, 6, 7, 8] rfl⟩
          · have hf := of_pos hf c27
            refine lv_iload hx hb dX11_odds_226 (lv_at hl 2 rfl) ?_
            refine lv_iload hx hb dX11_odds_228 (lv_at hl 1 rfl) ?_
            obtain ⟨h29, hf⟩ := of_chk hf
            refine lv_idiv hx hb dX11_odds_230 h29 ?_
            refine lv_goto (tgt := 239) hx hb dX11_odds_231 (by decide) ?_
            obtain rfl := Option.some.inj hf
            exact Jj26 _ _ _ ⟨_, rfl, hP, hD, hS, lv_sub hl [0, 1, 2, 3, 4, 5, 6, 7, 8] rfl⟩
      · have hf := of_pos hf c6
        refine lv_iconst (v := (-1 : Int32)) hx hb dX11_odds_29 (by decide) ?_
        obtain rfl := Option.some.inj hf
        exact ret_I hx hb hr hlocks hK hP hD hS dX11_odds_30
