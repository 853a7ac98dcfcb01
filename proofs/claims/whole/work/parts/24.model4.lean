/-! written by gen.py: 24.model4 -/
def fX11_hears_37 (w2_37 : Int32) : Nat → Int32 → (Nat → Int32) → (Nat → Int32) → Option (Int32 × (Nat → Int32) × (Nat → Int32))
  | 0, _, _, _ => none
  | n + 1, w3_37, r_t_heard_37, r_t_hours_37 => (if w3_37 ≤ 0 then some (w3_37, r_t_heard_37, r_t_hours_37) else chk (vin (w3_37 - (1 : Int32)) 6) ((if (r_t_hours_37 (w3_37 - (1 : Int32)).toNatClampNeg) ≤ w2_37 then some (w3_37, r_t_heard_37, r_t_hours_37) else lt_ (r_t_heard_37 (w3_37 - (1 : Int32)).toNatClampNeg) (fun z9 => chk (vin w3_37 6) (lt_ (r_t_hours_37 (w3_37 - (1 : Int32)).toNatClampNeg) (fun z11 => lt_ (w3_37 + (-1 : Int32)) (fun z12 => fX11_hears_37 w2_37 n z12 (upd r_t_heard_37 w3_37.toNatClampNeg z9) (upd r_t_hours_37 w3_37.toNatClampNeg z11))))))))
def fX11_hears (v_t_noted : Int32) (r_t_told : Nat → Int32) (r_t_heard : Nat → Int32) (r_t_hours : Nat → Int32) (p1 : Int32) (p2 : Int32) : Option (Int32 × Int32 × (Nat → Int32) × (Nat → Int32)) :=
  (fX11_isDeed r_t_told p1).bind (fun o1 => (if o1 = 0 then some ((-1 : Int32), v_t_noted, r_t_heard, r_t_hours) else (fX11_in p2 (0 : Int32) (99 : Int32)).bind (fun o3 => (if o3 = 0 then some ((-1 : Int32), v_t_noted, r_t_heard, r_t_hours) else (if v_t_noted = (6 : Int32) then some ((-3 : Int32), v_t_noted, r_t_heard, r_t_hours) else (fX11_hears_37 p2 FU v_t_noted r_t_heard r_t_hours).bind (fun y13 => chk (vin y13.1 6) (lt_ (v_t_noted + (1 : Int32)) (fun z15 => some (z15, z15, (upd y13.2.1 y13.1.toNatClampNeg p1), (upd y13.2.2 y13.1.toNatClampNeg p2))))))))))
theorem hd_X11_hears : yX11_hears.cls = RX11 ∧ yX11_hears.cls ≠ "java/lang/invoke/MethodHandle" ∧ yX11_hears.cls ≠ "java/lang/invoke/VarHandle" ∧ (parseMethodDescriptor yX11_hears.desc).map (fun d => d.parameters.length) = some 2 := by decide +kernel
set_option maxHeartbeats 4000000 in
set_option maxRecDepth 100000 in
theorem k_X11_hears (l : Launch) (D : va_G) (C : Nat → ClassId) (q_t : Nat) (q_t_text : Nat) (q_t_told : Nat) (q_t_draft : Nat) (q_t_s : Nat) (q_t_images : Nat) (q_t_kept : Nat) (q_t_heard : Nat) (q_t_hours : Nat) (q_t_row : Nat) (q_t_best : Nat) (q_t_places : Nat) (q_t_pairs : Nat) (v_t_trace : Int64) (v_t_typed : Int32) (v_t_noted : Int32) (v_t_at : Int32) (v_t_sort : Int32) (v_t_start : Int32) (v_t_value : Int32) (v_t_bestMany : Int32) (v_t_bestWorth : Int32) (v_t_bestHour : Int32) (r_t_told : Nat → Int32) (r_t_heard : Nat → Int32) (r_t_hours : Nat → Int32) (p1 : Int32) (p2 : Int32) (sz : Nat) (out : Int32 × Int32 × (Nat → Int32) × (Nat → Int32)) (hf : fX11_hears v_t_noted r_t_told r_t_heard r_t_hours p1 p2 = some out) : MI l yX11_hears wsX11_hears ({ frames := 2, cells := 0, slots := 0, locals := 43 }) D C [.ref q_t, .int p1, .int p2] [ob q_t 11 [.long v_t_trace, .ref q_t_text, .int v_t_typed, .ref q_t_told, .ref q_t_draft, .ref q_t_s, .ref q_t_images, .ref q_t_kept, .ref q_t_heard, .ref q_t_hours, .int v_t_noted, .int v_t_at, .int v_t_sort, .int v_t_start, .int v_t_value, .ref q_t_row, .ref q_t_best, .int v_t_bestMany, .int v_t_bestWorth, .int v_t_bestHour, .ref q_t_places, .ref q_t_pairs], ia C q_t_told 52 r_t_told, ia C q_t_heard 6 r_t_heard, ia C q_t_hours 6 r_t_hours] [ob q_t 11 [.long v_t_trace, .ref q_t_text, .int v_t_typed, .ref q_t_told, .ref q_t_draft, .ref q_t_s, .ref q_t_images, .ref q_t_kept, .ref q_t_heard, .ref q_t_hours, .int out.2.1, .int v_t_at, .int v_t_sort, .int v_t_start, .int v_t_value, .ref q_t_row, .ref q_t_best, .int v_t_bestMany, .int v_t_bestWorth, .int v_t_bestHour, .ref q_t_places, .ref q_t_pairs], ia C q_t_told 52 r_t_told, ia C q_t_heard 6 out.2.2.1, ia C q_t_hours 6 out.2.2.2] sz (out.1) := by
  unfold fX11_hears at hf
  refine en_I (by decide) rfl (Nat.le_of_ble_eq_true rfl) ?_
  intro p e s m below meth c A ls H locs hx hb hr hlocks hml hts hown hK hP hD hS hA hl
  have hl : lv_has ls 4 [(0, .ref q_t), (1, .int p1), (2, .int p2)] := hl
  have inX11 : ∀ w ∈ u_ws RX11 TX11 22, w ∈ wsX11_hears := fun w h => List.mem_cons_of_mem _ (List.mem_append_right _ h)
  have LP37 : ∀ (Q : State → Prop) (n : Nat) (w3_37 : Int32) (w1_37 : Int32) (w2_37 : Int32) (v_t_trace_37 : Int64) (v_t_typed_37 : Int32) (v_t_noted_37 : Int32) (v_t_at_37 : Int32) (v_t_sort_37 : Int32) (v_t_start_37 : Int32) (v_t_value_37 : Int32) (v_t_bestMany_37 : Int32) (v_t_bestWorth_37 : Int32) (v_t_bestHour_37 : Int32) (r_t_told_37 : Nat → Int32) (r_t_heard_37 : Nat → Int32) (r_t_hours_37 : Nat → Int32) (y_37 : Int32 × (Nat → Int32) × (Nat → Int32)), fX11_hears_37 w2_37 n w3_37 r_t_heard_37 r_t_hours_37 = some y_37 → ∀ (H : Heap) (locs : List Loc) (ls : Array Slot), va_P D vwCl [ob q_t 11 [.long v_t_trace_37, .ref q_t_text, .int v_t_typed_37, .ref q_t_told, .ref q_t_draft, .ref q_t_s, .ref q_t_images, .ref q_t_kept, .ref q_t_heard, .ref q_t_hours, .int v_t_noted_37, .int v_t_at_37, .int v_t_sort_37, .int v_t_start_37, .int v_t_value_37, .ref q_t_row, .ref q_t_best, .int v_t_bestMany_37, .int v_t_bestWorth_37, .int v_t_bestHour_37, .ref q_t_places, .ref q_t_pairs], ia C q_t_told 52 r_t_told_37, ia C q_t_heard 6 r_t_heard_37, ia C q_t_hours 6 r_t_hours_37] H → va_D A [ob q_t 11 [.long v_t_trace_37, .ref q_t_text, .int v_t_typed_37, .ref q_t_told, .ref q_t_draft, .ref q_t_s, .ref q_t_images, .ref q_t_kept, .ref q_t_heard, .ref q_t_hours, .int v_t_noted_37, .int v_t_at_37, .int v_t_sort_37, .int v_t_start_37, .int v_t_value_37, .ref q_t_row, .ref q_t_best, .int v_t_bestMany_37, .int v_t_bestWorth_37, .int v_t_bestHour_37, .ref q_t_places, .ref q_t_pairs], ia C q_t_told 52 r_t_told_37, ia C q_t_heard 6 r_t_heard_37, ia C q_t_hours 6 r_t_hours_37] → va_S A s.heap H locs → lv_has ls 4 [(3, .int w3_37), (0, .ref q_t), (1, .int w1_37), (2, .int w2_37)] → (∀ (H : Heap) (locs : List Loc) (ls : Array Slot), va_P D vwCl [ob q_t 11 [.long v_t_trace_37, .ref q_t_text, .int v_t_typed_37, .ref q_t_told, .ref q_t_draft, .ref q_t_s, .ref q_t_images, .ref q_t_kept, .ref q_t_heard, .ref q_t_hours, .int v_t_noted_37, .int v_t_at_37, .int v_t_sort_37, .int v_t_start_37, .int v_t_value_37, .ref q_t_row, .ref q_t_best, .int v_t_bestMany_37, .int v_t_bestWorth_37, .int v_t_bestHour_37, .ref q_t_places, .ref q_t_pairs], ia C q_t_told 52 r_t_told_37, ia C q_t_heard 6 y_37.2.1, ia C q_t_hours 6 y_37.2.2] H → va_D A [ob q_t 11 [.long v_t_trace_37, .ref q_t_text, .int v_t_typed_37, .ref q_t_told, .ref q_t_draft, .ref q_t_s, .ref q_t_images, .ref q_t_kept, .ref q_t_heard, .ref q_t_hours, .int v_t_noted_37, .int v_t_at_37, .int v_t_sort_37, .int v_t_start_37, .int v_t_value_37, .ref q_t_row, .ref q_t_best, .int v_t_bestMany_37, .int v_t_bestWorth_37, .int v_t_bestHour_37, .ref q_t_places, .ref q_t_pairs], ia C q_t_told 52 r_t_told_37, ia C q_t_heard 6 y_37.2.1, ia C q_t_hours 6 y_37.2.2] → va_S A s.heap H locs → lv_has ls 4 [(3, .int y_37.1), (0, .ref q_t), (1, .int w1_37), (2, .int w2_37)] → W p l e ({ frames := 2, cells := 0, slots := 0, locals := 43 } : Room) s m ([.ref q_t, .int p1, .int p2] : List Value).toArray below meth c H locs 0 0 Q (F0 m 87 ls [])) → W p l e ({ frames := 2, cells := 0, slots := 0, locals := 43 } : Room) s m ([.ref q_t, .int p1, .int p2] : List Value).toArray below meth c H locs 0 0 Q (F0 m 37 ls []) := by
    intro Q n
    induction n with
    | zero =>
      intro w3_37 w1_37 w2_37 v_t_trace_37 v_t_typed_37 v_t_noted_37 v_t_at_37 v_t_sort_37 v_t_start_37 v_t_value_37 v_t_bestMany_37 v_t_bestWorth_37 v_t_bestHour_37 r_t_told_37 r_t_heard_37 r_t_hours_37 y_37 hf
      rw [fX11_hears_37] at hf
      cases hf
    | succ n ih =>
      intro w3_37 w1_37 w2_37 v_t_trace_37 v_t_typed_37 v_t_noted_37 v_t_at_37 v_t_sort_37 v_t_start_37 v_t_value_37 v_t_bestMany_37 v_t_bestWorth_37 v_t_bestHour_37 r_t_told_37 r_t_heard_37 r_t_hours_37 y_37 hf H locs ls hP hD hS hl KX0
      rw [fX11_hears_37] at hf
      refine lv_iload_n hx hb dX11_hears_37 rfl (lv_at hl 0 rfl) ?_
      refine lv_if_le (tgt := 87) hx hb dX11_hears_38 (by decide) (fun c6 => ?_) (fun c6 => ?_)
      · have hf := of_pos hf c6
        obtain rfl := Option.some.inj hf
        exact KX0 _ _ _ hP hD hS (lv_sub hl [0, 1, 2, 3] rfl)
      · have hf := of_neg hf c6
        refine lv_aload_n hx hb dX11_hears_41 rfl (lv_at hl 1 rfl) ?_
        refine va_get (D := D) (ci := 11) (v := .ref q_t_hours) (C := RX11) (T := TX11) (N := 22) hx hb hts inX11 hown hK hP 0 rfl rfl 9 (by decide) (hts (.fieldLink RX11 32 "LentCourageModel" "hours" "[I") (List.mem_of_getElem? (i := 2) rfl)) (fun _ h9 => h9) rfl dX11_hears_42 ?_
        refine lv_iload_n hx hb dX11_hears_45 rfl (lv_at hl 0 rfl) ?_
        refine lv_iconst (v := (1 : Int32)) hx hb dX11_hears_46 (by decide) ?_
        refine lv_isub hx hb dX11_hears_47 ?_
        obtain ⟨h7, hf⟩ := of_chk hf
        refine va_iald hx hb hK hP 3 0 rfl rfl h7 dX11_hears_48 ?_
        refine lv_iload_n hx hb dX11_hears_49 rfl (lv_at hl 3 rfl) ?_
        refine lv_icmp_le (tgt := 87) hx hb dX11_hears_50 (by decide) (fun c8 => ?_) (fun c8 => ?_)
        · have hf := of_pos hf c8
          obtain rfl := Option.some.inj hf
          exact KX0 _ _ _ hP hD hS (lv_sub hl [0, 1, 2, 3] rfl)
        · have hf := of_neg hf c8
          refine lv_aload_n hx hb dX11_hears_53 rfl (lv_at hl 1 rfl) ?_
          refine va_get (D := D) (ci := 11) (v := .ref q_t_heard) (C := RX11) (T := TX11) (N := 22) hx hb hts inX11 hown hK hP 0 rfl rfl 8 (by decide) (hts (.fieldLink RX11 29 "LentCourageModel" "heard" "[I") (List.mem_of_getElem? (i := 3) rfl)) (fun _ h9 => h9) rfl dX11_hears_54 ?_
          refine lv_iload_n hx hb dX11_hears_57 rfl (lv_at hl 0 rfl) ?_
          refine lv_aload_n hx hb dX11_hears_58 rfl (lv_at hl 1 rfl) ?_
          refine va_get (D := D) (ci := 11) (v := .ref q_t_heard) (C := RX11) (T := TX11) (N := 22) hx hb hts inX11 hown hK hP 0 rfl rfl 8 (by decide) (hts (.fieldLink RX11 29 "LentCourageModel" "heard" "[I") (List.mem_of_getElem? (i := 3) rfl)) (fun _ h9 => h9) rfl dX11_hears_59 ?_
          refine lv_iload_n hx hb dX11_hears_62 rfl (lv_at hl 0 rfl) ?_
          refine lv_iconst (v := (1 : Int32)) hx hb dX11_hears_63 (by decide) ?_
          refine lv_isub hx hb dX11_hears_64 ?_
          refine va_iald hx hb hK hP 2 0 rfl rfl h7 dX11_hears_65 ?_
          refine lv_topi (fun z9 ez9 => ?_)
          have hf := of_lt hf ez9
          obtain ⟨h10, hf⟩ := of_chk hf
          refine va_iast hx hb hK hP hD hS 2 0 rfl rfl h10 dX11_hears_66 (fun H locs hP hD hS => ?_)
          have hP : va_P D vwCl [ob q_t 11 [.long v_t_trace_37, .ref q_t_text, .int v_t_typed_37, .ref q_t_told, .ref q_t_draft, .ref q_t_s, .ref q_t_images, .ref q_t_kept, .ref q_t_heard, .ref q_t_hours, .int v_t_noted_37, .int v_t_at_37, .int v_t_sort_37, .int v_t_start_37, .int v_t_value_37, .ref q_t_row, .ref q_t_best, .int v_t_bestMany_37, .int v_t_bestWorth_37, .int v_t_bestHour_37, .ref q_t_places, .ref q_t_pairs], ia C q_t_told 52 r_t_told_37, ia C q_t_heard 6 (upd r_t_heard_37 w3_37.toNatClampNeg z9), ia C q_t_hours 6 r_t_hours_37] H := hP
          have hD : va_D A [ob q_t 11 [.long v_t_trace_37, .ref q_t_text, .int v_t_typed_37, .ref q_t_told, .ref q_t_draft, .ref q_t_s, .ref q_t_images, .ref q_t_kept, .ref q_t_heard, .ref q_t_hours, .int v_t_noted_37, .int v_t_at_37, .int v_t_sort_37, .int v_t_start_37, .int v_t_value_37, .ref q_t_row, .ref q_t_best, .int v_t_bestMany_37, .int v_t_bestWorth_37, .int v_t_bestHour_37, .ref q_t_places, .ref q_t_pairs], ia C q_t_told 52 r_t_told_37, ia C q_t_heard 6 (upd r_t_heard_37 w3_37.toNatClampNeg z9), ia C q_t_hours 6 r_t_hours_37] := hD
          refine lv_aload_n hx hb dX11_hears_67 rfl (lv_at hl 1 rfl) ?_
          refine va_get (D := D) (ci := 11) (v := .ref q_t_hours) (C := RX11) (T := TX11) (N := 22) hx hb hts inX11 hown hK hP 0 rfl rfl 9 (by decide) (hts (.fieldLink RX11 32 "LentCourageModel" "hours" "[I") (List.mem_of_getElem? (i := 2) rfl)) (fun _ h9 => h9) rfl dX11_hears_68 ?_
          refine lv_iload_n hx hb dX11_hears_71 rfl (lv_at hl 0 rfl) ?_
          refine lv_aload_n hx hb dX11_hears_72 rfl (lv_at hl 1 rfl) ?_
          refine va_get (D := D) (ci := 11) (v := .ref q_t_hours) (C := RX11) (T := TX11) (N := 22) hx hb hts inX11 hown hK hP 0 rfl rfl 9 (by decide) (hts (.fieldLink RX11 32 "LentCourageModel" "hours" "[I") (List.mem_of_getElem? (i := 2) rfl)) (fun _ h9 => h9) rfl dX11_hears_73 ?_
          refine lv_iload_n hx hb dX11_hears_76 rfl (lv_at hl 0 rfl) ?_
          refine lv_iconst (v := (1 : Int32)) hx hb dX11_hears_77 (by decide) ?_
          refine lv_isub hx hb dX11_hears_78 ?_
          refine va_iald hx hb hK hP 3 0 rfl rfl h7 dX11_hears_79 ?_
          refine lv_topi (fun z11 ez11 => ?_)
          have hf := of_lt hf ez11
          refine va_iast hx hb hK hP hD hS 3 0 rfl rfl h10 dX11_hears_80 (fun H locs hP hD hS => ?_)
          have hP : va_P D vwCl [ob q_t 11 [.long v_t_trace_37, .ref q_t_text, .int v_t_typed_37, .ref q_t_told, .ref q_t_draft, .ref q_t_s, .ref q_t_images, .ref q_t_kept, .ref q_t_heard, .ref q_t_hours, .int v_t_noted_37, .int v_t_at_37, .int v_t_sort_37, .int v_t_start_37, .int v_t_value_37, .ref q_t_row, .ref q_t_best, .int v_t_bestMany_37, .int v_t_bestWorth_37, .int v_t_bestHour_37, .ref q_t_places, .ref q_t_pairs], ia C q_t_told 52 r_t_told_37, ia C q_t_heard 6 (upd r_t_heard_37 w3_37.toNatClampNeg z9), ia C q_t_hours 6 (upd r_t_hours_37 w3_37.toNatClampNeg z11)] H := hP
          have hD : va_D A [ob q_t 11 [.long v_t_trace_37, .ref q_t_text, .int v_t_typed_37, .ref q_t_told, .ref q_t_draft, .ref q_t_s, .ref q_t_images, .ref q_t_kept, .ref q_t_heard, .ref q_t_hours, .int v_t_noted_37, .int v_t_at_37, .int v_t_sort_37, .int v_t_start_37, .int v_t_value_37, .ref q_t_row, .ref q_t_best, .int v_t_bestMany_37, .int v_t_bestWorth_37, .int v_t_bestHour_37, .ref q_t_places, .ref q_t_pairs], ia C q_t_told 52 r_t_told_37, ia C q_t_heard 6 (upd r_t_heard_37 w3_37.toNatClampNeg z9), ia C q_t_hours 6 (upd r_t_hours_37 w3_37.toNatClampNeg z11)] := hD
          obtain ⟨z12, ez12⟩ : ∃ y : Int32, y = (w3_37 + (-1 : Int32)) := ⟨_, rfl⟩
          have hf := of_lt hf ez12
          refine lv_iinc (v := z12) (lv' := [(3, .int z12), (0, .ref q_t), (1, .int w1_37), (2, .int w2_37)]) hx hb dX11_hears_81 hl (k := 0) rfl (by rw [ez12]; rfl) (by decide) rfl (fun ls hl => ?_)
          refine lv_goto (tgt := 37) hx hb dX11_hears_84 (by decide) ?_
          exact ih _ _ _ _ _ _ _ _ _ _ _ _ _ _ _ _ _ hf H locs ls hP hD hS (lv_sub hl [0, 1, 2, 3] rfl) KX0
  refine lv_aload_n hx hb dX11_hears_0 rfl (lv_at hl 0 rfl) ?_
  refine lv_iload_n hx hb dX11_hears_1 rfl (lv_at hl 1 rfl) ?_
  obtain ⟨o1, ho1, hf⟩ := of_bind hf
  refine c_I (wr := [ia C q_t_heard 6 r_t_heard, ia C q_t_hours 6 r_t_hours]) (W2 := [ob q_t 11 [.long v_t_trace, .ref q_t_text, .int v_t_typed, .ref q_t_told, .ref q_t_draft, .ref q_t_s, .ref q_t_images, .ref q_t_kept, .ref q_t_heard, .ref q_t_hours, .int v_t_noted, .int v_t_at, .int v_t_sort, .int v_t_start, .int v_t_value, .ref q_t_row, .ref q_t_best, .int v_t_bestMany, .int v_t_bestWorth, .int v_t_bestHour, .ref q_t_places, .ref q_t_pairs], ia C q_t_told 52 r_t_told, ia C q_t_heard 6 r_t_heard, ia C q_t_hours 6 r_t_hours]) (cV_run ⟨hx, hb, hml, hown, hts⟩ (k_X11_isDeed l D C q_t q_t_text q_t_told q_t_draft q_t_s q_t_images q_t_kept q_t_heard q_t_hours q_t_row q_t_best q_t_places q_t_pairs v_t_trace v_t_typed v_t_noted v_t_at v_t_sort v_t_start v_t_value v_t_bestMany v_t_bestWorth v_t_bestHour r_t_told p1 H.size o1 ho1) gX11_hears_X11_isDeed rfl ⟨rfl, rfl⟩ hd_X11_isDeed ⟨(Nat.le_of_ble_eq_true rfl), (Nat.le_of_ble_eq_true rfl)⟩ rfl hK (cut_in hK hP hD [0, 1] rfl (by decide)) (ci := 11) rfl rfl rfl hl.1 rfl (Nat.le_of_ble_eq_true rfl) dX11_hears_2 ⟨Nat.zero_le _, Nat.zero_le _⟩) hP hD hS hA [0, 1] [2, 3] [2, 3, 0, 1] rfl rfl (by decide) (by decide) rfl (by decide) (fun H locs hP hD hS => ?_)
  have hP : va_P D vwCl [ob q_t 11 [.long v_t_trace, .ref q_t_text, .int v_t_typed, .ref q_t_told, .ref q_t_draft, .ref q_t_s, .ref q_t_images, .ref q_t_kept, .ref q_t_heard, .ref q_t_hours, .int v_t_noted, .int v_t_at, .int v_t_sort, .int v_t_start, .int v_t_value, .ref q_t_row, .ref q_t_best, .int v_t_bestMany, .int v_t_bestWorth, .int v_t_bestHour, .ref q_t_places, .ref q_t_pairs], ia C q_t_told 52 r_t_told, ia C q_t_heard 6 r_t_heard, ia C q_t_hours 6 r_t_hours] H := hP
  have hD : va_D A [ob q_t 11 [.long v_t_trace, .ref q_t_text, .int v_t_typed, .ref q_t_told, .ref q_t_draft, .ref q_t_s, .ref q_t_images, .ref q_t_kept, .ref q_t_heard, .ref q_t_hours, .int v_t_noted, .int v_t_at, .int v_t_sort, .int v_t_start, .int v_t_value, .ref q_t_row, .ref q_t_best, .int v_t_bestMany, .int v_t_bestWorth, .int v_t_bestHour, .ref q_t_places, .ref q_t_pairs], ia C q_t_told 52 r_t_told, ia C q_t_heard 6 r_t_heard, ia C q_t_hours 6 r_t_hours] := hD
  refine lv_if_eq (tgt := 18) hx hb dX11_hears_5 (by decide) (fun c2 => ?_) (fun c2 => ?_)
  · have hf := of_pos hf c2
    refine lv_iconst (v := (-1 : Int32)) hx hb dX11_hears_18 (by decide) ?_
    obtain rfl := Option.some.inj hf
    exact ret_I hx hb hr hlocks hK hP hD hS dX11_hears_19
  · have hf := of_neg hf c2
    refine lv_iload_n hx hb dX11_hears_8 rfl (lv_at hl 2 rfl) ?_
    refine lv_iconst (v := (0 : Int32)) hx hb dX11_hears_9 (by decide) ?_
    refine lv_bipush (v := (99 : Int32)) hx hb dX11_hears_10 (by decide) ?_
    obtain ⟨o3, ho3, hf⟩ := of_bind hf
    refine c_I (wr := [ob q_t 11 [.long v_t_trace, .ref q_t_text, .int v_t_typed, .ref q_t_told, .ref q_t_draft, .ref q_t_s, .ref q_t_images, .ref q_t_kept, .ref q_t_heard, .ref q_t_hours, .int v_t_noted, .int v_t_at, .int v_t_sort, .int v_t_start, .int v_t_value, .ref q_t_row, .ref q_t_best, .int v_t_bestMany, .int v_t_bestWorth, .int v_t_bestHour, .ref q_t_places, .ref q_t_pairs], ia C q_t_told 52 r_t_told, ia C q_t_heard 6 r_t_heard, ia C q_t_hours 6 r_t_hours]) (W2 := [ob q_t 11 [.long v_t_trace, .ref q_t_text, .int v_t_typed, .ref q_t_told, .ref q_t_draft, .ref q_t_s, .ref q_t_images, .ref q_t_kept, .ref q_t_heard, .ref q_t_hours, .int v_t_noted, .int v_t_at, .int v_t_sort, .int v_t_start, .int v_t_value, .ref q_t_row, .ref q_t_best, .int v_t_bestMany, .int v_t_bestWorth, .int v_t_bestHour, .ref q_t_places, .ref q_t_pairs], ia C q_t_told 52 r_t_told, ia C q_t_heard 6 r_t_heard, ia C q_t_hours 6 r_t_hours]) (cS_run ⟨hx, hb, hml, hown, hts⟩ (k_X11_in l D C p2 (0 : Int32) (99 : Int32) H.size o3 ho3) gX11_hears_X11_in rfl ⟨rfl, rfl⟩ hd_X11_in ⟨(Nat.le_of_ble_eq_true rfl), (Nat.le_of_ble_eq_true rfl)⟩ rfl hK (cut_in hK hP hD [] rfl (by decide)) hl.1 rfl (Nat.le_of_ble_eq_true rfl) dX11_hears_12 ⟨Nat.zero_le _, Nat.zero_le _⟩) hP hD hS hA [] [0, 1, 2, 3] [0, 1, 2, 3] rfl rfl (by decide) (by decide) rfl (by decide) (fun H locs hP hD hS => ?_)
    have hP : va_P D vwCl [ob q_t 11 [.long v_t_trace, .ref q_t_text, .int v_t_typed, .ref q_t_told, .ref q_t_draft, .ref q_t_s, .ref q_t_images, .ref q_t_kept, .ref q_t_heard, .ref q_t_hours, .int v_t_noted, .int v_t_at, .int v_t_sort, .int v_t_start, .int v_t_value, .ref q_t_row, .ref q_t_best, .int v_t_bestMany, .int v_t_bestWorth, .int v_t_bestHour, .ref q_t_places, .ref q_t_pairs], ia C q_t_told 52 r_t_told, ia C q_t_heard 6 r_t_heard, ia C q_t_hours 6 r_t_hours] H := hP
    have hD : va_D A [ob q_t 11 [.long v_t_trace, .ref q_t_text, .int v_t_typed, .ref q_t_told, .ref q_t_draft, .ref q_t_s, .ref q_t_images, .ref q_t_kept, .ref q_t_heard, .ref q_t_hours, .int v_t_noted, .int v_t_at, .int v_t_sort, .int v_t_start, .int v_t_value, .ref q_t_row, .ref q_t_best, .int v_t_bestMany, .int v_t_bestWorth, .int v_t_bestHour, .ref q_t_places, .ref q_t_pairs], ia C q_t_told 52 r_t_told, ia C q_t_heard 6 r_t_heard, ia C q_t_hours 6 r_t_hours] := hD
    refine lv_if_ne (tgt := 20) hx hb dX11_hears_15 (by decide) (fun c4 => ?_) (fun c4 => ?_)
    · have hf := of_neg hf c4
      refine lv_aload_n hx hb dX11_hears_20 rfl (lv_at hl 0 rfl) ?_
      refine va_get (D := D) (ci := 11) (v := .int v_t_noted) (C := RX11) (T := TX11) (N := 22) hx hb hts inX11 hown hK hP 0 rfl rfl 10 (by decide) (hts (.fieldLink RX11 97 "LentCourageModel" "noted" "I") (List.mem_of_getElem? (i := 1) rfl)) (fun _ h9 => h9) rfl dX11_hears_21 ?_
      refine lv_bipush (v := (6 : Int32)) hx hb dX11_hears_24 (by decide) ?_
      refine lv_icmp_ne (tgt := 32) hx hb dX11_hears_26 (by decide) (fun c5 => ?_) (fun c5 => ?_)
      · have hf := of_neg hf c5
        refine lv_aload_n hx hb dX11_hears_32 rfl (lv_at hl 0 rfl) ?_
        refine va_get (D := D) (ci := 11) (v := .int v_t_noted) (C := RX11) (T := TX11) (N := 22) hx hb hts inX11 hown hK hP 0 rfl rfl 10 (by decide) (hts (.fieldLink RX11 97 "LentCourageModel" "noted" "I") (List.mem_of_getElem? (i := 1) rfl)) (fun _ h9 => h9) rfl dX11_hears_33 ?_
        refine lv_istore_n (lv' := [(3, .int v_t_noted), (0, .ref q_t), (1, .int p1), (2, .int p2)]) hx hb dX11_hears_36 rfl hl (by decide) rfl (fun ls hl => ?_)
        obtain ⟨y13, hy13, hf⟩ := of_bind hf
        refine LP37 _ FU _ _ _ _ _ _ _ _ _ _ _ _ _ _ _ _ y13 hy13 H locs ls hP hD hS (lv_sub hl [0, 1, 2, 3] rfl) (fun H locs ls hP hD hS hl => ?_)
        refine lv_aload_n hx hb dX11_hears_87 rfl (lv_at hl 1 rfl) ?_
        refine va_get (D := D) (ci := 11) (v := .ref q_t_heard) (C := RX11) (T := TX11) (N := 22) hx hb hts inX11 hown hK hP 0 rfl rfl 8 (by decide) (hts (.fieldLink RX11 29 "LentCourageModel" "heard" "[I") (List.mem_of_getElem? (i := 3) rfl)) (fun _ h9 => h9) rfl dX11_hears_88 ?_
        refine lv_iload_n hx hb dX11_hears_91 rfl (lv_at hl 0 rfl) ?_
        refine lv_iload_n hx hb dX11_hears_92 rfl (lv_at hl 2 rfl) ?_
        obtain ⟨h14, hf⟩ := of_chk hf
        refine va_iast hx hb hK hP hD hS 2 0 rfl rfl h14 dX11_hears_93 (fun H locs hP hD hS => ?_)
        have hP : va_P D vwCl [ob q_t 11 [.long v_t_trace, .ref q_t_text, .int v_t_typed, .ref q_t_told, .ref q_t_draft, .ref q_t_s, .ref q_t_images, .ref q_t_kept, .ref q_t_heard, .ref q_t_hours, .int v_t_noted, .int v_t_at, .int v_t_sort, .int v_t_start, .int v_t_value, .ref q_t_row, .ref q_t_best, .int v_t_bestMany, .int v_t_bestWorth, .int v_t_bestHour, .ref q_t_places, .ref q_t_pairs], ia C q_t_told 52 r_t_told, ia C q_t_heard 6 (upd y13.2.1 y13.1.toNatClampNeg p1), ia C q_t_hours 6 y13.2.2] H := hP
        have hD : va_D A [ob q_t 11 [.long v_t_trace, .ref q_t_text, .int v_t_typed, .ref q_t_told, .ref q_t_draft, .ref q_t_s, .ref q_t_images, .ref q_t_kept, .ref q_t_heard, .ref q_t_hours, .int v_t_noted, .int v_t_at, .int v_t_sort, .int v_t_start, .int v_t_value, .ref q_t_row, .ref q_t_best, .int v_t_bestMany, .int v_t_bestWorth, .int v_t_bestHour, .ref q_t_places, .ref q_t_pairs], ia C q_t_told 52 r_t_told, ia C q_t_heard 6 (upd y13.2.1 y13.1.toNatClampNeg p1), ia C q_t_hours 6 y13.2.2] := hD
        refine lv_aload_n hx hb dX11_hears_94 rfl (lv_at hl 1 rfl) ?_
        refine va_get (D := D) (ci := 11) (v := .ref q_t_hours) (C := RX11) (T := TX11) (N := 22) hx hb hts inX11 hown hK hP 0 rfl rfl 9 (by decide) (hts (.fieldLink RX11 32 "LentCourageModel" "hours" "[I") (List.mem_of_getElem? (i := 2) rfl)) (fun _ h9 => h9) rfl dX11_hears_95 ?_
        refine lv_iload_n hx hb dX11_hears_98 rfl (lv_at hl 0 rfl) ?_
        refine lv_iload_n hx hb dX11_hears_99 rfl (lv_at hl 3 rfl) ?_
        refine va_iast hx hb hK hP hD hS 3 0 rfl rfl h14 dX11_hears_100 (fun H locs hP hD hS => ?_)
        have hP : va_P D vwCl [ob q_t 11 [.long v_t_trace, .ref q_t_text, .int v_t_typed, .ref q_t_told, .ref q_t_draft, .ref q_t_s, .ref q_t_images, .ref q_t_kept, .ref q_t_heard, .ref q_t_hours, .int v_t_noted, .int v_t_at, .int v_t_sort, .int v_t_start, .int v_t_value, .ref q_t_row, .ref q_t_best, .int v_t_bestMany, .int v_t_bestWorth, .int v_t_bestHour, .ref q_t_places, .ref q_t_pairs], ia C q_t_told 52 r_t_told, ia C q_t_heard 6 (upd y13.2.1 y13.1.toNatClampNeg p1), ia C q_t_hours 6 (upd y13.2.2 y13.1.toNatClampNeg p2)] H := hP
        have hD : va_D A [ob q_t 11 [.long v_t_trace, .ref q_t_text, .int v_t_typed, .ref q_t_told, .ref q_t_draft, .ref q_t_s, .ref q_t_images, .ref q_t_kept, .ref q_t_heard, .ref q_t_hours, .int v_t_noted, .int v_t_at, .int v_t_sort, .int v_t_start, .int v_t_value, .ref q_t_row, .ref q_t_best, .int v_t_bestMany, .int v_t_bestWorth, .int v_t_bestHour, .ref q_t_places, .ref q_t_pairs], ia C q_t_told 52 r_t_told, ia C q_t_heard 6 (upd y13.2.1 y13.1.toNatClampNeg p1), ia C q_t_hours 6 (upd y13.2.2 y13.1.toNatClampNeg p2)] := hD
        refine lv_aload_n hx hb dX11_hears_101 rfl (lv_at hl 1 rfl) ?_
        refine lv_dup hx hb dX11_hears_102 rfl ?_
        refine va_get (D := D) (ci := 11) (v := .int v_t_noted) (C := RX11) (T := TX11) (N := 22) hx hb hts inX11 hown hK hP 0 rfl rfl 10 (by decide) (hts (.fieldLink RX11 97 "LentCourageModel" "noted" "I") (List.mem_of_getElem? (i := 1) rfl)) (fun _ h9 => h9) rfl dX11_hears_103 ?_
        refine lv_iconst (v := (1 : Int32)) hx hb dX11_hears_106 (by decide) ?_
        refine lv_iadd hx hb dX11_hears_107 ?_
        refine lv_topi (fun z15 ez15 => ?_)
        have hf := of_lt hf ez15
        refine va_put (D := D) (ci := 11) (v := .int z15) (ty := .int) (C := RX11) (T := TX11) (N := 22) hx hb hts inX11 tyX11 tyX11_ok nmX11 hown hK hP hD hS 0 rfl rfl 10 (by decide) (hts (.fieldLink RX11 97 "LentCourageModel" "noted" "I") (List.mem_of_getElem? (i := 1) rfl)) (fun _ h9 => h9) rfl (tyX11_ok 10 (by decide)) rfl rfl (Nat.le_of_ble_eq_true rfl) dX11_hears_108 (fun H locs hP hD hS => ?_)
        have hP : va_P D vwCl [ob q_t 11 [.long v_t_trace, .ref q_t_text, .int v_t_typed, .ref q_t_told, .ref q_t_draft, .ref q_t_s, .ref q_t_images, .ref q_t_kept, .ref q_t_heard, .ref q_t_hours, .int z15, .int v_t_at, .int v_t_sort, .int v_t_start, .int v_t_value, .ref q_t_row, .ref q_t_best, .int v_t_bestMany, .int v_t_bestWorth, .int v_t_bestHour, .ref q_t_places, .ref q_t_pairs], ia C q_t_told 52 r_t_told, ia C q_t_heard 6 (upd y13.2.1 y13.1.toNatClampNeg p1), ia C q_t_hours 6 (upd y13.2.2 y13.1.toNatClampNeg p2)] H := hP
        have hD : va_D A [ob q_t 11 [.long v_t_trace, .ref q_t_text, .int v_t_typed, .ref q_t_told, .ref q_t_draft, .ref q_t_s, .ref q_t_images, .ref q_t_kept, .ref q_t_heard, .ref q_t_hours, .int z15, .int v_t_at, .int v_t_sort, .int v_t_start, .int v_t_value, .ref q_t_row, .ref q_t_best, .int v_t_bestMany, .int v_t_bestWorth, .int v_t_bestHour, .ref q_t_places, .ref q_t_pairs], ia C q_t_told 52 r_t_told, ia C q_t_heard 6 (upd y13.2.1 y13.1.toNatClampNeg p1), ia C q_t_hours 6 (upd y13.2.2 y13.1.toNatClampNeg p2)] := hD
        refine lv_aload_n hx hb dX11_hears_111 rfl (lv_at hl 1 rfl) ?_
        refine va_get (D := D) (ci := 11) (v := .int z15) (C := RX11) (T := TX11) (N := 22) hx hb hts inX11 hown hK hP 0 rfl rfl 10 (by decide) (hts (.fieldLink RX11 97 "LentCourageModel" "noted" "I") (List.mem_of_getElem? (i := 1) rfl)) (fun _ h9 => h9) rfl dX11_hears_112 ?_
        obtain rfl := Option.some.inj hf
        exact ret_I hx hb hr hlocks hK hP hD hS dX11_hears_115
      · have hf := of_pos hf c5
        refine lv_bipush (v := (-3 : Int32)) hx hb dX11_hears_29 (by decide) ?_
        obtain rfl := Option.some.inj hf
        exact ret_I hx hb hr hlocks hK hP hD hS dX11_hears_31
    · have hf := of_pos hf c4
      refine lv_iconst (v := (-1 : Int32)) hx hb dX11_hears_18 (by decide) ?_
      obtain rfl := Option.some.inj hf
      exact ret_I hx hb hr hlocks hK hP hD hS dX11_hears_19

def fX11_forget (v_t_noted : Int32) : Option (Int32 × Int32) :=
  some (v_t_noted, (0 : Int32))
theorem hd_X11_forget : yX11_forget.cls = RX11 ∧ yX11_forget.cls ≠ "java/lang/invoke/MethodHandle" ∧ yX11_forget.cls ≠ "java/lang/invoke/VarHandle" ∧ (parseMethodDescriptor yX11_forget.desc).map (fun d => d.parameters.length) = some 0 := by decide +kernel
set_option maxHeartbeats 4000000 in
set_option maxRecDepth 100000 in
theorem k_X11_forget (l : Launch) (D : va_G) (C : Nat → ClassId) (q_t : Nat) (q_t_text : Nat) (q_t_told : Nat) (q_t_draft : Nat) (q_t_s : Nat) (q_t_images : Nat) (q_t_kept : Nat) (q_t_heard : Nat) (q_t_hours : Nat) (q_t_row : Nat) (q_t_best : Nat) (q_t_places : Nat) (q_t_pairs : Nat) (v_t_trace : Int64) (v_t_typed : Int32) (v_t_noted : Int32) (v_t_at : Int32) (v_t_sort : Int32) (v_t_start : Int32) (v_t_value : Int32) (v_t_bestMany : Int32) (v_t_bestWorth : Int32) (v_t_bestHour : Int32) (sz : Nat) (out : Int32 × Int32) (hf : fX11_forget v_t_noted = some out) : MI l yX11_forget wsX11_forget ({ frames := 0, cells := 0, slots := 0, locals := 0 }) D C [.ref q_t] [ob q_t 11 [.long v_t_trace, .ref q_t_text, .int v_t_typed, .ref q_t_told, .ref q_t_draft, .ref q_t_s, .ref q_t_images, .ref q_t_kept, .ref q_t_heard, .ref q_t_hours, .int v_t_noted, .int v_t_at, .int v_t_sort, .int v_t_start, .int v_t_value, .ref q_t_row, .ref q_t_best, .int v_t_bestMany, .int v_t_bestWorth, .int v_t_bestHour, .ref q_t_places, .ref q_t_pairs]] [ob q_t 11 [.long v_t_trace, .ref q_t_text, .int v_t_typed, .ref q_t_told, .ref q_t_draft, .ref q_t_s, .ref q_t_images, .ref q_t_kept, .ref q_t_heard, .ref q_t_hours, .int out.2, .int v_t_at, .int v_t_sort, .int v_t_start, .int v_t_value, .ref q_t_row, .ref q_t_best, .int v_t_bestMany, .int v_t_bestWorth, .int v_t_bestHour, .ref q_t_places, .ref q_t_pairs]] sz (out.1) := by
  unfold fX11_forget at hf
  refine en_I (by decide) rfl (Nat.le_of_ble_eq_true rfl) ?_
  intro p e s m below meth c A ls H locs hx hb hr hlocks hml hts hown hK hP hD hS hA hl
  have hl : lv_has ls 2 [(0, .ref q_t)] := hl
  have inX11 : ∀ w ∈ u_ws RX11 TX11 22, w ∈ wsX11_forget := fun w h => List.mem_cons_of_mem _ (List.mem_append_right _ h)
  refine lv_aload_n hx hb dX11_forget_0 rfl (lv_at hl 0 rfl) ?_
  refine va_get (D := D) (ci := 11) (v := .int v_t_noted) (C := RX11) (T := TX11) (N := 22) hx hb hts inX11 hown hK hP 0 rfl rfl 10 (by decide) (hts (.fieldLink RX11 97 "LentCourageModel" "noted" "I") (List.mem_of_getElem? (i := 1) rfl)) (fun _ h9 => h9) rfl dX11_forget_1 ?_
  refine lv_istore_n (lv' := [(1, .int v_t_noted), (0, .ref q_t)]) hx hb dX11_forget_4 rfl hl (by decide) rfl (fun ls hl => ?_)
  refine lv_aload_n hx hb dX11_forget_5 rfl (lv_at hl 1 rfl) ?_
  refine lv_iconst (v := (0 : Int32)) hx hb dX11_forget_6 (by decide) ?_
  refine va_put (D := D) (ci := 11) (v := .int (0 : Int32)) (ty := .int) (C := RX11) (T := TX11) (N := 22) hx hb hts inX11 tyX11 tyX11_ok nmX11 hown hK hP hD hS 0 rfl rfl 10 (by decide) (hts (.fieldLink RX11 97 "LentCourageModel" "noted" "I") (List.mem_of_getElem? (i := 1) rfl)) (fun _ h9 => h9) rfl (tyX11_ok 10 (by decide)) rfl rfl (Nat.le_of_ble_eq_true rfl) dX11_forget_7 (fun H locs hP hD hS => ?_)
  have hP : va_P D vwCl [ob q_t 11 [.long v_t_trace, .ref q_t_text, .int v_t_typed, .ref q_t_told, .ref q_t_draft, .ref q_t_s, .ref q_t_images, .ref q_t_kept, .ref q_t_heard, .ref q_t_hours, .int (0 : Int32), .int v_t_at, .int v_t_sort, .int v_t_start, .int v_t_value, .ref q_t_row, .ref q_t_best, .int v_t_bestMany, .int v_t_bestWorth, .int v_t_bestHour, .ref q_t_places, .ref q_t_pairs]] H := hP
  have hD : va_D A [ob q_t 11 [.long v_t_trace, .ref q_t_text, .int v_t_typed, .ref q_t_told, .ref q_t_draft, .ref q_t_s, .ref q_t_images, .ref q_t_kept, .ref q_t_heard, .ref q_t_hours, .int (0 : Int32), .int v_t_at, .int v_t_sort, .int v_t_start, .int v_t_value, .ref q_t_row, .ref q_t_best, .int v_t_bestMany, .int v_t_bestWorth, .int v_t_bestHour, .ref q_t_places, .ref q_t_pairs]] := hD
  refine lv_iload_n hx hb dX11_forget_10 rfl (lv_at hl 0 rfl) ?_
  obtain rfl := Option.some.inj hf
  exact ret_I hx hb hr hlocks hK hP hD hS dX11_forget_11

def fX11_lies_4 (v_t_noted_4 : Int32) (r_t_told_4 : Nat → Int32) (r_t_heard_4 : Nat → Int32) (r_t_hours_4 : Nat → Int32) : Nat → Int32 → Int32 → Option (Int32 × Int32)
  | 0, _, _ => none
  | n + 1, w2_4, w1_4 => (if v_t_noted_4 ≤ w2_4 then some (w2_4, w1_4) else chk (vin w2_4 6) (chk (vin ((20 : Int32) + (r_t_heard_4 w2_4.toNatClampNeg)) 52) (chk (vin (w2_4 - (1 : Int32)) 6) (chk (vin ((20 : Int32) + (r_t_heard_4 (w2_4 - (1 : Int32)).toNatClampNeg)) 52) ((fX11_far (r_t_told_4 ((20 : Int32) + (r_t_heard_4 w2_4.toNatClampNeg)).toNatClampNeg) (r_t_told_4 ((20 : Int32) + (r_t_heard_4 (w2_4 - (1 : Int32)).toNatClampNeg)).toNatClampNeg)).bind (fun o6 => lt_ (w1_4 + (if o6 ≤ ((r_t_hours_4 w2_4.toNatClampNeg) - (r_t_hours_4 (w2_4 - (1 : Int32)).toNatClampNeg)) then (0 : Int32) else (1 : Int32))) (fun z8 => lt_ (w2_4 + (1 : Int32)) (fun z9 => fX11_lies_4 v_t_noted_4 r_t_told_4 r_t_heard_4 r_t_hours_4 n z9 z8))))))))
def fX11_lies (v_t_noted : Int32) (r_t_told : Nat → Int32) (r_t_heard : Nat → Int32) (r_t_hours : Nat → Int32) : Option (Int32) :=
  (fX11_lies_4 v_t_noted r_t_told r_t_heard r_t_hours FU (1 : Int32) (0 : Int32)).bind (fun y10 => some y10.2)
theorem hd_X11_lies : yX11_lies.cls = RX11 ∧ yX11_lies.cls ≠ "java/lang/invoke/MethodHandle" ∧ yX11_lies.cls ≠ "java/lang/invoke/VarHandle" ∧ (parseMethodDescriptor yX11_lies.desc).map (fun d => d.parameters.length) = some 0 := by decide +kernel
set_option maxHeartbeats 4000000 in
set_option maxRecDepth 100000 in
theorem k_X11_lies (l : Launch) (D : va_G) (C : Nat → ClassId) (q_t : Nat) (q_t_text : Nat) (q_t_told : Nat) (q_t_draft : Nat) (q_t_s : Nat) (q_t_images : Nat) (q_t_kept : Nat) (q_t_heard : Nat) (q_t_hours : Nat) (q_t_row : Nat) (q_t_best : Nat) (q_t_places : Nat) (q_t_pairs : Nat) (v_t_trace : Int64) (v_t_typed : Int32) (v_t_noted : Int32) (v_t_at : Int32) (v_t_sort : Int32) (v_t_start : Int32) (v_t_value : Int32) (v_t_bestMany : Int32) (v_t_bestWorth : Int32) (v_t_bestHour : Int32) (r_t_told : Nat → Int32) (r_t_heard : Nat → Int32) (r_t_hours : Nat → Int32) (sz : Nat) (out : Int32) (hf : fX11_lies v_t_noted r_t_told r_t_heard r_t_hours = some out) : MI l yX11_lies wsX11_lies ({ frames := 1, cells := 0, slots := 0, locals := 21 }) D C [.ref q_t] [ob q_t 11 [.long v_t_trace, .ref q_t_text, .int v_t_typed, .ref q_t_told, .ref q_t_draft, .ref q_t_s, .ref q_t_images, .ref q_t_kept, .ref q_t_heard, .ref q_t_hours, .int v_t_noted, .int v_t_at, .int v_t_sort, .int v_t_start, .int v_t_value, .ref q_t_row, .ref q_t_best, .int v_t_bestMany, .int v_t_bestWorth, .int v_t_bestHour, .ref q_t_places, .ref q_t_pairs], ia C q_t_told 52 r_t_told, ia C q_t_heard 6 r_t_heard, ia C q_t_hours 6 r_t_hours] [ob q_t 11 [.long v_t_trace, .ref q_t_text, .int v_t_typed, .ref q_t_told, .ref q_t_draft, .ref q_t_s, .ref q_t_images, .ref q_t_kept, .ref q_t_heard, .ref q_t_hours, .int v_t_noted, .int v_t_at, .int v_t_sort, .int v_t_start, .int v_t_value, .ref q_t_row, .ref q_t_best, .int v_t_bestMany, .int v_t_bestWorth, .int v_t_bestHour, .ref q_t_places, .ref q_t_pairs], ia C q_t_told 52 r_t_told, ia C q_t_heard 6 r_t_heard, ia C q_t_hours 6 r_t_hours] sz (out) := by
  unfold fX11_lies at hf
  refine en_I (by decide) rfl (Nat.le_of_ble_eq_true rfl) ?_
  intro p e s m below meth c A ls H locs hx hb hr hlocks hml hts hown hK hP hD hS hA hl
  have hl : lv_has ls 3 [(0, .ref q_t)] := hl
  have inX11 : ∀ w ∈ u_ws RX11 TX11 22, w ∈ wsX11_lies := fun w h => List.mem_cons_of_mem _ (List.mem_append_right _ h)
  have LP4 : ∀ (Q : State → Prop) (n : Nat) (w2_4 : Int32) (w1_4 : Int32) (v_t_trace_4 : Int64) (v_t_typed_4 : Int32) (v_t_noted_4 : Int32) (v_t_at_4 : Int32) (v_t_sort_4 : Int32) (v_t_start_4 : Int32) (v_t_value_4 : Int32) (v_t_bestMany_4 : Int32) (v_t_bestWorth_4 : Int32) (v_t_bestHour_4 : Int32) (r_t_told_4 : Nat → Int32) (r_t_heard_4 : Nat → Int32) (r_t_hours_4 : Nat → Int32) (y_4 : Int32 × Int32), fX11_lies_4 v_t_noted_4 r_t_told_4 r_t_heard_4 r_t_hours_4 n w2_4 w1_4 = some y_4 → ∀ (H : Heap) (locs : List Loc) (ls : Array Slot), va_P D vwCl [ob q_t 11 [.long v_t_trace_4, .ref q_t_text, .int v_t_typed_4, .ref q_t_told, .ref q_t_draft, .ref q_t_s, .ref q_t_images, .ref q_t_kept, .ref q_t_heard, .ref q_t_hours, .int v_t_noted_4, .int v_t_at_4, .int v_t_sort_4, .int v_t_start_4, .int v_t_value_4, .ref q_t_row, .ref q_t_best, .int v_t_bestMany_4, .int v_t_bestWorth_4, .int v_t_bestHour_4, .ref q_t_places, .ref q_t_pairs], ia C q_t_told 52 r_t_told_4, ia C q_t_heard 6 r_t_heard_4, ia C q_t_hours 6 r_t_hours_4] H → va_D A [ob q_t 11 [.long v_t_trace_4, .ref q_t_text, .int v_t_typed_4, .ref q_t_told, .ref q_t_draft, .ref q_t_s, .ref q_t_images, .ref q_t_kept, .ref q_t_heard, .ref q_t_hours, .int v_t_noted_4, .int v_t_at_4, .int v_t_sort_4, .int v_t_start_4, .int v_t_value_4, .ref q_t_row, .ref q_t_best, .int v_t_bestMany_4, .int v_t_bestWorth_4, .int v_t_bestHour_4, .ref q_t_places, .ref q_t_pairs], ia C q_t_told 52 r_t_told_4, ia C q_t_heard 6 r_t_heard_4, ia C q_t_hours 6 r_t_hours_4] → va_S A s.heap H locs → lv_has ls 3 [(2, .int w2_4), (1, .int w1_4), (0, .ref q_t)] → (∀ (H : Heap) (locs : List Loc) (ls : Array Slot), va_P D vwCl [ob q_t 11 [.long v_t_trace_4, .ref q_t_text, .int v_t_typed_4, .ref q_t_told, .ref q_t_draft, .ref q_t_s, .ref q_t_images, .ref q_t_kept, .ref q_t_heard, .ref q_t_hours, .int v_t_noted_4, .int v_t_at_4, .int v_t_sort_4, .int v_t_start_4, .int v_t_value_4, .ref q_t_row, .ref q_t_best, .int v_t_bestMany_4, .int v_t_bestWorth_4, .int v_t_bestHour_4, .ref q_t_places, .ref q_t_pairs], ia C q_t_told 52 r_t_told_4, ia C q_t_heard 6 r_t_heard_4, ia C q_t_hours 6 r_t_hours_4] H → va_D A [ob q_t 11 [.long v_t_trace_4, .ref q_t_text, .int v_t_typed_4, .ref q_t_told, .ref q_t_draft, .ref q_t_s, .ref q_t_images, .ref q_t_kept, .ref q_t_heard, .ref q_t_hours, .int v_t_noted_4, .int v_t_at_4, .int v_t_sort_4, .int v_t_start_4, .int v_t_value_4, .ref q_t_row, .ref q_t_best, .int v_t_bestMany_4, .int v_t_bestWorth_4, .int v_t_bestHour_4, .ref q_t_places, .ref q_t_pairs], ia C q_t_told 52 r_t_told_4, ia C q_t_heard 6 r_t_heard_4, ia C q_t_hours 6 r_t_hours_4] → va_S A s.heap H locs → lv_has ls 3 [(2, .int y_4.1), (1, .int y_4.2), (0, .ref q_t)] → W p l e ({ frames := 1, cells := 0, slots := 0, locals := 21 } : Room) s m ([.ref q_t] : List Value).toArray below meth c H locs 0 0 Q (F0 m 77 ls [])) → W p l e ({ frames := 1, cells := 0, slots := 0, locals := 21 } : Room) s m ([.ref q_t] : List Value).toArray below meth c H locs 0 0 Q (F0 m 4 ls []) := by
    intro Q n
    induction n with
    | zero =>
      intro w2_4 w1_4 v_t_trace_4 v_t_typed_4 v_t_noted_4 v_t_at_4 v_t_sort_4 v_t_start_4 v_t_value_4 v_t_bestMany_4 v_t_bestWorth_4 v_t_bestHour_4 r_t_told_4 r_t_heard_4 r_t_hours_4 y_4 hf
      rw [fX11_lies_4] at hf
      cases hf
    | succ n ih =>
      intro w2_4 w1_4 v_t_trace_4 v_t_typed_4 v_t_noted_4 v_t_at_4 v_t_sort_4 v_t_start_4 v_t_value_4 v_t_bestMany_4 v_t_bestWorth_4 v_t_bestHour_4 r_t_told_4 r_t_heard_4 r_t_hours_4 y_4 hf H locs ls hP hD hS hl KX0
      rw [fX11_lies_4] at hf
      refine lv_iload_n hx hb dX11_lies_4 rfl (lv_at hl 0 rfl) ?_
      refine lv_aload_n hx hb dX11_lies_5 rfl (lv_at hl 2 rfl) ?_
      refine va_get (D := D) (ci := 11) (v := .int v_t_noted_4) (C := RX11) (T := TX11) (N := 22) hx hb hts inX11 hown hK hP 0 rfl rfl 10 (by decide) (hts (.fieldLink RX11 97 "LentCourageModel" "noted" "I") (List.mem_of_getElem? (i := 1) rfl)) (fun _ h9 => h9) rfl dX11_lies_6 ?_
      refine lv_icmp_ge (tgt := 77) hx hb dX11_lies_9 (by decide) (fun c1 => ?_) (fun c1 => ?_)
      · have hf := of_pos hf c1
        obtain rfl := Option.some.inj hf
        exact KX0 _ _ _ hP hD hS (lv_sub hl [0, 1, 2] rfl)
      · have hf := of_neg hf c1
        refine lv_iload_n hx hb dX11_lies_12 rfl (lv_at hl 1 rfl) ?_
        refine lv_aload_n hx hb dX11_lies_13 rfl (lv_at hl 2 rfl) ?_
        refine va_get (D := D) (ci := 11) (v := .ref q_t_told) (C := RX11) (T := TX11) (N := 22) hx hb hts inX11 hown hK hP 0 rfl rfl 3 (by decide) (hts (.fieldLink RX11 13 "LentCourageModel" "told" "[I") (List.mem_of_getElem? (i := 2) rfl)) (fun _ h9 => h9) rfl dX11_lies_14 ?_
        refine lv_bipush (v := (20 : Int32)) hx hb dX11_lies_17 (by decide) ?_
        refine lv_aload_n hx hb dX11_lies_19 rfl (lv_at hl 2 rfl) ?_
        refine va_get (D := D) (ci := 11) (v := .ref q_t_heard) (C := RX11) (T := TX11) (N := 22) hx hb hts inX11 hown hK hP 0 rfl rfl 8 (by decide) (hts (.fieldLink RX11 29 "LentCourageModel" "heard" "[I") (List.mem_of_getElem? (i := 3) rfl)) (fun _ h9 => h9) rfl dX11_lies_20 ?_
        refine lv_iload_n hx hb dX11_lies_23 rfl (lv_at hl 0 rfl) ?_
        obtain ⟨h2, hf⟩ := of_chk hf
        refine va_iald hx hb hK hP 2 0 rfl rfl h2 dX11_lies_24 ?_
        refine lv_iadd hx hb dX11_lies_25 ?_
        obtain ⟨h3, hf⟩ := of_chk hf
        refine va_iald hx hb hK hP 1 0 rfl rfl h3 dX11_lies_26 ?_
        refine lv_aload_n hx hb dX11_lies_27 rfl (lv_at hl 2 rfl) ?_
        refine va_get (D := D) (ci := 11) (v := .ref q_t_told) (C := RX11) (T := TX11) (N := 22) hx hb hts inX11 hown hK hP 0 rfl rfl 3 (by decide) (hts (.fieldLink RX11 13 "LentCourageModel" "told" "[I") (List.mem_of_getElem? (i := 2) rfl)) (fun _ h9 => h9) rfl dX11_lies_28 ?_
        refine lv_bipush (v := (20 : Int32)) hx hb dX11_lies_31 (by decide) ?_
        refine lv_aload_n hx hb dX11_lies_33 rfl (lv_at hl 2 rfl) ?_
        refine va_get (D := D) (ci := 11) (v := .ref q_t_heard) (C := RX11) (T := TX11) (N := 22) hx hb hts inX11 hown hK hP 0 rfl rfl 8 (by decide) (hts (.fieldLink RX11 29 "LentCourageModel" "heard" "[I") (List.mem_of_getElem? (i := 3) rfl)) (fun _ h9 => h9) rfl dX11_lies_34 ?_
        refine lv_iload_n hx hb dX11_lies_37 rfl (lv_at hl 0 rfl) ?_
        refine lv_iconst (v := (1 : Int32)) hx hb dX11_lies_38 (by decide) ?_
        refine lv_isub hx hb dX11_lies_39 ?_
        obtain ⟨h4, hf⟩ := of_chk hf
        refine va_iald hx hb hK hP 2 0 rfl rfl h4 dX11_lies_40 ?_
        refine lv_iadd hx hb dX11_lies_41 ?_
        obtain ⟨h5, hf⟩ := of_chk hf
        refine va_iald hx hb hK hP 1 0 rfl rfl h5 dX11_lies_42 ?_
        obtain ⟨o6, ho6, hf⟩ := of_bind hf
        refine c_I (wr := [ob q_t 11 [.long v_t_trace_4, .ref q_t_text, .int v_t_typed_4, .ref q_t_told, .ref q_t_draft, .ref q_t_s, .ref q_t_images, .ref q_t_kept, .ref q_t_heard, .ref q_t_hours, .int v_t_noted_4, .int v_t_at_4, .int v_t_sort_4, .int v_t_start_4, .int v_t_value_4, .ref q_t_row, .ref q_t_best, .int v_t_bestMany_4, .int v_t_bestWorth_4, .int v_t_bestHour_4, .ref q_t_places, .ref q_t_pairs], ia C q_t_told 52 r_t_told_4, ia C q_t_heard 6 r_t_heard_4, ia C q_t_hours 6 r_t_hours_4]) (W2 := [ob q_t 11 [.long v_t_trace_4, .ref q_t_text, .int v_t_typed_4, .ref q_t_told, .ref q_t_draft, .ref q_t_s, .ref q_t_images, .ref q_t_kept, .ref q_t_heard, .ref q_t_hours, .int v_t_noted_4, .int v_t_at_4, .int v_t_sort_4, .int v_t_start_4, .int v_t_value_4, .ref q_t_row, .ref q_t_best, .int v_t_bestMany_4, .int v_t_bestWorth_4, .int v_t_bestHour_4, .ref q_t_places, .ref q_t_pairs], ia C q_t_told 52 r_t_told_4, ia C q_t_heard 6 r_t_heard_4, ia C q_t_hours 6 r_t_hours_4]) (cS_run ⟨hx, hb, hml, hown, hts⟩ (k_X11_far l D C (r_t_told_4 ((20 : Int32) + (r_t_heard_4 w2_4.toNatClampNeg)).toNatClampNeg) (r_t_told_4 ((20 : Int32) + (r_t_heard_4 (w2_4 - (1 : Int32)).toNatClampNeg)).toNatClampNeg) H.size o6 ho6) gX11_lies_X11_far rfl ⟨rfl, rfl⟩ hd_X11_far ⟨(Nat.le_of_ble_eq_true rfl), (Nat.le_of_ble_eq_true rfl)⟩ rfl hK (cut_in hK hP hD [] rfl (by decide)) hl.1 rfl (Nat.le_of_ble_eq_true rfl) dX11_lies_43 ⟨Nat.zero_le _, Nat.zero_le _⟩) hP hD hS hA [] [0, 1, 2, 3] [0, 1, 2, 3] rfl rfl (by decide) (by decide) rfl (by decide) (fun H locs hP hD hS => ?_)
        have hP : va_P D vwCl [ob q_t 11 [.long v_t_trace_4, .ref q_t_text, .int v_t_typed_4, .ref q_t_told, .ref q_t_draft, .ref q_t_s, .ref q_t_images, .ref q_t_kept, .ref q_t_heard, .ref q_t_hours, .int v_t_noted_4, .int v_t_at_4, .int v_t_sort_4, .int v_t_start_4, .int v_t_value_4, .ref q_t_row, .ref q_t_best, .int v_t_bestMany_4, .int v_t_bestWorth_4, .int v_t_bestHour_4, .ref q_t_places, .ref q_t_pairs], ia C q_t_told 52 r_t_told_4, ia C q_t_heard 6 r_t_heard_4, ia C q_t_hours 6 r_t_hours_4] H := hP
        have hD : va_D A [ob q_t 11 [.long v_t_trace_4, .ref q_t_text, .int v_t_typed_4, .ref q_t_told, .ref q_t_draft, .ref q_t_s, .ref q_t_images, .ref q_t_kept, .ref q_t_heard, .ref q_t_hours, .int v_t_noted_4, .int v_t_at_4, .int v_t_sort_4, .int v_t_start_4, .int v_t_value_4, .ref q_t_row, .ref q_t_best, .int v_t_bestMany_4, .int v_t_bestWorth_4, .int v_t_bestHour_4, .ref q_t_places, .ref q_t_pairs], ia C q_t_told 52 r_t_told_4, ia C q_t_heard 6 r_t_heard_4, ia C q_t_hours 6 r_t_hours_4] := hD
        refine lv_aload_n hx hb dX11_lies_46 rfl (lv_at hl 2 rfl) ?_
        refine va_get (D := D) (ci := 11) (v := .ref q_t_hours) (C := RX11) (T := TX11) (N := 22) hx hb hts inX11 hown hK hP 0 rfl rfl 9 (by decide) (hts (.fieldLink RX11 32 "LentCourageModel" "hours" "[I") (List.mem_of_getElem? (i := 4) rfl)) (fun _ h9 => h9) rfl dX11_lies_47 ?_
        refine lv_iload_n hx hb dX11_lies_50 rfl (lv_at hl 0 rfl) ?_
        refine va_iald hx hb hK hP 3 0 rfl rfl h2 dX11_lies_51 ?_
        refine lv_aload_n hx hb dX11_lies_52 rfl (lv_at hl 2 rfl) ?_
        refine va_get (D := D) (ci := 11) (v := .ref q_t_hours) (C := RX11) (T := TX11) (N := 22) hx hb hts inX11 hown hK hP 0 rfl rfl 9 (by decide) (hts (.fieldLink RX11 32 "LentCourageModel" "hours" "[I") (List.mem_of_getElem? (i := 4) rfl)) (fun _ h9 => h9) rfl dX11_lies_53 ?_
        refine lv_iload_n hx hb dX11_lies_56 rfl (lv_at hl 0 rfl) ?_
        refine lv_iconst (v := (1 : Int32)) hx hb dX11_lies_57 (by decide) ?_
        refine lv_isub hx hb dX11_lies_58 ?_
        refine va_iald hx hb hK hP 3 0 rfl rfl h4 dX11_lies_59 ?_
        refine lv_isub hx hb dX11_lies_60 ?_
        refine jp (g2 := F0 m 69 ls [.int (if o6 ≤ ((r_t_hours_4 w2_4.toNatClampNeg) - (r_t_hours_4 (w2_4 - (1 : Int32)).toNatClampNeg)) then (0 : Int32) else (1 : Int32)), .int w1_4]) ?_ (fun JP => ?_)
        · refine lv_iadd hx hb dX11_lies_69 ?_
          refine lv_topi (fun z8 ez8 => ?_)
          have hf := of_lt hf ez8
          refine lv_istore_n (lv' := [(1, .int z8), (2, .int w2_4), (0, .ref q_t)]) hx hb dX11_lies_70 rfl hl (by decide) rfl (fun ls hl => ?_)
          obtain ⟨z9, ez9⟩ : ∃ y : Int32, y = (w2_4 + (1 : Int32)) := ⟨_, rfl⟩
          have hf := of_lt hf ez9
          refine lv_iinc (v := z9) (lv' := [(2, .int z9), (1, .int z8), (0, .ref q_t)]) hx hb dX11_lies_71 hl (k := 1) rfl (by rw [ez9]; rfl) (by decide) rfl (fun ls hl => ?_)
          refine lv_goto (tgt := 4) hx hb dX11_lies_74 (by decide) ?_
          exact ih _ _ _ _ _ _ _ _ _ _ _ _ _ _ _ _ hf H locs ls hP hD hS (lv_sub hl [0, 1, 2] rfl) KX0
        · refine lv_icmp_le (tgt := 68) hx hb dX11_lies_61 (by decide) (fun c7 => ?_) (fun c7 => ?_)
          · refine lv_iconst (v := (0 : Int32)) hx hb dX11_lies_68 (by decide) ?_
            exact W.eq (congrArg (fun x => F0 m 69 ls (Value.int x :: [.int w1_4])) (if_pos c7).symm) JP
          · refine lv_iconst (v := (1 : Int32)) hx hb dX11_lies_64 (by decide) ?_
            refine lv_goto (tgt := 69) hx hb dX11_lies_65 (by decide) ?_
            exact W.eq (congrArg (fun x => F0 m 69 ls (Value.int x :: [.int w1_4])) (if_neg c7).symm) JP
  refine lv_iconst (v := (0 : Int32)) hx hb dX11_lies_0 (by decide) ?_
  refine lv_istore_n (lv' := [(1, .int (0 : Int32)), (0, .ref q_t)]) hx hb dX11_lies_1 rfl hl (by decide) rfl (fun ls hl => ?_)
  refine lv_iconst (v := (1 : Int32)) hx hb dX11_lies_2 (by decide) ?_
  refine lv_istore_n (lv' := [(2, .int (1 : Int32)), (1, .int (0 : Int32)), (0, .ref q_t)]) hx hb dX11_lies_3 rfl hl (by decide) rfl (fun ls hl => ?_)
  obtain ⟨y10, hy10, hf⟩ := of_bind hf
  refine LP4 _ FU _ _ _ _ _ _ _ _ _ _ _ _ _ _ _ y10 hy10 H locs ls hP hD hS (lv_sub hl [0, 1, 2] rfl) (fun H locs ls hP hD hS hl => ?_)
  refine lv_iload_n hx hb dX11_lies_77 rfl (lv_at hl 1 rfl) ?_
  obtain rfl := Option.some.inj hf
  exact ret_I hx hb hr hlocks hK hP hD hS dX11_lies_78

def fX11_had_21 (w1_21 : Int32) (v_t_noted_21 : Int32) (r_t_hours_21 : Nat → Int32) : Nat → Int32 → Int32 → Int32 → Option (Int32 × Int32 × Int32)
  | 0, _, _, _ => none
  | n + 1, w4_21, w3_21, w2_21 => (if v_t_noted_21 ≤ w4_21 then some (w4_21, w3_21, w2_21) else chk (vin w4_21 6) (lt_ (if w1_21 < (r_t_hours_21 w4_21.toNatClampNeg) then w2_21 else w4_21) (fun z6 => lt_ (if (r_t_hours_21 w4_21.toNatClampNeg) < w1_21 then w3_21 else (if w3_21 = (-9 : Int32) then w4_21 else w3_21)) (fun z9 => lt_ (w4_21 + (1 : Int32)) (fun z10 => fX11_had_21 w1_21 v_t_noted_21 r_t_hours_21 n z10 z9 z6)))))
def fX11_had_140 (w3_140 : Int32) (w2_140 : Int32) (w1_140 : Int32) (r_t_told_140 : Nat → Int32) (r_t_heard_140 : Nat → Int32) (r_t_hours_140 : Nat → Int32) : Nat → Int32 → Int32 → Option (Int32 × Int32)
  | 0, _, _ => none
  | n + 1, w5_140, w4_140 => (if (r_t_told_140 0) ≤ w5_140 then some (w5_140, w4_140) else ((if w2_140 = (-9 : Int32) then some (1 : Int32) else chk (vin w2_140 6) (chk (vin ((20 : Int32) + (r_t_heard_140 w2_140.toNatClampNeg)) 52) (chk (vin ((6 : Int32) + w5_140) 52) ((fX11_far (r_t_told_140 ((20 : Int32) + (r_t_heard_140 w2_140.toNatClampNeg)).toNatClampNeg) (r_t_told_140 ((6 : Int32) + w5_140).toNatClampNeg)).bind (fun o27 => (if (w1_140 - (r_t_hours_140 w2_140.toNatClampNeg)) < o27 then some (0 : Int32) else some (1 : Int32)))))))).bind (fun j22 => ((if w3_140 = (-9 : Int32) then some (1 : Int32) else chk (vin ((6 : Int32) + w5_140) 52) (chk (vin w3_140 6) (chk (vin ((20 : Int32) + (r_t_heard_140 w3_140.toNatClampNeg)) 52) ((fX11_far (r_t_told_140 ((6 : Int32) + w5_140).toNatClampNeg) (r_t_told_140 ((20 : Int32) + (r_t_heard_140 w3_140.toNatClampNeg)).toNatClampNeg)).bind (fun o34 => (if ((r_t_hours_140 w3_140.toNatClampNeg) - w1_140) < o34 then some (0 : Int32) else some (1 : Int32)))))))).bind (fun j29 => lt_ (w4_140 ||| (if j22 = 0 then (0 : Int32) else (if j29 = 0 then (0 : Int32) else ((1 : Int32) <<< (w5_140 &&& 31))))) (fun z38 => lt_ (w5_140 + (1 : Int32)) (fun z39 => fX11_had_140 w3_140 w2_140 w1_140 r_t_told_140 r_t_heard_140 r_t_hours_140 n z39 z38)))))
def fX11_had (v_t_noted : Int32) (r_t_told : Nat → Int32) (r_t_heard : Nat → Int32) (r_t_hours : Nat → Int32) (p1 : Int32) : Option (Int32) :=
  (fX11_in p1 (0 : Int32) (99 : Int32)).bind (fun o1 => (if o1 = 0 then some (-1 : Int32) else (fX11_had_21 p1 v_t_noted r_t_hours FU (0 : Int32) (-9 : Int32) (-9 : Int32)).bind (fun y11 => ((if y11.2.2 = (-9 : Int32) then some (0 : Int32) else chk (vin y11.2.2 6) (chk (vin ((12 : Int32) + (r_t_heard y11.2.2.toNatClampNeg)) 52) (some ((1 : Int32) <<< ((r_t_told ((12 : Int32) + (r_t_heard y11.2.2.toNatClampNeg)).toNatClampNeg) &&& 31)))))).bind (fun j12 => ((if y11.2.1 = (-9 : Int32) then some (0 : Int32) else chk (vin y11.2.1 6) (chk (vin ((12 : Int32) + (r_t_heard y11.2.1.toNatClampNeg)) 52) (some ((1 : Int32) <<< ((r_t_told ((12 : Int32) + (r_t_heard y11.2.1.toNatClampNeg)).toNatClampNeg) &&& 31)))))).bind (fun j16 => lt_ (j12 ||| j16) (fun z20 => (fX11_had_140 y11.2.1 y11.2.2 p1 r_t_told r_t_heard r_t_hours FU (0 : Int32) z20).bind (fun y40 => some y40.2)))))))
theorem hd_X11_had : yX11_had.cls = RX11 ∧ yX11_had.cls ≠ "java/lang/invoke/MethodHandle" ∧ yX11_had.cls ≠ "java/lang/invoke/VarHandle" ∧ (parseMethodDescriptor yX11_had.desc).map (fun d => d.parameters.length) = some 1 := by decide +kernel
set_option maxHeartbeats 4000000 in
set_option maxRecDepth 100000 in
theorem k_X11_had (l : Launch) (D : va_G) (C : Nat → ClassId) (q_t : Nat) (q_t_text : Nat) (q_t_told : Nat) (q_t_draft : Nat) (q_t_s : Nat) (q_t_images : Nat) (q_t_kept : Nat) (q_t_heard : Nat) (q_t_hours : Nat) (q_t_row : Nat) (q_t_best : Nat) (q_t_places : Nat) (q_t_pairs : Nat) (v_t_trace : Int64) (v_t_typed : Int32) (v_t_noted : Int32) (v_t_at : Int32) (v_t_sort : Int32) (v_t_start : Int32) (v_t_value : Int32) (v_t_bestMany : Int32) (v_t_bestWorth : Int32) (v_t_bestHour : Int32) (r_t_told : Nat → Int32) (r_t_heard : Nat → Int32) (r_t_hours : Nat → Int32) (p1 : Int32) (sz : Nat) (out : Int32) (hf : fX11_had v_t_noted r_t_told r_t_heard r_t_hours p1 = some out) : MI l yX11_had wsX11_had ({ frames := 1, cells := 0, slots := 0, locals := 22 }) D C [.ref q_t, .int p1] [ob q_t 11 [.long v_t_trace, .ref q_t_text, .int v_t_typed, .ref q_t_told, .ref q_t_draft, .ref q_t_s, .ref q_t_images, .ref q_t_kept, .ref q_t_heard, .ref q_t_hours, .int v_t_noted, .int v_t_at, .int v_t_sort, .int v_t_start, .int v_t_value, .ref q_t_row, .ref q_t_best, .int v_t_bestMany, .int v_t_bestWorth, .int v_t_bestHour, .ref q_t_places, .ref q_t_pairs], ia C q_t_told 52 r_t_told, ia C q_t_heard 6 r_t_heard, ia C q_t_hours 6 r_t_hours] [ob q_t 11 [.long v_t_trace, .ref q_t_text, .int v_t_typed, .ref q_t_told, .ref q_t_draft, .ref q_t_s, .ref q_t_images, .ref q_t_kept, .ref q_t_heard, .ref q_t_hours, .int v_t_noted, .int v_t_at, .int v_t_sort, .int v_t_start, .int v_t_value, .ref q_t_row, .ref q_t_best, .int v_t_bestMany, .int v_t_bestWorth, .int v_t_bestHour, .ref q_t_places, .ref q_t_pairs], ia C q_t_told 52 r_t_told, ia C q_t_heard 6 r_t_heard, ia C q_t_hours 6 r_t_hours] sz (out) := by
  unfold fX11_had at hf
  refine en_I (by decide) rfl (Nat.le_of_ble_eq_true rfl) ?_
  intro p e s m below meth c A ls H locs hx hb hr hlocks hml hts hown hK hP hD hS hA hl
  have hl : lv_has ls 8 [(0, .ref q_t), (1, .int p1)] := hl
  have inX11 : ∀ w ∈ u_ws RX11 TX11 22, w ∈ wsX11_had := fun w h => List.mem_cons_of_mem _ (List.mem_append_right _ h)
  have LP21 : ∀ (Q : State → Prop) (n : Nat) (w4_21 : Int32) (w3_21 : Int32) (w2_21 : Int32) (w1_21 : Int32) (v_t_trace_21 : Int64) (v_t_typed_21 : Int32) (v_t_noted_21 : Int32) (v_t_at_21 : Int32) (v_t_sort_21 : Int32) (v_t_start_21 : Int32) (v_t_value_21 : Int32) (v_t_bestMany_21 : Int32) (v_t_bestWorth_21 : Int32) (v_t_bestHour_21 : Int32) (r_t_told_21 : Nat → Int32) (r_t_heard_21 : Nat → Int32) (r_t_hours_21 : Nat → Int32) (y_21 : Int32 × Int32 × Int32), fX11_had_21 w1_21 v_t_noted_21 r_t_hours_21 n w4_21 w3_21 w2_21 = some y_21 → ∀ (H : Heap) (locs : List Loc) (ls : Array Slot), va_P D vwCl [ob q_t 11 [.long v_t_trace_21, .ref q_t_text, .int v_t_typed_21, .ref q_t_told, .ref q_t_draft, .ref q_t_s, .ref q_t_images, .ref q_t_kept, .ref q_t_heard, .ref q_t_hours, .int v_t_noted_21, .int v_t_at_21, .int v_t_sort_21, .int v_t_start_21, .int v_t_value_21, .ref q_t_row, .ref q_t_best, .int v_t_bestMany_21, .int v_t_bestWorth_21, .int v_t_bestHour_21, .ref q_t_places, .ref q_t_pairs], ia C q_t_told 52 r_t_told_21, ia C q_t_heard 6 r_t_heard_21, ia C q_t_hours 6 r_t_hours_21] H → va_D A [ob q_t 11 [.long v_t_trace_21, .ref q_t_text, .int v_t_typed_21, .ref q_t_told, .ref q_t_draft, .ref q_t_s, .ref q_t_images, .ref q_t_kept, .ref q_t_heard, .ref q_t_hours, .int v_t_noted_21, .int v_t_at_21, .int v_t_sort_21, .int v_t_start_21, .int v_t_value_21, .ref q_t_row, .ref q_t_best, .int v_t_bestMany_21, .int v_t_bestWorth_21, .int v_t_bestHour_21, .ref q_t_places, .ref q_t_pairs], ia C q_t_told 52 r_t_told_21, ia C q_t_heard 6 r_t_heard_21, ia C q_t_hours 6 r_t_hours_21] → va_S A s.heap H locs → lv_has ls 8 [(4, .int w4_21), (3, .int w3_21), (2, .int w2_21), (0, .ref q_t), (1, .int w1_21)] → (∀ (H : Heap) (locs : List Loc) (ls : Array Slot), va_P D vwCl [ob q_t 11 [.long v_t_trace_21, .ref q_t_text, .int v_t_typed_21, .ref q_t_told, .ref q_t_draft, .ref q_t_s, .ref q_t_images, .ref q_t_kept, .ref q_t_heard, .ref q_t_hours, .int v_t_noted_21, .int v_t_at_21, .int v_t_sort_21, .int v_t_start_21, .int v_t_value_21, .ref q_t_row, .ref q_t_best, .int v_t_bestMany_21, .int v_t_bestWorth_21, .int v_t_bestHour_21, .ref q_t_places, .ref q_t_pairs], ia C q_t_told 52 r_t_told_21, ia C q_t_heard 6 r_t_heard_21, ia C q_t_hours 6 r_t_hours_21] H → va_D A [ob q_t 11 [.long v_t_trace_21, .ref q_t_text, .int v_t_typed_21, .ref q_t_told, .ref q_t_draft, .ref q_t_s, .ref q_t_images, .ref q_t_kept, .ref q_t_heard, .ref q_t_hours, .int v_t_noted_21, .int v_t_at_21, .int v_t_sort_21, .int v_t_start_21, .int v_t_value_21, .ref q_t_row, .ref q_t_best, .int v_t_bestMany_21, .int v_t_bestWorth_21, .int v_t_bestHour_21, .ref q_t_places, .ref q_t_pairs], ia C q_t_told 52 r_t_told_21, ia C q_t_heard 6 r_t_heard_21, ia C q_t_hours 6 r_t_hours_21] → va_S A s.heap H locs → lv_has ls 8 [(4, .int y_21.1), (3, .int y_21.2.1), (2, .int y_21.2.2), (0, .ref q_t), (1, .int w1_21)] → W p l e ({ frames := 1, cells := 0, slots := 0, locals := 22 } : Room) s m ([.ref q_t, .int p1] : List Value).toArray below meth c H locs 0 0 Q (F0 m 78 ls [])) → W p l e ({ frames := 1, cells := 0, slots := 0, locals := 22 } : Room) s m ([.ref q_t, .int p1] : List Value).toArray below meth c H locs 0 0 Q (F0 m 21 ls []) := by
    intro Q n
    induction n with
    | zero =>
      intro w4_21 w3_21 w2_21 w1_21 v_t_trace_21 v_t_typed_21 v_t_noted_21 v_t_at_21 v_t_sort_21 v_t_start_21 v_t_value_21 v_t_bestMany_21 v_t_bestWorth_21 v_t_bestHour_21 r_t_told_21 r_t_heard_21 r_t_hours_21 y_21 hf
      rw [fX11_had_21] at hf
      cases hf
    | succ n ih =>
      intro w4_21 w3_21 w2_21 w1_21 v_t_trace_21 v_t_typed_21 v_t_noted_21 v_t_at_21 v_t_sort_21 v_t_start_21 v_t_value_21 v_t_bestMany_21 v_t_bestWorth_21 v_t_bestHour_21 r_t_told_21 r_t_heard_21 r_t_hours_21 y_21 hf H locs ls hP hD hS hl KX0
      rw [fX11_had_21] at hf
      refine lv_iload hx hb dX11_had_21 (lv_at hl 0 rfl) ?_
      refine lv_aload_n hx hb dX11_had_23 rfl (lv_at hl 3 rfl) ?_
      refine va_get (D := D) (ci := 11) (v := .int v_t_noted_21) (C := RX11) (T := TX11) (N := 22) hx hb hts inX11 hown hK hP 0 rfl rfl 10 (by decide) (hts (.fieldLink RX11 97 "LentCourageModel" "noted" "I") (List.mem_of_getElem? (i := 1) rfl)) (fun _ h9 => h9) rfl dX11_had_24 ?_
      refine lv_icmp_ge (tgt := 78) hx hb dX11_had_27 (by decide) (fun c3 => ?_) (fun c3 => ?_)
      · have hf := of_pos hf c3
        obtain rfl := Option.some.inj hf
        exact KX0 _ _ _ hP hD hS (lv_sub hl [0, 1, 2, 3, 4] rfl)
      · have hf := of_neg hf c3
        refine lv_aload_n hx hb dX11_had_30 rfl (lv_at hl 3 rfl) ?_
        refine va_get (D := D) (ci := 11) (v := .ref q_t_hours) (C := RX11) (T := TX11) (N := 22) hx hb hts inX11 hown hK hP 0 rfl rfl 9 (by decide) (hts (.fieldLink RX11 32 "LentCourageModel" "hours" "[I") (List.mem_of_getElem? (i := 2) rfl)) (fun _ h9 => h9) rfl dX11_had_31 ?_
        refine lv_iload hx hb dX11_had_34 (lv_at hl 0 rfl) ?_
        obtain ⟨h4, hf⟩ := of_chk hf
        refine va_iald hx hb hK hP 3 0 rfl rfl h4 dX11_had_36 ?_
        refine lv_iload_n hx hb dX11_had_37 rfl (lv_at hl 4 rfl) ?_
        refine jp (g2 := F0 m 47 ls [.int (if w1_21 < (r_t_hours_21 w4_21.toNatClampNeg) then w2_21 else w4_21)]) ?_ (fun JP => ?_)
        · refine lv_topi (fun z6 ez6 => ?_)
          have hf := of_lt hf ez6
          refine lv_istore_n (lv' := [(2, .int z6), (4, .int w4_21), (3, .int w3_21), (0, .ref q_t), (1, .int w1_21)]) hx hb dX11_had_47 rfl hl (by decide) rfl (fun ls hl => ?_)
          refine lv_aload_n hx hb dX11_had_48 rfl (lv_at hl 3 rfl) ?_
          refine va_get (D := D) (ci := 11) (v := .ref q_t_hours) (C := RX11) (T := TX11) (N := 22) hx hb hts inX11 hown hK hP 0 rfl rfl 9 (by decide) (hts (.fieldLink RX11 32 "LentCourageModel" "hours" "[I") (List.mem_of_getElem? (i := 2) rfl)) (fun _ h9 => h9) rfl dX11_had_49 ?_
          refine lv_iload hx hb dX11_had_52 (lv_at hl 1 rfl) ?_
          refine va_iald hx hb hK hP 3 0 rfl rfl h4 dX11_had_54 ?_
          refine lv_iload_n hx hb dX11_had_55 rfl (lv_at hl 4 rfl) ?_
          refine jp (g2 := F0 m 71 ls [.int (if (r_t_hours_21 w4_21.toNatClampNeg) < w1_21 then w3_21 else (if w3_21 = (-9 : Int32) then w4_21 else w3_21))]) ?_ (fun JP => ?_)
          · refine lv_topi (fun z9 ez9 => ?_)
            have hf := of_lt hf ez9
            refine lv_istore_n (lv' := [(3, .int z9), (2, .int z6), (4, .int w4_21), (0, .ref q_t), (1, .int w1_21)]) hx hb dX11_had_71 rfl hl (by decide) rfl (fun ls hl => ?_)
            obtain ⟨z10, ez10⟩ : ∃ y : Int32, y = (w4_21 + (1 : Int32)) := ⟨_, rfl⟩
            have hf := of_lt hf ez10
            refine lv_iinc (v := z10) (lv' := [(4, .int z10), (3, .int z9), (2, .int z6), (0, .ref q_t), (1, .int w1_21)]) hx hb dX11_had_72 hl (k := 2) rfl (by rw [ez10]; rfl) (by decide) rfl (fun ls hl => ?_)
            refine lv_goto (tgt := 21) hx hb dX11_had_75 (by decide) ?_
            exact ih _ _ _ _ _ _ _ _ _ _ _ _ _ _ _ _ _ _ hf H locs ls hP hD hS (lv_sub hl [0, 1, 2, 3, 4] rfl) KX0
          · refine lv_icmp_lt (tgt := 70) hx hb dX11_had_56 (by decide) (fun c7 => ?_) (fun c7 => ?_)
            · refine lv_iload_n hx hb dX11_had_70 rfl (lv_at hl 2 rfl) ?_
              exact W.eq (congrArg (fun x => F0 m 71 ls (Value.int x :: [])) (if_pos c7).symm) JP
            · refine lv_iload_n hx hb dX11_had_59 rfl (lv_at hl 2 rfl) ?_
              refine lv_bipush (v := (-9 : Int32)) hx hb dX11_had_60 (by decide) ?_
              refine lv_icmp_ne (tgt := 70) hx hb dX11_had_62 (by decide) (fun c8 => ?_) (fun c8 => ?_)
              · refine lv_iload_n hx hb dX11_had_70 rfl (lv_at hl 2 rfl) ?_
                exact W.eq (congrArg (fun x => F0 m 71 ls (Value.int x :: [])) ((if_neg c7).trans (if_neg c8)).symm) JP
              · refine lv_iload hx hb dX11_had_65 (lv_at hl 1 rfl) ?_
                refine lv_goto (tgt := 71) hx hb dX11_had_67 (by decide) ?_
                exact W.eq (congrArg (fun x => F0 m 71 ls (Value.int x :: [])) ((if_neg c7).trans (if_pos c8)).symm) JP
        · refine lv_icmp_gt (tgt := 46) hx hb dX11_had_38 (by decide) (fun c5 => ?_) (fun c5 => ?_)
          · refine lv_iload_n hx hb dX11_had_46 rfl (lv_at hl 2 rfl) ?_
            exact W.eq (congrArg (fun x => F0 m 47 ls (Value.int x :: [])) (if_pos c5).symm) JP
          · refine lv_iload hx hb dX11_had_41 (lv_at hl 0 rfl) ?_
            refine lv_goto (tgt := 47) hx hb dX11_had_43 (by decide) ?_
            exact W.eq (congrArg (fun x => F0 m 47 ls (Value.int x :: [])) (if_neg c5).symm) JP
  have LP140 : ∀ (Q : State → Prop) (n : Nat) (w5_140 : Int32) (w4_140 : Int32) (w3_140 : Int32) (w2_140 : Int32) (w1_140 : Int32) (v_t_trace_140 : Int64) (v_t_typed_140 : Int32) (v_t_noted_140 : Int32) (v_t_at_140 : Int32) (v_t_sort_140 : Int32) (v_t_start_140 : Int32) (v_t_value_140 : Int32) (v_t_bestMany_140 : Int32) (v_t_bestWorth_140 : Int32) (v_t_bestHour_140 : Int32) (r_t_told_140 : Nat → Int32) (r_t_heard_140 : Nat → Int32) (r_t_hours_140 : Nat → Int32) (y_140 : Int32 × Int32), fX11_had_140 w3_140 w2_140 w1_140 r_t_told_140 r_t_heard_140 r_t_hours_140 n w5_140 w4_140 = some y_140 → ∀ (H : Heap) (locs : List Loc) (ls : Array Slot), va_P D vwCl [ob q_t 11 [.long v_t_trace_140, .ref q_t_text, .int v_t_typed_140, .ref q_t_told, .ref q_t_draft, .ref q_t_s, .ref q_t_images, .ref q_t_kept, .ref q_t_heard, .ref q_t_hours, .int v_t_noted_140, .int v_t_at_140, .int v_t_sort_140, .int v_t_start_140, .int v_t_value_140, .ref q_t_row, .ref q_t_best, .int v_t_bestMany_140, .int v_t_bestWorth_140, .int v_t_bestHour_140, .ref q_t_places, .ref q_t_pairs], ia C q_t_told 52 r_t_told_140, ia C q_t_heard 6 r_t_heard_140, ia C q_t_hours 6 r_t_hours_140] H → va_D A [ob q_t 11 [.long v_t_trace_140, .ref q_t_text, .int v_t_typed_140, .ref q_t_told, .ref q_t_draft, .ref q_t_s, .ref q_t_images, .ref q_t_kept, .ref q_t_heard, .ref q_t_hours, .int v_t_noted_140, .int v_t_at_140, .int v_t_sort_140, .int v_t_start_140, .int v_t_value_140, .ref q_t_row, .ref q_t_best, .int v_t_bestMany_140, .int v_t_bestWorth_140, .int v_t_bestHour_140, .ref q_t_places, .ref q_t_pairs], ia C q_t_told 52 r_t_told_140, ia C q_t_heard 6 r_t_heard_140, ia C q_t_hours 6 r_t_hours_140] → va_S A s.heap H locs → lv_has ls 8 [(5, .int w5_140), (4, .int w4_140), (3, .int w3_140), (2, .int w2_140), (0, .ref q_t), (1, .int w1_140)] → (∀ (H : Heap) (locs : List Loc) (ls : Array Slot), va_P D vwCl [ob q_t 11 [.long v_t_trace_140, .ref q_t_text, .int v_t_typed_140, .ref q_t_told, .ref q_t_draft, .ref q_t_s, .ref q_t_images, .ref q_t_kept, .ref q_t_heard, .ref q_t_hours, .int v_t_noted_140, .int v_t_at_140, .int v_t_sort_140, .int v_t_start_140, .int v_t_value_140, .ref q_t_row, .ref q_t_best, .int v_t_bestMany_140, .int v_t_bestWorth_140, .int v_t_bestHour_140, .ref q_t_places, .ref q_t_pairs], ia C q_t_told 52 r_t_told_140, ia C q_t_heard 6 r_t_heard_140, ia C q_t_hours 6 r_t_hours_140] H → va_D A [ob q_t 11 [.long v_t_trace_140, .ref q_t_text, .int v_t_typed_140, .ref q_t_told, .ref q_t_draft, .ref q_t_s, .ref q_t_images, .ref q_t_kept, .ref q_t_heard, .ref q_t_hours, .int v_t_noted_140, .int v_t_at_140, .int v_t_sort_140, .int v_t_start_140, .int v_t_value_140, .ref q_t_row, .ref q_t_best, .int v_t_bestMany_140, .int v_t_bestWorth_140, .int v_t_bestHour_140, .ref q_t_places, .ref q_t_pairs], ia C q_t_told 52 r_t_told_140, ia C q_t_heard 6 r_t_heard_140, ia C q_t_hours 6 r_t_hours_140] → va_S A s.heap H locs → lv_has ls 8 [(5, .int y_140.1), (4, .int y_140.2), (3, .int w3_140), (2, .int w2_140), (0, .ref q_t), (1, .int w1_140)] → W p l e ({ frames := 1, cells := 0, slots := 0, locals := 22 } : Room) s m ([.ref q_t, .int p1] : List Value).toArray below meth c H locs 0 0 Q (F0 m 282 ls [])) → W p l e ({ frames := 1, cells := 0, slots := 0, locals := 22 } : Room) s m ([.ref q_t, .int p1] : List Value).toArray below meth c H locs 0 0 Q (F0 m 140 ls []) := by
    intro Q n
    induction n with
    | zero =>
      intro w5_140 w4_140 w3_140 w2_140 w1_140 v_t_trace_140 v_t_typed_140 v_t_noted_140 v_t_at_140 v_t_sort_140 v_t_start_140 v_t_value_140 v_t_bestMany_140 v_t_bestWorth_140 v_t_bestHour_140 r_t_told_140 r_t_heard_140 r_t_hours_140 y_140 hf
      rw [fX11_had_140] at hf
      cases hf
    | succ n ih =>
      intro w5_140 w4_140 w3_140 w2_140 w1_140 v_t_trace_140 v_t_typed_140 v_t_noted_140 v_t_at_140 v_t_sort_140 v_t_start_140 v_t_value_140 v_t_bestMany_140 v_t_bestWorth_140 v_t_bestHour_140 r_t_told_140 r_t_heard_140 r_t_hours_140 y_140 hf H locs ls hP hD hS hl KX0
      rw [fX11_had_140] at hf
      refine lv_iload hx hb dX11_had_140 (lv_at hl 0 rfl) ?_
      refine lv_aload_n hx hb dX11_had_142 rfl (lv_at hl 4 rfl) ?_
      refine va_get (D := D) (ci := 11) (v := .ref q_t_told) (C := RX11) (T := TX11) (N := 22) hx hb hts inX11 hown hK hP 0 rfl rfl 3 (by decide) (hts (.fieldLink RX11 13 "LentCourageModel" "told" "[I") (List.mem_of_getElem? (i := 3) rfl)) (fun _ h9 => h9) rfl dX11_had_143 ?_
      refine lv_iconst (v := (0 : Int32)) hx hb dX11_had_146 (by decide) ?_
      refine ld_ialdK hx hb hK hP 1 0 rfl rfl (k := 0) (by decide) (by decide) (by decide) dX11_had_147 ?_
      refine lv_icmp_ge (tgt := 282) hx hb dX11_had_148 (by decide) (fun c21 => ?_) (fun c21 => ?_)
      · have hf := of_pos hf c21
        obtain rfl := Option.some.inj hf
        exact KX0 _ _ _ hP hD hS (lv_sub hl [0, 1, 2, 3, 4, 5] rfl)
      · have hf := of_neg hf c21
        refine lv_iload_n hx hb dX11_had_151 rfl (lv_at hl 3 rfl) ?_
        refine lv_bipush (v := (-9 : Int32)) hx hb dX11_had_152 (by decide) ?_
        obtain ⟨j22, hrj22, hf⟩ := of_bind hf
        refine jn (fun H L g => ∃ ls, g = F0 m 200 ls [.int j22] ∧ va_P D vwCl [ob q_t 11 [.long v_t_trace_140, .ref q_t_text, .int v_t_typed_140, .ref q_t_told, .ref q_t_draft, .ref q_t_s, .ref q_t_images, .ref q_t_kept, .ref q_t_heard, .ref q_t_hours, .int v_t_noted_140, .int v_t_at_140, .int v_t_sort_140, .int v_t_start_140, .int v_t_value_140, .ref q_t_row, .ref q_t_best, .int v_t_bestMany_140, .int v_t_bestWorth_140, .int v_t_bestHour_140, .ref q_t_places, .ref q_t_pairs], ia C q_t_told 52 r_t_told_140, ia C q_t_heard 6 r_t_heard_140, ia C q_t_hours 6 r_t_hours_140] H ∧ va_D A [ob q_t 11 [.long v_t_trace_140, .ref q_t_text, .int v_t_typed_140, .ref q_t_told, .ref q_t_draft, .ref q_t_s, .ref q_t_images, .ref q_t_kept, .ref q_t_heard, .ref q_t_hours, .int v_t_noted_140, .int v_t_at_140, .int v_t_sort_140, .int v_t_start_140, .int v_t_value_140, .ref q_t_row, .ref q_t_best, .int v_t_bestMany_140, .int v_t_bestWorth_140, .int v_t_bestHour_140, .ref q_t_places, .ref q_t_pairs], ia C q_t_told 52 r_t_told_140, ia C q_t_heard 6 r_t_heard_140, ia C q_t_hours 6 r_t_hours_140] ∧ va_S A s.heap H L ∧ lv_has ls 8 [(5, .int w5_140), (4, .int w4_140), (3, .int w3_140), (2, .int w2_140), (0, .ref q_t), (1, .int w1_140)]) (fun H locs g hI => ?_) (fun Jj22 => ?_)
        · obtain ⟨ls, rfl, hP, hD, hS, hl⟩ := hI
          refine lv_istore (lv' := [(6, .int j22), (5, .int w5_140), (4, .int w4_140), (3, .int w3_140), (2, .int w2_140), (0, .ref q_t), (1, .int w1_140)]) hx hb dX11_had_200 hl (by decide) rfl (fun ls hl => ?_)
          refine lv_iload_n hx hb dX11_had_202 rfl (lv_at hl 3 rfl) ?_
          refine lv_bipush (v := (-9 : Int32)) hx hb dX11_had_203 (by decide) ?_
          obtain ⟨j29, hrj29, hf⟩ := of_bind hf
          refine jn (fun H L g => ∃ ls, g = F0 m 251 ls [.int j29] ∧ va_P D vwCl [ob q_t 11 [.long v_t_trace_140, .ref q_t_text, .int v_t_typed_140, .ref q_t_told, .ref q_t_draft, .ref q_t_s, .ref q_t_images, .ref q_t_kept, .ref q_t_heard, .ref q_t_hours, .int v_t_noted_140, .int v_t_at_140, .int v_t_sort_140, .int v_t_start_140, .int v_t_value_140, .ref q_t_row, .ref q_t_best, .int v_t_bestMany_140, .int v_t_bestWorth_140, .int v_t_bestHour_140, .ref q_t_places, .ref q_t_pairs], ia C q_t_told 52 r_t_told_140, ia C q_t_heard 6 r_t_heard_140, ia C q_t_hours 6 r_t_hours_140] H ∧ va_D A [ob q_t 11 [.long v_t_trace_140, .ref q_t_text, .int v_t_typed_140, .ref q_t_told, .ref q_t_draft, .ref q_t_s, .ref q_t_images, .ref q_t_kept, .ref q_t_heard, .ref q_t_hours, .int v_t_noted_140, .int v_t_at_140, .int v_t_sort_140, .int v_t_start_140, .int v_t_value_140, .ref q_t_row, .ref q_t_best, .int v_t_bestMany_140, .int v_t_bestWorth_140, .int v_t_bestHour_140, .ref q_t_places, .ref q_t_pairs], ia C q_t_told 52 r_t_told_140, ia C q_t_heard 6 r_t_heard_140, ia C q_t_hours 6 r_t_hours_140] ∧ va_S A s.heap H L ∧ lv_has ls 8 [(6, .int j22), (5, .int w5_140), (4, .int w4_140), (3, .int w3_140), (2, .int w2_140), (0, .ref q_t), (1, .int w1_140)]) (fun H locs g hI => ?_) (fun Jj29 => ?_)
          · obtain ⟨ls, rfl, hP, hD, hS, hl⟩ := hI
            refine lv_istore (lv' := [(7, .int j29), (6, .int j22), (5, .int w5_140), (4, .int w4_140), (3, .int w3_140), (2, .int w2_140), (0, .ref q_t), (1, .int w1_140)]) hx hb dX11_had_251 hl (by decide) rfl (fun ls hl => ?_)
            refine lv_iload hx hb dX11_had_253 (lv_at hl 3 rfl) ?_
            refine lv_iload hx hb dX11_had_255 (lv_at hl 1 rfl) ?_
            refine jp (g2 := F0 m 273 ls [.int (if j22 = 0 then (0 : Int32) else (if j29 = 0 then (0 : Int32) else ((1 : Int32) <<< (w5_140 &&& 31)))), .int w4_140]) ?_ (fun JP => ?_)
            · refine lv_ior hx hb dX11_had_273 ?_
              refine lv_topi (fun z38 ez38 => ?_)
              have hf := of_lt hf ez38
              refine lv_istore (lv' := [(4, .int z38), (7, .int j29), (6, .int j22), (5, .int w5_140), (3, .int w3_140), (2, .int w2_140), (0, .ref q_t), (1, .int w1_140)]) hx hb dX11_had_274 hl (by decide) rfl (fun ls hl => ?_)
              obtain ⟨z39, ez39⟩ : ∃ y : Int32, y = (w5_140 + (1 : Int32)) := ⟨_, rfl⟩
              have hf := of_lt hf ez39
              refine lv_iinc (v := z39) (lv' := [(5, .int z39), (4, .int z38), (7, .int j29), (6, .int j22), (3, .int w3_140), (2, .int w2_140), (0, .ref q_t), (1, .int w1_140)]) hx hb dX11_had_276 hl (k := 3) rfl (by rw [ez39]; rfl) (by decide) rfl (fun ls hl => ?_)
              refine lv_goto (tgt := 140) hx hb dX11_had_279 (by decide) ?_
              exact ih _ _ _ _ _ _ _ _ _ _ _ _ _ _ _ _ _ _ _ hf H locs ls hP hD hS (lv_sub hl [0, 1, 4, 5, 6, 7] rfl) KX0
            · refine lv_if_eq (tgt := 272) hx hb dX11_had_257 (by decide) (fun c36 => ?_) (fun c36 => ?_)
              · refine lv_iconst (v := (0 : Int32)) hx hb dX11_had_272 (by decide) ?_
                exact W.eq (congrArg (fun x => F0 m 273 ls (Value.int x :: [.int w4_140])) (if_pos c36).symm) JP
              · refine lv_iload hx hb dX11_had_260 (lv_at hl 0 rfl) ?_
                refine lv_if_eq (tgt := 272) hx hb dX11_had_262 (by decide) (fun c37 => ?_) (fun c37 => ?_)
                · refine lv_iconst (v := (0 : Int32)) hx hb dX11_had_272 (by decide) ?_
                  exact W.eq (congrArg (fun x => F0 m 273 ls (Value.int x :: [.int w4_140])) ((if_neg c36).trans (if_pos c37)).symm) JP
                · refine lv_iconst (v := (1 : Int32)) hx hb dX11_had_265 (by decide) ?_
                  refine lv_iload hx hb dX11_had_266 (lv_at hl 2 rfl) ?_
                  refine lv_ishl hx hb dX11_had_268 ?_
                  refine lv_goto (tgt := 273) hx hb dX11_had_269 (by decide) ?_
                  exact W.eq (congrArg (fun x => F0 m 273 ls (Value.int x :: [.int w4_140])) ((if_neg c36).trans (if_neg c37)).symm) JP
          · have hf := hrj29
            refine lv_icmp_eq (tgt := 246) hx hb dX11_had_205 (by decide) (fun c30 => ?_) (fun c30 => ?_)
            · have hf := of_pos hf c30
              refine lv_iconst (v := (1 : Int32)) hx hb dX11_had_246 (by decide) ?_
              refine lv_goto (tgt := 251) hx hb dX11_had_247 (by decide) ?_
              obtain rfl := Option.some.inj hf
              exact Jj29 _ _ _ ⟨_, rfl, hP, hD, hS, lv_sub hl [0, 1, 2, 3, 4, 5, 6] rfl⟩
            · have hf := of_neg hf c30
              refine lv_aload_n hx hb dX11_had_208 rfl (lv_at hl 5 rfl) ?_
              refine va_get (D := D) (ci := 11) (v := .ref q_t_told) (C := RX11) (T := TX11) (N := 22) hx hb hts inX11 hown hK hP 0 rfl rfl 3 (by decide) (hts (.fieldLink RX11 13 "LentCourageModel" "told" "[I") (List.mem_of_getElem? (i := 3) rfl)) (fun _ h9 => h9) rfl dX11_had_209 ?_
              refine lv_bipush (v := (6 : Int32)) hx hb dX11_had_212 (by decide) ?_
              refine lv_iload hx hb dX11_had_214 (lv_at hl 1 rfl) ?_
              refine lv_iadd hx hb dX11_had_216 ?_
              obtain ⟨h31, hf⟩ := of_chk hf
              refine va_iald hx hb hK hP 1 0 rfl rfl h31 dX11_had_217 ?_
              refine lv_aload_n hx hb dX11_had_218 rfl (lv_at hl 5 rfl) ?_
              refine va_get (D := D) (ci := 11) (v := .ref q_t_told) (C := RX11) (T := TX11) (N := 22) hx hb hts inX11 hown hK hP 0 rfl rfl 3 (by decide) (hts (.fieldLink RX11 13 "LentCourageModel" "told" "[I") (List.mem_of_getElem? (i := 3) rfl)) (fun _ h9 => h9) rfl dX11_had_219 ?_
              refine lv_bipush (v := (20 : Int32)) hx hb dX11_had_222 (by decide) ?_
              refine lv_aload_n hx hb dX11_had_224 rfl (lv_at hl 5 rfl) ?_
              refine va_get (D := D) (ci := 11) (v := .ref q_t_heard) (C := RX11) (T := TX11) (N := 22) hx hb hts inX11 hown hK hP 0 rfl rfl 8 (by decide) (hts (.fieldLink RX11 29 "LentCourageModel" "heard" "[I") (List.mem_of_getElem? (i := 4) rfl)) (fun _ h9 => h9) rfl dX11_had_225 ?_
              refine lv_iload_n hx hb dX11_had_228 rfl (lv_at hl 3 rfl) ?_
              obtain ⟨h32, hf⟩ := of_chk hf
              refine va_iald hx hb hK hP 2 0 rfl rfl h32 dX11_had_229 ?_
              refine lv_iadd hx hb dX11_had_230 ?_
              obtain ⟨h33, hf⟩ := of_chk hf
              refine va_iald hx hb hK hP 1 0 rfl rfl h33 dX11_had_231 ?_
              obtain ⟨o34, ho34, hf⟩ := of_bind hf
              refine c_I (wr := [ob q_t 11 [.long v_t_trace_140, .ref q_t_text, .int v_t_typed_140, .ref q_t_told, .ref q_t_draft, .ref q_t_s, .ref q_t_images, .ref q_t_kept, .ref q_t_heard, .ref q_t_hours, .int v_t_noted_140, .int v_t_at_140, .int v_t_sort_140, .int v_t_start_140, .int v_t_value_140, .ref q_t_row, .ref q_t_best, .int v_t_bestMany_140, .int v_t_bestWorth_140, .int v_t_bestHour_140, .ref q_t_places, .ref q_t_pairs], ia C q_t_told 52 r_t_told_140, ia C q_t_heard 6 r_t_heard_140, ia C q_t_hours 6 r_t_hours_140]) (W2 := [ob q_t 11 [.long v_t_trace_140, .ref q_t_text, .int v_t_typed_140, .ref q_t_told, .ref q_t_draft, .ref q_t_s, .ref q_t_images, .ref q_t_kept, .ref q_t_heard, .ref q_t_hours, .int v_t_noted_140, .int v_t_at_140, .int v_t_sort_140, .int v_t_start_140, .int v_t_value_140, .ref q_t_row, .ref q_t_best, .int v_t_bestMany_140, .int v_t_bestWorth_140, .int v_t_bestHour_140, .ref q_t_places, .ref q_t_pairs], ia C q_t_told 52 r_t_told_140, ia C q_t_heard 6 r_t_heard_140, ia C q_t_hours 6 r_t_hours_140]) (cS_run ⟨hx, hb, hml, hown, hts⟩ (k_X11_far l D C (r_t_told_140 ((6 : Int32) + w5_140).toNatClampNeg) (r_t_told_140 ((20 : Int32) + (r_t_heard_140 w3_140.toNatClampNeg)).toNatClampNeg) H.size o34 ho34) gX11_had_X11_far rfl ⟨rfl, rfl⟩ hd_X11_far ⟨(Nat.le_of_ble_eq_true rfl), (Nat.le_of_ble_eq_true rfl)⟩ rfl hK (cut_in hK hP hD [] rfl (by decide)) hl.1 rfl (Nat.le_of_ble_eq_true rfl) dX11_had_232 ⟨Nat.zero_le _, Nat.zero_le _⟩) hP hD hS hA [] [0, 1, 2, 3] [0, 1, 2, 3] rfl rfl (by decide) (by decide) rfl (by decide) (fun H locs hP hD hS => ?_)
              have hP : va_P D vwCl [ob q_t 11 [.long v_t_trace_140, .ref q_t_text, .int v_t_typed_140, .ref q_t_told, .ref q_t_draft, .ref q_t_s, .ref q_t_images, .ref q_t_kept, .ref q_t_heard, .ref q_t_hours, .int v_t_noted_140, .int v_t_at_140, .int v_t_sort_140, .int v_t_start_140, .int v_t_value_140, .ref q_t_row, .ref q_t_best, .int v_t_bestMany_140, .int v_t_bestWorth_140, .int v_t_bestHour_140, .ref q_t_places, .ref q_t_pairs], ia C q_t_told 52 r_t_told_140, ia C q_t_heard 6 r_t_heard_140, ia C q_t_hours 6 r_t_hours_140] H := hP
              have hD : va_D A [ob q_t 11 [.long v_t_trace_140, .ref q_t_text, .int v_t_typed_140, .ref q_t_told, .ref q_t_draft, .ref q_t_s, .ref q_t_images, .ref q_t_kept, .ref q_t_heard, .ref q_t_hours, .int v_t_noted_140, .int v_t_at_140, .int v_t_sort_140, .int v_t_start_140, .int v_t_value_140, .ref q_t_row, .ref q_t_best, .int v_t_bestMany_140, .int v_t_bestWorth_140, .int v_t_bestHour_140, .ref q_t_places, .ref q_t_pairs], ia C q_t_told 52 r_t_told_140, ia C q_t_heard 6 r_t_heard_140, ia C q_t_hours 6 r_t_hours_140] := hD
              refine lv_aload_n hx hb dX11_had_235 rfl (lv_at hl 5 rfl) ?_
              refine va_get (D := D) (ci := 11) (v := .ref q_t_hours) (C := RX11) (T := TX11) (N := 22) hx hb hts inX11 hown hK hP 0 rfl rfl 9 (by decide) (hts (.fieldLink RX11 32 "LentCourageModel" "hours" "[I") (List.mem_of_getElem? (i := 2) rfl)) (fun _ h9 => h9) rfl dX11_had_236 ?_
              refine lv_iload_n hx hb dX11_had_239 rfl (lv_at hl 3 rfl) ?_
              refine va_iald hx hb hK hP 3 0 rfl rfl h32 dX11_had_240 ?_
              refine lv_iload_n hx hb dX11_had_241 rfl (lv_at hl 6 rfl) ?_
              refine lv_isub hx hb dX11_had_242 ?_
              refine lv_icmp_gt (tgt := 250) hx hb dX11_had_243 (by decide) (fun c35 => ?_) (fun c35 => ?_)
              · have hf := of_pos hf c35
                refine lv_iconst (v := (0 : Int32)) hx hb dX11_had_250 (by decide) ?_
                obtain rfl := Option.some.inj hf
                exact Jj29 _ _ _ ⟨_, rfl, hP, hD, hS, lv_sub hl [0, 1, 2, 3, 4, 5, 6] rfl⟩
              · have hf := of_neg hf c35
                refine lv_iconst (v := (1 : Int32)) hx hb dX11_had_246 (by decide) ?_
                refine lv_goto (tgt := 251) hx hb dX11_had_247 (by decide) ?_
                obtain rfl := Option.some.inj hf
                exact Jj29 _ _ _ ⟨_, rfl, hP, hD, hS, lv_sub hl [0, 1, 2, 3, 4, 5, 6] rfl⟩
        · have hf := hrj22
          refine lv_icmp_eq (tgt := 195) hx hb dX11_had_154 (by decide) (fun c23 => ?_) (fun c23 => ?_)
          · have hf := of_pos hf c23
            refine lv_iconst (v := (1 : Int32)) hx hb dX11_had_195 (by decide) ?_
            refine lv_goto (tgt := 200) hx hb dX11_had_196 (by decide) ?_
            obtain rfl := Option.some.inj hf
            exact Jj22 _ _ _ ⟨_, rfl, hP, hD, hS, lv_sub hl [0, 1, 2, 3, 4, 5] rfl⟩
          · have hf := of_neg hf c23
            refine lv_aload_n hx hb dX11_had_157 rfl (lv_at hl 4 rfl) ?_
            refine va_get (D := D) (ci := 11) (v := .ref q_t_told) (C := RX11) (T := TX11) (N := 22) hx hb hts inX11 hown hK hP 0 rfl rfl 3 (by decide) (hts (.fieldLink RX11 13 "LentCourageModel" "told" "[I") (List.mem_of_getElem? (i := 3) rfl)) (fun _ h9 => h9) rfl dX11_had_158 ?_
            refine lv_bipush (v := (20 : Int32)) hx hb dX11_had_161 (by decide) ?_
            refine lv_aload_n hx hb dX11_had_163 rfl (lv_at hl 4 rfl) ?_
            refine va_get (D := D) (ci := 11) (v := .ref q_t_heard) (C := RX11) (T := TX11) (N := 22) hx hb hts inX11 hown hK hP 0 rfl rfl 8 (by decide) (hts (.fieldLink RX11 29 "LentCourageModel" "heard" "[I") (List.mem_of_getElem? (i := 4) rfl)) (fun _ h9 => h9) rfl dX11_had_164 ?_
            refine lv_iload_n hx hb dX11_had_167 rfl (lv_at hl 3 rfl) ?_
            obtain ⟨h24, hf⟩ := of_chk hf
            refine va_iald hx hb hK hP 2 0 rfl rfl h24 dX11_had_168 ?_
            refine lv_iadd hx hb dX11_had_169 ?_
            obtain ⟨h25, hf⟩ := of_chk hf
            refine va_iald hx hb hK hP 1 0 rfl rfl h25 dX11_had_170 ?_
            refine lv_aload_n hx hb dX11_had_171 rfl (lv_at hl 4 rfl) ?_
            refine va_get (D := D) (ci := 11) (v := .ref q_t_told) (C := RX11) (T := TX11) (N := 22) hx hb hts inX11 hown hK hP 0 rfl rfl 3 (by decide) (hts (.fieldLink RX11 13 "LentCourageModel" "told" "[I") (List.mem_of_getElem? (i := 3) rfl)) (fun _ h9 => h9) rfl dX11_had_172 ?_
            refine lv_bipush (v := (6 : Int32)) hx hb dX11_had_175 (by decide) ?_
            refine lv_iload hx hb dX11_had_177 (lv_at hl 0 rfl) ?_
            refine lv_iadd hx hb dX11_had_179 ?_
            obtain ⟨h26, hf⟩ := of_chk hf
            refine va_iald hx hb hK hP 1 0 rfl rfl h26 dX11_had_180 ?_
            obtain ⟨o27, ho27, hf⟩ := of_bind hf
            refine c_I (wr := [ob q_t 11 [.long v_t_trace_140, .ref q_t_text, .int v_t_typed_140, .ref q_t_told, .ref q_t_draft, .ref q_t_s, .ref q_t_images, .ref q_t_kept, .ref q_t_heard, .ref q_t_hours, .int v_t_noted_140, .int v_t_at_140, .int v_t_sort_140, .int v_t_start_140, .int v_t_value_140, .ref q_t_row, .ref q_t_best, .int v_t_bestMany_140, .int v_t_bestWorth_140, .int v_t_bestHour_140, .ref q_t_places, .ref q_t_pairs], ia C q_t_told 52 r_t_told_140, ia C q_t_heard 6 r_t_heard_140, ia C q_t_hours 6 r_t_hours_140]) (W2 := [ob q_t 11 [.long v_t_trace_140, .ref q_t_text, .int v_t_typed_140, .ref q_t_told, .ref q_t_draft, .ref q_t_s, .ref q_t_images, .ref q_t_kept, .ref q_t_heard, .ref q_t_hours, .int v_t_noted_140, .int v_t_at_140, .int v_t_sort_140, .int v_t_start_140, .int v_t_value_140, .ref q_t_row, .ref q_t_best, .int v_t_bestMany_140, .int v_t_bestWorth_140, .int v_t_bestHour_140, .ref q_t_places, .ref q_t_pairs], ia C q_t_told 52 r_t_told_140, ia C q_t_heard 6 r_t_heard_140, ia C q_t_hours 6 r_t_hours_140]) (cS_run ⟨hx, hb, hml, hown, hts⟩ (k_X11_far l D C (r_t_told_140 ((20 : Int32) + (r_t_heard_140 w2_140.toNatClampNeg)).toNatClampNeg) (r_t_told_140 ((6 : Int32) + w5_140).toNatClampNeg) H.size o27 ho27) gX11_had_X11_far rfl ⟨rfl, rfl⟩ hd_X11_far ⟨(Nat.le_of_ble_eq_true rfl), (Nat.le_of_ble_eq_true rfl)⟩ rfl hK (cut_in hK hP hD [] rfl (by decide)) hl.1 rfl (Nat.le_of_ble_eq_true rfl) dX11_had_181 ⟨Nat.zero_le _, Nat.zero_le _⟩) hP hD hS hA [] [0, 1, 2, 3] [0, 1, 2, 3] rfl rfl (by decide) (by decide) rfl (by decide) (fun H locs hP hD hS => ?_)
            have hP : va_P D vwCl [ob q_t 11 [.long v_t_trace_140, .ref q_t_text, .int v_t_typed_140, .ref q_t_told, .ref q_t_draft, .ref q_t_s, .ref q_t_images, .ref q_t_kept, .ref q_t_heard, .ref q_t_hours, .int v_t_noted_140, .int v_t_at_140, .int v_t_sort_140, .int v_t_start_140, .int v_t_value_140, .ref q_t_row, .ref q_t_best, .int v_t_bestMany_140, .int v_t_bestWorth_140, .int v_t_bestHour_140, .ref q_t_places, .ref q_t_pairs], ia C q_t_told 52 r_t_told_140, ia C q_t_heard 6 r_t_heard_140, ia C q_t_hours 6 r_t_hours_140] H := hP
            have hD : va_D A [ob q_t 11 [.long v_t_trace_140, .ref q_t_text, .int v_t_typed_140, .ref q_t_told, .ref q_t_draft, .ref q_t_s, .ref q_t_images, .ref q_t_kept, .ref q_t_heard, .ref q_t_hours, .int v_t_noted_140, .int v_t_at_140, .int v_t_sort_140, .int v_t_start_140, .int v_t_value_140, .ref q_t_row, .ref q_t_best, .int v_t_bestMany_140, .int v_t_bestWorth_140, .int v_t_bestHour_140, .ref q_t_places, .ref q_t_pairs], ia C q_t_told 52 r_t_told_140, ia C q_t_heard 6 r_t_heard_140, ia C q_t_hours 6 r_t_hours_140] := hD
            refine lv_iload_n hx hb dX11_had_184 rfl (lv_at hl 5 rfl) ?_
            refine lv_aload_n hx hb dX11_had_185 rfl (lv_at hl 4 rfl) ?_
            refine va_get (D := D) (ci := 11) (v := .ref q_t_hours) (C := RX11) (T := TX11) (N := 22) hx hb hts inX11 hown hK hP 0 rfl rfl 9 (by decide) (hts (.fieldLink RX11 32 "LentCourageModel" "hours" "[I") (List.mem_of_getElem? (i := 2) rfl)) (fun _ h9 => h9) rfl dX11_had_186 ?_
            refine lv_iload_n hx hb dX11_had_189 rfl (lv_at hl 3 rfl) ?_
            refine va_iald hx hb hK hP 3 0 rfl rfl h24 dX11_had_190 ?_
            refine lv_isub hx hb dX11_had_191 ?_
            refine lv_icmp_gt (tgt := 199) hx hb dX11_had_192 (by decide) (fun c28 => ?_) (fun c28 => ?_)
            · have hf := of_pos hf c28
              refine lv_iconst (v := (0 : Int32)) hx hb dX11_had_199 (by decide) ?_
              obtain rfl := Option.some.inj hf
              exact Jj22 _ _ _ ⟨_, rfl, hP, hD, hS, lv_sub hl [0, 1, 2, 3, 4, 5] rfl⟩
            · have hf := of_neg hf c28
              refine lv_iconst (v := (1 : Int32)) hx hb dX11_had_195 (by decide) ?_
              refine lv_goto (tgt := 200) hx hb dX11_had_196 (by decide) ?_
              obtain rfl := Option.some.inj hf
              exact Jj22 _ _ _ ⟨_, rfl, hP, hD, hS, lv_sub hl [0, 1, 2, 3, 4, 5] rfl⟩
  refine lv_iload_n hx hb dX11_had_0 rfl (lv_at hl 1 rfl) ?_
  refine lv_iconst (v := (0 : Int32)) hx hb dX11_had_1 (by decide) ?_
  refine lv_bipush (v := (99 : Int32)) hx hb dX11_had_2 (by decide) ?_
  obtain ⟨o1, ho1, hf⟩ := of_bind hf
  refine c_I (wr := [ob q_t 11 [.long v_t_trace, .ref q_t_text, .int v_t_typed, .ref q_t_told, .ref q_t_draft, .ref q_t_s, .ref q_t_images, .ref q_t_kept, .ref q_t_heard, .ref q_t_hours, .int v_t_noted, .int v_t_at, .int v_t_sort, .int v_t_start, .int v_t_value, .ref q_t_row, .ref q_t_best, .int v_t_bestMany, .int v_t_bestWorth, .int v_t_bestHour, .ref q_t_places, .ref q_t_pairs], ia C q_t_told 52 r_t_told, ia C q_t_heard 6 r_t_heard, ia C q_t_hours 6 r_t_hours]) (W2 := [ob q_t 11 [.long v_t_trace, .ref q_t_text, .int v_t_typed, .ref q_t_told, .ref q_t_draft, .ref q_t_s, .ref q_t_images, .ref q_t_kept, .ref q_t_heard, .ref q_t_hours, .int v_t_noted, .int v_t_at, .int v_t_sort, .int v_t_start, .int v_t_value, .ref q_t_row, .ref q_t_best, .int v_t_bestMany, .int v_t_bestWorth, .int v_t_bestHour, .ref q_t_places, .ref q_t_pairs], ia C q_t_told 52 r_t_told, ia C q_t_heard 6 r_t_heard, ia C q_t_hours 6 r_t_hours]) (cS_run ⟨hx, hb, hml, hown, hts⟩ (k_X11_in l D C p1 (0 : Int32) (99 : Int32) H.size o1 ho1) gX11_had_X11_in rfl ⟨rfl, rfl⟩ hd_X11_in ⟨(Nat.le_of_ble_eq_true rfl), (Nat.le_of_ble_eq_true rfl)⟩ rfl hK (cut_in hK hP hD [] rfl (by decide)) hl.1 rfl (Nat.le_of_ble_eq_true rfl) dX11_had_4 ⟨Nat.zero_le _, Nat.zero_le _⟩) hP hD hS hA [] [0, 1, 2, 3] [0, 1, 2, 3] rfl rfl (by decide) (by decide) rfl (by decide) (fun H locs hP hD hS => ?_)
  have hP : va_P D vwCl [ob q_t 11 [.long v_t_trace, .ref q_t_text, .int v_t_typed, .ref q_t_told, .ref q_t_draft, .ref q_t_s, .ref q_t_images, .ref q_t_kept, .ref q_t_heard, .ref q_t_hours, .int v_t_noted, .int v_t_at, .int v_t_sort, .int v_t_start, .int v_t_value, .ref q_t_row, .ref q_t_best, .int v_t_bestMany, .int v_t_bestWorth, .int v_t_bestHour, .ref q_t_places, .ref q_t_pairs], ia C q_t_told 52 r_t_told, ia C q_t_heard 6 r_t_heard, ia C q_t_hours 6 r_t_hours] H := hP
  have hD : va_D A [ob q_t 11 [.long v_t_trace, .ref q_t_text, .int v_t_typed, .ref q_t_told, .ref q_t_draft, .ref q_t_s, .ref q_t_images, .ref q_t_kept, .ref q_t_heard, .ref q_t_hours, .int v_t_noted, .int v_t_at, .int v_t_sort, .int v_t_start, .int v_t_value, .ref q_t_row, .ref q_t_best, .int v_t_bestMany, .int v_t_bestWorth, .int v_t_bestHour, .ref q_t_places, .ref q_t_pairs], ia C q_t_told 52 r_t_told, ia C q_t_heard 6 r_t_heard, ia C q_t_hours 6 r_t_hours] := hD
  refine lv_if_ne (tgt := 12) hx hb dX11_had_7 (by decide) (fun c2 => ?_) (fun c2 => ?_)
  · have hf := of_neg hf c2
    refine lv_bipush (v := (-9 : Int32)) hx hb dX11_had_12 (by decide) ?_
    refine lv_istore_n (lv' := [(2, .int (-9 : Int32)), (0, .ref q_t), (1, .int p1)]) hx hb dX11_had_14 rfl hl (by decide) rfl (fun ls hl => ?_)
    refine lv_bipush (v := (-9 : Int32)) hx hb dX11_had_15 (by decide) ?_
    refine lv_istore_n (lv' := [(3, .int (-9 : Int32)), (2, .int (-9 : Int32)), (0, .ref q_t), (1, .int p1)]) hx hb dX11_had_17 rfl hl (by decide) rfl (fun ls hl => ?_)
    refine lv_iconst (v := (0 : Int32)) hx hb dX11_had_18 (by decide) ?_
    refine lv_istore (lv' := [(4, .int (0 : Int32)), (3, .int (-9 : Int32)), (2, .int (-9 : Int32)), (0, .ref q_t), (1, .int p1)]) hx hb dX11_had_19 hl (by decide) rfl (fun ls hl => ?_)
    obtain ⟨y11, hy11, hf⟩ := of_bind hf
    refine LP21 _ FU _ _ _ _ _ _ _ _ _ _ _ _ _ _ _ _ _ y11 hy11 H locs ls hP hD hS (lv_sub hl [0, 1, 2, 3, 4] rfl) (fun H locs ls hP hD hS hl => ?_)
    refine lv_iload_n hx hb dX11_had_78 rfl (lv_at hl 2 rfl) ?_
    refine lv_bipush (v := (-9 : Int32)) hx hb dX11_had_79 (by decide) ?_
    obtain ⟨j12, hrj12, hf⟩ := of_bind hf
    refine jn (fun H L g => ∃ ls, g = F0 m 104 ls [.int j12] ∧ va_P D vwCl [ob q_t 11 [.long v_t_trace, .ref q_t_text, .int v_t_typed, .ref q_t_told, .ref q_t_draft, .ref q_t_s, .ref q_t_images, .ref q_t_kept, .ref q_t_heard, .ref q_t_hours, .int v_t_noted, .int v_t_at, .int v_t_sort, .int v_t_start, .int v_t_value, .ref q_t_row, .ref q_t_best, .int v_t_bestMany, .int v_t_bestWorth, .int v_t_bestHour, .ref q_t_places, .ref q_t_pairs], ia C q_t_told 52 r_t_told, ia C q_t_heard 6 r_t_heard, ia C q_t_hours 6 r_t_hours] H ∧ va_D A [ob q_t 11 [.long v_t_trace, .ref q_t_text, .int v_t_typed, .ref q_t_told, .ref q_t_draft, .ref q_t_s, .ref q_t_images, .ref q_t_kept, .ref q_t_heard, .ref q_t_hours, .int v_t_noted, .int v_t_at, .int v_t_sort, .int v_t_start, .int v_t_value, .ref q_t_row, .ref q_t_best, .int v_t_bestMany, .int v_t_bestWorth, .int v_t_bestHour, .ref q_t_places, .ref q_t_pairs], ia C q_t_told 52 r_t_told, ia C q_t_heard 6 r_t_heard, ia C q_t_hours 6 r_t_hours] ∧ va_S A s.heap H L ∧ lv_has ls 8 [(4, .int y11.1), (3, .int y11.2.1), (2, .int y11.2.2), (0, .ref q_t), (1, .int p1)]) (fun H locs g hI => ?_) (fun Jj12 => ?_)
    · obtain ⟨ls, rfl, hP, hD, hS, hl⟩ := hI
      refine lv_istore (lv' := [(4, .int j12), (3, .int y11.2.1), (2, .int y11.2.2), (0, .ref q_t), (1, .int p1)]) hx hb dX11_had_104 hl (by decide) rfl (fun ls hl => ?_)
      refine lv_iload hx hb dX11_had_106 (lv_at hl 0 rfl) ?_
      refine lv_iload_n hx hb dX11_had_108 rfl (lv_at hl 1 rfl) ?_
      refine lv_bipush (v := (-9 : Int32)) hx hb dX11_had_109 (by decide) ?_
      obtain ⟨j16, hrj16, hf⟩ := of_bind hf
      refine jn (fun H L g => ∃ ls, g = F0 m 134 ls [.int j16, .int j12] ∧ va_P D vwCl [ob q_t 11 [.long v_t_trace, .ref q_t_text, .int v_t_typed, .ref q_t_told, .ref q_t_draft, .ref q_t_s, .ref q_t_images, .ref q_t_kept, .ref q_t_heard, .ref q_t_hours, .int v_t_noted, .int v_t_at, .int v_t_sort, .int v_t_start, .int v_t_value, .ref q_t_row, .ref q_t_best, .int v_t_bestMany, .int v_t_bestWorth, .int v_t_bestHour, .ref q_t_places, .ref q_t_pairs], ia C q_t_told 52 r_t_told, ia C q_t_heard 6 r_t_heard, ia C q_t_hours 6 r_t_hours] H ∧ va_D A [ob q_t 11 [.long v_t_trace, .ref q_t_text, .int v_t_typed, .ref q_t_told, .ref q_t_draft, .ref q_t_s, .ref q_t_images, .ref q_t_kept, .ref q_t_heard, .ref q_t_hours, .int v_t_noted, .int v_t_at, .int v_t_sort, .int v_t_start, .int v_t_value, .ref q_t_row, .ref q_t_best, .int v_t_bestMany, .int v_t_bestWorth, .int v_t_bestHour, .ref q_t_places, .ref q_t_pairs], ia C q_t_told 52 r_t_told, ia C q_t_heard 6 r_t_heard, ia C q_t_hours 6 r_t_hours] ∧ va_S A s.heap H L ∧ lv_has ls 8 [(4, .int j12), (3, .int y11.2.1), (2, .int y11.2.2), (0, .ref q_t), (1, .int p1)]) (fun H locs g hI => ?_) (fun Jj16 => ?_)
      · obtain ⟨ls, rfl, hP, hD, hS, hl⟩ := hI
        refine lv_ior hx hb dX11_had_134 ?_
        refine lv_topi (fun z20 ez20 => ?_)
        have hf := of_lt hf ez20
        refine lv_istore (lv' := [(4, .int z20), (3, .int y11.2.1), (2, .int y11.2.2), (0, .ref q_t), (1, .int p1)]) hx hb dX11_had_135 hl (by decide) rfl (fun ls hl => ?_)
        refine lv_iconst (v := (0 : Int32)) hx hb dX11_had_137 (by decide) ?_
        refine lv_istore (lv' := [(5, .int (0 : Int32)), (4, .int z20), (3, .int y11.2.1), (2, .int y11.2.2), (0, .ref q_t), (1, .int p1)]) hx hb dX11_had_138 hl (by decide) rfl (fun ls hl => ?_)
        obtain ⟨y40, hy40, hf⟩ := of_bind hf
        refine LP140 _ FU _ _ _ _ _ _ _ _ _ _ _ _ _ _ _ _ _ _ y40 hy40 H locs ls hP hD hS (lv_sub hl [0, 1, 2, 3, 4, 5] rfl) (fun H locs ls hP hD hS hl => ?_)
        refine lv_iload hx hb dX11_had_282 (lv_at hl 1 rfl) ?_
        obtain rfl := Option.some.inj hf
        exact ret_I hx hb hr hlocks hK hP hD hS dX11_had_284
      · have hf := hrj16
        refine lv_icmp_ne (tgt := 118) hx hb dX11_had_111 (by decide) (fun c17 => ?_) (fun c17 => ?_)
        · have hf := of_neg hf c17
          refine lv_iconst (v := (1 : Int32)) hx hb dX11_had_118 (by decide) ?_
          refine lv_aload_n hx hb dX11_had_119 rfl (lv_at hl 3 rfl) ?_
          refine va_get (D := D) (ci := 11) (v := .ref q_t_told) (C := RX11) (T := TX11) (N := 22) hx hb hts inX11 hown hK hP 0 rfl rfl 3 (by decide) (hts (.fieldLink RX11 13 "LentCourageModel" "told" "[I") (List.mem_of_getElem? (i := 3) rfl)) (fun _ h9 => h9) rfl dX11_had_120 ?_
          refine lv_bipush (v := (12 : Int32)) hx hb dX11_had_123 (by decide) ?_
          refine lv_aload_n hx hb dX11_had_125 rfl (lv_at hl 3 rfl) ?_
          refine va_get (D := D) (ci := 11) (v := .ref q_t_heard) (C := RX11) (T := TX11) (N := 22) hx hb hts inX11 hown hK hP 0 rfl rfl 8 (by decide) (hts (.fieldLink RX11 29 "LentCourageModel" "heard" "[I") (List.mem_of_getElem? (i := 4) rfl)) (fun _ h9 => h9) rfl dX11_had_126 ?_
          refine lv_iload_n hx hb dX11_had_129 rfl (lv_at hl 1 rfl) ?_
          obtain ⟨h18, hf⟩ := of_chk hf
          refine va_iald hx hb hK hP 2 0 rfl rfl h18 dX11_had_130 ?_
          refine lv_iadd hx hb dX11_had_131 ?_
          obtain ⟨h19, hf⟩ := of_chk hf
          refine va_iald hx hb hK hP 1 0 rfl rfl h19 dX11_had_132 ?_
          refine lv_ishl hx hb dX11_had_133 ?_
          obtain rfl := Option.some.inj hf
          exact Jj16 _ _ _ ⟨_, rfl, hP, hD, hS, lv_sub hl [0, 1, 2, 3, 4] rfl⟩
        · have hf := of_pos hf c17
          refine lv_iconst (v := (0 : Int32)) hx hb dX11_had_114 (by decide) ?_
          refine lv_goto (tgt := 134) hx hb dX11_had_115 (by decide) ?_
          obtain rfl := Option.some.inj hf
          exact Jj16 _ _ _ ⟨_, rfl, hP, hD, hS, lv_sub hl [0, 1, 2, 3, 4] rfl⟩
    · have hf := hrj12
      refine lv_icmp_ne (tgt := 88) hx hb dX11_had_81 (by decide) (fun c13 => ?_) (fun c13 => ?_)
      · have hf := of_neg hf c13
        refine lv_iconst (v := (1 : Int32)) hx hb dX11_had_88 (by decide) ?_
        refine lv_aload_n hx hb dX11_had_89 rfl (lv_at hl 3 rfl) ?_
        refine va_get (D := D) (ci := 11) (v := .ref q_t_told) (C := RX11) (T := TX11) (N := 22) hx hb hts inX11 hown hK hP 0 rfl rfl 3 (by decide) (hts (.fieldLink RX11 13 "LentCourageModel" "told" "[I") (List.mem_of_getElem? (i := 3) rfl)) (fun _ h9 => h9) rfl dX11_had_90 ?_
        refine lv_bipush (v := (12 : Int32)) hx hb dX11_had_93 (by decide) ?_
        refine lv_aload_n hx hb dX11_had_95 rfl (lv_at hl 3 rfl) ?_
        refine va_get (D := D) (ci := 11) (v := .ref q_t_heard) (C := RX11) (T := TX11) (N := 22) hx hb hts inX11 hown hK hP 0 rfl rfl 8 (by decide) (hts (.fieldLink RX11 29 "LentCourageModel" "heard" "[I") (List.mem_of_getElem? (i := 4) rfl)) (fun _ h9 => h9) rfl dX11_had_96 ?_
        refine lv_iload_n hx hb dX11_had_99 rfl (lv_at hl 2 rfl) ?_
        obtain ⟨h14, hf⟩ := of_chk hf
        refine va_iald hx hb hK hP 2 0 rfl rfl h14 dX11_had_100 ?_
        refine lv_iadd hx hb dX11_had_101 ?_
        obtain ⟨h15, hf⟩ := of_chk hf
        refine va_iald hx hb hK hP 1 0 rfl rfl h15 dX11_had_102 ?_
        refine lv_ishl hx hb dX11_had_103 ?_
        obtain rfl := Option.some.inj hf
        exact Jj12 _ _ _ ⟨_, rfl, hP, hD, hS, lv_sub hl [0, 1, 2, 3, 4] rfl⟩
      · have hf := of_pos hf c13
        refine lv_iconst (v := (0 : Int32)) hx hb dX11_had_84 (by decide) ?_
        refine lv_goto (tgt := 104) hx hb dX11_had_85 (by decide) ?_
        obtain rfl := Option.some.inj hf
        exact Jj12 _ _ _ ⟨_, rfl, hP, hD, hS, lv_sub hl [0, 1, 2, 3, 4] rfl⟩
  · have hf := of_pos hf c2
    refine lv_iconst (v := (-1 : Int32)) hx hb dX11_had_10 (by decide) ?_
    obtain rfl := Option.some.inj hf
    exact ret_I hx hb hr hlocks hK hP hD hS dX11_had_11

def fX11_mark (v_t_trace : Int64) (r_t_told : Nat → Int32) (r_t_s : Nat → Int32) (p1 : Int32) (p2 : Int32) : Option (Int32 × Int64) :=
  (fX11_in p1 (0 : Int32) (5 : Int32)).bind (fun o1 => (if o1 = 0 then some ((-1000000 : Int32), v_t_trace) else (fX11_isOne r_t_told p2).bind (fun o3 => (if o3 = 0 then some ((-1000000 : Int32), v_t_trace) else lt_ (v_t_trace + (if p1 = 0 then (1 : Int64) else (if p1 = (1 : Int32) then (11 : Int64) else (if p1 = (2 : Int32) then (101 : Int64) else (if p1 = (3 : Int32) then (1011 : Int64) else (if p1 = (4 : Int32) then (10101 : Int64) else (100001 : Int64))))))) (fun z10 => (fX11_care r_t_s p2).bind (fun o11 => chk (vin ((16 : Int32) + p2) 254) (lt_ (o11 + (r_t_s ((16 : Int32) + p2).toNatClampNeg)) (fun z13 => chk (vin ((4 : Int32) + p2) 254) (lt_ (o11 - (r_t_s ((4 : Int32) + p2).toNatClampNeg)) (fun z15 => some ((if p1 = 0 then o11 else (if p1 = (1 : Int32) then z13 else (if p1 = (2 : Int32) then z15 else (if p1 = (3 : Int32) then ((2 : Int32) * z13) else (if p1 = (4 : Int32) then (z15 + p2) else (o11 + (r_t_s 0))))))), z10)))))))))))
theorem hd_X11_mark : yX11_mark.cls = RX11 ∧ yX11_mark.cls ≠ "java/lang/invoke/MethodHandle" ∧ yX11_mark.cls ≠ "java/lang/invoke/VarHandle" ∧ (parseMethodDescriptor yX11_mark.desc).map (fun d => d.parameters.length) = some 2 := by decide +kernel
set_option maxHeartbeats 4000000 in
set_option maxRecDepth 100000 in
theorem k_X11_mark (l : Launch) (D : va_G) (C : Nat → ClassId) (q_t : Nat) (q_t_text : Nat) (q_t_told : Nat) (q_t_draft : Nat) (q_t_s : Nat) (q_t_images : Nat) (q_t_kept : Nat) (q_t_heard : Nat) (q_t_hours : Nat) (q_t_row : Nat) (q_t_best : Nat) (q_t_places : Nat) (q_t_pairs : Nat) (v_t_trace : Int64) (v_t_typed : Int32) (v_t_noted : Int32) (v_t_at : Int32) (v_t_sort : Int32) (v_t_start : Int32) (v_t_value : Int32) (v_t_bestMany : Int32) (v_t_bestWorth : Int32) (v_t_bestHour : Int32) (r_t_told : Nat → Int32) (r_t_s : Nat → Int32) (p1 : Int32) (p2 : Int32) (sz : Nat) (out : Int32 × Int64) (hf : fX11_mark v_t_trace r_t_told r_t_s p1 p2 = some out) : MI l yX11_mark wsX11_mark ({ frames := 2, cells := 0, slots := 0, locals := 43 }) D C [.ref q_t, .int p1, .int p2] [ob q_t 11 [.long v_t_trace, .ref q_t_text, .int v_t_typed, .ref q_t_told, .ref q_t_draft, .ref q_t_s, .ref q_t_images, .ref q_t_kept, .ref q_t_heard, .ref q_t_hours, .int v_t_noted, .int v_t_at, .int v_t_sort, .int v_t_start, .int v_t_value, .ref q_t_row, .ref q_t_best, .int v_t_bestMany, .int v_t_bestWorth, .int v_t_bestHour, .ref q_t_places, .ref q_t_pairs], ia C q_t_told 52 r_t_told, ia C q_t_s 254 r_t_s] [ob q_t 11 [.long out.2, .ref q_t_text, .int v_t_typed, .ref q_t_told, .ref q_t_draft, .ref q_t_s, .ref q_t_images, .ref q_t_kept, .ref q_t_heard, .ref q_t_hours, .int v_t_noted, .int v_t_at, .int v_t_sort, .int v_t_start, .int v_t_value, .ref q_t_row, .ref q_t_best, .int v_t_bestMany, .int v_t_bestWorth, .int v_t_bestHour, .ref q_t_places, .ref q_t_pairs], ia C q_t_told 52 r_t_told, ia C q_t_s 254 r_t_s] sz (out.1) := by
  unfold fX11_mark at hf
  refine en_I (by decide) rfl (Nat.le_of_ble_eq_true rfl) ?_
  intro p e s m below meth c A ls H locs hx hb hr hlocks hml hts hown hK hP hD hS hA hl
  have hl : lv_has ls 6 [(0, .ref q_t), (1, .int p1), (2, .int p2)] := hl
  have inX11 : ∀ w ∈ u_ws RX11 TX11 22, w ∈ wsX11_mark := fun w h => List.mem_cons_of_mem _ (List.mem_append_right _ h)
  refine lv_iload_n hx hb dX11_mark_0 rfl (lv_at hl 1 rfl) ?_
  refine lv_iconst (v := (0 : Int32)) hx hb dX11_mark_1 (by decide) ?_
  refine lv_iconst (v := (5 : Int32)) hx hb dX11_mark_2 (by decide) ?_
  obtain ⟨o1, ho1, hf⟩ := of_bind hf
  refine c_I (wr := [ob q_t 11 [.long v_t_trace, .ref q_t_text, .int v_t_typed, .ref q_t_told, .ref q_t_draft, .ref q_t_s, .ref q_t_images, .ref q_t_kept, .ref q_t_heard, .ref q_t_hours, .int v_t_noted, .int v_t_at, .int v_t_sort, .int v_t_start, .int v_t_value, .ref q_t_row, .ref q_t_best, .int v_t_bestMany, .int v_t_bestWorth, .int v_t_bestHour, .ref q_t_places, .ref q_t_pairs], ia C q_t_told 52 r_t_told, ia C q_t_s 254 r_t_s]) (W2 := [ob q_t 11 [.long v_t_trace, .ref q_t_text, .int v_t_typed, .ref q_t_told, .ref q_t_draft, .ref q_t_s, .ref q_t_images, .ref q_t_kept, .ref q_t_heard, .ref q_t_hours, .int v_t_noted, .int v_t_at, .int v_t_sort, .int v_t_start, .int v_t_value, .ref q_t_row, .ref q_t_best, .int v_t_bestMany, .int v_t_bestWorth, .int v_t_bestHour, .ref q_t_places, .ref q_t_pairs], ia C q_t_told 52 r_t_told, ia C q_t_s 254 r_t_s]) (cS_run ⟨hx, hb, hml, hown, hts⟩ (k_X11_in l D C p1 (0 : Int32) (5 : Int32) H.size o1 ho1) gX11_mark_X11_in rfl ⟨rfl, rfl⟩ hd_X11_in ⟨(Nat.le_of_ble_eq_true rfl), (Nat.le_of_ble_eq_true rfl)⟩ rfl hK (cut_in hK hP hD [] rfl (by decide)) hl.1 rfl (Nat.le_of_ble_eq_true rfl) dX11_mark_3 ⟨Nat.zero_le _, Nat.zero_le _⟩) hP hD hS hA [] [0, 1, 2] [0, 1, 2] rfl rfl (by decide) (by decide) rfl (by decide) (fun H locs hP hD hS => ?_)
  have hP : va_P D vwCl [ob q_t 11 [.long v_t_trace, .ref q_t_text, .int v_t_typed, .ref q_t_told, .ref q_t_draft, .ref q_t_s, .ref q_t_images, .ref q_t_kept, .ref q_t_heard, .ref q_t_hours, .int v_t_noted, .int v_t_at, .int v_t_sort, .int v_t_start, .int v_t_value, .ref q_t_row, .ref q_t_best, .int v_t_bestMany, .int v_t_bestWorth, .int v_t_bestHour, .ref q_t_places, .ref q_t_pairs], ia C q_t_told 52 r_t_told, ia C q_t_s 254 r_t_s] H := hP
  have hD : va_D A [ob q_t 11 [.long v_t_trace, .ref q_t_text, .int v_t_typed, .ref q_t_told, .ref q_t_draft, .ref q_t_s, .ref q_t_images, .ref q_t_kept, .ref q_t_heard, .ref q_t_hours, .int v_t_noted, .int v_t_at, .int v_t_sort, .int v_t_start, .int v_t_value, .ref q_t_row, .ref q_t_best, .int v_t_bestMany, .int v_t_bestWorth, .int v_t_bestHour, .ref q_t_places, .ref q_t_pairs], ia C q_t_told 52 r_t_told, ia C q_t_s 254 r_t_s] := hD
  refine lv_if_eq (tgt := 17) hx hb dX11_mark_6 (by decide) (fun c2 => ?_) (fun c2 => ?_)
  · have hf := of_pos hf c2
    refine lv_ldc hx hb hown (hts (.constant RX11 167 (-1000000)) (List.mem_of_getElem? (i := 1) rfl)) dX11_mark_17 ?_
    obtain rfl := Option.some.inj hf
    exact ret_I hx hb hr hlocks hK hP hD hS dX11_mark_19
  · have hf := of_neg hf c2
    refine lv_aload_n hx hb dX11_mark_9 rfl (lv_at hl 0 rfl) ?_
    refine lv_iload_n hx hb dX11_mark_10 rfl (lv_at hl 2 rfl) ?_
    obtain ⟨o3, ho3, hf⟩ := of_bind hf
    refine c_I (wr := [ia C q_t_s 254 r_t_s]) (W2 := [ob q_t 11 [.long v_t_trace, .ref q_t_text, .int v_t_typed, .ref q_t_told, .ref q_t_draft, .ref q_t_s, .ref q_t_images, .ref q_t_kept, .ref q_t_heard, .ref q_t_hours, .int v_t_noted, .int v_t_at, .int v_t_sort, .int v_t_start, .int v_t_value, .ref q_t_row, .ref q_t_best, .int v_t_bestMany, .int v_t_bestWorth, .int v_t_bestHour, .ref q_t_places, .ref q_t_pairs], ia C q_t_told 52 r_t_told, ia C q_t_s 254 r_t_s]) (cV_run ⟨hx, hb, hml, hown, hts⟩ (k_X11_isOne l D C q_t q_t_text q_t_told q_t_draft q_t_s q_t_images q_t_kept q_t_heard q_t_hours q_t_row q_t_best q_t_places q_t_pairs v_t_trace v_t_typed v_t_noted v_t_at v_t_sort v_t_start v_t_value v_t_bestMany v_t_bestWorth v_t_bestHour r_t_told p2 H.size o3 ho3) gX11_mark_X11_isOne rfl ⟨rfl, rfl⟩ hd_X11_isOne ⟨(Nat.le_of_ble_eq_true rfl), (Nat.le_of_ble_eq_true rfl)⟩ rfl hK (cut_in hK hP hD [0, 1] rfl (by decide)) (ci := 11) rfl rfl rfl hl.1 rfl (Nat.le_of_ble_eq_true rfl) dX11_mark_11 ⟨Nat.zero_le _, Nat.zero_le _⟩) hP hD hS hA [0, 1] [2] [1, 2, 0] rfl rfl (by decide) (by decide) rfl (by decide) (fun H locs hP hD hS => ?_)
    have hP : va_P D vwCl [ob q_t 11 [.long v_t_trace, .ref q_t_text, .int v_t_typed, .ref q_t_told, .ref q_t_draft, .ref q_t_s, .ref q_t_images, .ref q_t_kept, .ref q_t_heard, .ref q_t_hours, .int v_t_noted, .int v_t_at, .int v_t_sort, .int v_t_start, .int v_t_value, .ref q_t_row, .ref q_t_best, .int v_t_bestMany, .int v_t_bestWorth, .int v_t_bestHour, .ref q_t_places, .ref q_t_pairs], ia C q_t_told 52 r_t_told, ia C q_t_s 254 r_t_s] H := hP
    have hD : va_D A [ob q_t 11 [.long v_t_trace, .ref q_t_text, .int v_t_typed, .ref q_t_told, .ref q_t_draft, .ref q_t_s, .ref q_t_images, .ref q_t_kept, .ref q_t_heard, .ref q_t_hours, .int v_t_noted, .int v_t_at, .int v_t_sort, .int v_t_start, .int v_t_value, .ref q_t_row, .ref q_t_best, .int v_t_bestMany, .int v_t_bestWorth, .int v_t_bestHour, .ref q_t_places, .ref q_t_pairs], ia C q_t_told 52 r_t_told, ia C q_t_s 254 r_t_s] := hD
    refine lv_if_ne (tgt := 20) hx hb dX11_mark_14 (by decide) (fun c4 => ?_) (fun c4 => ?_)
    · have hf := of_neg hf c4
      refine lv_aload_n hx hb dX11_mark_20 rfl (lv_at hl 0 rfl) ?_
      refine lv_dup hx hb dX11_mark_21 rfl ?_
      refine va_get (D := D) (ci := 11) (v := .long v_t_trace) (C := RX11) (T := TX11) (N := 22) hx hb hts inX11 hown hK hP 0 rfl rfl 0 (by decide) (hts (.fieldLink RX11 168 "LentCourageModel" "trace" "J") (List.mem_of_getElem? (i := 2) rfl)) (fun _ h9 => h9) rfl dX11_mark_22 ?_
      refine lv_iload_n hx hb dX11_mark_25 rfl (lv_at hl 1 rfl) ?_
      refine jp (g2 := F0 m 80 ls [.long (if p1 = 0 then (1 : Int64) else (if p1 = (1 : Int32) then (11 : Int64) else (if p1 = (2 : Int32) then (101 : Int64) else (if p1 = (3 : Int32) then (1011 : Int64) else (if p1 = (4 : Int32) then (10101 : Int64) else (100001 : Int64)))))), .long v_t_trace, .ref q_t]) ?_ (fun JP => ?_)
      · refine lv_ladd hx hb dX11_mark_80 ?_
        refine lv_topl (fun z10 ez10 => ?_)
        have hf := of_lt hf ez10
        refine va_put (D := D) (ci := 11) (v := .long z10) (ty := .long) (C := RX11) (T := TX11) (N := 22) hx hb hts inX11 tyX11 tyX11_ok nmX11 hown hK hP hD hS 0 rfl rfl 0 (by decide) (hts (.fieldLink RX11 168 "LentCourageModel" "trace" "J") (List.mem_of_getElem? (i := 2) rfl)) (fun _ h9 => h9) rfl (tyX11_ok 0 (by decide)) rfl rfl (Nat.le_of_ble_eq_true rfl) dX11_mark_81 (fun H locs hP hD hS => ?_)
        have hP : va_P D vwCl [ob q_t 11 [.long z10, .ref q_t_text, .int v_t_typed, .ref q_t_told, .ref q_t_draft, .ref q_t_s, .ref q_t_images, .ref q_t_kept, .ref q_t_heard, .ref q_t_hours, .int v_t_noted, .int v_t_at, .int v_t_sort, .int v_t_start, .int v_t_value, .ref q_t_row, .ref q_t_best, .int v_t_bestMany, .int v_t_bestWorth, .int v_t_bestHour, .ref q_t_places, .ref q_t_pairs], ia C q_t_told 52 r_t_told, ia C q_t_s 254 r_t_s] H := hP
        have hD : va_D A [ob q_t 11 [.long z10, .ref q_t_text, .int v_t_typed, .ref q_t_told, .ref q_t_draft, .ref q_t_s, .ref q_t_images, .ref q_t_kept, .ref q_t_heard, .ref q_t_hours, .int v_t_noted, .int v_t_at, .int v_t_sort, .int v_t_start, .int v_t_value, .ref q_t_row, .ref q_t_best, .int v_t_bestMany, .int v_t_bestWorth, .int v_t_bestHour, .ref q_t_places, .ref q_t_pairs], ia C q_t_told 52 r_t_told, ia C q_t_s 254 r_t_s] := hD
        refine lv_aload_n hx hb dX11_mark_84 rfl (lv_at hl 0 rfl) ?_
        refine lv_iload_n hx hb dX11_mark_85 rfl (lv_at hl 2 rfl) ?_
        obtain ⟨o11, ho11, hf⟩ := of_bind hf
        refine c_I (wr := [ia C q_t_told 52 r_t_told]) (W2 := [ob q_t 11 [.long z10, .ref q_t_text, .int v_t_typed, .ref q_t_told, .ref q_t_draft, .ref q_t_s, .ref q_t_images, .ref q_t_kept, .ref q_t_heard, .ref q_t_hours, .int v_t_noted, .int v_t_at, .int v_t_sort, .int v_t_start, .int v_t_value, .ref q_t_row, .ref q_t_best, .int v_t_bestMany, .int v_t_bestWorth, .int v_t_bestHour, .ref q_t_places, .ref q_t_pairs], ia C q_t_told 52 r_t_told, ia C q_t_s 254 r_t_s]) (cV_run ⟨hx, hb, hml, hown, hts⟩ (k_X11_care l D C q_t q_t_text q_t_told q_t_draft q_t_s q_t_images q_t_kept q_t_heard q_t_hours q_t_row q_t_best q_t_places q_t_pairs z10 v_t_typed v_t_noted v_t_at v_t_sort v_t_start v_t_value v_t_bestMany v_t_bestWorth v_t_bestHour r_t_s p2 H.size o11 ho11) gX11_mark_X11_care rfl ⟨rfl, rfl⟩ hd_X11_care ⟨(Nat.le_of_ble_eq_true rfl), (Nat.le_of_ble_eq_true rfl)⟩ rfl hK (cut_in hK hP hD [0, 2] rfl (by decide)) (ci := 11) rfl rfl rfl hl.1 rfl (Nat.le_of_ble_eq_true rfl) dX11_mark_86 ⟨Nat.zero_le _, Nat.zero_le _⟩) hP hD hS hA [0, 2] [1] [1, 0, 2] rfl rfl (by decide) (by decide) rfl (by decide) (fun H locs hP hD hS => ?_)
        have hP : va_P D vwCl [ob q_t 11 [.long z10, .ref q_t_text, .int v_t_typed, .ref q_t_told, .ref q_t_draft, .ref q_t_s, .ref q_t_images, .ref q_t_kept, .ref q_t_heard, .ref q_t_hours, .int v_t_noted, .int v_t_at, .int v_t_sort, .int v_t_start, .int v_t_value, .ref q_t_row, .ref q_t_best, .int v_t_bestMany, .int v_t_bestWorth, .int v_t_bestHour, .ref q_t_places, .ref q_t_pairs], ia C q_t_told 52 r_t_told, ia C q_t_s 254 r_t_s] H := hP
        have hD : va_D A [ob q_t 11 [.long z10, .ref q_t_text, .int v_t_typed, .ref q_t_told, .ref q_t_draft, .ref q_t_s, .ref q_t_images, .ref q_t_kept, .ref q_t_heard, .ref q_t_hours, .int v_t_noted, .int v_t_at, .int v_t_sort, .int v_t_start, .int v_t_value, .ref q_t_row, .ref q_t_best, .int v_t_bestMany, .int v_t_bestWorth, .int v_t_bestHour, .ref q_t_places, .ref q_t_pairs], ia C q_t_told 52 r_t_told, ia C q_t_s 254 r_t_s] := hD
        refine lv_istore_n (lv' := [(3, .int o11), (0, .ref q_t), (1, .int p1), (2, .int p2)]) hx hb dX11_mark_89 rfl hl (by decide) rfl (fun ls hl => ?_)
        refine lv_iload_n hx hb dX11_mark_90 rfl (lv_at hl 0 rfl) ?_
        refine lv_aload_n hx hb dX11_mark_91 rfl (lv_at hl 1 rfl) ?_
        refine va_get (D := D) (ci := 11) (v := .ref q_t_s) (C := RX11) (T := TX11) (N := 22) hx hb hts inX11 hown hK hP 0 rfl rfl 5 (by decide) (hts (.fieldLink RX11 19 "LentCourageModel" "s" "[I") (List.mem_of_getElem? (i := 8) rfl)) (fun _ h9 => h9) rfl dX11_mark_92 ?_
        refine lv_bipush (v := (16 : Int32)) hx hb dX11_mark_95 (by decide) ?_
        refine lv_iload_n hx hb dX11_mark_97 rfl (lv_at hl 3 rfl) ?_
        refine lv_iadd hx hb dX11_mark_98 ?_
        obtain ⟨h12, hf⟩ := of_chk hf
        refine va_iald hx hb hK hP 2 0 rfl rfl h12 dX11_mark_99 ?_
        refine lv_iadd hx hb dX11_mark_100 ?_
        refine lv_topi (fun z13 ez13 => ?_)
        have hf := of_lt hf ez13
        refine lv_istore (lv' := [(4, .int z13), (3, .int o11), (0, .ref q_t), (1, .int p1), (2, .int p2)]) hx hb dX11_mark_101 hl (by decide) rfl (fun ls hl => ?_)
        refine lv_iload_n hx hb dX11_mark_103 rfl (lv_at hl 1 rfl) ?_
        refine lv_aload_n hx hb dX11_mark_104 rfl (lv_at hl 2 rfl) ?_
        refine va_get (D := D) (ci := 11) (v := .ref q_t_s) (C := RX11) (T := TX11) (N := 22) hx hb hts inX11 hown hK hP 0 rfl rfl 5 (by decide) (hts (.fieldLink RX11 19 "LentCourageModel" "s" "[I") (List.mem_of_getElem? (i := 8) rfl)) (fun _ h9 => h9) rfl dX11_mark_105 ?_
        refine lv_iconst (v := (4 : Int32)) hx hb dX11_mark_108 (by decide) ?_
        refine lv_iload_n hx hb dX11_mark_109 rfl (lv_at hl 4 rfl) ?_
        refine lv_iadd hx hb dX11_mark_110 ?_
        obtain ⟨h14, hf⟩ := of_chk hf
        refine va_iald hx hb hK hP 2 0 rfl rfl h14 dX11_mark_111 ?_
        refine lv_isub hx hb dX11_mark_112 ?_
        refine lv_topi (fun z15 ez15 => ?_)
        have hf := of_lt hf ez15
        refine lv_istore (lv' := [(5, .int z15), (4, .int z13), (3, .int o11), (0, .ref q_t), (1, .int p1), (2, .int p2)]) hx hb dX11_mark_113 hl (by decide) rfl (fun ls hl => ?_)
        refine lv_iload_n hx hb dX11_mark_115 rfl (lv_at hl 4 rfl) ?_
        refine jp (g2 := F0 m 175 ls [.int (if p1 = 0 then o11 else (if p1 = (1 : Int32) then z13 else (if p1 = (2 : Int32) then z15 else (if p1 = (3 : Int32) then ((2 : Int32) * z13) else (if p1 = (4 : Int32) then (z15 + p2) else (o11 + (r_t_s 0)))))))]) ?_ (fun JP => ?_)
        · obtain rfl := Option.some.inj hf
          exact ret_I hx hb hr hlocks hK hP hD hS dX11_mark_175
        · refine lv_if_ne (tgt := 123) hx hb dX11_mark_116 (by decide) (fun c16 => ?_) (fun c16 => ?_)
          · refine lv_iload_n hx hb dX11_mark_123 rfl (lv_at hl 4 rfl) ?_
            refine lv_iconst (v := (1 : Int32)) hx hb dX11_mark_124 (by decide) ?_
            refine lv_icmp_ne (tgt := 133) hx hb dX11_mark_125 (by decide) (fun c17 => ?_) (fun c17 => ?_)
            · refine lv_iload_n hx hb dX11_mark_133 rfl (lv_at hl 4 rfl) ?_
              refine lv_iconst (v := (2 : Int32)) hx hb dX11_mark_134 (by decide) ?_
              refine lv_icmp_ne (tgt := 143) hx hb dX11_mark_135 (by decide) (fun c18 => ?_) (fun c18 => ?_)
              · refine lv_iload_n hx hb dX11_mark_143 rfl (lv_at hl 4 rfl) ?_
                refine lv_iconst (v := (3 : Int32)) hx hb dX11_mark_144 (by decide) ?_
                refine lv_icmp_ne (tgt := 155) hx hb dX11_mark_145 (by decide) (fun c19 => ?_) (fun c19 => ?_)
                · refine lv_iload_n hx hb dX11_mark_155 rfl (lv_at hl 4 rfl) ?_
                  refine lv_iconst (v := (4 : Int32)) hx hb dX11_mark_156 (by decide) ?_
                  refine lv_icmp_ne (tgt := 167) hx hb dX11_mark_157 (by decide) (fun c20 => ?_) (fun c20 => ?_)
                  · refine lv_iload_n hx hb dX11_mark_167 rfl (lv_at hl 2 rfl) ?_
                    refine lv_aload_n hx hb dX11_mark_168 rfl (lv_at hl 3 rfl) ?_
                    refine va_get (D := D) (ci := 11) (v := .ref q_t_s) (C := RX11) (T := TX11) (N := 22) hx hb hts inX11 hown hK hP 0 rfl rfl 5 (by decide) (hts (.fieldLink RX11 19 "LentCourageModel" "s" "[I") (List.mem_of_getElem? (i := 8) rfl)) (fun _ h9 => h9) rfl dX11_mark_169 ?_
                    refine lv_iconst (v := (0 : Int32)) hx hb dX11_mark_172 (by decide) ?_
                    refine ld_ialdK hx hb hK hP 2 0 rfl rfl (k := 0) (by decide) (by decide) (by decide) dX11_mark_173 ?_
                    refine lv_iadd hx hb dX11_mark_174 ?_
                    exact W.eq (congrArg (fun x => F0 m 175 ls (Value.int x :: [])) (((((if_neg c16).trans (if_neg c17)).trans (if_neg c18)).trans (if_neg c19)).trans (if_neg c20)).symm) JP
                  · refine lv_iload hx hb dX11_mark_160 (lv_at hl 0 rfl) ?_
                    refine lv_iload_n hx hb dX11_mark_162 rfl (lv_at hl 5 rfl) ?_
                    refine lv_iadd hx hb dX11_mark_163 ?_
                    refine lv_goto (tgt := 175) hx hb dX11_mark_164 (by decide) ?_
                    exact W.eq (congrArg (fun x => F0 m 175 ls (Value.int x :: [])) (((((if_neg c16).trans (if_neg c17)).trans (if_neg c18)).trans (if_neg c19)).trans (if_pos c20)).symm) JP
                · refine lv_iconst (v := (2 : Int32)) hx hb dX11_mark_148 (by decide) ?_
                  refine lv_iload hx hb dX11_mark_149 (lv_at hl 1 rfl) ?_
                  refine lv_imul hx hb dX11_mark_151 ?_
                  refine lv_goto (tgt := 175) hx hb dX11_mark_152 (by decide) ?_
                  exact W.eq (congrArg (fun x => F0 m 175 ls (Value.int x :: [])) ((((if_neg c16).trans (if_neg c17)).trans (if_neg c18)).trans (if_pos c19)).symm) JP
              · refine lv_iload hx hb dX11_mark_138 (lv_at hl 0 rfl) ?_
                refine lv_goto (tgt := 175) hx hb dX11_mark_140 (by decide) ?_
                exact W.eq (congrArg (fun x => F0 m 175 ls (Value.int x :: [])) (((if_neg c16).trans (if_neg c17)).trans (if_pos c18)).symm) JP
            · refine lv_iload hx hb dX11_mark_128 (lv_at hl 1 rfl) ?_
              refine lv_goto (tgt := 175) hx hb dX11_mark_130 (by decide) ?_
              exact W.eq (congrArg (fun x => F0 m 175 ls (Value.int x :: [])) ((if_neg c16).trans (if_pos c17)).symm) JP
          · refine lv_iload_n hx hb dX11_mark_119 rfl (lv_at hl 2 rfl) ?_
            refine lv_goto (tgt := 175) hx hb dX11_mark_120 (by decide) ?_
            exact W.eq (congrArg (fun x => F0 m 175 ls (Value.int x :: [])) (if_pos c16).symm) JP
      · refine lv_if_ne (tgt := 33) hx hb dX11_mark_26 (by decide) (fun c5 => ?_) (fun c5 => ?_)
        · refine lv_iload_n hx hb dX11_mark_33 rfl (lv_at hl 1 rfl) ?_
          refine lv_iconst (v := (1 : Int32)) hx hb dX11_mark_34 (by decide) ?_
          refine lv_icmp_ne (tgt := 44) hx hb dX11_mark_35 (by decide) (fun c6 => ?_) (fun c6 => ?_)
          · refine lv_iload_n hx hb dX11_mark_44 rfl (lv_at hl 1 rfl) ?_
            refine lv_iconst (v := (2 : Int32)) hx hb dX11_mark_45 (by decide) ?_
            refine lv_icmp_ne (tgt := 55) hx hb dX11_mark_46 (by decide) (fun c7 => ?_) (fun c7 => ?_)
            · refine lv_iload_n hx hb dX11_mark_55 rfl (lv_at hl 1 rfl) ?_
              refine lv_iconst (v := (3 : Int32)) hx hb dX11_mark_56 (by decide) ?_
              refine lv_icmp_ne (tgt := 66) hx hb dX11_mark_57 (by decide) (fun c8 => ?_) (fun c8 => ?_)
              · refine lv_iload_n hx hb dX11_mark_66 rfl (lv_at hl 1 rfl) ?_
                refine lv_iconst (v := (4 : Int32)) hx hb dX11_mark_67 (by decide) ?_
                refine lv_icmp_ne (tgt := 77) hx hb dX11_mark_68 (by decide) (fun c9 => ?_) (fun c9 => ?_)
                · refine lv_ldc2 hx hb hown (hts (.constantLong RX11 180 (100001)) (List.mem_of_getElem? (i := 7) rfl)) dX11_mark_77 ?_
                  exact W.eq (congrArg (fun x => F0 m 80 ls (Value.long x :: [.long v_t_trace, .ref q_t])) (((((if_neg c5).trans (if_neg c6)).trans (if_neg c7)).trans (if_neg c8)).trans (if_neg c9)).symm) JP
                · refine lv_ldc2 hx hb hown (hts (.constantLong RX11 178 (10101)) (List.mem_of_getElem? (i := 6) rfl)) dX11_mark_71 ?_
                  refine lv_goto (tgt := 80) hx hb dX11_mark_74 (by decide) ?_
                  exact W.eq (congrArg (fun x => F0 m 80 ls (Value.long x :: [.long v_t_trace, .ref q_t])) (((((if_neg c5).trans (if_neg c6)).trans (if_neg c7)).trans (if_neg c8)).trans (if_pos c9)).symm) JP
              · refine lv_ldc2 hx hb hown (hts (.constantLong RX11 176 (1011)) (List.mem_of_getElem? (i := 5) rfl)) dX11_mark_60 ?_
                refine lv_goto (tgt := 80) hx hb dX11_mark_63 (by decide) ?_
                exact W.eq (congrArg (fun x => F0 m 80 ls (Value.long x :: [.long v_t_trace, .ref q_t])) ((((if_neg c5).trans (if_neg c6)).trans (if_neg c7)).trans (if_pos c8)).symm) JP
            · refine lv_ldc2 hx hb hown (hts (.constantLong RX11 174 (101)) (List.mem_of_getElem? (i := 4) rfl)) dX11_mark_49 ?_
              refine lv_goto (tgt := 80) hx hb dX11_mark_52 (by decide) ?_
              exact W.eq (congrArg (fun x => F0 m 80 ls (Value.long x :: [.long v_t_trace, .ref q_t])) (((if_neg c5).trans (if_neg c6)).trans (if_pos c7)).symm) JP
          · refine lv_ldc2 hx hb hown (hts (.constantLong RX11 172 (11)) (List.mem_of_getElem? (i := 3) rfl)) dX11_mark_38 ?_
            refine lv_goto (tgt := 80) hx hb dX11_mark_41 (by decide) ?_
            exact W.eq (congrArg (fun x => F0 m 80 ls (Value.long x :: [.long v_t_trace, .ref q_t])) ((if_neg c5).trans (if_pos c6)).symm) JP
        · refine lv_lconst (v := (1 : Int64)) hx hb dX11_mark_29 (by decide) ?_
          refine lv_goto (tgt := 80) hx hb dX11_mark_30 (by decide) ?_
          exact W.eq (congrArg (fun x => F0 m 80 ls (Value.long x :: [.long v_t_trace, .ref q_t])) (if_pos c5).symm) JP
    · have hf := of_pos hf c4
      refine lv_ldc hx hb hown (hts (.constant RX11 167 (-1000000)) (List.mem_of_getElem? (i := 1) rfl)) dX11_mark_17 ?_
      obtain rfl := Option.some.inj hf
      exact ret_I hx hb hr hlocks hK hP hD hS dX11_mark_19

def fX11_keep_13 (w1_13 : Int32) (r_t_s_13 : Nat → Int32) : Nat → Int32 → (Nat → Int32) → Option (Int32 × (Nat → Int32))
  | 0, _, _ => none
  | n + 1, w2_13, r_t_images_13 => (if (254 : Int32) ≤ w2_13 then some (w2_13, r_t_images_13) else chk (vin w2_13 254) (lt_ (r_t_s_13 w2_13.toNatClampNeg) (fun z5 => chk (vin (((254 : Int32) * w1_13) + w2_13) 508) (lt_ (w2_13 + (1 : Int32)) (fun z7 => fX11_keep_13 w1_13 r_t_s_13 n z7 (upd r_t_images_13 (((254 : Int32) * w1_13) + w2_13).toNatClampNeg z5))))))
def fX11_keep (r_t_s : Nat → Int32) (r_t_images : Nat → Int32) (r_t_kept : Nat → Int32) (p1 : Int32) : Option (Int32 × (Nat → Int32) × (Nat → Int32)) :=
  (fX11_in p1 (0 : Int32) (1 : Int32)).bind (fun o1 => (if o1 = 0 then some ((-1 : Int32), r_t_images, r_t_kept) else (fX11_keep_13 p1 r_t_s FU (0 : Int32) r_t_images).bind (fun y8 => chk (vin p1 2) (some ((r_t_s 0), y8.2, (upd r_t_kept p1.toNatClampNeg (1 : Int32)))))))
theorem hd_X11_keep : yX11_keep.cls = RX11 ∧ yX11_keep.cls ≠ "java/lang/invoke/MethodHandle" ∧ yX11_keep.cls ≠ "java/lang/invoke/VarHandle" ∧ (parseMethodDescriptor yX11_keep.desc).map (fun d => d.parameters.length) = some 1 := by decide +kernel
set_option maxHeartbeats 4000000 in
set_option maxRecDepth 100000 in
theorem k_X11_keep (l : Launch) (D : va_G) (C : Nat → ClassId) (q_t : Nat) (q_t_text : Nat) (q_t_told : Nat) (q_t_draft : Nat) (q_t_s : Nat) (q_t_images : Nat) (q_t_kept : Nat) (q_t_heard : Nat) (q_t_hours : Nat) (q_t_row : Nat) (q_t_best : Nat) (q_t_places : Nat) (q_t_pairs : Nat) (v_t_trace : Int64) (v_t_typed : Int32) (v_t_noted : Int32) (v_t_at : Int32) (v_t_sort : Int32) (v_t_start : Int32) (v_t_value : Int32) (v_t_bestMany : Int32) (v_t_bestWorth : Int32) (v_t_bestHour : Int32) (r_t_s : Nat → Int32) (r_t_images : Nat → Int32) (r_t_kept : Nat → Int32) (p1 : Int32) (sz : Nat) (out : Int32 × (Nat → Int32) × (Nat → Int32)) (hf : fX11_keep r_t_s r_t_images r_t_kept p1 = some out) : MI l yX11_keep wsX11_keep ({ frames := 1, cells := 0, slots := 0, locals := 22 }) D C [.ref q_t, .int p1] [ob q_t 11 [.long v_t_trace, .ref q_t_text, .int v_t_typed, .ref q_t_told, .ref q_t_draft, .ref q_t_s, .ref q_t_images, .ref q_t_kept, .ref q_t_heard, .ref q_t_hours, .int v_t_noted, .int v_t_at, .int v_t_sort, .int v_t_start, .int v_t_value, .ref q_t_row, .ref q_t_best, .int v_t_bestMany, .int v_t_bestWorth, .int v_t_bestHour, .ref q_t_places, .ref q_t_pairs], ia C q_t_s 254 r_t_s, ia C q_t_images 508 r_t_images, za C q_t_kept 2 r_t_kept] [ob q_t 11 [.long v_t_trace, .ref q_t_text, .int v_t_typed, .ref q_t_told, .ref q_t_draft, .ref q_t_s, .ref q_t_images, .ref q_t_kept, .ref q_t_heard, .ref q_t_hours, .int v_t_noted, .int v_t_at, .int v_t_sort, .int v_t_start, .int v_t_value, .ref q_t_row, .ref q_t_best, .int v_t_bestMany, .int v_t_bestWorth, .int v_t_bestHour, .ref q_t_places, .ref q_t_pairs], ia C q_t_s 254 r_t_s, ia C q_t_images 508 out.2.1, za C q_t_kept 2 out.2.2] sz (out.1) := by
  unfold fX11_keep at hf
  refine en_I (by decide) rfl (Nat.le_of_ble_eq_true rfl) ?_
  intro p e s m below meth c A ls H locs hx hb hr hlocks hml hts hown hK hP hD hS hA hl
  have hl : lv_has ls 3 [(0, .ref q_t), (1, .int p1)] := hl
  have inX11 : ∀ w ∈ u_ws RX11 TX11 22, w ∈ wsX11_keep := fun w h => List.mem_cons_of_mem _ (List.mem_append_right _ h)
  have LP13 : ∀ (Q : State → Prop) (n : Nat) (w2_13 : Int32) (w1_13 : Int32) (v_t_trace_13 : Int64) (v_t_typed_13 : Int32) (v_t_noted_13 : Int32) (v_t_at_13 : Int32) (v_t_sort_13 : Int32) (v_t_start_13 : Int32) (v_t_value_13 : Int32) (v_t_bestMany_13 : Int32) (v_t_bestWorth_13 : Int32) (v_t_bestHour_13 : Int32) (r_t_s_13 : Nat → Int32) (r_t_images_13 : Nat → Int32) (r_t_kept_13 : Nat → Int32) (y_13 : Int32 × (Nat → Int32)), fX11_keep_13 w1_13 r_t_s_13 n w2_13 r_t_images_13 = some y_13 → ∀ (H : Heap) (locs : List Loc) (ls : Array Slot), va_P D vwCl [ob q_t 11 [.long v_t_trace_13, .ref q_t_text, .int v_t_typed_13, .ref q_t_told, .ref q_t_draft, .ref q_t_s, .ref q_t_images, .ref q_t_kept, .ref q_t_heard, .ref q_t_hours, .int v_t_noted_13, .int v_t_at_13, .int v_t_sort_13, .int v_t_start_13, .int v_t_value_13, .ref q_t_row, .ref q_t_best, .int v_t_bestMany_13, .int v_t_bestWorth_13, .int v_t_bestHour_13, .ref q_t_places, .ref q_t_pairs], ia C q_t_s 254 r_t_s_13, ia C q_t_images 508 r_t_images_13, za C q_t_kept 2 r_t_kept_13] H → va_D A [ob q_t 11 [.long v_t_trace_13, .ref q_t_text, .int v_t_typed_13, .ref q_t_told, .ref q_t_draft, .ref q_t_s, .ref q_t_images, .ref q_t_kept, .ref q_t_heard, .ref q_t_hours, .int v_t_noted_13, .int v_t_at_13, .int v_t_sort_13, .int v_t_start_13, .int v_t_value_13, .ref q_t_row, .ref q_t_best, .int v_t_bestMany_13, .int v_t_bestWorth_13, .int v_t_bestHour_13, .ref q_t_places, .ref q_t_pairs], ia C q_t_s 254 r_t_s_13, ia C q_t_images 508 r_t_images_13, za C q_t_kept 2 r_t_kept_13] → va_S A s.heap H locs → lv_has ls 3 [(2, .int w2_13), (0, .ref q_t), (1, .int w1_13)] → (∀ (H : Heap) (locs : List Loc) (ls : Array Slot), va_P D vwCl [ob q_t 11 [.long v_t_trace_13, .ref q_t_text, .int v_t_typed_13, .ref q_t_told, .ref q_t_draft, .ref q_t_s, .ref q_t_images, .ref q_t_kept, .ref q_t_heard, .ref q_t_hours, .int v_t_noted_13, .int v_t_at_13, .int v_t_sort_13, .int v_t_start_13, .int v_t_value_13, .ref q_t_row, .ref q_t_best, .int v_t_bestMany_13, .int v_t_bestWorth_13, .int v_t_bestHour_13, .ref q_t_places, .ref q_t_pairs], ia C q_t_s 254 r_t_s_13, ia C q_t_images 508 y_13.2, za C q_t_kept 2 r_t_kept_13] H → va_D A [ob q_t 11 [.long v_t_trace_13, .ref q_t_text, .int v_t_typed_13, .ref q_t_told, .ref q_t_draft, .ref q_t_s, .ref q_t_images, .ref q_t_kept, .ref q_t_heard, .ref q_t_hours, .int v_t_noted_13, .int v_t_at_13, .int v_t_sort_13, .int v_t_start_13, .int v_t_value_13, .ref q_t_row, .ref q_t_best, .int v_t_bestMany_13, .int v_t_bestWorth_13, .int v_t_bestHour_13, .ref q_t_places, .ref q_t_pairs], ia C q_t_s 254 r_t_s_13, ia C q_t_images 508 y_13.2, za C q_t_kept 2 r_t_kept_13] → va_S A s.heap H locs → lv_has ls 3 [(2, .int y_13.1), (0, .ref q_t), (1, .int w1_13)] → W p l e ({ frames := 1, cells := 0, slots := 0, locals := 22 } : Room) s m ([.ref q_t, .int p1] : List Value).toArray below meth c H locs 0 0 Q (F0 m 44 ls [])) → W p l e ({ frames := 1, cells := 0, slots := 0, locals := 22 } : Room) s m ([.ref q_t, .int p1] : List Value).toArray below meth c H locs 0 0 Q (F0 m 13 ls []) := by
    intro Q n
    induction n with
    | zero =>
      intro w2_13 w1_13 v_t_trace_13 v_t_typed_13 v_t_noted_13 v_t_at_13 v_t_sort_13 v_t_start_13 v_t_value_13 v_t_bestMany_13 v_t_bestWorth_13 v_t_bestHour_13 r_t_s_13 r_t_images_13 r_t_kept_13 y_13 hf
      rw [fX11_keep_13] at hf
      cases hf
    | succ n ih =>
      intro w2_13 w1_13 v_t_trace_13 v_t_typed_13 v_t_noted_13 v_t_at_13 v_t_sort_13 v_t_start_13 v_t_value_13 v_t_bestMany_13 v_t_bestWorth_13 v_t_bestHour_13 r_t_s_13 r_t_images_13 r_t_kept_13 y_13 hf H locs ls hP hD hS hl KX0
      rw [fX11_keep_13] at hf
      refine lv_iload_n hx hb dX11_keep_13 rfl (lv_at hl 0 rfl) ?_
      refine lv_sipush (v := (254 : Int32)) hx hb dX11_keep_14 (by decide) ?_
      refine lv_icmp_ge (tgt := 44) hx hb dX11_keep_17 (by decide) (fun c3 => ?_) (fun c3 => ?_)
      · have hf := of_pos hf c3
        obtain rfl := Option.some.inj hf
        exact KX0 _ _ _ hP hD hS (lv_sub hl [0, 1, 2] rfl)
      · have hf := of_neg hf c3
        refine lv_aload_n hx hb dX11_keep_20 rfl (lv_at hl 1 rfl) ?_
        refine va_get (D := D) (ci := 11) (v := .ref q_t_images) (C := RX11) (T := TX11) (N := 22) hx hb hts inX11 hown hK hP 0 rfl rfl 6 (by decide) (hts (.fieldLink RX11 22 "LentCourageModel" "images" "[I") (List.mem_of_getElem? (i := 1) rfl)) (fun _ h9 => h9) rfl dX11_keep_21 ?_
        refine lv_sipush (v := (254 : Int32)) hx hb dX11_keep_24 (by decide) ?_
        refine lv_iload_n hx hb dX11_keep_27 rfl (lv_at hl 2 rfl) ?_
        refine lv_imul hx hb dX11_keep_28 ?_
        refine lv_iload_n hx hb dX11_keep_29 rfl (lv_at hl 0 rfl) ?_
        refine lv_iadd hx hb dX11_keep_30 ?_
        refine lv_aload_n hx hb dX11_keep_31 rfl (lv_at hl 1 rfl) ?_
        refine va_get (D := D) (ci := 11) (v := .ref q_t_s) (C := RX11) (T := TX11) (N := 22) hx hb hts inX11 hown hK hP 0 rfl rfl 5 (by decide) (hts (.fieldLink RX11 19 "LentCourageModel" "s" "[I") (List.mem_of_getElem? (i := 2) rfl)) (fun _ h9 => h9) rfl dX11_keep_32 ?_
        refine lv_iload_n hx hb dX11_keep_35 rfl (lv_at hl 0 rfl) ?_
        obtain ⟨h4, hf⟩ := of_chk hf
        refine va_iald hx hb hK hP 1 0 rfl rfl h4 dX11_keep_36 ?_
        refine lv_topi (fun z5 ez5 => ?_)
        have hf := of_lt hf ez5
        obtain ⟨h6, hf⟩ := of_chk hf
        refine va_iast hx hb hK hP hD hS 2 0 rfl rfl h6 dX11_keep_37 (fun H locs hP hD hS => ?_)
        have hP : va_P D vwCl [ob q_t 11 [.long v_t_trace_13, .ref q_t_text, .int v_t_typed_13, .ref q_t_told, .ref q_t_draft, .ref q_t_s, .ref q_t_images, .ref q_t_kept, .ref q_t_heard, .ref q_t_hours, .int v_t_noted_13, .int v_t_at_13, .int v_t_sort_13, .int v_t_start_13, .int v_t_value_13, .ref q_t_row, .ref q_t_best, .int v_t_bestMany_13, .int v_t_bestWorth_13, .int v_t_bestHour_13, .ref q_t_places, .ref q_t_pairs], ia C q_t_s 254 r_t_s_13, ia C q_t_images 508 (upd r_t_images_13 (((254 : Int32) * w1_13) + w2_13).toNatClampNeg z5), za C q_t_kept 2 r_t_kept_13] H := hP
        have hD : va_D A [ob q_t 11 [.long v_t_trace_13, .ref q_t_text, .int v_t_typed_13, .ref q_t_told, .ref q_t_draft, .ref q_t_s, .ref q_t_images, .ref q_t_kept, .ref q_t_heard, .ref q_t_hours, .int v_t_noted_13, .int v_t_at_13, .int v_t_sort_13, .int v_t_start_13, .int v_t_value_13, .ref q_t_row, .ref q_t_best, .int v_t_bestMany_13, .int v_t_bestWorth_13, .int v_t_bestHour_13, .ref q_t_places, .ref q_t_pairs], ia C q_t_s 254 r_t_s_13, ia C q_t_images 508 (upd r_t_images_13 (((254 : Int32) * w1_13) + w2_13).toNatClampNeg z5), za C q_t_kept 2 r_t_kept_13] := hD
        obtain ⟨z7, ez7⟩ : ∃ y : Int32, y = (w2_13 + (1 : Int32)) := ⟨_, rfl⟩
        have hf := of_lt hf ez7
        refine lv_iinc (v := z7) (lv' := [(2, .int z7), (0, .ref q_t), (1, .int w1_13)]) hx hb dX11_keep_38 hl (k := 0) rfl (by rw [ez7]; rfl) (by decide) rfl (fun ls hl => ?_)
        refine lv_goto (tgt := 13) hx hb dX11_keep_41 (by decide) ?_
        exact ih _ _ _ _ _ _ _ _ _ _ _ _ _ _ _ _ hf H locs ls hP hD hS (lv_sub hl [0, 1, 2] rfl) KX0
  refine lv_iload_n hx hb dX11_keep_0 rfl (lv_at hl 1 rfl) ?_
  refine lv_iconst (v := (0 : Int32)) hx hb dX11_keep_1 (by decide) ?_
  refine lv_iconst (v := (1 : Int32)) hx hb dX11_keep_2 (by decide) ?_
  obtain ⟨o1, ho1, hf⟩ := of_bind hf
  refine c_I (wr := [ob q_t 11 [.long v_t_trace, .ref q_t_text, .int v_t_typed, .ref q_t_told, .ref q_t_draft, .ref q_t_s, .ref q_t_images, .ref q_t_kept, .ref q_t_heard, .ref q_t_hours, .int v_t_noted, .int v_t_at, .int v_t_sort, .int v_t_start, .int v_t_value, .ref q_t_row, .ref q_t_best, .int v_t_bestMany, .int v_t_bestWorth, .int v_t_bestHour, .ref q_t_places, .ref q_t_pairs], ia C q_t_s 254 r_t_s, ia C q_t_images 508 r_t_images, za C q_t_kept 2 r_t_kept]) (W2 := [ob q_t 11 [.long v_t_trace, .ref q_t_text, .int v_t_typed, .ref q_t_told, .ref q_t_draft, .ref q_t_s, .ref q_t_images, .ref q_t_kept, .ref q_t_heard, .ref q_t_hours, .int v_t_noted, .int v_t_at, .int v_t_sort, .int v_t_start, .int v_t_value, .ref q_t_row, .ref q_t_best, .int v_t_bestMany, .int v_t_bestWorth, .int v_t_bestHour, .ref q_t_places, .ref q_t_pairs], ia C q_t_s 254 r_t_s, ia C q_t_images 508 r_t_images, za C q_t_kept 2 r_t_kept]) (cS_run ⟨hx, hb, hml, hown, hts⟩ (k_X11_in l D C p1 (0 : Int32) (1 : Int32) H.size o1 ho1) gX11_keep_X11_in rfl ⟨rfl, rfl⟩ hd_X11_in ⟨(Nat.le_of_ble_eq_true rfl), (Nat.le_of_ble_eq_true rfl)⟩ rfl hK (cut_in hK hP hD [] rfl (by decide)) hl.1 rfl (Nat.le_of_ble_eq_true rfl) dX11_keep_3 ⟨Nat.zero_le _, Nat.zero_le _⟩) hP hD hS hA [] [0, 1, 2, 3] [0, 1, 2, 3] rfl rfl (by decide) (by decide) rfl (by decide) (fun H locs hP hD hS => ?_)
  have hP : va_P D vwCl [ob q_t 11 [.long v_t_trace, .ref q_t_text, .int v_t_typed, .ref q_t_told, .ref q_t_draft, .ref q_t_s, .ref q_t_images, .ref q_t_kept, .ref q_t_heard, .ref q_t_hours, .int v_t_noted, .int v_t_at, .int v_t_sort, .int v_t_start, .int v_t_value, .ref q_t_row, .ref q_t_best, .int v_t_bestMany, .int v_t_bestWorth, .int v_t_bestHour, .ref q_t_places, .ref q_t_pairs], ia C q_t_s 254 r_t_s, ia C q_t_images 508 r_t_images, za C q_t_kept 2 r_t_kept] H := hP
  have hD : va_D A [ob q_t 11 [.long v_t_trace, .ref q_t_text, .int v_t_typed, .ref q_t_told, .ref q_t_draft, .ref q_t_s, .ref q_t_images, .ref q_t_kept, .ref q_t_heard, .ref q_t_hours, .int v_t_noted, .int v_t_at, .int v_t_sort, .int v_t_start, .int v_t_value, .ref q_t_row, .ref q_t_best, .int v_t_bestMany, .int v_t_bestWorth, .int v_t_bestHour, .ref q_t_places, .ref q_t_pairs], ia C q_t_s 254 r_t_s, ia C q_t_images 508 r_t_images, za C q_t_kept 2 r_t_kept] := hD
  refine lv_if_ne (tgt := 11) hx hb dX11_keep_6 (by decide) (fun c2 => ?_) (fun c2 => ?_)
  · have hf := of_neg hf c2
    refine lv_iconst (v := (0 : Int32)) hx hb dX11_keep_11 (by decide) ?_
    refine lv_istore_n (lv' := [(2, .int (0 : Int32)), (0, .ref q_t), (1, .int p1)]) hx hb dX11_keep_12 rfl hl (by decide) rfl (fun ls hl => ?_)
    obtain ⟨y8, hy8, hf⟩ := of_bind hf
    refine LP13 _ FU _ _ _ _ _ _ _ _ _ _ _ _ _ _ _ y8 hy8 H locs ls hP hD hS (lv_sub hl [0, 1, 2] rfl) (fun H locs ls hP hD hS hl => ?_)
    refine lv_aload_n hx hb dX11_keep_44 rfl (lv_at hl 1 rfl) ?_
    refine va_get (D := D) (ci := 11) (v := .ref q_t_kept) (C := RX11) (T := TX11) (N := 22) hx hb hts inX11 hown hK hP 0 rfl rfl 7 (by decide) (hts (.fieldLink RX11 25 "LentCourageModel" "kept" "[Z") (List.mem_of_getElem? (i := 3) rfl)) (fun _ h9 => h9) rfl dX11_keep_45 ?_
    refine lv_iload_n hx hb dX11_keep_48 rfl (lv_at hl 2 rfl) ?_
    refine lv_iconst (v := (1 : Int32)) hx hb dX11_keep_49 (by decide) ?_
    obtain ⟨h9, hf⟩ := of_chk hf
    refine st_Z hx hb hK hP hD hS 3 1 rfl rfl h9 okZ_1 dX11_keep_50 (fun H locs hP hD hS => ?_)
    have hP : va_P D vwCl [ob q_t 11 [.long v_t_trace, .ref q_t_text, .int v_t_typed, .ref q_t_told, .ref q_t_draft, .ref q_t_s, .ref q_t_images, .ref q_t_kept, .ref q_t_heard, .ref q_t_hours, .int v_t_noted, .int v_t_at, .int v_t_sort, .int v_t_start, .int v_t_value, .ref q_t_row, .ref q_t_best, .int v_t_bestMany, .int v_t_bestWorth, .int v_t_bestHour, .ref q_t_places, .ref q_t_pairs], ia C q_t_s 254 r_t_s, ia C q_t_images 508 y8.2, za C q_t_kept 2 (upd r_t_kept p1.toNatClampNeg (1 : Int32))] H := hP
    have hD : va_D A [ob q_t 11 [.long v_t_trace, .ref q_t_text, .int v_t_typed, .ref q_t_told, .ref q_t_draft, .ref q_t_s, .ref q_t_images, .ref q_t_kept, .ref q_t_heard, .ref q_t_hours, .int v_t_noted, .int v_t_at, .int v_t_sort, .int v_t_start, .int v_t_value, .ref q_t_row, .ref q_t_best, .int v_t_bestMany, .int v_t_bestWorth, .int v_t_bestHour, .ref q_t_places, .ref q_t_pairs], ia C q_t_s 254 r_t_s, ia C q_t_images 508 y8.2, za C q_t_kept 2 (upd r_t_kept p1.toNatClampNeg (1 : Int32))] := hD
    refine lv_aload_n hx hb dX11_keep_51 rfl (lv_at hl 1 rfl) ?_
    refine va_get (D := D) (ci := 11) (v := .ref q_t_s) (C := RX11) (T := TX11) (N := 22) hx hb hts inX11 hown hK hP 0 rfl rfl 5 (by decide) (hts (.fieldLink RX11 19 "LentCourageModel" "s" "[I") (List.mem_of_getElem? (i := 2) rfl)) (fun _ h9 => h9) rfl dX11_keep_52 ?_
    refine lv_iconst (v := (0 : Int32)) hx hb dX11_keep_55 (by decide) ?_
    refine ld_ialdK hx hb hK hP 1 0 rfl rfl (k := 0) (by decide) (by decide) (by decide) dX11_keep_56 ?_
    obtain rfl := Option.some.inj hf
    exact ret_I hx hb hr hlocks hK hP hD hS dX11_keep_57
  · have hf := of_pos hf c2
    refine lv_iconst (v := (-1 : Int32)) hx hb dX11_keep_9 (by decide) ?_
    obtain rfl := Option.some.inj hf
    exact ret_I hx hb hr hlocks hK hP hD hS dX11_keep_10

def fX11_back_25 (w1_25 : Int32) (r_t_images_25 : Nat → Int32) : Nat → Int32 → (Nat → Int32) → Option (Int32 × (Nat → Int32))
  | 0, _, _ => none
  | n + 1, w2_25, r_t_s_25 => (if (254 : Int32) ≤ w2_25 then some (w2_25, r_t_s_25) else chk (vin (((254 : Int32) * w1_25) + w2_25) 508) (lt_ (r_t_images_25 (((254 : Int32) * w1_25) + w2_25).toNatClampNeg) (fun z7 => chk (vin w2_25 254) (lt_ (w2_25 + (1 : Int32)) (fun z9 => fX11_back_25 w1_25 r_t_images_25 n z9 (upd r_t_s_25 w2_25.toNatClampNeg z7))))))
def fX11_back (r_t_s : Nat → Int32) (r_t_images : Nat → Int32) (r_t_kept : Nat → Int32) (p1 : Int32) : Option (Int32 × (Nat → Int32)) :=
  (fX11_in p1 (0 : Int32) (1 : Int32)).bind (fun o1 => (if o1 = 0 then some ((-1 : Int32), r_t_s) else chk (vin p1 2) ((if (r_t_kept p1.toNatClampNeg) = 0 then some ((-2 : Int32), r_t_s) else (fX11_back_25 p1 r_t_images FU (0 : Int32) r_t_s).bind (fun y10 => some ((y10.2 0), y10.2))))))
theorem hd_X11_back : yX11_back.cls = RX11 ∧ yX11_back.cls ≠ "java/lang/invoke/MethodHandle" ∧ yX11_back.cls ≠ "java/lang/invoke/VarHandle" ∧ (parseMethodDescriptor yX11_back.desc).map (fun d => d.parameters.length) = some 1 := by decide +kernel
set_option maxHeartbeats 4000000 in
set_option maxRecDepth 100000 in
theorem k_X11_back (l : Launch) (D : va_G) (C : Nat → ClassId) (q_t : Nat) (q_t_text : Nat) (q_t_told : Nat) (q_t_draft : Nat) (q_t_s : Nat) (q_t_images : Nat) (q_t_kept : Nat) (q_t_heard : Nat) (q_t_hours : Nat) (q_t_row : Nat) (q_t_best : Nat) (q_t_places : Nat) (q_t_pairs : Nat) (v_t_trace : Int64) (v_t_typed : Int32) (v_t_noted : Int32) (v_t_at : Int32) (v_t_sort : Int32) (v_t_start : Int32) (v_t_value : Int32) (v_t_bestMany : Int32) (v_t_bestWorth : Int32) (v_t_bestHour : Int32) (r_t_s : Nat → Int32) (r_t_images : Nat → Int32) (r_t_kept : Nat → Int32) (p1 : Int32) (sz : Nat) (out : Int32 × (Nat → Int32)) (hf : fX11_back r_t_s r_t_images r_t_kept p1 = some out) : MI l yX11_back wsX11_back ({ frames := 1, cells := 0, slots := 0, locals := 22 }) D C [.ref q_t, .int p1] [ob q_t 11 [.long v_t_trace, .ref q_t_text, .int v_t_typed, .ref q_t_told, .ref q_t_draft, .ref q_t_s, .ref q_t_images, .ref q_t_kept, .ref q_t_heard, .ref q_t_hours, .int v_t_noted, .int v_t_at, .int v_t_sort, .int v_t_start, .int v_t_value, .ref q_t_row, .ref q_t_best, .int v_t_bestMany, .int v_t_bestWorth, .int v_t_bestHour, .ref q_t_places, .ref q_t_pairs], ia C q_t_s 254 r_t_s, ia C q_t_images 508 r_t_images, za C q_t_kept 2 r_t_kept] [ob q_t 11 [.long v_t_trace, .ref q_t_text, .int v_t_typed, .ref q_t_told, .ref q_t_draft, .ref q_t_s, .ref q_t_images, .ref q_t_kept, .ref q_t_heard, .ref q_t_hours, .int v_t_noted, .int v_t_at, .int v_t_sort, .int v_t_start, .int v_t_value, .ref q_t_row, .ref q_t_best, .int v_t_bestMany, .int v_t_bestWorth, .int v_t_bestHour, .ref q_t_places, .ref q_t_pairs], ia C q_t_s 254 out.2, ia C q_t_images 508 r_t_images, za C q_t_kept 2 r_t_kept] sz (out.1) := by
  unfold fX11_back at hf
  refine en_I (by decide) rfl (Nat.le_of_ble_eq_true rfl) ?_
  intro p e s m below meth c A ls H locs hx hb hr hlocks hml hts hown hK hP hD hS hA hl
  have hl : lv_has ls 3 [(0, .ref q_t), (1, .int p1)] := hl
  have inX11 : ∀ w ∈ u_ws RX11 TX11 22, w ∈ wsX11_back := fun w h => List.mem_cons_of_mem _ (List.mem_append_right _ h)
  have LP25 : ∀ (Q : State → Prop) (n : Nat) (w2_25 : Int32) (w1_25 : Int32) (v_t_trace_25 : Int64) (v_t_typed_25 : Int32) (v_t_noted_25 : Int32) (v_t_at_25 : Int32) (v_t_sort_25 : Int32) (v_t_start_25 : Int32) (v_t_value_25 : Int32) (v_t_bestMany_25 : Int32) (v_t_bestWorth_25 : Int32) (v_t_bestHour_25 : Int32) (r_t_s_25 : Nat → Int32) (r_t_images_25 : Nat → Int32) (r_t_kept_25 : Nat → Int32) (y_25 : Int32 × (Nat → Int32)), fX11_back_25 w1_25 r_t_images_25 n w2_25 r_t_s_25 = some y_25 → ∀ (H : Heap) (locs : List Loc) (ls : Array Slot), va_P D vwCl [ob q_t 11 [.long v_t_trace_25, .ref q_t_text, .int v_t_typed_25, .ref q_t_told, .ref q_t_draft, .ref q_t_s, .ref q_t_images, .ref q_t_kept, .ref q_t_heard, .ref q_t_hours, .int v_t_noted_25, .int v_t_at_25, .int v_t_sort_25, .int v_t_start_25, .int v_t_value_25, .ref q_t_row, .ref q_t_best, .int v_t_bestMany_25, .int v_t_bestWorth_25, .int v_t_bestHour_25, .ref q_t_places, .ref q_t_pairs], ia C q_t_s 254 r_t_s_25, ia C q_t_images 508 r_t_images_25, za C q_t_kept 2 r_t_kept_25] H → va_D A [ob q_t 11 [.long v_t_trace_25, .ref q_t_text, .int v_t_typed_25, .ref q_t_told, .ref q_t_draft, .ref q_t_s, .ref q_t_images, .ref q_t_kept, .ref q_t_heard, .ref q_t_hours, .int v_t_noted_25, .int v_t_at_25, .int v_t_sort_25, .int v_t_start_25, .int v_t_value_25, .ref q_t_row, .ref q_t_best, .int v_t_bestMany_25, .int v_t_bestWorth_25, .int v_t_bestHour_25, .ref q_t_places, .ref q_t_pairs], ia C q_t_s 254 r_t_s_25, ia C q_t_images 508 r_t_images_25, za C q_t_kept 2 r_t_kept_25] → va_S A s.heap H locs → lv_has ls 3 [(2, .int w2_25), (0, .ref q_t), (1, .int w1_25)] → (∀ (H : Heap) (locs : List Loc) (ls : Array Slot), va_P D vwCl [ob q_t 11 [.long v_t_trace_25, .ref q_t_text, .int v_t_typed_25, .ref q_t_told, .ref q_t_draft, .ref q_t_s, .ref q_t_images, .ref q_t_kept, .ref q_t_heard, .ref q_t_hours, .int v_t_noted_25, .int v_t_at_25, .int v_t_sort_25, .int v_t_start_25, .int v_t_value_25, .ref q_t_row, .ref q_t_best, .int v_t_bestMany_25, .int v_t_bestWorth_25, .int v_t_bestHour_25, .ref q_t_places, .ref q_t_pairs], ia C q_t_s 254 y_25.2, ia C q_t_images 508 r_t_images_25, za C q_t_kept 2 r_t_kept_25] H → va_D A [ob q_t 11 [.long v_t_trace_25, .ref q_t_text, .int v_t_typed_25, .ref q_t_told, .ref q_t_draft, .ref q_t_s, .ref q_t_images, .ref q_t_kept, .ref q_t_heard, .ref q_t_hours, .int v_t_noted_25, .int v_t_at_25, .int v_t_sort_25, .int v_t_start_25, .int v_t_value_25, .ref q_t_row, .ref q_t_best, .int v_t_bestMany_25, .int v_t_bestWorth_25, .int v_t_bestHour_25, .ref q_t_places, .ref q_t_pairs], ia C q_t_s 254 y_25.2, ia C q_t_images 508 r_t_images_25, za C q_t_kept 2 r_t_kept_25] → va_S A s.heap H locs → lv_has ls 3 [(2, .int y_25.1), (0, .ref q_t), (1, .int w1_25)] → W p l e ({ frames := 1, cells := 0, slots := 0, locals := 22 } : Room) s m ([.ref q_t, .int p1] : List Value).toArray below meth c H locs 0 0 Q (F0 m 56 ls [])) → W p l e ({ frames := 1, cells := 0, slots := 0, locals := 22 } : Room) s m ([.ref q_t, .int p1] : List Value).toArray below meth c H locs 0 0 Q (F0 m 25 ls []) := by
    intro Q n
    induction n with
    | zero =>
      intro w2_25 w1_25 v_t_trace_25 v_t_typed_25 v_t_noted_25 v_t_at_25 v_t_sort_25 v_t_start_25 v_t_value_25 v_t_bestMany_25 v_t_bestWorth_25 v_t_bestHour_25 r_t_s_25 r_t_images_25 r_t_kept_25 y_25 hf
      rw [fX11_back_25] at hf
      cases hf
    | succ n ih =>
      intro w2_25 w1_25 v_t_trace_25 v_t_typed_25 v_t_noted_25 v_t_at_25 v_t_sort_25 v_t_start_25 v_t_value_25 v_t_bestMany_25 v_t_bestWorth_25 v_t_bestHour_25 r_t_s_25 r_t_images_25 r_t_kept_25 y_25 hf H locs ls hP hD hS hl KX0
      rw [fX11_back_25] at hf
      refine lv_iload_n hx hb dX11_back_25 rfl (lv_at hl 0 rfl) ?_
      refine lv_sipush (v := (254 : Int32)) hx hb dX11_back_26 (by decide) ?_
      refine lv_icmp_ge (tgt := 56) hx hb dX11_back_29 (by decide) (fun c5 => ?_) (fun c5 => ?_)
      · have hf := of_pos hf c5
        obtain rfl := Option.some.inj hf
        exact KX0 _ _ _ hP hD hS (lv_sub hl [0, 1, 2] rfl)
      · have hf := of_neg hf c5
        refine lv_aload_n hx hb dX11_back_32 rfl (lv_at hl 1 rfl) ?_
        refine va_get (D := D) (ci := 11) (v := .ref q_t_s) (C := RX11) (T := TX11) (N := 22) hx hb hts inX11 hown hK hP 0 rfl rfl 5 (by decide) (hts (.fieldLink RX11 19 "LentCourageModel" "s" "[I") (List.mem_of_getElem? (i := 2) rfl)) (fun _ h9 => h9) rfl dX11_back_33 ?_
        refine lv_iload_n hx hb dX11_back_36 rfl (lv_at hl 0 rfl) ?_
        refine lv_aload_n hx hb dX11_back_37 rfl (lv_at hl 1 rfl) ?_
        refine va_get (D := D) (ci := 11) (v := .ref q_t_images) (C := RX11) (T := TX11) (N := 22) hx hb hts inX11 hown hK hP 0 rfl rfl 6 (by decide) (hts (.fieldLink RX11 22 "LentCourageModel" "images" "[I") (List.mem_of_getElem? (i := 3) rfl)) (fun _ h9 => h9) rfl dX11_back_38 ?_
        refine lv_sipush (v := (254 : Int32)) hx hb dX11_back_41 (by decide) ?_
        refine lv_iload_n hx hb dX11_back_44 rfl (lv_at hl 2 rfl) ?_
        refine lv_imul hx hb dX11_back_45 ?_
        refine lv_iload_n hx hb dX11_back_46 rfl (lv_at hl 0 rfl) ?_
        refine lv_iadd hx hb dX11_back_47 ?_
        obtain ⟨h6, hf⟩ := of_chk hf
        refine va_iald hx hb hK hP 2 0 rfl rfl h6 dX11_back_48 ?_
        refine lv_topi (fun z7 ez7 => ?_)
        have hf := of_lt hf ez7
        obtain ⟨h8, hf⟩ := of_chk hf
        refine va_iast hx hb hK hP hD hS 1 0 rfl rfl h8 dX11_back_49 (fun H locs hP hD hS => ?_)
        have hP : va_P D vwCl [ob q_t 11 [.long v_t_trace_25, .ref q_t_text, .int v_t_typed_25, .ref q_t_told, .ref q_t_draft, .ref q_t_s, .ref q_t_images, .ref q_t_kept, .ref q_t_heard, .ref q_t_hours, .int v_t_noted_25, .int v_t_at_25, .int v_t_sort_25, .int v_t_start_25, .int v_t_value_25, .ref q_t_row, .ref q_t_best, .int v_t_bestMany_25, .int v_t_bestWorth_25, .int v_t_bestHour_25, .ref q_t_places, .ref q_t_pairs], ia C q_t_s 254 (upd r_t_s_25 w2_25.toNatClampNeg z7), ia C q_t_images 508 r_t_images_25, za C q_t_kept 2 r_t_kept_25] H := hP
        have hD : va_D A [ob q_t 11 [.long v_t_trace_25, .ref q_t_text, .int v_t_typed_25, .ref q_t_told, .ref q_t_draft, .ref q_t_s, .ref q_t_images, .ref q_t_kept, .ref q_t_heard, .ref q_t_hours, .int v_t_noted_25, .int v_t_at_25, .int v_t_sort_25, .int v_t_start_25, .int v_t_value_25, .ref q_t_row, .ref q_t_best, .int v_t_bestMany_25, .int v_t_bestWorth_25, .int v_t_bestHour_25, .ref q_t_places, .ref q_t_pairs], ia C q_t_s 254 (upd r_t_s_25 w2_25.toNatClampNeg z7), ia C q_t_images 508 r_t_images_25, za C q_t_kept 2 r_t_kept_25] := hD
        obtain ⟨z9, ez9⟩ : ∃ y : Int32, y = (w2_25 + (1 : Int32)) := ⟨_, rfl⟩
        have hf := of_lt hf ez9
        refine lv_iinc (v := z9) (lv' := [(2, .int z9), (0, .ref q_t), (1, .int w1_25)]) hx hb dX11_back_50 hl (k := 0) rfl (by rw [ez9]; rfl) (by decide) rfl (fun ls hl => ?_)
        refine lv_goto (tgt := 25) hx hb dX11_back_53 (by decide) ?_
        exact ih _ _ _ _ _ _ _ _ _ _ _ _ _ _ _ _ hf H locs ls hP hD hS (lv_sub hl [0, 1, 2] rfl) KX0
  refine lv_iload_n hx hb dX11_back_0 rfl (lv_at hl 1 rfl) ?_
  refine lv_iconst (v := (0 : Int32)) hx hb dX11_back_1 (by decide) ?_
  refine lv_iconst (v := (1 : Int32)) hx hb dX11_back_2 (by decide) ?_
  obtain ⟨o1, ho1, hf⟩ := of_bind hf
  refine c_I (wr := [ob q_t 11 [.long v_t_trace, .ref q_t_text, .int v_t_typed, .ref q_t_told, .ref q_t_draft, .ref q_t_s, .ref q_t_images, .ref q_t_kept, .ref q_t_heard, .ref q_t_hours, .int v_t_noted, .int v_t_at, .int v_t_sort, .int v_t_start, .int v_t_value, .ref q_t_row, .ref q_t_best, .int v_t_bestMany, .int v_t_bestWorth, .int v_t_bestHour, .ref q_t_places, .ref q_t_pairs], ia C q_t_s 254 r_t_s, ia C q_t_images 508 r_t_images, za C q_t_kept 2 r_t_kept]) (W2 := [ob q_t 11 [.long v_t_trace, .ref q_t_text, .int v_t_typed, .ref q_t_told, .ref q_t_draft, .ref q_t_s, .ref q_t_images, .ref q_t_kept, .ref q_t_heard, .ref q_t_hours, .int v_t_noted, .int v_t_at, .int v_t_sort, .int v_t_start, .int v_t_value, .ref q_t_row, .ref q_t_best, .int v_t_bestMany, .int v_t_bestWorth, .int v_t_bestHour, .ref q_t_places, .ref q_t_pairs], ia C q_t_s 254 r_t_s, ia C q_t_images 508 r_t_images, za C q_t_kept 2 r_t_kept]) (cS_run ⟨hx, hb, hml, hown, hts⟩ (k_X11_in l D C p1 (0 : Int32) (1 : Int32) H.size o1 ho1) gX11_back_X11_in rfl ⟨rfl, rfl⟩ hd_X11_in ⟨(Nat.le_of_ble_eq_true rfl), (Nat.le_of_ble_eq_true rfl)⟩ rfl hK (cut_in hK hP hD [] rfl (by decide)) hl.1 rfl (Nat.le_of_ble_eq_true rfl) dX11_back_3 ⟨Nat.zero_le _, Nat.zero_le _⟩) hP hD hS hA [] [0, 1, 2, 3] [0, 1, 2, 3] rfl rfl (by decide) (by decide) rfl (by decide) (fun H locs hP hD hS => ?_)
  have hP : va_P D vwCl [ob q_t 11 [.long v_t_trace, .ref q_t_text, .int v_t_typed, .ref q_t_told, .ref q_t_draft, .ref q_t_s, .ref q_t_images, .ref q_t_kept, .ref q_t_heard, .ref q_t_hours, .int v_t_noted, .int v_t_at, .int v_t_sort, .int v_t_start, .int v_t_value, .ref q_t_row, .ref q_t_best, .int v_t_bestMany, .int v_t_bestWorth, .int v_t_bestHour, .ref q_t_places, .ref q_t_pairs], ia C q_t_s 254 r_t_s, ia C q_t_images 508 r_t_images, za C q_t_kept 2 r_t_kept] H := hP
  have hD : va_D A [ob q_t 11 [.long v_t_trace, .ref q_t_text, .int v_t_typed, .ref q_t_told, .ref q_t_draft, .ref q_t_s, .ref q_t_images, .ref q_t_kept, .ref q_t_heard, .ref q_t_hours, .int v_t_noted, .int v_t_at, .int v_t_sort, .int v_t_start, .int v_t_value, .ref q_t_row, .ref q_t_best, .int v_t_bestMany, .int v_t_bestWorth, .int v_t_bestHour, .ref q_t_places, .ref q_t_pairs], ia C q_t_s 254 r_t_s, ia C q_t_images 508 r_t_images, za C q_t_kept 2 r_t_kept] := hD
  refine lv_if_ne (tgt := 11) hx hb dX11_back_6 (by decide) (fun c2 => ?_) (fun c2 => ?_)
  · have hf := of_neg hf c2
    refine lv_aload_n hx hb dX11_back_11 rfl (lv_at hl 0 rfl) ?_
    refine va_get (D := D) (ci := 11) (v := .ref q_t_kept) (C := RX11) (T := TX11) (N := 22) hx hb hts inX11 hown hK hP 0 rfl rfl 7 (by decide) (hts (.fieldLink RX11 25 "LentCourageModel" "kept" "[Z") (List.mem_of_getElem? (i := 1) rfl)) (fun _ h9 => h9) rfl dX11_back_12 ?_
    refine lv_iload_n hx hb dX11_back_15 rfl (lv_at hl 1 rfl) ?_
    obtain ⟨h3, hf⟩ := of_chk hf
    refine va_zald hx hb hK hP 3 1 rfl rfl h3 dX11_back_16 ?_
    refine lv_if_ne (tgt := 23) hx hb dX11_back_17 (by decide) (fun c4 => ?_) (fun c4 => ?_)
    · have hf := of_neg hf c4
      refine lv_iconst (v := (0 : Int32)) hx hb dX11_back_23 (by decide) ?_
      refine lv_istore_n (lv' := [(2, .int (0 : Int32)), (0, .ref q_t), (1, .int p1)]) hx hb dX11_back_24 rfl hl (by decide) rfl (fun ls hl => ?_)
      obtain ⟨y10, hy10, hf⟩ := of_bind hf
      refine LP25 _ FU _ _ _ _ _ _ _ _ _ _ _ _ _ _ _ y10 hy10 H locs ls hP hD hS (lv_sub hl [0, 1, 2] rfl) (fun H locs ls hP hD hS hl => ?_)
      refine lv_aload_n hx hb dX11_back_56 rfl (lv_at hl 1 rfl) ?_
      refine va_get (D := D) (ci := 11) (v := .ref q_t_s) (C := RX11) (T := TX11) (N := 22) hx hb hts inX11 hown hK hP 0 rfl rfl 5 (by decide) (hts (.fieldLink RX11 19 "LentCourageModel" "s" "[I") (List.mem_of_getElem? (i := 2) rfl)) (fun _ h9 => h9) rfl dX11_back_57 ?_
      refine lv_iconst (v := (0 : Int32)) hx hb dX11_back_60 (by decide) ?_
      refine ld_ialdK hx hb hK hP 1 0 rfl rfl (k := 0) (by decide) (by decide) (by decide) dX11_back_61 ?_
      obtain rfl := Option.some.inj hf
      exact ret_I hx hb hr hlocks hK hP hD hS dX11_back_62
    · have hf := of_pos hf c4
      refine lv_bipush (v := (-2 : Int32)) hx hb dX11_back_20 (by decide) ?_
      obtain rfl := Option.some.inj hf
      exact ret_I hx hb hr hlocks hK hP hD hS dX11_back_22
  · have hf := of_pos hf c2
    refine lv_iconst (v := (-1 : Int32)) hx hb dX11_back_9 (by decide) ?_
    obtain rfl := Option.some.inj hf
    exact ret_I hx hb hr hlocks hK hP hD hS dX11_back_10

def fX11_count (v_t_typed : Int32) (v_t_noted : Int32) (r_t_told : Nat → Int32) (r_t_s : Nat → Int32) (p1 : Int32) : Option (Int32) :=
  (if p1 = (0 : Int32) then some (r_t_told 0) else (if p1 = (1 : Int32) then some (r_t_told 1) else (if p1 = (2 : Int32) then some (r_t_told 2) else (if p1 = (3 : Int32) then some (r_t_told 3) else (if p1 = (4 : Int32) then some v_t_noted else (if p1 = (5 : Int32) then some (r_t_s 23) else (if p1 = (6 : Int32) then some v_t_typed else some (-1 : Int32))))))))
theorem hd_X11_count : yX11_count.cls = RX11 ∧ yX11_count.cls ≠ "java/lang/invoke/MethodHandle" ∧ yX11_count.cls ≠ "java/lang/invoke/VarHandle" ∧ (parseMethodDescriptor yX11_count.desc).map (fun d => d.parameters.length) = some 1 := by decide +kernel
set_option maxHeartbeats 4000000 in
set_option maxRecDepth 100000 in
theorem k_X11_count (l : Launch) (D : va_G) (C : Nat → ClassId) (q_t : Nat) (q_t_text : Nat) (q_t_told : Nat) (q_t_draft : Nat) (q_t_s : Nat) (q_t_images : Nat) (q_t_kept : Nat) (q_t_heard : Nat) (q_t_hours : Nat) (q_t_row : Nat) (q_t_best : Nat) (q_t_places : Nat) (q_t_pairs : Nat) (v_t_trace : Int64) (v_t_typed : Int32) (v_t_noted : Int32) (v_t_at : Int32) (v_t_sort : Int32) (v_t_start : Int32) (v_t_value : Int32) (v_t_bestMany : Int32) (v_t_bestWorth : Int32) (v_t_bestHour : Int32) (r_t_told : Nat → Int32) (r_t_s : Nat → Int32) (p1 : Int32) (sz : Nat) (out : Int32) (hf : fX11_count v_t_typed v_t_noted r_t_told r_t_s p1 = some out) : MI l yX11_count wsX11_count ({ frames := 0, cells := 0, slots := 0, locals := 0 }) D C [.ref q_t, .int p1] [ob q_t 11 [.long v_t_trace, .ref q_t_text, .int v_t_typed, .ref q_t_told, .ref q_t_draft, .ref q_t_s, .ref q_t_images, .ref q_t_kept, .ref q_t_heard, .ref q_t_hours, .int v_t_noted, .int v_t_at, .int v_t_sort, .int v_t_start, .int v_t_value, .ref q_t_row, .ref q_t_best, .int v_t_bestMany, .int v_t_bestWorth, .int v_t_bestHour, .ref q_t_places, .ref q_t_pairs], ia C q_t_told 52 r_t_told, ia C q_t_s 254 r_t_s] [ob q_t 11 [.long v_t_trace, .ref q_t_text, .int v_t_typed, .ref q_t_told, .ref q_t_draft, .ref q_t_s, .ref q_t_images, .ref q_t_kept, .ref q_t_heard, .ref q_t_hours, .int v_t_noted, .int v_t_at, .int v_t_sort, .int v_t_start, .int v_t_value, .ref q_t_row, .ref q_t_best, .int v_t_bestMany, .int v_t_bestWorth, .int v_t_bestHour, .ref q_t_places, .ref q_t_pairs], ia C q_t_told 52 r_t_told, ia C q_t_s 254 r_t_s] sz (out) := by
  unfold fX11_count at hf
  refine en_I (by decide) rfl (Nat.le_of_ble_eq_true rfl) ?_
  intro p e s m below meth c A ls H locs hx hb hr hlocks hml hts hown hK hP hD hS hA hl
  have hl : lv_has ls 2 [(0, .ref q_t), (1, .int p1)] := hl
  have inX11 : ∀ w ∈ u_ws RX11 TX11 22, w ∈ wsX11_count := fun w h => List.mem_cons_of_mem _ (List.mem_append_right _ h)
  refine lv_iload_n hx hb dX11_count_0 rfl (lv_at hl 1 rfl) ?_
  by_cases c1 : p1 = (0 : Int32)
  · have hf := of_pos hf c1
    refine lv_tableIn (off := 43) (tgt := 44) hx hb dX11_count_1 (by rw [c1]; decide) (by rw [c1]; decide) (by rw [c1]; rfl) (by decide) ?_
    refine lv_aload_n hx hb dX11_count_44 rfl (lv_at hl 0 rfl) ?_
    refine va_get (D := D) (ci := 11) (v := .ref q_t_told) (C := RX11) (T := TX11) (N := 22) hx hb hts inX11 hown hK hP 0 rfl rfl 3 (by decide) (hts (.fieldLink RX11 13 "LentCourageModel" "told" "[I") (List.mem_of_getElem? (i := 1) rfl)) (fun _ h9 => h9) rfl dX11_count_45 ?_
    refine lv_iconst (v := (0 : Int32)) hx hb dX11_count_48 (by decide) ?_
    refine ld_ialdK hx hb hK hP 1 0 rfl rfl (k := 0) (by decide) (by decide) (by decide) dX11_count_49 ?_
    obtain rfl := Option.some.inj hf
    exact ret_I hx hb hr hlocks hK hP hD hS dX11_count_50
  · have hf := of_neg hf c1
    by_cases c2 : p1 = (1 : Int32)
    · have hf := of_pos hf c2
      refine lv_tableIn (off := 50) (tgt := 51) hx hb dX11_count_1 (by rw [c2]; decide) (by rw [c2]; decide) (by rw [c2]; rfl) (by decide) ?_
      refine lv_aload_n hx hb dX11_count_51 rfl (lv_at hl 0 rfl) ?_
      refine va_get (D := D) (ci := 11) (v := .ref q_t_told) (C := RX11) (T := TX11) (N := 22) hx hb hts inX11 hown hK hP 0 rfl rfl 3 (by decide) (hts (.fieldLink RX11 13 "LentCourageModel" "told" "[I") (List.mem_of_getElem? (i := 1) rfl)) (fun _ h9 => h9) rfl dX11_count_52 ?_
      refine lv_iconst (v := (1 : Int32)) hx hb dX11_count_55 (by decide) ?_
      refine ld_ialdK hx hb hK hP 1 0 rfl rfl (k := 1) (by decide) (by decide) (by decide) dX11_count_56 ?_
      obtain rfl := Option.some.inj hf
      exact ret_I hx hb hr hlocks hK hP hD hS dX11_count_57
    · have hf := of_neg hf c2
      by_cases c3 : p1 = (2 : Int32)
      · have hf := of_pos hf c3
        refine lv_tableIn (off := 57) (tgt := 58) hx hb dX11_count_1 (by rw [c3]; decide) (by rw [c3]; decide) (by rw [c3]; rfl) (by decide) ?_
        refine lv_aload_n hx hb dX11_count_58 rfl (lv_at hl 0 rfl) ?_
        refine va_get (D := D) (ci := 11) (v := .ref q_t_told) (C := RX11) (T := TX11) (N := 22) hx hb hts inX11 hown hK hP 0 rfl rfl 3 (by decide) (hts (.fieldLink RX11 13 "LentCourageModel" "told" "[I") (List.mem_of_getElem? (i := 1) rfl)) (fun _ h9 => h9) rfl dX11_count_59 ?_
        refine lv_iconst (v := (2 : Int32)) hx hb dX11_count_62 (by decide) ?_
        refine ld_ialdK hx hb hK hP 1 0 rfl rfl (k := 2) (by decide) (by decide) (by decide) dX11_count_63 ?_
        obtain rfl := Option.some.inj hf
        exact ret_I hx hb hr hlocks hK hP hD hS dX11_count_64
      · have hf := of_neg hf c3
        by_cases c4 : p1 = (3 : Int32)
        · have hf := of_pos hf c4
          refine lv_tableIn (off := 64) (tgt := 65) hx hb dX11_count_1 (by rw [c4]; decide) (by rw [c4]; decide) (by rw [c4]; rfl) (by decide) ?_
          refine lv_aload_n hx hb dX11_count_65 rfl (lv_at hl 0 rfl) ?_
          refine va_get (D := D) (ci := 11) (v := .ref q_t_told) (C := RX11) (T := TX11) (N := 22) hx hb hts inX11 hown hK hP 0 rfl rfl 3 (by decide) (hts (.fieldLink RX11 13 "LentCourageModel" "told" "[I") (List.mem_of_getElem? (i := 1) rfl)) (fun _ h9 => h9) rfl dX11_count_66 ?_
          refine lv_iconst (v := (3 : Int32)) hx hb dX11_count_69 (by decide) ?_
          refine ld_ialdK hx hb hK hP 1 0 rfl rfl (k := 3) (by decide) (by decide) (by decide) dX11_count_70 ?_
          obtain rfl := Option.some.inj hf
          exact ret_I hx hb hr hlocks hK hP hD hS dX11_count_71
        · have hf := of_neg hf c4
          by_cases c5 : p1 = (4 : Int32)
          · have hf := of_pos hf c5
            refine lv_tableIn (off := 71) (tgt := 72) hx hb dX11_count_1 (by rw [c5]; decide) (by rw [c5]; decide) (by rw [c5]; rfl) (by decide) ?_
            refine lv_aload_n hx hb dX11_count_72 rfl (lv_at hl 0 rfl) ?_
            refine va_get (D := D) (ci := 11) (v := .int v_t_noted) (C := RX11) (T := TX11) (N := 22) hx hb hts inX11 hown hK hP 0 rfl rfl 10 (by decide) (hts (.fieldLink RX11 97 "LentCourageModel" "noted" "I") (List.mem_of_getElem? (i := 2) rfl)) (fun _ h9 => h9) rfl dX11_count_73 ?_
            obtain rfl := Option.some.inj hf
            exact ret_I hx hb hr hlocks hK hP hD hS dX11_count_76
          · have hf := of_neg hf c5
            by_cases c6 : p1 = (5 : Int32)
            · have hf := of_pos hf c6
              refine lv_tableIn (off := 76) (tgt := 77) hx hb dX11_count_1 (by rw [c6]; decide) (by rw [c6]; decide) (by rw [c6]; rfl) (by decide) ?_
              refine lv_aload_n hx hb dX11_count_77 rfl (lv_at hl 0 rfl) ?_
              refine va_get (D := D) (ci := 11) (v := .ref q_t_s) (C := RX11) (T := TX11) (N := 22) hx hb hts inX11 hown hK hP 0 rfl rfl 5 (by decide) (hts (.fieldLink RX11 19 "LentCourageModel" "s" "[I") (List.mem_of_getElem? (i := 3) rfl)) (fun _ h9 => h9) rfl dX11_count_78 ?_
              refine lv_bipush (v := (23 : Int32)) hx hb dX11_count_81 (by decide) ?_
              refine ld_ialdK hx hb hK hP 2 0 rfl rfl (k := 23) (by decide) (by decide) (by decide) dX11_count_83 ?_
              obtain rfl := Option.some.inj hf
              exact ret_I hx hb hr hlocks hK hP hD hS dX11_count_84
            · have hf := of_neg hf c6
              by_cases c7 : p1 = (6 : Int32)
              · have hf := of_pos hf c7
                refine lv_tableIn (off := 84) (tgt := 85) hx hb dX11_count_1 (by rw [c7]; decide) (by rw [c7]; decide) (by rw [c7]; rfl) (by decide) ?_
                refine lv_aload_n hx hb dX11_count_85 rfl (lv_at hl 0 rfl) ?_
                refine va_get (D := D) (ci := 11) (v := .int v_t_typed) (C := RX11) (T := TX11) (N := 22) hx hb hts inX11 hown hK hP 0 rfl rfl 2 (by decide) (hts (.fieldLink RX11 58 "LentCourageModel" "typed" "I") (List.mem_of_getElem? (i := 4) rfl)) (fun _ h9 => h9) rfl dX11_count_86 ?_
                obtain rfl := Option.some.inj hf
                exact ret_I hx hb hr hlocks hK hP hD hS dX11_count_89
              · have hf := of_neg hf c7
                refine lv_tableOut (tgt := 90) hx hb dX11_count_1 (tOut (fun k h1 h2 => by
                    intro hk
                    have := lv_neT (a := 0) c1 (by decide)
                    have := lv_neT (a := 1) c2 (by decide)
                    have := lv_neT (a := 2) c3 (by decide)
                    have := lv_neT (a := 3) c4 (by decide)
                    have := lv_neT (a := 4) c5 (by decide)
                    have := lv_neT (a := 5) c6 (by decide)
                    have := lv_neT (a := 6) c7 (by decide)
                    omega)) (by decide) ?_
                refine lv_iconst (v := (-1 : Int32)) hx hb dX11_count_90 (by decide) ?_
                obtain rfl := Option.some.inj hf
                exact ret_I hx hb hr hlocks hK hP hD hS dX11_count_91

def fX11_trace (v_t_trace : Int64) : Option (Int64) :=
  some v_t_trace
theorem hd_X11_trace : yX11_trace.cls = RX11 ∧ yX11_trace.cls ≠ "java/lang/invoke/MethodHandle" ∧ yX11_trace.cls ≠ "java/lang/invoke/VarHandle" ∧ (parseMethodDescriptor yX11_trace.desc).map (fun d => d.parameters.length) = some 0 := by decide +kernel
set_option maxHeartbeats 4000000 in
set_option maxRecDepth 100000 in
theorem k_X11_trace (l : Launch) (D : va_G) (C : Nat → ClassId) (q_t : Nat) (q_t_text : Nat) (q_t_told : Nat) (q_t_draft : Nat) (q_t_s : Nat) (q_t_images : Nat) (q_t_kept : Nat) (q_t_heard : Nat) (q_t_hours : Nat) (q_t_row : Nat) (q_t_best : Nat) (q_t_places : Nat) (q_t_pairs : Nat) (v_t_trace : Int64) (v_t_typed : Int32) (v_t_noted : Int32) (v_t_at : Int32) (v_t_sort : Int32) (v_t_start : Int32) (v_t_value : Int32) (v_t_bestMany : Int32) (v_t_bestWorth : Int32) (v_t_bestHour : Int32) (sz : Nat) (out : Int64) (hf : fX11_trace v_t_trace = some out) : ML l yX11_trace wsX11_trace ({ frames := 0, cells := 0, slots := 0, locals := 0 }) D C [.ref q_t] [ob q_t 11 [.long v_t_trace, .ref q_t_text, .int v_t_typed, .ref q_t_told, .ref q_t_draft, .ref q_t_s, .ref q_t_images, .ref q_t_kept, .ref q_t_heard, .ref q_t_hours, .int v_t_noted, .int v_t_at, .int v_t_sort, .int v_t_start, .int v_t_value, .ref q_t_row, .ref q_t_best, .int v_t_bestMany, .int v_t_bestWorth, .int v_t_bestHour, .ref q_t_places, .ref q_t_pairs]] [ob q_t 11 [.long v_t_trace, .ref q_t_text, .int v_t_typed, .ref q_t_told, .ref q_t_draft, .ref q_t_s, .ref q_t_images, .ref q_t_kept, .ref q_t_heard, .ref q_t_hours, .int v_t_noted, .int v_t_at, .int v_t_sort, .int v_t_start, .int v_t_value, .ref q_t_row, .ref q_t_best, .int v_t_bestMany, .int v_t_bestWorth, .int v_t_bestHour, .ref q_t_places, .ref q_t_pairs]] sz (out) := by
  unfold fX11_trace at hf
  refine en_L (by decide) rfl (Nat.le_of_ble_eq_true rfl) ?_
  intro p e s m below meth c A ls H locs hx hb hr hlocks hml hts hown hK hP hD hS hA hl
  have hl : lv_has ls 1 [(0, .ref q_t)] := hl
  have inX11 : ∀ w ∈ u_ws RX11 TX11 22, w ∈ wsX11_trace := fun w h => List.mem_cons_of_mem _ (List.mem_append_right _ h)
  refine lv_aload_n hx hb dX11_trace_0 rfl (lv_at hl 0 rfl) ?_
  refine va_get (D := D) (ci := 11) (v := .long v_t_trace) (C := RX11) (T := TX11) (N := 22) hx hb hts inX11 hown hK hP 0 rfl rfl 0 (by decide) (hts (.fieldLink RX11 168 "LentCourageModel" "trace" "J") (List.mem_of_getElem? (i := 1) rfl)) (fun _ h9 => h9) rfl dX11_trace_1 ?_
  obtain rfl := Option.some.inj hf
  exact ret_L hx hb hr hlocks hK hP hD hS dX11_trace_4
