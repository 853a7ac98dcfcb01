/-! constructors, by genc.py -/
abbrev wX0 (C : Nat → ClassId) (u : Nat → Nat) : va_W := [ob (u 0) 0 [.int 0, .ref (u 1), .ref (u 2)], ia C (u 1) 6 (fun _ => 0), ia C (u 2) 6 (fun _ => 0)]
theorem hd_X0_init : yX0_init.cls ≠ "java/lang/invoke/MethodHandle" ∧ yX0_init.cls ≠ "java/lang/invoke/VarHandle" ∧ (parseMethodDescriptor yX0_init.desc).map (fun d => d.parameters.length) = some 0 := by decide +kernel
set_option maxHeartbeats 4000000 in
set_option maxRecDepth 100000 in
theorem k_X0_init (l : Launch) (D : va_G) (C : Nat → ClassId) (q_t sz : Nat) : MC l yX0_init wsX0_init ({ frames := 1, cells := 2, slots := 12, locals := 12 }) D C [.ref q_t] [ob q_t 0 [.int 0, .null, .null]] (fun _ => True) (fun u : Nat → Nat => u 0 = q_t) (wX0 C) sz 2 12 := by
  refine en_C (by decide) rfl (Nat.le_of_ble_eq_true rfl) ?_
  intro p e s m below meth c A ls H locs hx hb hr hlocks hml hts hown hin _ hK hP hD hS hA hl
  have hl : lv_has ls 1 [(0, .ref q_t)] := hl
  have inC : ∀ w ∈ u_ws RX0 TX0 3, w ∈ wsX0_init := fun w h => List.mem_cons_of_mem _ (List.mem_append_right _ h)
  refine lv_aload_n hx hb dX0_init_0 rfl (lv_at hl 0 rfl) ?_
  refine W.objInit hx hb hown (hts (.methodLink RX0 3 objectInit) (List.mem_of_getElem? (i := 1) rfl)) (hts (.instanceMethod objectInit) (List.mem_of_getElem? (i := 2) rfl)) (hts (.code objectInit ⟨#[0xb1]⟩ 1 none) (List.mem_of_getElem? (i := 3) rfl)) rfl (by rw [hml]; exact hl.1) rfl dX0_init_1 (Nat.le_of_ble_eq_true rfl) (Nat.le_of_ble_eq_true rfl) ?_
  refine W.eq (g2 := F0 m 4 ls []) rfl ?_
  refine lv_aload_n hx hb dX0_init_4 rfl (lv_at hl 0 rfl) ?_
  refine lv_bipush (v := (6 : Int32)) hx hb dX0_init_5 (by decide) ?_
  refine nw_I (N := 6) hx hb (hts (.arrayClass .int) (List.mem_of_getElem? (i := 4) rfl)) hK hP hD hS hA (by decide) (by decide) (by decide) (Nat.le_of_ble_eq_true rfl) (Nat.le_of_ble_eq_true rfl) dX0_init_7 (fun q7 H hP hD hS => ?_)
  have hP : va_P D vwCl [ob q_t 0 [.int 0, .null, .null], ia C q7 6 (fun _ => 0)] H := hP
  have hD : va_D A [ob q_t 0 [.int 0, .null, .null], ia C q7 6 (fun _ => 0)] := hD
  refine va_putF (D := D) (ci := 0) (v := .ref q7) (ty := .array .int) (C := RX0) (T := TX0) (N := 3) hx hb hts inC tyX0 tyX0_ok nmX0 hown hK hP hD hS 0 rfl rfl 1 (by decide) (hts (.fieldLink RX0 9 "LentCourage$Heard" "deed" "[I") (List.mem_of_getElem? (i := 5) rfl)) (fun _ h9 => h9) rfl hin rfl (tyX0_ok 1 (by decide)) rfl rfl (Nat.le_of_ble_eq_true rfl) dX0_init_9 (fun H locs hP hD hS => ?_)
  have hP : va_P D vwCl [ob q_t 0 [.int 0, .ref q7, .null], ia C q7 6 (fun _ => 0)] H := hP
  have hD : va_D A [ob q_t 0 [.int 0, .ref q7, .null], ia C q7 6 (fun _ => 0)] := hD
  refine lv_aload_n hx hb dX0_init_12 rfl (lv_at hl 0 rfl) ?_
  refine lv_bipush (v := (6 : Int32)) hx hb dX0_init_13 (by decide) ?_
  refine nw_I (N := 6) hx hb (hts (.arrayClass .int) (List.mem_of_getElem? (i := 4) rfl)) hK hP hD hS hA (by decide) (by decide) (by decide) (Nat.le_of_ble_eq_true rfl) (Nat.le_of_ble_eq_true rfl) dX0_init_15 (fun q15 H hP hD hS => ?_)
  have hP : va_P D vwCl [ob q_t 0 [.int 0, .ref q7, .null], ia C q7 6 (fun _ => 0), ia C q15 6 (fun _ => 0)] H := hP
  have hD : va_D A [ob q_t 0 [.int 0, .ref q7, .null], ia C q7 6 (fun _ => 0), ia C q15 6 (fun _ => 0)] := hD
  refine va_putF (D := D) (ci := 0) (v := .ref q15) (ty := .array .int) (C := RX0) (T := TX0) (N := 3) hx hb hts inC tyX0 tyX0_ok nmX0 hown hK hP hD hS 0 rfl rfl 2 (by decide) (hts (.fieldLink RX0 15 "LentCourage$Heard" "hour" "[I") (List.mem_of_getElem? (i := 6) rfl)) (fun _ h9 => h9) rfl hin rfl (tyX0_ok 2 (by decide)) rfl rfl (Nat.le_of_ble_eq_true rfl) dX0_init_17 (fun H locs hP hD hS => ?_)
  have hP : va_P D vwCl [ob q_t 0 [.int 0, .ref q7, .ref q15], ia C q7 6 (fun _ => 0), ia C q15 6 (fun _ => 0)] H := hP
  have hD : va_D A [ob q_t 0 [.int 0, .ref q7, .ref q15], ia C q7 6 (fun _ => 0), ia C q15 6 (fun _ => 0)] := hD
  refine W.widen (k := 2) (n := 12) (by omega) (by omega) ?_
  exact ret_C (fun j => if j = 0 then q_t else if j = 1 then q7 else q15) rfl hx hb hr hlocks hK hP hD hS dX0_init_20

abbrev wX2 (C : Nat → ClassId) (u : Nat → Nat) : va_W := [ob (u 0) 2 [.int 0, .int (-9 : Int32), .int 0, .int 0, .int 0, .ref (u 1), .ref (u 2), .ref (u 3)], ia C (u 1) 6 (fun _ => 0), ia C (u 2) 6 (fun _ => 0), ia C (u 3) 6 (fun _ => 0)]
theorem hd_X2_init : yX2_init.cls ≠ "java/lang/invoke/MethodHandle" ∧ yX2_init.cls ≠ "java/lang/invoke/VarHandle" ∧ (parseMethodDescriptor yX2_init.desc).map (fun d => d.parameters.length) = some 0 := by decide +kernel
set_option maxHeartbeats 4000000 in
set_option maxRecDepth 100000 in
theorem k_X2_init (l : Launch) (D : va_G) (C : Nat → ClassId) (q_t sz : Nat) : MC l yX2_init wsX2_init ({ frames := 1, cells := 3, slots := 18, locals := 12 }) D C [.ref q_t] [ob q_t 2 [.int 0, .int 0, .int 0, .int 0, .int 0, .null, .null, .null]] (fun _ => True) (fun u : Nat → Nat => u 0 = q_t) (wX2 C) sz 3 18 := by
  refine en_C (by decide) rfl (Nat.le_of_ble_eq_true rfl) ?_
  intro p e s m below meth c A ls H locs hx hb hr hlocks hml hts hown hin _ hK hP hD hS hA hl
  have hl : lv_has ls 1 [(0, .ref q_t)] := hl
  have inC : ∀ w ∈ u_ws RX2 TX2 8, w ∈ wsX2_init := fun w h => List.mem_cons_of_mem _ (List.mem_append_right _ h)
  refine lv_aload_n hx hb dX2_init_0 rfl (lv_at hl 0 rfl) ?_
  refine W.objInit hx hb hown (hts (.methodLink RX2 3 objectInit) (List.mem_of_getElem? (i := 1) rfl)) (hts (.instanceMethod objectInit) (List.mem_of_getElem? (i := 2) rfl)) (hts (.code objectInit ⟨#[0xb1]⟩ 1 none) (List.mem_of_getElem? (i := 3) rfl)) rfl (by rw [hml]; exact hl.1) rfl dX2_init_1 (Nat.le_of_ble_eq_true rfl) (Nat.le_of_ble_eq_true rfl) ?_
  refine W.eq (g2 := F0 m 4 ls []) rfl ?_
  refine lv_aload_n hx hb dX2_init_4 rfl (lv_at hl 0 rfl) ?_
  refine lv_bipush (v := (-9 : Int32)) hx hb dX2_init_5 (by decide) ?_
  refine va_put (D := D) (ci := 2) (v := .int (-9 : Int32)) (ty := .int) (C := RX2) (T := TX2) (N := 8) hx hb hts inC tyX2 tyX2_ok nmX2 hown hK hP hD hS 0 rfl rfl 1 (by decide) (hts (.fieldLink RX2 9 "LentCourage$Moment" "holder" "I") (List.mem_of_getElem? (i := 4) rfl)) (fun _ h9 => h9) rfl (tyX2_ok 1 (by decide)) rfl rfl (Nat.le_of_ble_eq_true rfl) dX2_init_7 (fun H locs hP hD hS => ?_)
  have hP : va_P D vwCl [ob q_t 2 [.int 0, .int (-9 : Int32), .int 0, .int 0, .int 0, .null, .null, .null]] H := hP
  have hD : va_D A [ob q_t 2 [.int 0, .int (-9 : Int32), .int 0, .int 0, .int 0, .null, .null, .null]] := hD
  refine lv_aload_n hx hb dX2_init_10 rfl (lv_at hl 0 rfl) ?_
  refine lv_bipush (v := (6 : Int32)) hx hb dX2_init_11 (by decide) ?_
  refine nw_I (N := 6) hx hb (hts (.arrayClass .int) (List.mem_of_getElem? (i := 5) rfl)) hK hP hD hS hA (by decide) (by decide) (by decide) (Nat.le_of_ble_eq_true rfl) (Nat.le_of_ble_eq_true rfl) dX2_init_13 (fun q13 H hP hD hS => ?_)
  have hP : va_P D vwCl [ob q_t 2 [.int 0, .int (-9 : Int32), .int 0, .int 0, .int 0, .null, .null, .null], ia C q13 6 (fun _ => 0)] H := hP
  have hD : va_D A [ob q_t 2 [.int 0, .int (-9 : Int32), .int 0, .int 0, .int 0, .null, .null, .null], ia C q13 6 (fun _ => 0)] := hD
  refine va_putF (D := D) (ci := 2) (v := .ref q13) (ty := .array .int) (C := RX2) (T := TX2) (N := 8) hx hb hts inC tyX2 tyX2_ok nmX2 hown hK hP hD hS 0 rfl rfl 5 (by decide) (hts (.fieldLink RX2 15 "LentCourage$Moment" "at" "[I") (List.mem_of_getElem? (i := 6) rfl)) (fun _ h9 => h9) rfl hin rfl (tyX2_ok 5 (by decide)) rfl rfl (Nat.le_of_ble_eq_true rfl) dX2_init_15 (fun H locs hP hD hS => ?_)
  have hP : va_P D vwCl [ob q_t 2 [.int 0, .int (-9 : Int32), .int 0, .int 0, .int 0, .ref q13, .null, .null], ia C q13 6 (fun _ => 0)] H := hP
  have hD : va_D A [ob q_t 2 [.int 0, .int (-9 : Int32), .int 0, .int 0, .int 0, .ref q13, .null, .null], ia C q13 6 (fun _ => 0)] := hD
  refine lv_aload_n hx hb dX2_init_18 rfl (lv_at hl 0 rfl) ?_
  refine lv_bipush (v := (6 : Int32)) hx hb dX2_init_19 (by decide) ?_
  refine nw_I (N := 6) hx hb (hts (.arrayClass .int) (List.mem_of_getElem? (i := 5) rfl)) hK hP hD hS hA (by decide) (by decide) (by decide) (Nat.le_of_ble_eq_true rfl) (Nat.le_of_ble_eq_true rfl) dX2_init_21 (fun q21 H hP hD hS => ?_)
  have hP : va_P D vwCl [ob q_t 2 [.int 0, .int (-9 : Int32), .int 0, .int 0, .int 0, .ref q13, .null, .null], ia C q13 6 (fun _ => 0), ia C q21 6 (fun _ => 0)] H := hP
  have hD : va_D A [ob q_t 2 [.int 0, .int (-9 : Int32), .int 0, .int 0, .int 0, .ref q13, .null, .null], ia C q13 6 (fun _ => 0), ia C q21 6 (fun _ => 0)] := hD
  refine va_putF (D := D) (ci := 2) (v := .ref q21) (ty := .array .int) (C := RX2) (T := TX2) (N := 8) hx hb hts inC tyX2 tyX2_ok nmX2 hown hK hP hD hS 0 rfl rfl 6 (by decide) (hts (.fieldLink RX2 19 "LentCourage$Moment" "lastHeld" "[I") (List.mem_of_getElem? (i := 7) rfl)) (fun _ h9 => h9) rfl hin rfl (tyX2_ok 6 (by decide)) rfl rfl (Nat.le_of_ble_eq_true rfl) dX2_init_23 (fun H locs hP hD hS => ?_)
  have hP : va_P D vwCl [ob q_t 2 [.int 0, .int (-9 : Int32), .int 0, .int 0, .int 0, .ref q13, .ref q21, .null], ia C q13 6 (fun _ => 0), ia C q21 6 (fun _ => 0)] H := hP
  have hD : va_D A [ob q_t 2 [.int 0, .int (-9 : Int32), .int 0, .int 0, .int 0, .ref q13, .ref q21, .null], ia C q13 6 (fun _ => 0), ia C q21 6 (fun _ => 0)] := hD
  refine lv_aload_n hx hb dX2_init_26 rfl (lv_at hl 0 rfl) ?_
  refine lv_bipush (v := (6 : Int32)) hx hb dX2_init_27 (by decide) ?_
  refine nw_I (N := 6) hx hb (hts (.arrayClass .int) (List.mem_of_getElem? (i := 5) rfl)) hK hP hD hS hA (by decide) (by decide) (by decide) (Nat.le_of_ble_eq_true rfl) (Nat.le_of_ble_eq_true rfl) dX2_init_29 (fun q29 H hP hD hS => ?_)
  have hP : va_P D vwCl [ob q_t 2 [.int 0, .int (-9 : Int32), .int 0, .int 0, .int 0, .ref q13, .ref q21, .null], ia C q13 6 (fun _ => 0), ia C q21 6 (fun _ => 0), ia C q29 6 (fun _ => 0)] H := hP
  have hD : va_D A [ob q_t 2 [.int 0, .int (-9 : Int32), .int 0, .int 0, .int 0, .ref q13, .ref q21, .null], ia C q13 6 (fun _ => 0), ia C q21 6 (fun _ => 0), ia C q29 6 (fun _ => 0)] := hD
  refine va_putF (D := D) (ci := 2) (v := .ref q29) (ty := .array .int) (C := RX2) (T := TX2) (N := 8) hx hb hts inC tyX2 tyX2_ok nmX2 hown hK hP hD hS 0 rfl rfl 7 (by decide) (hts (.fieldLink RX2 22 "LentCourage$Moment" "owed" "[I") (List.mem_of_getElem? (i := 8) rfl)) (fun _ h9 => h9) rfl hin rfl (tyX2_ok 7 (by decide)) rfl rfl (Nat.le_of_ble_eq_true rfl) dX2_init_31 (fun H locs hP hD hS => ?_)
  have hP : va_P D vwCl [ob q_t 2 [.int 0, .int (-9 : Int32), .int 0, .int 0, .int 0, .ref q13, .ref q21, .ref q29], ia C q13 6 (fun _ => 0), ia C q21 6 (fun _ => 0), ia C q29 6 (fun _ => 0)] H := hP
  have hD : va_D A [ob q_t 2 [.int 0, .int (-9 : Int32), .int 0, .int 0, .int 0, .ref q13, .ref q21, .ref q29], ia C q13 6 (fun _ => 0), ia C q21 6 (fun _ => 0), ia C q29 6 (fun _ => 0)] := hD
  refine W.widen (k := 3) (n := 18) (by omega) (by omega) ?_
  exact ret_C (fun j => if j = 0 then q_t else if j = 1 then q13 else if j = 2 then q21 else q29) rfl hx hb hr hlocks hK hP hD hS dX2_init_34

abbrev wX3 (C : Nat → ClassId) (u : Nat → Nat) : va_W := [ob (u 0) 3 [.int 0, .int 0, .ref (u 1)], ia C (u 1) 9 (fun _ => 0)]
theorem hd_X3_init : yX3_init.cls ≠ "java/lang/invoke/MethodHandle" ∧ yX3_init.cls ≠ "java/lang/invoke/VarHandle" ∧ (parseMethodDescriptor yX3_init.desc).map (fun d => d.parameters.length) = some 0 := by decide +kernel
set_option maxHeartbeats 4000000 in
set_option maxRecDepth 100000 in
theorem k_X3_init (l : Launch) (D : va_G) (C : Nat → ClassId) (q_t sz : Nat) : MC l yX3_init wsX3_init ({ frames := 1, cells := 1, slots := 9, locals := 12 }) D C [.ref q_t] [ob q_t 3 [.int 0, .int 0, .null]] (fun _ => True) (fun u : Nat → Nat => u 0 = q_t) (wX3 C) sz 1 9 := by
  refine en_C (by decide) rfl (Nat.le_of_ble_eq_true rfl) ?_
  intro p e s m below meth c A ls H locs hx hb hr hlocks hml hts hown hin _ hK hP hD hS hA hl
  have hl : lv_has ls 1 [(0, .ref q_t)] := hl
  have inC : ∀ w ∈ u_ws RX3 TX3 3, w ∈ wsX3_init := fun w h => List.mem_cons_of_mem _ (List.mem_append_right _ h)
  refine lv_aload_n hx hb dX3_init_0 rfl (lv_at hl 0 rfl) ?_
  refine W.objInit hx hb hown (hts (.methodLink RX3 3 objectInit) (List.mem_of_getElem? (i := 1) rfl)) (hts (.instanceMethod objectInit) (List.mem_of_getElem? (i := 2) rfl)) (hts (.code objectInit ⟨#[0xb1]⟩ 1 none) (List.mem_of_getElem? (i := 3) rfl)) rfl (by rw [hml]; exact hl.1) rfl dX3_init_1 (Nat.le_of_ble_eq_true rfl) (Nat.le_of_ble_eq_true rfl) ?_
  refine W.eq (g2 := F0 m 4 ls []) rfl ?_
  refine lv_aload_n hx hb dX3_init_4 rfl (lv_at hl 0 rfl) ?_
  refine lv_bipush (v := (9 : Int32)) hx hb dX3_init_5 (by decide) ?_
  refine nw_I (N := 9) hx hb (hts (.arrayClass .int) (List.mem_of_getElem? (i := 4) rfl)) hK hP hD hS hA (by decide) (by decide) (by decide) (Nat.le_of_ble_eq_true rfl) (Nat.le_of_ble_eq_true rfl) dX3_init_7 (fun q7 H hP hD hS => ?_)
  have hP : va_P D vwCl [ob q_t 3 [.int 0, .int 0, .null], ia C q7 9 (fun _ => 0)] H := hP
  have hD : va_D A [ob q_t 3 [.int 0, .int 0, .null], ia C q7 9 (fun _ => 0)] := hD
  refine va_putF (D := D) (ci := 3) (v := .ref q7) (ty := .array .int) (C := RX3) (T := TX3) (N := 3) hx hb hts inC tyX3 tyX3_ok nmX3 hown hK hP hD hS 0 rfl rfl 2 (by decide) (hts (.fieldLink RX3 9 "LentCourage$Odds" "ways" "[I") (List.mem_of_getElem? (i := 5) rfl)) (fun _ h9 => h9) rfl hin rfl (tyX3_ok 2 (by decide)) rfl rfl (Nat.le_of_ble_eq_true rfl) dX3_init_9 (fun H locs hP hD hS => ?_)
  have hP : va_P D vwCl [ob q_t 3 [.int 0, .int 0, .ref q7], ia C q7 9 (fun _ => 0)] H := hP
  have hD : va_D A [ob q_t 3 [.int 0, .int 0, .ref q7], ia C q7 9 (fun _ => 0)] := hD
  refine W.widen (k := 1) (n := 9) (by omega) (by omega) ?_
  exact ret_C (fun j => if j = 0 then q_t else q7) rfl hx hb hr hlocks hK hP hD hS dX3_init_12

abbrev wX4 (C : Nat → ClassId) (u : Nat → Nat) : va_W := [ob (u 0) 4 [.int (15 : Int32), .int (3 : Int32), .int 0, .int 0, .ref (u 1), .ref (u 2), .ref (u 3), .ref (u 4), .ref (u 5), .ref (u 6)], ia C (u 1) 6 (fun _ => 0), ia C (u 2) 8 (fun _ => 0), ia C (u 3) 8 (fun _ => 0), ia C (u 4) 8 (fun _ => 0), ia C (u 5) 8 (fun _ => 0), ia C (u 6) 8 (fun _ => 0)]
theorem hd_X4_init : yX4_init.cls ≠ "java/lang/invoke/MethodHandle" ∧ yX4_init.cls ≠ "java/lang/invoke/VarHandle" ∧ (parseMethodDescriptor yX4_init.desc).map (fun d => d.parameters.length) = some 0 := by decide +kernel
set_option maxHeartbeats 4000000 in
set_option maxRecDepth 100000 in
theorem k_X4_init (l : Launch) (D : va_G) (C : Nat → ClassId) (q_t sz : Nat) : MC l yX4_init wsX4_init ({ frames := 1, cells := 6, slots := 46, locals := 12 }) D C [.ref q_t] [ob q_t 4 [.int 0, .int 0, .int 0, .int 0, .null, .null, .null, .null, .null, .null]] (fun _ => True) (fun u : Nat → Nat => u 0 = q_t) (wX4 C) sz 6 46 := by
  refine en_C (by decide) rfl (Nat.le_of_ble_eq_true rfl) ?_
  intro p e s m below meth c A ls H locs hx hb hr hlocks hml hts hown hin _ hK hP hD hS hA hl
  have hl : lv_has ls 1 [(0, .ref q_t)] := hl
  have inC : ∀ w ∈ u_ws RX4 TX4 10, w ∈ wsX4_init := fun w h => List.mem_cons_of_mem _ (List.mem_append_right _ h)
  refine lv_aload_n hx hb dX4_init_0 rfl (lv_at hl 0 rfl) ?_
  refine W.objInit hx hb hown (hts (.methodLink RX4 3 objectInit) (List.mem_of_getElem? (i := 1) rfl)) (hts (.instanceMethod objectInit) (List.mem_of_getElem? (i := 2) rfl)) (hts (.code objectInit ⟨#[0xb1]⟩ 1 none) (List.mem_of_getElem? (i := 3) rfl)) rfl (by rw [hml]; exact hl.1) rfl dX4_init_1 (Nat.le_of_ble_eq_true rfl) (Nat.le_of_ble_eq_true rfl) ?_
  refine W.eq (g2 := F0 m 4 ls []) rfl ?_
  refine lv_aload_n hx hb dX4_init_4 rfl (lv_at hl 0 rfl) ?_
  refine lv_bipush (v := (15 : Int32)) hx hb dX4_init_5 (by decide) ?_
  refine va_put (D := D) (ci := 4) (v := .int (15 : Int32)) (ty := .int) (C := RX4) (T := TX4) (N := 10) hx hb hts inC tyX4 tyX4_ok nmX4 hown hK hP hD hS 0 rfl rfl 0 (by decide) (hts (.fieldLink RX4 11 "LentCourage$Port" "office" "I") (List.mem_of_getElem? (i := 4) rfl)) (fun _ h9 => h9) rfl (tyX4_ok 0 (by decide)) rfl rfl (Nat.le_of_ble_eq_true rfl) dX4_init_7 (fun H locs hP hD hS => ?_)
  have hP : va_P D vwCl [ob q_t 4 [.int (15 : Int32), .int 0, .int 0, .int 0, .null, .null, .null, .null, .null, .null]] H := hP
  have hD : va_D A [ob q_t 4 [.int (15 : Int32), .int 0, .int 0, .int 0, .null, .null, .null, .null, .null, .null]] := hD
  refine lv_aload_n hx hb dX4_init_10 rfl (lv_at hl 0 rfl) ?_
  refine lv_iconst (v := (3 : Int32)) hx hb dX4_init_11 (by decide) ?_
  refine va_put (D := D) (ci := 4) (v := .int (3 : Int32)) (ty := .int) (C := RX4) (T := TX4) (N := 10) hx hb hts inC tyX4 tyX4_ok nmX4 hown hK hP hD hS 0 rfl rfl 1 (by decide) (hts (.fieldLink RX4 15 "LentCourage$Port" "free" "I") (List.mem_of_getElem? (i := 5) rfl)) (fun _ h9 => h9) rfl (tyX4_ok 1 (by decide)) rfl rfl (Nat.le_of_ble_eq_true rfl) dX4_init_12 (fun H locs hP hD hS => ?_)
  have hP : va_P D vwCl [ob q_t 4 [.int (15 : Int32), .int (3 : Int32), .int 0, .int 0, .null, .null, .null, .null, .null, .null]] H := hP
  have hD : va_D A [ob q_t 4 [.int (15 : Int32), .int (3 : Int32), .int 0, .int 0, .null, .null, .null, .null, .null, .null]] := hD
  refine lv_aload_n hx hb dX4_init_15 rfl (lv_at hl 0 rfl) ?_
  refine lv_bipush (v := (6 : Int32)) hx hb dX4_init_16 (by decide) ?_
  refine nw_I (N := 6) hx hb (hts (.arrayClass .int) (List.mem_of_getElem? (i := 6) rfl)) hK hP hD hS hA (by decide) (by decide) (by decide) (Nat.le_of_ble_eq_true rfl) (Nat.le_of_ble_eq_true rfl) dX4_init_18 (fun q18 H hP hD hS => ?_)
  have hP : va_P D vwCl [ob q_t 4 [.int (15 : Int32), .int (3 : Int32), .int 0, .int 0, .null, .null, .null, .null, .null, .null], ia C q18 6 (fun _ => 0)] H := hP
  have hD : va_D A [ob q_t 4 [.int (15 : Int32), .int (3 : Int32), .int 0, .int 0, .null, .null, .null, .null, .null, .null], ia C q18 6 (fun _ => 0)] := hD
  refine va_putF (D := D) (ci := 4) (v := .ref q18) (ty := .array .int) (C := RX4) (T := TX4) (N := 10) hx hb hts inC tyX4 tyX4_ok nmX4 hown hK hP hD hS 0 rfl rfl 4 (by decide) (hts (.fieldLink RX4 18 "LentCourage$Port" "home" "[I") (List.mem_of_getElem? (i := 7) rfl)) (fun _ h9 => h9) rfl hin rfl (tyX4_ok 4 (by decide)) rfl rfl (Nat.le_of_ble_eq_true rfl) dX4_init_20 (fun H locs hP hD hS => ?_)
  have hP : va_P D vwCl [ob q_t 4 [.int (15 : Int32), .int (3 : Int32), .int 0, .int 0, .ref q18, .null, .null, .null, .null, .null], ia C q18 6 (fun _ => 0)] H := hP
  have hD : va_D A [ob q_t 4 [.int (15 : Int32), .int (3 : Int32), .int 0, .int 0, .ref q18, .null, .null, .null, .null, .null], ia C q18 6 (fun _ => 0)] := hD
  refine lv_aload_n hx hb dX4_init_23 rfl (lv_at hl 0 rfl) ?_
  refine lv_bipush (v := (8 : Int32)) hx hb dX4_init_24 (by decide) ?_
  refine nw_I (N := 8) hx hb (hts (.arrayClass .int) (List.mem_of_getElem? (i := 6) rfl)) hK hP hD hS hA (by decide) (by decide) (by decide) (Nat.le_of_ble_eq_true rfl) (Nat.le_of_ble_eq_true rfl) dX4_init_26 (fun q26 H hP hD hS => ?_)
  have hP : va_P D vwCl [ob q_t 4 [.int (15 : Int32), .int (3 : Int32), .int 0, .int 0, .ref q18, .null, .null, .null, .null, .null], ia C q18 6 (fun _ => 0), ia C q26 8 (fun _ => 0)] H := hP
  have hD : va_D A [ob q_t 4 [.int (15 : Int32), .int (3 : Int32), .int 0, .int 0, .ref q18, .null, .null, .null, .null, .null], ia C q18 6 (fun _ => 0), ia C q26 8 (fun _ => 0)] := hD
  refine va_putF (D := D) (ci := 4) (v := .ref q26) (ty := .array .int) (C := RX4) (T := TX4) (N := 10) hx hb hts inC tyX4 tyX4_ok nmX4 hown hK hP hD hS 0 rfl rfl 5 (by decide) (hts (.fieldLink RX4 22 "LentCourage$Port" "who" "[I") (List.mem_of_getElem? (i := 8) rfl)) (fun _ h9 => h9) rfl hin rfl (tyX4_ok 5 (by decide)) rfl rfl (Nat.le_of_ble_eq_true rfl) dX4_init_28 (fun H locs hP hD hS => ?_)
  have hP : va_P D vwCl [ob q_t 4 [.int (15 : Int32), .int (3 : Int32), .int 0, .int 0, .ref q18, .ref q26, .null, .null, .null, .null], ia C q18 6 (fun _ => 0), ia C q26 8 (fun _ => 0)] H := hP
  have hD : va_D A [ob q_t 4 [.int (15 : Int32), .int (3 : Int32), .int 0, .int 0, .ref q18, .ref q26, .null, .null, .null, .null], ia C q18 6 (fun _ => 0), ia C q26 8 (fun _ => 0)] := hD
  refine lv_aload_n hx hb dX4_init_31 rfl (lv_at hl 0 rfl) ?_
  refine lv_bipush (v := (8 : Int32)) hx hb dX4_init_32 (by decide) ?_
  refine nw_I (N := 8) hx hb (hts (.arrayClass .int) (List.mem_of_getElem? (i := 6) rfl)) hK hP hD hS hA (by decide) (by decide) (by decide) (Nat.le_of_ble_eq_true rfl) (Nat.le_of_ble_eq_true rfl) dX4_init_34 (fun q34 H hP hD hS => ?_)
  have hP : va_P D vwCl [ob q_t 4 [.int (15 : Int32), .int (3 : Int32), .int 0, .int 0, .ref q18, .ref q26, .null, .null, .null, .null], ia C q18 6 (fun _ => 0), ia C q26 8 (fun _ => 0), ia C q34 8 (fun _ => 0)] H := hP
  have hD : va_D A [ob q_t 4 [.int (15 : Int32), .int (3 : Int32), .int 0, .int 0, .ref q18, .ref q26, .null, .null, .null, .null], ia C q18 6 (fun _ => 0), ia C q26 8 (fun _ => 0), ia C q34 8 (fun _ => 0)] := hD
  refine va_putF (D := D) (ci := 4) (v := .ref q34) (ty := .array .int) (C := RX4) (T := TX4) (N := 10) hx hb hts inC tyX4 tyX4_ok nmX4 hown hK hP hD hS 0 rfl rfl 6 (by decide) (hts (.fieldLink RX4 25 "LentCourage$Port" "place" "[I") (List.mem_of_getElem? (i := 9) rfl)) (fun _ h9 => h9) rfl hin rfl (tyX4_ok 6 (by decide)) rfl rfl (Nat.le_of_ble_eq_true rfl) dX4_init_36 (fun H locs hP hD hS => ?_)
  have hP : va_P D vwCl [ob q_t 4 [.int (15 : Int32), .int (3 : Int32), .int 0, .int 0, .ref q18, .ref q26, .ref q34, .null, .null, .null], ia C q18 6 (fun _ => 0), ia C q26 8 (fun _ => 0), ia C q34 8 (fun _ => 0)] H := hP
  have hD : va_D A [ob q_t 4 [.int (15 : Int32), .int (3 : Int32), .int 0, .int 0, .ref q18, .ref q26, .ref q34, .null, .null, .null], ia C q18 6 (fun _ => 0), ia C q26 8 (fun _ => 0), ia C q34 8 (fun _ => 0)] := hD
  refine lv_aload_n hx hb dX4_init_39 rfl (lv_at hl 0 rfl) ?_
  refine lv_bipush (v := (8 : Int32)) hx hb dX4_init_40 (by decide) ?_
  refine nw_I (N := 8) hx hb (hts (.arrayClass .int) (List.mem_of_getElem? (i := 6) rfl)) hK hP hD hS hA (by decide) (by decide) (by decide) (Nat.le_of_ble_eq_true rfl) (Nat.le_of_ble_eq_true rfl) dX4_init_42 (fun q42 H hP hD hS => ?_)
  have hP : va_P D vwCl [ob q_t 4 [.int (15 : Int32), .int (3 : Int32), .int 0, .int 0, .ref q18, .ref q26, .ref q34, .null, .null, .null], ia C q18 6 (fun _ => 0), ia C q26 8 (fun _ => 0), ia C q34 8 (fun _ => 0), ia C q42 8 (fun _ => 0)] H := hP
  have hD : va_D A [ob q_t 4 [.int (15 : Int32), .int (3 : Int32), .int 0, .int 0, .ref q18, .ref q26, .ref q34, .null, .null, .null], ia C q18 6 (fun _ => 0), ia C q26 8 (fun _ => 0), ia C q34 8 (fun _ => 0), ia C q42 8 (fun _ => 0)] := hD
  refine va_putF (D := D) (ci := 4) (v := .ref q42) (ty := .array .int) (C := RX4) (T := TX4) (N := 10) hx hb hts inC tyX4 tyX4_ok nmX4 hown hK hP hD hS 0 rfl rfl 7 (by decide) (hts (.fieldLink RX4 28 "LentCourage$Port" "from" "[I") (List.mem_of_getElem? (i := 10) rfl)) (fun _ h9 => h9) rfl hin rfl (tyX4_ok 7 (by decide)) rfl rfl (Nat.le_of_ble_eq_true rfl) dX4_init_44 (fun H locs hP hD hS => ?_)
  have hP : va_P D vwCl [ob q_t 4 [.int (15 : Int32), .int (3 : Int32), .int 0, .int 0, .ref q18, .ref q26, .ref q34, .ref q42, .null, .null], ia C q18 6 (fun _ => 0), ia C q26 8 (fun _ => 0), ia C q34 8 (fun _ => 0), ia C q42 8 (fun _ => 0)] H := hP
  have hD : va_D A [ob q_t 4 [.int (15 : Int32), .int (3 : Int32), .int 0, .int 0, .ref q18, .ref q26, .ref q34, .ref q42, .null, .null], ia C q18 6 (fun _ => 0), ia C q26 8 (fun _ => 0), ia C q34 8 (fun _ => 0), ia C q42 8 (fun _ => 0)] := hD
  refine lv_aload_n hx hb dX4_init_47 rfl (lv_at hl 0 rfl) ?_
  refine lv_bipush (v := (8 : Int32)) hx hb dX4_init_48 (by decide) ?_
  refine nw_I (N := 8) hx hb (hts (.arrayClass .int) (List.mem_of_getElem? (i := 6) rfl)) hK hP hD hS hA (by decide) (by decide) (by decide) (Nat.le_of_ble_eq_true rfl) (Nat.le_of_ble_eq_true rfl) dX4_init_50 (fun q50 H hP hD hS => ?_)
  have hP : va_P D vwCl [ob q_t 4 [.int (15 : Int32), .int (3 : Int32), .int 0, .int 0, .ref q18, .ref q26, .ref q34, .ref q42, .null, .null], ia C q18 6 (fun _ => 0), ia C q26 8 (fun _ => 0), ia C q34 8 (fun _ => 0), ia C q42 8 (fun _ => 0), ia C q50 8 (fun _ => 0)] H := hP
  have hD : va_D A [ob q_t 4 [.int (15 : Int32), .int (3 : Int32), .int 0, .int 0, .ref q18, .ref q26, .ref q34, .ref q42, .null, .null], ia C q18 6 (fun _ => 0), ia C q26 8 (fun _ => 0), ia C q34 8 (fun _ => 0), ia C q42 8 (fun _ => 0), ia C q50 8 (fun _ => 0)] := hD
  refine va_putF (D := D) (ci := 4) (v := .ref q50) (ty := .array .int) (C := RX4) (T := TX4) (N := 10) hx hb hts inC tyX4 tyX4_ok nmX4 hown hK hP hD hS 0 rfl rfl 8 (by decide) (hts (.fieldLink RX4 31 "LentCourage$Port" "till" "[I") (List.mem_of_getElem? (i := 11) rfl)) (fun _ h9 => h9) rfl hin rfl (tyX4_ok 8 (by decide)) rfl rfl (Nat.le_of_ble_eq_true rfl) dX4_init_52 (fun H locs hP hD hS => ?_)
  have hP : va_P D vwCl [ob q_t 4 [.int (15 : Int32), .int (3 : Int32), .int 0, .int 0, .ref q18, .ref q26, .ref q34, .ref q42, .ref q50, .null], ia C q18 6 (fun _ => 0), ia C q26 8 (fun _ => 0), ia C q34 8 (fun _ => 0), ia C q42 8 (fun _ => 0), ia C q50 8 (fun _ => 0)] H := hP
  have hD : va_D A [ob q_t 4 [.int (15 : Int32), .int (3 : Int32), .int 0, .int 0, .ref q18, .ref q26, .ref q34, .ref q42, .ref q50, .null], ia C q18 6 (fun _ => 0), ia C q26 8 (fun _ => 0), ia C q34 8 (fun _ => 0), ia C q42 8 (fun _ => 0), ia C q50 8 (fun _ => 0)] := hD
  refine lv_aload_n hx hb dX4_init_55 rfl (lv_at hl 0 rfl) ?_
  refine lv_bipush (v := (8 : Int32)) hx hb dX4_init_56 (by decide) ?_
  refine nw_I (N := 8) hx hb (hts (.arrayClass .int) (List.mem_of_getElem? (i := 6) rfl)) hK hP hD hS hA (by decide) (by decide) (by decide) (Nat.le_of_ble_eq_true rfl) (Nat.le_of_ble_eq_true rfl) dX4_init_58 (fun q58 H hP hD hS => ?_)
  have hP : va_P D vwCl [ob q_t 4 [.int (15 : Int32), .int (3 : Int32), .int 0, .int 0, .ref q18, .ref q26, .ref q34, .ref q42, .ref q50, .null], ia C q18 6 (fun _ => 0), ia C q26 8 (fun _ => 0), ia C q34 8 (fun _ => 0), ia C q42 8 (fun _ => 0), ia C q50 8 (fun _ => 0), ia C q58 8 (fun _ => 0)] H := hP
  have hD : va_D A [ob q_t 4 [.int (15 : Int32), .int (3 : Int32), .int 0, .int 0, .ref q18, .ref q26, .ref q34, .ref q42, .ref q50, .null], ia C q18 6 (fun _ => 0), ia C q26 8 (fun _ => 0), ia C q34 8 (fun _ => 0), ia C q42 8 (fun _ => 0), ia C q50 8 (fun _ => 0), ia C q58 8 (fun _ => 0)] := hD
  refine va_putF (D := D) (ci := 4) (v := .ref q58) (ty := .array .int) (C := RX4) (T := TX4) (N := 10) hx hb hts inC tyX4 tyX4_ok nmX4 hown hK hP hD hS 0 rfl rfl 9 (by decide) (hts (.fieldLink RX4 34 "LentCourage$Port" "worth" "[I") (List.mem_of_getElem? (i := 12) rfl)) (fun _ h9 => h9) rfl hin rfl (tyX4_ok 9 (by decide)) rfl rfl (Nat.le_of_ble_eq_true rfl) dX4_init_60 (fun H locs hP hD hS => ?_)
  have hP : va_P D vwCl [ob q_t 4 [.int (15 : Int32), .int (3 : Int32), .int 0, .int 0, .ref q18, .ref q26, .ref q34, .ref q42, .ref q50, .ref q58], ia C q18 6 (fun _ => 0), ia C q26 8 (fun _ => 0), ia C q34 8 (fun _ => 0), ia C q42 8 (fun _ => 0), ia C q50 8 (fun _ => 0), ia C q58 8 (fun _ => 0)] H := hP
  have hD : va_D A [ob q_t 4 [.int (15 : Int32), .int (3 : Int32), .int 0, .int 0, .ref q18, .ref q26, .ref q34, .ref q42, .ref q50, .ref q58], ia C q18 6 (fun _ => 0), ia C q26 8 (fun _ => 0), ia C q34 8 (fun _ => 0), ia C q42 8 (fun _ => 0), ia C q50 8 (fun _ => 0), ia C q58 8 (fun _ => 0)] := hD
  refine W.widen (k := 6) (n := 46) (by omega) (by omega) ?_
  exact ret_C (fun j => if j = 0 then q_t else if j = 1 then q18 else if j = 2 then q26 else if j = 3 then q34 else if j = 4 then q42 else if j = 5 then q50 else q58) rfl hx hb hr hlocks hK hP hD hS dX4_init_63

abbrev wX5 (C : Nat → ClassId) (u : Nat → Nat) : va_W := [ob (u 0) 5 [.int 0, .int 0]]
theorem hd_X5_init : yX5_init.cls ≠ "java/lang/invoke/MethodHandle" ∧ yX5_init.cls ≠ "java/lang/invoke/VarHandle" ∧ (parseMethodDescriptor yX5_init.desc).map (fun d => d.parameters.length) = some 0 := by decide +kernel
set_option maxHeartbeats 4000000 in
set_option maxRecDepth 100000 in
theorem k_X5_init (l : Launch) (D : va_G) (C : Nat → ClassId) (q_t sz : Nat) : MC l yX5_init wsX5_init ({ frames := 1, cells := 0, slots := 0, locals := 12 }) D C [.ref q_t] [ob q_t 5 [.int 0, .int 0]] (fun _ => True) (fun u : Nat → Nat => u 0 = q_t) (wX5 C) sz 0 0 := by
  refine en_C (by decide) rfl (Nat.le_of_ble_eq_true rfl) ?_
  intro p e s m below meth c A ls H locs hx hb hr hlocks hml hts hown hin _ hK hP hD hS hA hl
  have hl : lv_has ls 1 [(0, .ref q_t)] := hl
  refine lv_aload_n hx hb dX5_init_0 rfl (lv_at hl 0 rfl) ?_
  refine W.objInit hx hb hown (hts (.methodLink RX5 3 objectInit) (List.mem_of_getElem? (i := 1) rfl)) (hts (.instanceMethod objectInit) (List.mem_of_getElem? (i := 2) rfl)) (hts (.code objectInit ⟨#[0xb1]⟩ 1 none) (List.mem_of_getElem? (i := 3) rfl)) rfl (by rw [hml]; exact hl.1) rfl dX5_init_1 (Nat.le_of_ble_eq_true rfl) (Nat.le_of_ble_eq_true rfl) ?_
  refine W.eq (g2 := F0 m 4 ls []) rfl ?_
  refine W.widen (k := 0) (n := 0) (by omega) (by omega) ?_
  exact ret_C (fun j => if j = 0 then q_t else q_t) rfl hx hb hr hlocks hK hP hD hS dX5_init_4

abbrev wX6 (C : Nat → ClassId) (u : Nat → Nat) : va_W := [ob (u 0) 6 [.ref (u 1), .int 0, .int 0, .int 0, .ref (u 2)], ia C (u 1) 8 (fun _ => 0), ia C (u 2) 8 (fun _ => 0)]
theorem hd_X6_init : yX6_init.cls ≠ "java/lang/invoke/MethodHandle" ∧ yX6_init.cls ≠ "java/lang/invoke/VarHandle" ∧ (parseMethodDescriptor yX6_init.desc).map (fun d => d.parameters.length) = some 0 := by decide +kernel
set_option maxHeartbeats 4000000 in
set_option maxRecDepth 100000 in
theorem k_X6_init (l : Launch) (D : va_G) (C : Nat → ClassId) (q_t sz : Nat) : MC l yX6_init wsX6_init ({ frames := 1, cells := 2, slots := 16, locals := 12 }) D C [.ref q_t] [ob q_t 6 [.null, .int 0, .int 0, .int 0, .null]] (fun _ => True) (fun u : Nat → Nat => u 0 = q_t) (wX6 C) sz 2 16 := by
  refine en_C (by decide) rfl (Nat.le_of_ble_eq_true rfl) ?_
  intro p e s m below meth c A ls H locs hx hb hr hlocks hml hts hown hin _ hK hP hD hS hA hl
  have hl : lv_has ls 1 [(0, .ref q_t)] := hl
  have inC : ∀ w ∈ u_ws RX6 TX6 5, w ∈ wsX6_init := fun w h => List.mem_cons_of_mem _ (List.mem_append_right _ h)
  refine lv_aload_n hx hb dX6_init_0 rfl (lv_at hl 0 rfl) ?_
  refine W.objInit hx hb hown (hts (.methodLink RX6 3 objectInit) (List.mem_of_getElem? (i := 1) rfl)) (hts (.instanceMethod objectInit) (List.mem_of_getElem? (i := 2) rfl)) (hts (.code objectInit ⟨#[0xb1]⟩ 1 none) (List.mem_of_getElem? (i := 3) rfl)) rfl (by rw [hml]; exact hl.1) rfl dX6_init_1 (Nat.le_of_ble_eq_true rfl) (Nat.le_of_ble_eq_true rfl) ?_
  refine W.eq (g2 := F0 m 4 ls []) rfl ?_
  refine lv_aload_n hx hb dX6_init_4 rfl (lv_at hl 0 rfl) ?_
  refine lv_bipush (v := (8 : Int32)) hx hb dX6_init_5 (by decide) ?_
  refine nw_I (N := 8) hx hb (hts (.arrayClass .int) (List.mem_of_getElem? (i := 4) rfl)) hK hP hD hS hA (by decide) (by decide) (by decide) (Nat.le_of_ble_eq_true rfl) (Nat.le_of_ble_eq_true rfl) dX6_init_7 (fun q7 H hP hD hS => ?_)
  have hP : va_P D vwCl [ob q_t 6 [.null, .int 0, .int 0, .int 0, .null], ia C q7 8 (fun _ => 0)] H := hP
  have hD : va_D A [ob q_t 6 [.null, .int 0, .int 0, .int 0, .null], ia C q7 8 (fun _ => 0)] := hD
  refine va_putF (D := D) (ci := 6) (v := .ref q7) (ty := .array .int) (C := RX6) (T := TX6) (N := 5) hx hb hts inC tyX6 tyX6_ok nmX6 hown hK hP hD hS 0 rfl rfl 0 (by decide) (hts (.fieldLink RX6 9 "LentCourage$Round" "row" "[I") (List.mem_of_getElem? (i := 5) rfl)) (fun _ h9 => h9) rfl hin rfl (tyX6_ok 0 (by decide)) rfl rfl (Nat.le_of_ble_eq_true rfl) dX6_init_9 (fun H locs hP hD hS => ?_)
  have hP : va_P D vwCl [ob q_t 6 [.ref q7, .int 0, .int 0, .int 0, .null], ia C q7 8 (fun _ => 0)] H := hP
  have hD : va_D A [ob q_t 6 [.ref q7, .int 0, .int 0, .int 0, .null], ia C q7 8 (fun _ => 0)] := hD
  refine lv_aload_n hx hb dX6_init_12 rfl (lv_at hl 0 rfl) ?_
  refine lv_bipush (v := (8 : Int32)) hx hb dX6_init_13 (by decide) ?_
  refine nw_I (N := 8) hx hb (hts (.arrayClass .int) (List.mem_of_getElem? (i := 4) rfl)) hK hP hD hS hA (by decide) (by decide) (by decide) (Nat.le_of_ble_eq_true rfl) (Nat.le_of_ble_eq_true rfl) dX6_init_15 (fun q15 H hP hD hS => ?_)
  have hP : va_P D vwCl [ob q_t 6 [.ref q7, .int 0, .int 0, .int 0, .null], ia C q7 8 (fun _ => 0), ia C q15 8 (fun _ => 0)] H := hP
  have hD : va_D A [ob q_t 6 [.ref q7, .int 0, .int 0, .int 0, .null], ia C q7 8 (fun _ => 0), ia C q15 8 (fun _ => 0)] := hD
  refine va_putF (D := D) (ci := 6) (v := .ref q15) (ty := .array .int) (C := RX6) (T := TX6) (N := 5) hx hb hts inC tyX6 tyX6_ok nmX6 hown hK hP hD hS 0 rfl rfl 4 (by decide) (hts (.fieldLink RX6 15 "LentCourage$Round" "tried" "[I") (List.mem_of_getElem? (i := 6) rfl)) (fun _ h9 => h9) rfl hin rfl (tyX6_ok 4 (by decide)) rfl rfl (Nat.le_of_ble_eq_true rfl) dX6_init_17 (fun H locs hP hD hS => ?_)
  have hP : va_P D vwCl [ob q_t 6 [.ref q7, .int 0, .int 0, .int 0, .ref q15], ia C q7 8 (fun _ => 0), ia C q15 8 (fun _ => 0)] H := hP
  have hD : va_D A [ob q_t 6 [.ref q7, .int 0, .int 0, .int 0, .ref q15], ia C q7 8 (fun _ => 0), ia C q15 8 (fun _ => 0)] := hD
  refine W.widen (k := 2) (n := 16) (by omega) (by omega) ?_
  exact ret_C (fun j => if j = 0 then q_t else if j = 1 then q7 else q15) rfl hx hb hr hlocks hK hP hD hS dX6_init_20

abbrev wX7 (C : Nat → ClassId) (u : Nat → Nat) : va_W := [ob (u 0) 7 [.ref (u 1), .int 0], ia C (u 1) 8 (fun _ => 0)]
theorem hd_X7_init : yX7_init.cls ≠ "java/lang/invoke/MethodHandle" ∧ yX7_init.cls ≠ "java/lang/invoke/VarHandle" ∧ (parseMethodDescriptor yX7_init.desc).map (fun d => d.parameters.length) = some 0 := by decide +kernel
set_option maxHeartbeats 4000000 in
set_option maxRecDepth 100000 in
theorem k_X7_init (l : Launch) (D : va_G) (C : Nat → ClassId) (q_t sz : Nat) : MC l yX7_init wsX7_init ({ frames := 1, cells := 1, slots := 8, locals := 12 }) D C [.ref q_t] [ob q_t 7 [.null, .int 0]] (fun _ => True) (fun u : Nat → Nat => u 0 = q_t) (wX7 C) sz 1 8 := by
  refine en_C (by decide) rfl (Nat.le_of_ble_eq_true rfl) ?_
  intro p e s m below meth c A ls H locs hx hb hr hlocks hml hts hown hin _ hK hP hD hS hA hl
  have hl : lv_has ls 1 [(0, .ref q_t)] := hl
  have inC : ∀ w ∈ u_ws RX7 TX7 2, w ∈ wsX7_init := fun w h => List.mem_cons_of_mem _ (List.mem_append_right _ h)
  refine lv_aload_n hx hb dX7_init_0 rfl (lv_at hl 0 rfl) ?_
  refine W.objInit hx hb hown (hts (.methodLink RX7 3 objectInit) (List.mem_of_getElem? (i := 1) rfl)) (hts (.instanceMethod objectInit) (List.mem_of_getElem? (i := 2) rfl)) (hts (.code objectInit ⟨#[0xb1]⟩ 1 none) (List.mem_of_getElem? (i := 3) rfl)) rfl (by rw [hml]; exact hl.1) rfl dX7_init_1 (Nat.le_of_ble_eq_true rfl) (Nat.le_of_ble_eq_true rfl) ?_
  refine W.eq (g2 := F0 m 4 ls []) rfl ?_
  refine lv_aload_n hx hb dX7_init_4 rfl (lv_at hl 0 rfl) ?_
  refine lv_bipush (v := (8 : Int32)) hx hb dX7_init_5 (by decide) ?_
  refine nw_I (N := 8) hx hb (hts (.arrayClass .int) (List.mem_of_getElem? (i := 4) rfl)) hK hP hD hS hA (by decide) (by decide) (by decide) (Nat.le_of_ble_eq_true rfl) (Nat.le_of_ble_eq_true rfl) dX7_init_7 (fun q7 H hP hD hS => ?_)
  have hP : va_P D vwCl [ob q_t 7 [.null, .int 0], ia C q7 8 (fun _ => 0)] H := hP
  have hD : va_D A [ob q_t 7 [.null, .int 0], ia C q7 8 (fun _ => 0)] := hD
  refine va_putF (D := D) (ci := 7) (v := .ref q7) (ty := .array .int) (C := RX7) (T := TX7) (N := 2) hx hb hts inC tyX7 tyX7_ok nmX7 hown hK hP hD hS 0 rfl rfl 0 (by decide) (hts (.fieldLink RX7 9 "LentCourage$SpoonCount" "leader" "[I") (List.mem_of_getElem? (i := 5) rfl)) (fun _ h9 => h9) rfl hin rfl (tyX7_ok 0 (by decide)) rfl rfl (Nat.le_of_ble_eq_true rfl) dX7_init_9 (fun H locs hP hD hS => ?_)
  have hP : va_P D vwCl [ob q_t 7 [.ref q7, .int 0], ia C q7 8 (fun _ => 0)] H := hP
  have hD : va_D A [ob q_t 7 [.ref q7, .int 0], ia C q7 8 (fun _ => 0)] := hD
  refine W.widen (k := 1) (n := 8) (by omega) (by omega) ?_
  exact ret_C (fun j => if j = 0 then q_t else q7) rfl hx hb hr hlocks hK hP hD hS dX7_init_12

abbrev wX8 (C : Nat → ClassId) (u : Nat → Nat) : va_W := [ob (u 0) 8 [.ref (u 1), .int 0, .int 0, .int 0, .int 0, .int 0], ia C (u 1) 180 (fun _ => 0)]
theorem hd_X8_init : yX8_init.cls ≠ "java/lang/invoke/MethodHandle" ∧ yX8_init.cls ≠ "java/lang/invoke/VarHandle" ∧ (parseMethodDescriptor yX8_init.desc).map (fun d => d.parameters.length) = some 0 := by decide +kernel
set_option maxHeartbeats 4000000 in
set_option maxRecDepth 100000 in
theorem k_X8_init (l : Launch) (D : va_G) (C : Nat → ClassId) (q_t sz : Nat) : MC l yX8_init wsX8_init ({ frames := 1, cells := 1, slots := 180, locals := 12 }) D C [.ref q_t] [ob q_t 8 [.null, .int 0, .int 0, .int 0, .int 0, .int 0]] (fun _ => True) (fun u : Nat → Nat => u 0 = q_t) (wX8 C) sz 1 180 := by
  refine en_C (by decide) rfl (Nat.le_of_ble_eq_true rfl) ?_
  intro p e s m below meth c A ls H locs hx hb hr hlocks hml hts hown hin _ hK hP hD hS hA hl
  have hl : lv_has ls 1 [(0, .ref q_t)] := hl
  have inC : ∀ w ∈ u_ws RX8 TX8 6, w ∈ wsX8_init := fun w h => List.mem_cons_of_mem _ (List.mem_append_right _ h)
  refine lv_aload_n hx hb dX8_init_0 rfl (lv_at hl 0 rfl) ?_
  refine W.objInit hx hb hown (hts (.methodLink RX8 3 objectInit) (List.mem_of_getElem? (i := 1) rfl)) (hts (.instanceMethod objectInit) (List.mem_of_getElem? (i := 2) rfl)) (hts (.code objectInit ⟨#[0xb1]⟩ 1 none) (List.mem_of_getElem? (i := 3) rfl)) rfl (by rw [hml]; exact hl.1) rfl dX8_init_1 (Nat.le_of_ble_eq_true rfl) (Nat.le_of_ble_eq_true rfl) ?_
  refine W.eq (g2 := F0 m 4 ls []) rfl ?_
  refine lv_aload_n hx hb dX8_init_4 rfl (lv_at hl 0 rfl) ?_
  refine lv_sipush (v := (180 : Int32)) hx hb dX8_init_5 (by decide) ?_
  refine nw_I (N := 180) hx hb (hts (.arrayClass .int) (List.mem_of_getElem? (i := 4) rfl)) hK hP hD hS hA (by decide) (by decide) (by decide) (Nat.le_of_ble_eq_true rfl) (Nat.le_of_ble_eq_true rfl) dX8_init_8 (fun q8 H hP hD hS => ?_)
  have hP : va_P D vwCl [ob q_t 8 [.null, .int 0, .int 0, .int 0, .int 0, .int 0], ia C q8 180 (fun _ => 0)] H := hP
  have hD : va_D A [ob q_t 8 [.null, .int 0, .int 0, .int 0, .int 0, .int 0], ia C q8 180 (fun _ => 0)] := hD
  refine va_putF (D := D) (ci := 8) (v := .ref q8) (ty := .array .int) (C := RX8) (T := TX8) (N := 6) hx hb hts inC tyX8 tyX8_ok nmX8 hown hK hP hD hS 0 rfl rfl 0 (by decide) (hts (.fieldLink RX8 9 "LentCourage$Text" "bytes" "[I") (List.mem_of_getElem? (i := 5) rfl)) (fun _ h9 => h9) rfl hin rfl (tyX8_ok 0 (by decide)) rfl rfl (Nat.le_of_ble_eq_true rfl) dX8_init_10 (fun H locs hP hD hS => ?_)
  have hP : va_P D vwCl [ob q_t 8 [.ref q8, .int 0, .int 0, .int 0, .int 0, .int 0], ia C q8 180 (fun _ => 0)] H := hP
  have hD : va_D A [ob q_t 8 [.ref q8, .int 0, .int 0, .int 0, .int 0, .int 0], ia C q8 180 (fun _ => 0)] := hD
  refine W.widen (k := 1) (n := 180) (by omega) (by omega) ?_
  exact ret_C (fun j => if j = 0 then q_t else q8) rfl hx hb hr hlocks hK hP hD hS dX8_init_13

abbrev wX9 (C : Nat → ClassId) (u : Nat → Nat) : va_W := [ob (u 0) 9 [.ref (u 1), .int 0, .int 0, .int 0], ia C (u 1) 6 (fun _ => 0)]
theorem hd_X9_init : yX9_init.cls ≠ "java/lang/invoke/MethodHandle" ∧ yX9_init.cls ≠ "java/lang/invoke/VarHandle" ∧ (parseMethodDescriptor yX9_init.desc).map (fun d => d.parameters.length) = some 0 := by decide +kernel
set_option maxHeartbeats 4000000 in
set_option maxRecDepth 100000 in
theorem k_X9_init (l : Launch) (D : va_G) (C : Nat → ClassId) (q_t sz : Nat) : MC l yX9_init wsX9_init ({ frames := 1, cells := 1, slots := 6, locals := 12 }) D C [.ref q_t] [ob q_t 9 [.null, .int 0, .int 0, .int 0]] (fun _ => True) (fun u : Nat → Nat => u 0 = q_t) (wX9 C) sz 1 6 := by
  refine en_C (by decide) rfl (Nat.le_of_ble_eq_true rfl) ?_
  intro p e s m below meth c A ls H locs hx hb hr hlocks hml hts hown hin _ hK hP hD hS hA hl
  have hl : lv_has ls 1 [(0, .ref q_t)] := hl
  have inC : ∀ w ∈ u_ws RX9 TX9 4, w ∈ wsX9_init := fun w h => List.mem_cons_of_mem _ (List.mem_append_right _ h)
  refine lv_aload_n hx hb dX9_init_0 rfl (lv_at hl 0 rfl) ?_
  refine W.objInit hx hb hown (hts (.methodLink RX9 3 objectInit) (List.mem_of_getElem? (i := 1) rfl)) (hts (.instanceMethod objectInit) (List.mem_of_getElem? (i := 2) rfl)) (hts (.code objectInit ⟨#[0xb1]⟩ 1 none) (List.mem_of_getElem? (i := 3) rfl)) rfl (by rw [hml]; exact hl.1) rfl dX9_init_1 (Nat.le_of_ble_eq_true rfl) (Nat.le_of_ble_eq_true rfl) ?_
  refine W.eq (g2 := F0 m 4 ls []) rfl ?_
  refine lv_aload_n hx hb dX9_init_4 rfl (lv_at hl 0 rfl) ?_
  refine lv_bipush (v := (6 : Int32)) hx hb dX9_init_5 (by decide) ?_
  refine nw_I (N := 6) hx hb (hts (.arrayClass .int) (List.mem_of_getElem? (i := 4) rfl)) hK hP hD hS hA (by decide) (by decide) (by decide) (Nat.le_of_ble_eq_true rfl) (Nat.le_of_ble_eq_true rfl) dX9_init_7 (fun q7 H hP hD hS => ?_)
  have hP : va_P D vwCl [ob q_t 9 [.null, .int 0, .int 0, .int 0], ia C q7 6 (fun _ => 0)] H := hP
  have hD : va_D A [ob q_t 9 [.null, .int 0, .int 0, .int 0], ia C q7 6 (fun _ => 0)] := hD
  refine va_putF (D := D) (ci := 9) (v := .ref q7) (ty := .array .int) (C := RX9) (T := TX9) (N := 4) hx hb hts inC tyX9 tyX9_ok nmX9 hown hK hP hD hS 0 rfl rfl 0 (by decide) (hts (.fieldLink RX9 9 "LentCourage$Way" "at" "[I") (List.mem_of_getElem? (i := 5) rfl)) (fun _ h9 => h9) rfl hin rfl (tyX9_ok 0 (by decide)) rfl rfl (Nat.le_of_ble_eq_true rfl) dX9_init_9 (fun H locs hP hD hS => ?_)
  have hP : va_P D vwCl [ob q_t 9 [.ref q7, .int 0, .int 0, .int 0], ia C q7 6 (fun _ => 0)] H := hP
  have hD : va_D A [ob q_t 9 [.ref q7, .int 0, .int 0, .int 0], ia C q7 6 (fun _ => 0)] := hD
  refine W.widen (k := 1) (n := 6) (by omega) (by omega) ?_
  exact ret_C (fun j => if j = 0 then q_t else q7) rfl hx hb hr hlocks hK hP hD hS dX9_init_12
