/-! written by gen.py: 11.moment -/
def fX2_isHeld (v_t_holder : Int32) : Option (Int32) :=
  some (if v_t_holder < 0 then (0 : Int32) else (1 : Int32))
theorem hd_X2_isHeld : yX2_isHeld.cls = RX2 ∧ yX2_isHeld.cls ≠ "java/lang/invoke/MethodHandle" ∧ yX2_isHeld.cls ≠ "java/lang/invoke/VarHandle" ∧ (parseMethodDescriptor yX2_isHeld.desc).map (fun d => d.parameters.length) = some 0 := by decide +kernel
set_option maxHeartbeats 4000000 in
set_option maxRecDepth 100000 in
theorem k_X2_isHeld (l : Launch) (D : va_G) (C : Nat → ClassId) (q_t : Nat) (q_t_at : Nat) (q_t_lastHeld : Nat) (q_t_owed : Nat) (v_t_hour : Int32) (v_t_holder : Int32) (v_t_since : Int32) (v_t_fresh : Int32) (v_t_done : Int32) (sz : Nat) (out : Int32) (hf : fX2_isHeld v_t_holder = some out) : MI l yX2_isHeld wsX2_isHeld ({ frames := 0, cells := 0, slots := 0, locals := 0 }) D C [.ref q_t] [ob q_t 2 [.int v_t_hour, .int v_t_holder, .int v_t_since, .int v_t_fresh, .int v_t_done, .ref q_t_at, .ref q_t_lastHeld, .ref q_t_owed]] [ob q_t 2 [.int v_t_hour, .int v_t_holder, .int v_t_since, .int v_t_fresh, .int v_t_done, .ref q_t_at, .ref q_t_lastHeld, .ref q_t_owed]] sz (out) := by
  unfold fX2_isHeld at hf
  refine en_I (by decide) rfl (Nat.le_of_ble_eq_true rfl) ?_
  intro p e s m below meth c A ls H locs hx hb hr hlocks hml hts hown hK hP hD hS hA hl
  have hl : lv_has ls 1 [(0, .ref q_t)] := hl
  have inX2 : ∀ w ∈ u_ws RX2 TX2 8, w ∈ wsX2_isHeld := fun w h => List.mem_cons_of_mem _ (List.mem_append_right _ h)
  refine lv_aload_n hx hb dX2_isHeld_0 rfl (lv_at hl 0 rfl) ?_
  refine va_get (D := D) (ci := 2) (v := .int v_t_holder) (C := RX2) (T := TX2) (N := 8) hx hb hts inX2 hown hK hP 0 rfl rfl 1 (by decide) (hts (.fieldLink RX2 9 "LentCourage$Moment" "holder" "I") (List.mem_of_getElem? (i := 1) rfl)) (fun _ h9 => h9) rfl dX2_isHeld_1 ?_
  refine jp (g2 := F0 m 12 ls [.int (if v_t_holder < 0 then (0 : Int32) else (1 : Int32))]) ?_ (fun JP => ?_)
  · obtain rfl := Option.some.inj hf
    exact ret_Z hx hb hr hlocks (by repeat (first | exact okZ_0 | exact okZ_1 | apply okZ_ite)) hK hP hD hS dX2_isHeld_12
  · refine lv_if_lt (tgt := 11) hx hb dX2_isHeld_4 (by decide) (fun c1 => ?_) (fun c1 => ?_)
    · refine lv_iconst (v := (0 : Int32)) hx hb dX2_isHeld_11 (by decide) ?_
      exact W.eq (congrArg (fun x => F0 m 12 ls (Value.int x :: [])) (if_pos c1).symm) JP
    · refine lv_iconst (v := (1 : Int32)) hx hb dX2_isHeld_7 (by decide) ?_
      refine lv_goto (tgt := 12) hx hb dX2_isHeld_8 (by decide) ?_
      exact W.eq (congrArg (fun x => F0 m 12 ls (Value.int x :: [])) (if_neg c1).symm) JP

def fX2_isDone (v_t_done : Int32) (p1 : Int32) : Option (Int32) :=
  some (if ((v_t_done >>> (p1 &&& 31)) &&& (1 : Int32)) = (1 : Int32) then (1 : Int32) else (0 : Int32))
theorem hd_X2_isDone : yX2_isDone.cls = RX2 ∧ yX2_isDone.cls ≠ "java/lang/invoke/MethodHandle" ∧ yX2_isDone.cls ≠ "java/lang/invoke/VarHandle" ∧ (parseMethodDescriptor yX2_isDone.desc).map (fun d => d.parameters.length) = some 1 := by decide +kernel
set_option maxHeartbeats 4000000 in
set_option maxRecDepth 100000 in
theorem k_X2_isDone (l : Launch) (D : va_G) (C : Nat → ClassId) (q_t : Nat) (q_t_at : Nat) (q_t_lastHeld : Nat) (q_t_owed : Nat) (v_t_hour : Int32) (v_t_holder : Int32) (v_t_since : Int32) (v_t_fresh : Int32) (v_t_done : Int32) (p1 : Int32) (sz : Nat) (out : Int32) (hf : fX2_isDone v_t_done p1 = some out) : MI l yX2_isDone wsX2_isDone ({ frames := 0, cells := 0, slots := 0, locals := 0 }) D C [.ref q_t, .int p1] [ob q_t 2 [.int v_t_hour, .int v_t_holder, .int v_t_since, .int v_t_fresh, .int v_t_done, .ref q_t_at, .ref q_t_lastHeld, .ref q_t_owed]] [ob q_t 2 [.int v_t_hour, .int v_t_holder, .int v_t_since, .int v_t_fresh, .int v_t_done, .ref q_t_at, .ref q_t_lastHeld, .ref q_t_owed]] sz (out) := by
  unfold fX2_isDone at hf
  refine en_I (by decide) rfl (Nat.le_of_ble_eq_true rfl) ?_
  intro p e s m below meth c A ls H locs hx hb hr hlocks hml hts hown hK hP hD hS hA hl
  have hl : lv_has ls 2 [(0, .ref q_t), (1, .int p1)] := hl
  have inX2 : ∀ w ∈ u_ws RX2 TX2 8, w ∈ wsX2_isDone := fun w h => List.mem_cons_of_mem _ (List.mem_append_right _ h)
  refine lv_aload_n hx hb dX2_isDone_0 rfl (lv_at hl 0 rfl) ?_
  refine va_get (D := D) (ci := 2) (v := .int v_t_done) (C := RX2) (T := TX2) (N := 8) hx hb hts inX2 hown hK hP 0 rfl rfl 4 (by decide) (hts (.fieldLink RX2 35 "LentCourage$Moment" "done" "I") (List.mem_of_getElem? (i := 1) rfl)) (fun _ h9 => h9) rfl dX2_isDone_1 ?_
  refine lv_iload_n hx hb dX2_isDone_4 rfl (lv_at hl 1 rfl) ?_
  refine lv_ishr hx hb dX2_isDone_5 ?_
  refine lv_iconst (v := (1 : Int32)) hx hb dX2_isDone_6 (by decide) ?_
  refine lv_iand hx hb dX2_isDone_7 ?_
  refine lv_iconst (v := (1 : Int32)) hx hb dX2_isDone_8 (by decide) ?_
  refine jp (g2 := F0 m 17 ls [.int (if ((v_t_done >>> (p1 &&& 31)) &&& (1 : Int32)) = (1 : Int32) then (1 : Int32) else (0 : Int32))]) ?_ (fun JP => ?_)
  · obtain rfl := Option.some.inj hf
    exact ret_Z hx hb hr hlocks (by repeat (first | exact okZ_0 | exact okZ_1 | apply okZ_ite)) hK hP hD hS dX2_isDone_17
  · refine lv_icmp_ne (tgt := 16) hx hb dX2_isDone_9 (by decide) (fun c1 => ?_) (fun c1 => ?_)
    · refine lv_iconst (v := (0 : Int32)) hx hb dX2_isDone_16 (by decide) ?_
      exact W.eq (congrArg (fun x => F0 m 17 ls (Value.int x :: [])) (if_neg c1).symm) JP
    · refine lv_iconst (v := (1 : Int32)) hx hb dX2_isDone_12 (by decide) ?_
      refine lv_goto (tgt := 17) hx hb dX2_isDone_13 (by decide) ?_
      exact W.eq (congrArg (fun x => F0 m 17 ls (Value.int x :: [])) (if_pos c1).symm) JP

def fX2_heldFor (v_t_hour : Int32) (v_t_holder : Int32) (v_t_since : Int32) : Option (Int32) :=
  (fX2_isHeld v_t_holder).bind (fun o1 => some (if o1 = 0 then (0 : Int32) else (v_t_hour - v_t_since)))
theorem hd_X2_heldFor : yX2_heldFor.cls = RX2 ∧ yX2_heldFor.cls ≠ "java/lang/invoke/MethodHandle" ∧ yX2_heldFor.cls ≠ "java/lang/invoke/VarHandle" ∧ (parseMethodDescriptor yX2_heldFor.desc).map (fun d => d.parameters.length) = some 0 := by decide +kernel
set_option maxHeartbeats 4000000 in
set_option maxRecDepth 100000 in
theorem k_X2_heldFor (l : Launch) (D : va_G) (C : Nat → ClassId) (q_t : Nat) (q_t_at : Nat) (q_t_lastHeld : Nat) (q_t_owed : Nat) (v_t_hour : Int32) (v_t_holder : Int32) (v_t_since : Int32) (v_t_fresh : Int32) (v_t_done : Int32) (sz : Nat) (out : Int32) (hf : fX2_heldFor v_t_hour v_t_holder v_t_since = some out) : MI l yX2_heldFor wsX2_heldFor ({ frames := 1, cells := 0, slots := 0, locals := 20 }) D C [.ref q_t] [ob q_t 2 [.int v_t_hour, .int v_t_holder, .int v_t_since, .int v_t_fresh, .int v_t_done, .ref q_t_at, .ref q_t_lastHeld, .ref q_t_owed]] [ob q_t 2 [.int v_t_hour, .int v_t_holder, .int v_t_since, .int v_t_fresh, .int v_t_done, .ref q_t_at, .ref q_t_lastHeld, .ref q_t_owed]] sz (out) := by
  unfold fX2_heldFor at hf
  refine en_I (by decide) rfl (Nat.le_of_ble_eq_true rfl) ?_
  intro p e s m below meth c A ls H locs hx hb hr hlocks hml hts hown hK hP hD hS hA hl
  have hl : lv_has ls 1 [(0, .ref q_t)] := hl
  have inX2 : ∀ w ∈ u_ws RX2 TX2 8, w ∈ wsX2_heldFor := fun w h => List.mem_cons_of_mem _ (List.mem_append_right _ h)
  refine lv_aload_n hx hb dX2_heldFor_0 rfl (lv_at hl 0 rfl) ?_
  obtain ⟨o1, ho1, hf⟩ := of_bind hf
  refine c_I (wr := []) (W2 := [ob q_t 2 [.int v_t_hour, .int v_t_holder, .int v_t_since, .int v_t_fresh, .int v_t_done, .ref q_t_at, .ref q_t_lastHeld, .ref q_t_owed]]) (cV_run ⟨hx, hb, hml, hown, hts⟩ (k_X2_isHeld l D C q_t q_t_at q_t_lastHeld q_t_owed v_t_hour v_t_holder v_t_since v_t_fresh v_t_done H.size o1 ho1) gX2_heldFor_X2_isHeld rfl ⟨rfl, rfl⟩ hd_X2_isHeld ⟨(Nat.le_of_ble_eq_true rfl), (Nat.le_of_ble_eq_true rfl)⟩ rfl hK (cut_in hK hP hD [0] rfl (by decide)) (ci := 2) rfl rfl rfl hl.1 rfl (Nat.le_of_ble_eq_true rfl) dX2_heldFor_1 ⟨Nat.zero_le _, Nat.zero_le _⟩) hP hD hS hA [0] [] [0] rfl rfl (by decide) (by decide) rfl (by decide) (fun H locs hP hD hS => ?_)
  have hP : va_P D vwCl [ob q_t 2 [.int v_t_hour, .int v_t_holder, .int v_t_since, .int v_t_fresh, .int v_t_done, .ref q_t_at, .ref q_t_lastHeld, .ref q_t_owed]] H := hP
  have hD : va_D A [ob q_t 2 [.int v_t_hour, .int v_t_holder, .int v_t_since, .int v_t_fresh, .int v_t_done, .ref q_t_at, .ref q_t_lastHeld, .ref q_t_owed]] := hD
  refine jp (g2 := F0 m 20 ls [.int (if o1 = 0 then (0 : Int32) else (v_t_hour - v_t_since))]) ?_ (fun JP => ?_)
  · obtain rfl := Option.some.inj hf
    exact ret_I hx hb hr hlocks hK hP hD hS dX2_heldFor_20
  · refine lv_if_eq (tgt := 19) hx hb dX2_heldFor_4 (by decide) (fun c2 => ?_) (fun c2 => ?_)
    · refine lv_iconst (v := (0 : Int32)) hx hb dX2_heldFor_19 (by decide) ?_
      exact W.eq (congrArg (fun x => F0 m 20 ls (Value.int x :: [])) (if_pos c2).symm) JP
    · refine lv_aload_n hx hb dX2_heldFor_7 rfl (lv_at hl 0 rfl) ?_
      refine va_get (D := D) (ci := 2) (v := .int v_t_hour) (C := RX2) (T := TX2) (N := 8) hx hb hts inX2 hown hK hP 0 rfl rfl 0 (by decide) (hts (.fieldLink RX2 25 "LentCourage$Moment" "hour" "I") (List.mem_of_getElem? (i := 1) rfl)) (fun _ h9 => h9) rfl dX2_heldFor_8 ?_
      refine lv_aload_n hx hb dX2_heldFor_11 rfl (lv_at hl 0 rfl) ?_
      refine va_get (D := D) (ci := 2) (v := .int v_t_since) (C := RX2) (T := TX2) (N := 8) hx hb hts inX2 hown hK hP 0 rfl rfl 2 (by decide) (hts (.fieldLink RX2 28 "LentCourage$Moment" "since" "I") (List.mem_of_getElem? (i := 2) rfl)) (fun _ h9 => h9) rfl dX2_heldFor_12 ?_
      refine lv_isub hx hb dX2_heldFor_15 ?_
      refine lv_goto (tgt := 20) hx hb dX2_heldFor_16 (by decide) ?_
      exact W.eq (congrArg (fun x => F0 m 20 ls (Value.int x :: [])) (if_neg c2).symm) JP

def fX2_spoonPlace (v_t_holder : Int32) (r_t_at : Nat → Int32) (v_a1_office : Int32) : Option (Int32) :=
  (fX2_isHeld v_t_holder).bind (fun o1 => ((if o1 = 0 then some v_a1_office else chk (vin v_t_holder 6) (some (r_t_at v_t_holder.toNatClampNeg)))).bind (fun j2 => some j2))
theorem hd_X2_spoonPlace : yX2_spoonPlace.cls = RX2 ∧ yX2_spoonPlace.cls ≠ "java/lang/invoke/MethodHandle" ∧ yX2_spoonPlace.cls ≠ "java/lang/invoke/VarHandle" ∧ (parseMethodDescriptor yX2_spoonPlace.desc).map (fun d => d.parameters.length) = some 1 := by decide +kernel
set_option maxHeartbeats 4000000 in
set_option maxRecDepth 100000 in
theorem k_X2_spoonPlace (l : Launch) (D : va_G) (C : Nat → ClassId) (q_t : Nat) (q_t_at : Nat) (q_t_lastHeld : Nat) (q_t_owed : Nat) (q_a1 : Nat) (q_a1_home : Nat) (q_a1_who : Nat) (q_a1_place : Nat) (q_a1_from : Nat) (q_a1_till : Nat) (q_a1_worth : Nat) (v_t_hour : Int32) (v_t_holder : Int32) (v_t_since : Int32) (v_t_fresh : Int32) (v_t_done : Int32) (r_t_at : Nat → Int32) (v_a1_office : Int32) (v_a1_free : Int32) (v_a1_people : Int32) (v_a1_deeds : Int32) (sz : Nat) (out : Int32) (hf : fX2_spoonPlace v_t_holder r_t_at v_a1_office = some out) : MI l yX2_spoonPlace wsX2_spoonPlace ({ frames := 1, cells := 0, slots := 0, locals := 20 }) D C [.ref q_t, .ref q_a1] [ob q_t 2 [.int v_t_hour, .int v_t_holder, .int v_t_since, .int v_t_fresh, .int v_t_done, .ref q_t_at, .ref q_t_lastHeld, .ref q_t_owed], ia C q_t_at 6 r_t_at, ob q_a1 4 [.int v_a1_office, .int v_a1_free, .int v_a1_people, .int v_a1_deeds, .ref q_a1_home, .ref q_a1_who, .ref q_a1_place, .ref q_a1_from, .ref q_a1_till, .ref q_a1_worth]] [ob q_t 2 [.int v_t_hour, .int v_t_holder, .int v_t_since, .int v_t_fresh, .int v_t_done, .ref q_t_at, .ref q_t_lastHeld, .ref q_t_owed], ia C q_t_at 6 r_t_at, ob q_a1 4 [.int v_a1_office, .int v_a1_free, .int v_a1_people, .int v_a1_deeds, .ref q_a1_home, .ref q_a1_who, .ref q_a1_place, .ref q_a1_from, .ref q_a1_till, .ref q_a1_worth]] sz (out) := by
  unfold fX2_spoonPlace at hf
  refine en_I (by decide) rfl (Nat.le_of_ble_eq_true rfl) ?_
  intro p e s m below meth c A ls H locs hx hb hr hlocks hml hts hown hK hP hD hS hA hl
  have hl : lv_has ls 2 [(0, .ref q_t), (1, .ref q_a1)] := hl
  have inX2 : ∀ w ∈ u_ws RX2 TX2 8, w ∈ wsX2_spoonPlace := fun w h => List.mem_cons_of_mem _ (List.mem_append_left _ (List.mem_append_right _ h))
  have inX4 : ∀ w ∈ u_ws RX4 TX4 10, w ∈ wsX2_spoonPlace := fun w h => List.mem_cons_of_mem _ (List.mem_append_right _ h)
  refine lv_aload_n hx hb dX2_spoonPlace_0 rfl (lv_at hl 0 rfl) ?_
  obtain ⟨o1, ho1, hf⟩ := of_bind hf
  refine c_I (wr := [ia C q_t_at 6 r_t_at, ob q_a1 4 [.int v_a1_office, .int v_a1_free, .int v_a1_people, .int v_a1_deeds, .ref q_a1_home, .ref q_a1_who, .ref q_a1_place, .ref q_a1_from, .ref q_a1_till, .ref q_a1_worth]]) (W2 := [ob q_t 2 [.int v_t_hour, .int v_t_holder, .int v_t_since, .int v_t_fresh, .int v_t_done, .ref q_t_at, .ref q_t_lastHeld, .ref q_t_owed], ia C q_t_at 6 r_t_at, ob q_a1 4 [.int v_a1_office, .int v_a1_free, .int v_a1_people, .int v_a1_deeds, .ref q_a1_home, .ref q_a1_who, .ref q_a1_place, .ref q_a1_from, .ref q_a1_till, .ref q_a1_worth]]) (cV_run ⟨hx, hb, hml, hown, hts⟩ (k_X2_isHeld l D C q_t q_t_at q_t_lastHeld q_t_owed v_t_hour v_t_holder v_t_since v_t_fresh v_t_done H.size o1 ho1) gX2_spoonPlace_X2_isHeld rfl ⟨rfl, rfl⟩ hd_X2_isHeld ⟨(Nat.le_of_ble_eq_true rfl), (Nat.le_of_ble_eq_true rfl)⟩ rfl hK (cut_in hK hP hD [0] rfl (by decide)) (ci := 2) rfl rfl rfl hl.1 rfl (Nat.le_of_ble_eq_true rfl) dX2_spoonPlace_1 ⟨Nat.zero_le _, Nat.zero_le _⟩) hP hD hS hA [0] [1, 2] [2, 0, 1] rfl rfl (by decide) (by decide) rfl (by decide) (fun H locs hP hD hS => ?_)
  have hP : va_P D vwCl [ob q_t 2 [.int v_t_hour, .int v_t_holder, .int v_t_since, .int v_t_fresh, .int v_t_done, .ref q_t_at, .ref q_t_lastHeld, .ref q_t_owed], ia C q_t_at 6 r_t_at, ob q_a1 4 [.int v_a1_office, .int v_a1_free, .int v_a1_people, .int v_a1_deeds, .ref q_a1_home, .ref q_a1_who, .ref q_a1_place, .ref q_a1_from, .ref q_a1_till, .ref q_a1_worth]] H := hP
  have hD : va_D A [ob q_t 2 [.int v_t_hour, .int v_t_holder, .int v_t_since, .int v_t_fresh, .int v_t_done, .ref q_t_at, .ref q_t_lastHeld, .ref q_t_owed], ia C q_t_at 6 r_t_at, ob q_a1 4 [.int v_a1_office, .int v_a1_free, .int v_a1_people, .int v_a1_deeds, .ref q_a1_home, .ref q_a1_who, .ref q_a1_place, .ref q_a1_from, .ref q_a1_till, .ref q_a1_worth]] := hD
  obtain ⟨j2, hrj2, hf⟩ := of_bind hf
  refine jn (fun H L g => ∃ ls, g = F0 m 23 ls [.int j2] ∧ va_P D vwCl [ob q_t 2 [.int v_t_hour, .int v_t_holder, .int v_t_since, .int v_t_fresh, .int v_t_done, .ref q_t_at, .ref q_t_lastHeld, .ref q_t_owed], ia C q_t_at 6 r_t_at, ob q_a1 4 [.int v_a1_office, .int v_a1_free, .int v_a1_people, .int v_a1_deeds, .ref q_a1_home, .ref q_a1_who, .ref q_a1_place, .ref q_a1_from, .ref q_a1_till, .ref q_a1_worth]] H ∧ va_D A [ob q_t 2 [.int v_t_hour, .int v_t_holder, .int v_t_since, .int v_t_fresh, .int v_t_done, .ref q_t_at, .ref q_t_lastHeld, .ref q_t_owed], ia C q_t_at 6 r_t_at, ob q_a1 4 [.int v_a1_office, .int v_a1_free, .int v_a1_people, .int v_a1_deeds, .ref q_a1_home, .ref q_a1_who, .ref q_a1_place, .ref q_a1_from, .ref q_a1_till, .ref q_a1_worth]] ∧ va_S A s.heap H L ∧ lv_has ls 2 [(0, .ref q_t), (1, .ref q_a1)]) (fun H locs g hI => ?_) (fun Jj2 => ?_)
  · obtain ⟨ls, rfl, hP, hD, hS, hl⟩ := hI
    obtain rfl := Option.some.inj hf
    exact ret_I hx hb hr hlocks hK hP hD hS dX2_spoonPlace_23
  · have hf := hrj2
    refine lv_if_eq (tgt := 19) hx hb dX2_spoonPlace_4 (by decide) (fun c3 => ?_) (fun c3 => ?_)
    · have hf := of_pos hf c3
      refine lv_aload_n hx hb dX2_spoonPlace_19 rfl (lv_at hl 1 rfl) ?_
      refine va_get (D := D) (ci := 4) (v := .int v_a1_office) (C := RX4) (T := TX4) (N := 10) hx hb hts inX4 hown hK hP 2 rfl rfl 0 (by decide) (hts (.fieldLink RX2 53 "LentCourage$Port" "office" "I") (List.mem_of_getElem? (i := 3) rfl)) (fun _ h9 => h9) rfl dX2_spoonPlace_20 ?_
      obtain rfl := Option.some.inj hf
      exact Jj2 _ _ _ ⟨_, rfl, hP, hD, hS, lv_sub hl [0, 1] rfl⟩
    · have hf := of_neg hf c3
      refine lv_aload_n hx hb dX2_spoonPlace_7 rfl (lv_at hl 0 rfl) ?_
      refine va_get (D := D) (ci := 2) (v := .ref q_t_at) (C := RX2) (T := TX2) (N := 8) hx hb hts inX2 hown hK hP 0 rfl rfl 5 (by decide) (hts (.fieldLink RX2 15 "LentCourage$Moment" "at" "[I") (List.mem_of_getElem? (i := 1) rfl)) (fun _ h9 => h9) rfl dX2_spoonPlace_8 ?_
      refine lv_aload_n hx hb dX2_spoonPlace_11 rfl (lv_at hl 0 rfl) ?_
      refine va_get (D := D) (ci := 2) (v := .int v_t_holder) (C := RX2) (T := TX2) (N := 8) hx hb hts inX2 hown hK hP 0 rfl rfl 1 (by decide) (hts (.fieldLink RX2 9 "LentCourage$Moment" "holder" "I") (List.mem_of_getElem? (i := 2) rfl)) (fun _ h9 => h9) rfl dX2_spoonPlace_12 ?_
      obtain ⟨h4, hf⟩ := of_chk hf
      refine va_iald hx hb hK hP 1 0 rfl rfl h4 dX2_spoonPlace_15 ?_
      refine lv_goto (tgt := 23) hx hb dX2_spoonPlace_16 (by decide) ?_
      obtain rfl := Option.some.inj hf
      exact Jj2 _ _ _ ⟨_, rfl, hP, hD, hS, lv_sub hl [0, 1] rfl⟩

def fX2_careOf (v_t_hour : Int32) (v_t_holder : Int32) (r_t_lastHeld : Nat → Int32) (p1 : Int32) : Option (Int32) :=
  ((if p1 = v_t_holder then some (0 : Int32) else chk (vin p1 6) (some (v_t_hour - (r_t_lastHeld p1.toNatClampNeg))))).bind (fun j1 => some j1)
theorem hd_X2_careOf : yX2_careOf.cls = RX2 ∧ yX2_careOf.cls ≠ "java/lang/invoke/MethodHandle" ∧ yX2_careOf.cls ≠ "java/lang/invoke/VarHandle" ∧ (parseMethodDescriptor yX2_careOf.desc).map (fun d => d.parameters.length) = some 1 := by decide +kernel
set_option maxHeartbeats 4000000 in
set_option maxRecDepth 100000 in
theorem k_X2_careOf (l : Launch) (D : va_G) (C : Nat → ClassId) (q_t : Nat) (q_t_at : Nat) (q_t_lastHeld : Nat) (q_t_owed : Nat) (v_t_hour : Int32) (v_t_holder : Int32) (v_t_since : Int32) (v_t_fresh : Int32) (v_t_done : Int32) (r_t_lastHeld : Nat → Int32) (p1 : Int32) (sz : Nat) (out : Int32) (hf : fX2_careOf v_t_hour v_t_holder r_t_lastHeld p1 = some out) : MI l yX2_careOf wsX2_careOf ({ frames := 0, cells := 0, slots := 0, locals := 0 }) D C [.ref q_t, .int p1] [ob q_t 2 [.int v_t_hour, .int v_t_holder, .int v_t_since, .int v_t_fresh, .int v_t_done, .ref q_t_at, .ref q_t_lastHeld, .ref q_t_owed], ia C q_t_lastHeld 6 r_t_lastHeld] [ob q_t 2 [.int v_t_hour, .int v_t_holder, .int v_t_since, .int v_t_fresh, .int v_t_done, .ref q_t_at, .ref q_t_lastHeld, .ref q_t_owed], ia C q_t_lastHeld 6 r_t_lastHeld] sz (out) := by
  unfold fX2_careOf at hf
  refine en_I (by decide) rfl (Nat.le_of_ble_eq_true rfl) ?_
  intro p e s m below meth c A ls H locs hx hb hr hlocks hml hts hown hK hP hD hS hA hl
  have hl : lv_has ls 2 [(0, .ref q_t), (1, .int p1)] := hl
  have inX2 : ∀ w ∈ u_ws RX2 TX2 8, w ∈ wsX2_careOf := fun w h => List.mem_cons_of_mem _ (List.mem_append_right _ h)
  refine lv_iload_n hx hb dX2_careOf_0 rfl (lv_at hl 1 rfl) ?_
  refine lv_aload_n hx hb dX2_careOf_1 rfl (lv_at hl 0 rfl) ?_
  refine va_get (D := D) (ci := 2) (v := .int v_t_holder) (C := RX2) (T := TX2) (N := 8) hx hb hts inX2 hown hK hP 0 rfl rfl 1 (by decide) (hts (.fieldLink RX2 9 "LentCourage$Moment" "holder" "I") (List.mem_of_getElem? (i := 1) rfl)) (fun _ h9 => h9) rfl dX2_careOf_2 ?_
  obtain ⟨j1, hrj1, hf⟩ := of_bind hf
  refine jn (fun H L g => ∃ ls, g = F0 m 23 ls [.int j1] ∧ va_P D vwCl [ob q_t 2 [.int v_t_hour, .int v_t_holder, .int v_t_since, .int v_t_fresh, .int v_t_done, .ref q_t_at, .ref q_t_lastHeld, .ref q_t_owed], ia C q_t_lastHeld 6 r_t_lastHeld] H ∧ va_D A [ob q_t 2 [.int v_t_hour, .int v_t_holder, .int v_t_since, .int v_t_fresh, .int v_t_done, .ref q_t_at, .ref q_t_lastHeld, .ref q_t_owed], ia C q_t_lastHeld 6 r_t_lastHeld] ∧ va_S A s.heap H L ∧ lv_has ls 2 [(0, .ref q_t), (1, .int p1)]) (fun H locs g hI => ?_) (fun Jj1 => ?_)
  · obtain ⟨ls, rfl, hP, hD, hS, hl⟩ := hI
    obtain rfl := Option.some.inj hf
    exact ret_I hx hb hr hlocks hK hP hD hS dX2_careOf_23
  · have hf := hrj1
    refine lv_icmp_ne (tgt := 12) hx hb dX2_careOf_5 (by decide) (fun c2 => ?_) (fun c2 => ?_)
    · have hf := of_neg hf c2
      refine lv_aload_n hx hb dX2_careOf_12 rfl (lv_at hl 0 rfl) ?_
      refine va_get (D := D) (ci := 2) (v := .int v_t_hour) (C := RX2) (T := TX2) (N := 8) hx hb hts inX2 hown hK hP 0 rfl rfl 0 (by decide) (hts (.fieldLink RX2 25 "LentCourage$Moment" "hour" "I") (List.mem_of_getElem? (i := 2) rfl)) (fun _ h9 => h9) rfl dX2_careOf_13 ?_
      refine lv_aload_n hx hb dX2_careOf_16 rfl (lv_at hl 0 rfl) ?_
      refine va_get (D := D) (ci := 2) (v := .ref q_t_lastHeld) (C := RX2) (T := TX2) (N := 8) hx hb hts inX2 hown hK hP 0 rfl rfl 6 (by decide) (hts (.fieldLink RX2 19 "LentCourage$Moment" "lastHeld" "[I") (List.mem_of_getElem? (i := 3) rfl)) (fun _ h9 => h9) rfl dX2_careOf_17 ?_
      refine lv_iload_n hx hb dX2_careOf_20 rfl (lv_at hl 1 rfl) ?_
      obtain ⟨h3, hf⟩ := of_chk hf
      refine va_iald hx hb hK hP 1 0 rfl rfl h3 dX2_careOf_21 ?_
      refine lv_isub hx hb dX2_careOf_22 ?_
      obtain rfl := Option.some.inj hf
      exact Jj1 _ _ _ ⟨_, rfl, hP, hD, hS, lv_sub hl [0, 1] rfl⟩
    · have hf := of_pos hf c2
      refine lv_iconst (v := (0 : Int32)) hx hb dX2_careOf_8 (by decide) ?_
      refine lv_goto (tgt := 23) hx hb dX2_careOf_9 (by decide) ?_
      obtain rfl := Option.some.inj hf
      exact Jj1 _ _ _ ⟨_, rfl, hP, hD, hS, lv_sub hl [0, 1] rfl⟩

def fX2_giveAway (v_t_hour : Int32) (v_t_holder : Int32) (v_t_since : Int32) (v_t_fresh : Int32) (r_t_lastHeld : Nat → Int32) (r_t_owed : Nat → Int32) (p1 : Int32) : Option (Int32 × Int32 × Int32 × (Nat → Int32) × (Nat → Int32)) :=
  (if 0 ≤ v_t_holder then (fX2_heldFor v_t_hour v_t_holder v_t_since).bind (fun o2 => lt_ (if (0 : Int32) < (o2 - p1) then (o2 - p1) else (0 : Int32)) (fun z3 => chk (vin v_t_holder 6) (lt_ (if ((r_t_owed v_t_holder.toNatClampNeg) + z3) < (999 : Int32) then ((r_t_owed v_t_holder.toNatClampNeg) + z3) else (999 : Int32)) (fun z5 => some (((upd r_t_owed v_t_holder.toNatClampNeg z5) v_t_holder.toNatClampNeg), (-9 : Int32), (0 : Int32), (upd r_t_lastHeld v_t_holder.toNatClampNeg v_t_hour), (upd r_t_owed v_t_holder.toNatClampNeg z5)))))) else some ((0 : Int32), v_t_holder, v_t_fresh, r_t_lastHeld, r_t_owed))
theorem hd_X2_giveAway : yX2_giveAway.cls = RX2 ∧ yX2_giveAway.cls ≠ "java/lang/invoke/MethodHandle" ∧ yX2_giveAway.cls ≠ "java/lang/invoke/VarHandle" ∧ (parseMethodDescriptor yX2_giveAway.desc).map (fun d => d.parameters.length) = some 1 := by decide +kernel
set_option maxHeartbeats 4000000 in
set_option maxRecDepth 100000 in
theorem k_X2_giveAway (l : Launch) (D : va_G) (C : Nat → ClassId) (q_t : Nat) (q_t_at : Nat) (q_t_lastHeld : Nat) (q_t_owed : Nat) (v_t_hour : Int32) (v_t_holder : Int32) (v_t_since : Int32) (v_t_fresh : Int32) (v_t_done : Int32) (r_t_lastHeld : Nat → Int32) (r_t_owed : Nat → Int32) (p1 : Int32) (sz : Nat) (out : Int32 × Int32 × Int32 × (Nat → Int32) × (Nat → Int32)) (hf : fX2_giveAway v_t_hour v_t_holder v_t_since v_t_fresh r_t_lastHeld r_t_owed p1 = some out) : MI l yX2_giveAway wsX2_giveAway ({ frames := 2, cells := 0, slots := 0, locals := 40 }) D C [.ref q_t, .int p1] [ob q_t 2 [.int v_t_hour, .int v_t_holder, .int v_t_since, .int v_t_fresh, .int v_t_done, .ref q_t_at, .ref q_t_lastHeld, .ref q_t_owed], ia C q_t_lastHeld 6 r_t_lastHeld, ia C q_t_owed 6 r_t_owed] [ob q_t 2 [.int v_t_hour, .int out.2.1, .int v_t_since, .int out.2.2.1, .int v_t_done, .ref q_t_at, .ref q_t_lastHeld, .ref q_t_owed], ia C q_t_lastHeld 6 out.2.2.2.1, ia C q_t_owed 6 out.2.2.2.2] sz (out.1) := by
  unfold fX2_giveAway at hf
  refine en_I (by decide) rfl (Nat.le_of_ble_eq_true rfl) ?_
  intro p e s m below meth c A ls H locs hx hb hr hlocks hml hts hown hK hP hD hS hA hl
  have hl : lv_has ls 4 [(0, .ref q_t), (1, .int p1)] := hl
  have inX2 : ∀ w ∈ u_ws RX2 TX2 8, w ∈ wsX2_giveAway := fun w h => List.mem_cons_of_mem _ (List.mem_append_right _ h)
  refine lv_aload_n hx hb dX2_giveAway_0 rfl (lv_at hl 0 rfl) ?_
  refine va_get (D := D) (ci := 2) (v := .int v_t_holder) (C := RX2) (T := TX2) (N := 8) hx hb hts inX2 hown hK hP 0 rfl rfl 1 (by decide) (hts (.fieldLink RX2 9 "LentCourage$Moment" "holder" "I") (List.mem_of_getElem? (i := 1) rfl)) (fun _ h9 => h9) rfl dX2_giveAway_1 ?_
  refine lv_istore_n (lv' := [(2, .int v_t_holder), (0, .ref q_t), (1, .int p1)]) hx hb dX2_giveAway_4 rfl hl (by decide) rfl (fun ls hl => ?_)
  refine lv_iload_n hx hb dX2_giveAway_5 rfl (lv_at hl 0 rfl) ?_
  refine lv_if_ge (tgt := 11) hx hb dX2_giveAway_6 (by decide) (fun c1 => ?_) (fun c1 => ?_)
  · have hf := of_pos hf c1
    refine lv_iconst (v := (0 : Int32)) hx hb dX2_giveAway_11 (by decide) ?_
    refine lv_aload_n hx hb dX2_giveAway_12 rfl (lv_at hl 1 rfl) ?_
    obtain ⟨o2, ho2, hf⟩ := of_bind hf
    refine c_I (wr := [ia C q_t_lastHeld 6 r_t_lastHeld, ia C q_t_owed 6 r_t_owed]) (W2 := [ob q_t 2 [.int v_t_hour, .int v_t_holder, .int v_t_since, .int v_t_fresh, .int v_t_done, .ref q_t_at, .ref q_t_lastHeld, .ref q_t_owed], ia C q_t_lastHeld 6 r_t_lastHeld, ia C q_t_owed 6 r_t_owed]) (cV_run ⟨hx, hb, hml, hown, hts⟩ (k_X2_heldFor l D C q_t q_t_at q_t_lastHeld q_t_owed v_t_hour v_t_holder v_t_since v_t_fresh v_t_done H.size o2 ho2) gX2_giveAway_X2_heldFor rfl ⟨rfl, rfl⟩ hd_X2_heldFor ⟨(Nat.le_of_ble_eq_true rfl), (Nat.le_of_ble_eq_true rfl)⟩ rfl hK (cut_in hK hP hD [0] rfl (by decide)) (ci := 2) rfl rfl rfl hl.1 rfl (Nat.le_of_ble_eq_true rfl) dX2_giveAway_13 ⟨Nat.zero_le _, Nat.zero_le _⟩) hP hD hS hA [0] [1, 2] [2, 0, 1] rfl rfl (by decide) (by decide) rfl (by decide) (fun H locs hP hD hS => ?_)
    have hP : va_P D vwCl [ob q_t 2 [.int v_t_hour, .int v_t_holder, .int v_t_since, .int v_t_fresh, .int v_t_done, .ref q_t_at, .ref q_t_lastHeld, .ref q_t_owed], ia C q_t_lastHeld 6 r_t_lastHeld, ia C q_t_owed 6 r_t_owed] H := hP
    have hD : va_D A [ob q_t 2 [.int v_t_hour, .int v_t_holder, .int v_t_since, .int v_t_fresh, .int v_t_done, .ref q_t_at, .ref q_t_lastHeld, .ref q_t_owed], ia C q_t_lastHeld 6 r_t_lastHeld, ia C q_t_owed 6 r_t_owed] := hD
    refine lv_iload_n hx hb dX2_giveAway_16 rfl (lv_at hl 2 rfl) ?_
    refine lv_isub hx hb dX2_giveAway_17 ?_
    refine va_mmax hx hb (hml.trans hl.1.symm) hown (hts (.methodLink RX2 60 Lib.Math.max.name) (List.mem_of_getElem? (i := 2) rfl)) (hts (.static Lib.Math.max.name) (List.mem_of_getElem? (i := 3) rfl)) (hts (.initialized "java/lang/Math") (List.mem_of_getElem? (i := 4) rfl)) (hts (.code Lib.Math.max.name Lib.Math.max.code 2 (some .int)) (List.mem_of_getElem? (i := 5) rfl)) (Nat.le_of_ble_eq_true rfl) (Nat.le_of_ble_eq_true rfl) (Nat.zero_le _) (Nat.zero_le _) dX2_giveAway_18 ?_
    refine lv_topi (fun z3 ez3 => ?_)
    have hf := of_lt hf ez3
    refine lv_istore_n (lv' := [(3, .int z3), (2, .int v_t_holder), (0, .ref q_t), (1, .int p1)]) hx hb dX2_giveAway_21 rfl hl (by decide) rfl (fun ls hl => ?_)
    refine lv_aload_n hx hb dX2_giveAway_22 rfl (lv_at hl 2 rfl) ?_
    refine va_get (D := D) (ci := 2) (v := .ref q_t_owed) (C := RX2) (T := TX2) (N := 8) hx hb hts inX2 hown hK hP 0 rfl rfl 7 (by decide) (hts (.fieldLink RX2 22 "LentCourage$Moment" "owed" "[I") (List.mem_of_getElem? (i := 6) rfl)) (fun _ h9 => h9) rfl dX2_giveAway_23 ?_
    refine lv_iload_n hx hb dX2_giveAway_26 rfl (lv_at hl 1 rfl) ?_
    refine lv_sipush (v := (999 : Int32)) hx hb dX2_giveAway_27 (by decide) ?_
    refine lv_aload_n hx hb dX2_giveAway_30 rfl (lv_at hl 2 rfl) ?_
    refine va_get (D := D) (ci := 2) (v := .ref q_t_owed) (C := RX2) (T := TX2) (N := 8) hx hb hts inX2 hown hK hP 0 rfl rfl 7 (by decide) (hts (.fieldLink RX2 22 "LentCourage$Moment" "owed" "[I") (List.mem_of_getElem? (i := 6) rfl)) (fun _ h9 => h9) rfl dX2_giveAway_31 ?_
    refine lv_iload_n hx hb dX2_giveAway_34 rfl (lv_at hl 1 rfl) ?_
    obtain ⟨h4, hf⟩ := of_chk hf
    refine va_iald hx hb hK hP 2 0 rfl rfl h4 dX2_giveAway_35 ?_
    refine lv_iload_n hx hb dX2_giveAway_36 rfl (lv_at hl 0 rfl) ?_
    refine lv_iadd hx hb dX2_giveAway_37 ?_
    refine va_mmin hx hb (hml.trans hl.1.symm) hown (hts (.methodLink RX2 66 Lib.Math.min.name) (List.mem_of_getElem? (i := 7) rfl)) (hts (.static Lib.Math.min.name) (List.mem_of_getElem? (i := 8) rfl)) (hts (.initialized "java/lang/Math") (List.mem_of_getElem? (i := 4) rfl)) (hts (.code Lib.Math.min.name Lib.Math.min.code 2 (some .int)) (List.mem_of_getElem? (i := 9) rfl)) (Nat.le_of_ble_eq_true rfl) (Nat.le_of_ble_eq_true rfl) (Nat.zero_le _) (Nat.zero_le _) dX2_giveAway_38 ?_
    refine lv_topi (fun z5 ez5 => ?_)
    have hf := of_lt hf ez5
    refine va_iast hx hb hK hP hD hS 2 0 rfl rfl h4 dX2_giveAway_41 (fun H locs hP hD hS => ?_)
    have hP : va_P D vwCl [ob q_t 2 [.int v_t_hour, .int v_t_holder, .int v_t_since, .int v_t_fresh, .int v_t_done, .ref q_t_at, .ref q_t_lastHeld, .ref q_t_owed], ia C q_t_lastHeld 6 r_t_lastHeld, ia C q_t_owed 6 (upd r_t_owed v_t_holder.toNatClampNeg z5)] H := hP
    have hD : va_D A [ob q_t 2 [.int v_t_hour, .int v_t_holder, .int v_t_since, .int v_t_fresh, .int v_t_done, .ref q_t_at, .ref q_t_lastHeld, .ref q_t_owed], ia C q_t_lastHeld 6 r_t_lastHeld, ia C q_t_owed 6 (upd r_t_owed v_t_holder.toNatClampNeg z5)] := hD
    refine lv_aload_n hx hb dX2_giveAway_42 rfl (lv_at hl 2 rfl) ?_
    refine va_get (D := D) (ci := 2) (v := .ref q_t_lastHeld) (C := RX2) (T := TX2) (N := 8) hx hb hts inX2 hown hK hP 0 rfl rfl 6 (by decide) (hts (.fieldLink RX2 19 "LentCourage$Moment" "lastHeld" "[I") (List.mem_of_getElem? (i := 10) rfl)) (fun _ h9 => h9) rfl dX2_giveAway_43 ?_
    refine lv_iload_n hx hb dX2_giveAway_46 rfl (lv_at hl 1 rfl) ?_
    refine lv_aload_n hx hb dX2_giveAway_47 rfl (lv_at hl 2 rfl) ?_
    refine va_get (D := D) (ci := 2) (v := .int v_t_hour) (C := RX2) (T := TX2) (N := 8) hx hb hts inX2 hown hK hP 0 rfl rfl 0 (by decide) (hts (.fieldLink RX2 25 "LentCourage$Moment" "hour" "I") (List.mem_of_getElem? (i := 11) rfl)) (fun _ h9 => h9) rfl dX2_giveAway_48 ?_
    refine va_iast hx hb hK hP hD hS 1 0 rfl rfl h4 dX2_giveAway_51 (fun H locs hP hD hS => ?_)
    have hP : va_P D vwCl [ob q_t 2 [.int v_t_hour, .int v_t_holder, .int v_t_since, .int v_t_fresh, .int v_t_done, .ref q_t_at, .ref q_t_lastHeld, .ref q_t_owed], ia C q_t_lastHeld 6 (upd r_t_lastHeld v_t_holder.toNatClampNeg v_t_hour), ia C q_t_owed 6 (upd r_t_owed v_t_holder.toNatClampNeg z5)] H := hP
    have hD : va_D A [ob q_t 2 [.int v_t_hour, .int v_t_holder, .int v_t_since, .int v_t_fresh, .int v_t_done, .ref q_t_at, .ref q_t_lastHeld, .ref q_t_owed], ia C q_t_lastHeld 6 (upd r_t_lastHeld v_t_holder.toNatClampNeg v_t_hour), ia C q_t_owed 6 (upd r_t_owed v_t_holder.toNatClampNeg z5)] := hD
    refine lv_aload_n hx hb dX2_giveAway_52 rfl (lv_at hl 2 rfl) ?_
    refine lv_bipush (v := (-9 : Int32)) hx hb dX2_giveAway_53 (by decide) ?_
    refine va_put (D := D) (ci := 2) (v := .int (-9 : Int32)) (ty := .int) (C := RX2) (T := TX2) (N := 8) hx hb hts inX2 tyX2 tyX2_ok nmX2 hown hK hP hD hS 0 rfl rfl 1 (by decide) (hts (.fieldLink RX2 9 "LentCourage$Moment" "holder" "I") (List.mem_of_getElem? (i := 1) rfl)) (fun _ h9 => h9) rfl (tyX2_ok 1 (by decide)) rfl rfl (Nat.le_of_ble_eq_true rfl) dX2_giveAway_55 (fun H locs hP hD hS => ?_)
    have hP : va_P D vwCl [ob q_t 2 [.int v_t_hour, .int (-9 : Int32), .int v_t_since, .int v_t_fresh, .int v_t_done, .ref q_t_at, .ref q_t_lastHeld, .ref q_t_owed], ia C q_t_lastHeld 6 (upd r_t_lastHeld v_t_holder.toNatClampNeg v_t_hour), ia C q_t_owed 6 (upd r_t_owed v_t_holder.toNatClampNeg z5)] H := hP
    have hD : va_D A [ob q_t 2 [.int v_t_hour, .int (-9 : Int32), .int v_t_since, .int v_t_fresh, .int v_t_done, .ref q_t_at, .ref q_t_lastHeld, .ref q_t_owed], ia C q_t_lastHeld 6 (upd r_t_lastHeld v_t_holder.toNatClampNeg v_t_hour), ia C q_t_owed 6 (upd r_t_owed v_t_holder.toNatClampNeg z5)] := hD
    refine lv_aload_n hx hb dX2_giveAway_58 rfl (lv_at hl 2 rfl) ?_
    refine lv_iconst (v := (0 : Int32)) hx hb dX2_giveAway_59 (by decide) ?_
    refine va_put (D := D) (ci := 2) (v := .int (0 : Int32)) (ty := .boolean) (C := RX2) (T := TX2) (N := 8) hx hb hts inX2 tyX2 tyX2_ok nmX2 hown hK hP hD hS 0 rfl rfl 3 (by decide) (hts (.fieldLink RX2 31 "LentCourage$Moment" "fresh" "Z") (List.mem_of_getElem? (i := 12) rfl)) (fun _ h9 => h9) rfl (tyX2_ok 3 (by decide)) (okZ_nar okZ_0) (okZ_fit okZ_0) (Nat.le_of_ble_eq_true rfl) dX2_giveAway_60 (fun H locs hP hD hS => ?_)
    have hP : va_P D vwCl [ob q_t 2 [.int v_t_hour, .int (-9 : Int32), .int v_t_since, .int (0 : Int32), .int v_t_done, .ref q_t_at, .ref q_t_lastHeld, .ref q_t_owed], ia C q_t_lastHeld 6 (upd r_t_lastHeld v_t_holder.toNatClampNeg v_t_hour), ia C q_t_owed 6 (upd r_t_owed v_t_holder.toNatClampNeg z5)] H := hP
    have hD : va_D A [ob q_t 2 [.int v_t_hour, .int (-9 : Int32), .int v_t_since, .int (0 : Int32), .int v_t_done, .ref q_t_at, .ref q_t_lastHeld, .ref q_t_owed], ia C q_t_lastHeld 6 (upd r_t_lastHeld v_t_holder.toNatClampNeg v_t_hour), ia C q_t_owed 6 (upd r_t_owed v_t_holder.toNatClampNeg z5)] := hD
    refine lv_aload_n hx hb dX2_giveAway_63 rfl (lv_at hl 2 rfl) ?_
    refine va_get (D := D) (ci := 2) (v := .ref q_t_owed) (C := RX2) (T := TX2) (N := 8) hx hb hts inX2 hown hK hP 0 rfl rfl 7 (by decide) (hts (.fieldLink RX2 22 "LentCourage$Moment" "owed" "[I") (List.mem_of_getElem? (i := 6) rfl)) (fun _ h9 => h9) rfl dX2_giveAway_64 ?_
    refine lv_iload_n hx hb dX2_giveAway_67 rfl (lv_at hl 1 rfl) ?_
    refine va_iald hx hb hK hP 2 0 rfl rfl h4 dX2_giveAway_68 ?_
    obtain rfl := Option.some.inj hf
    exact ret_I hx hb hr hlocks hK hP hD hS dX2_giveAway_69
  · have hf := of_neg hf c1
    refine lv_iconst (v := (0 : Int32)) hx hb dX2_giveAway_9 (by decide) ?_
    obtain rfl := Option.some.inj hf
    exact ret_I hx hb hr hlocks hK hP hD hS dX2_giveAway_10

def fX2_receive (v_t_hour : Int32) (p1 : Int32) : Option (Int32 × Int32 × Int32) :=
  some (p1, v_t_hour, (1 : Int32))
theorem hd_X2_receive : yX2_receive.cls = RX2 ∧ yX2_receive.cls ≠ "java/lang/invoke/MethodHandle" ∧ yX2_receive.cls ≠ "java/lang/invoke/VarHandle" ∧ (parseMethodDescriptor yX2_receive.desc).map (fun d => d.parameters.length) = some 1 := by decide +kernel
set_option maxHeartbeats 4000000 in
set_option maxRecDepth 100000 in
theorem k_X2_receive (l : Launch) (D : va_G) (C : Nat → ClassId) (q_t : Nat) (q_t_at : Nat) (q_t_lastHeld : Nat) (q_t_owed : Nat) (v_t_hour : Int32) (v_t_holder : Int32) (v_t_since : Int32) (v_t_fresh : Int32) (v_t_done : Int32) (p1 : Int32) (sz : Nat) (out : Int32 × Int32 × Int32) (hf : fX2_receive v_t_hour p1 = some out) : MV l yX2_receive wsX2_receive ({ frames := 0, cells := 0, slots := 0, locals := 0 }) D C [.ref q_t, .int p1] [ob q_t 2 [.int v_t_hour, .int v_t_holder, .int v_t_since, .int v_t_fresh, .int v_t_done, .ref q_t_at, .ref q_t_lastHeld, .ref q_t_owed]] [ob q_t 2 [.int v_t_hour, .int out.1, .int out.2.1, .int out.2.2, .int v_t_done, .ref q_t_at, .ref q_t_lastHeld, .ref q_t_owed]] sz := by
  unfold fX2_receive at hf
  refine en_V (by decide) rfl (Nat.le_of_ble_eq_true rfl) ?_
  intro p e s m below meth c A ls H locs hx hb hr hlocks hml hts hown hK hP hD hS hA hl
  have hl : lv_has ls 2 [(0, .ref q_t), (1, .int p1)] := hl
  have inX2 : ∀ w ∈ u_ws RX2 TX2 8, w ∈ wsX2_receive := fun w h => List.mem_cons_of_mem _ (List.mem_append_right _ h)
  refine lv_aload_n hx hb dX2_receive_0 rfl (lv_at hl 0 rfl) ?_
  refine lv_iload_n hx hb dX2_receive_1 rfl (lv_at hl 1 rfl) ?_
  refine va_put (D := D) (ci := 2) (v := .int p1) (ty := .int) (C := RX2) (T := TX2) (N := 8) hx hb hts inX2 tyX2 tyX2_ok nmX2 hown hK hP hD hS 0 rfl rfl 1 (by decide) (hts (.fieldLink RX2 9 "LentCourage$Moment" "holder" "I") (List.mem_of_getElem? (i := 1) rfl)) (fun _ h9 => h9) rfl (tyX2_ok 1 (by decide)) rfl rfl (Nat.le_of_ble_eq_true rfl) dX2_receive_2 (fun H locs hP hD hS => ?_)
  have hP : va_P D vwCl [ob q_t 2 [.int v_t_hour, .int p1, .int v_t_since, .int v_t_fresh, .int v_t_done, .ref q_t_at, .ref q_t_lastHeld, .ref q_t_owed]] H := hP
  have hD : va_D A [ob q_t 2 [.int v_t_hour, .int p1, .int v_t_since, .int v_t_fresh, .int v_t_done, .ref q_t_at, .ref q_t_lastHeld, .ref q_t_owed]] := hD
  refine lv_aload_n hx hb dX2_receive_5 rfl (lv_at hl 0 rfl) ?_
  refine lv_aload_n hx hb dX2_receive_6 rfl (lv_at hl 0 rfl) ?_
  refine va_get (D := D) (ci := 2) (v := .int v_t_hour) (C := RX2) (T := TX2) (N := 8) hx hb hts inX2 hown hK hP 0 rfl rfl 0 (by decide) (hts (.fieldLink RX2 25 "LentCourage$Moment" "hour" "I") (List.mem_of_getElem? (i := 2) rfl)) (fun _ h9 => h9) rfl dX2_receive_7 ?_
  refine va_put (D := D) (ci := 2) (v := .int v_t_hour) (ty := .int) (C := RX2) (T := TX2) (N := 8) hx hb hts inX2 tyX2 tyX2_ok nmX2 hown hK hP hD hS 0 rfl rfl 2 (by decide) (hts (.fieldLink RX2 28 "LentCourage$Moment" "since" "I") (List.mem_of_getElem? (i := 3) rfl)) (fun _ h9 => h9) rfl (tyX2_ok 2 (by decide)) rfl rfl (Nat.le_of_ble_eq_true rfl) dX2_receive_10 (fun H locs hP hD hS => ?_)
  have hP : va_P D vwCl [ob q_t 2 [.int v_t_hour, .int p1, .int v_t_hour, .int v_t_fresh, .int v_t_done, .ref q_t_at, .ref q_t_lastHeld, .ref q_t_owed]] H := hP
  have hD : va_D A [ob q_t 2 [.int v_t_hour, .int p1, .int v_t_hour, .int v_t_fresh, .int v_t_done, .ref q_t_at, .ref q_t_lastHeld, .ref q_t_owed]] := hD
  refine lv_aload_n hx hb dX2_receive_13 rfl (lv_at hl 0 rfl) ?_
  refine lv_iconst (v := (1 : Int32)) hx hb dX2_receive_14 (by decide) ?_
  refine va_put (D := D) (ci := 2) (v := .int (1 : Int32)) (ty := .boolean) (C := RX2) (T := TX2) (N := 8) hx hb hts inX2 tyX2 tyX2_ok nmX2 hown hK hP hD hS 0 rfl rfl 3 (by decide) (hts (.fieldLink RX2 31 "LentCourage$Moment" "fresh" "Z") (List.mem_of_getElem? (i := 4) rfl)) (fun _ h9 => h9) rfl (tyX2_ok 3 (by decide)) (okZ_nar okZ_1) (okZ_fit okZ_1) (Nat.le_of_ble_eq_true rfl) dX2_receive_15 (fun H locs hP hD hS => ?_)
  have hP : va_P D vwCl [ob q_t 2 [.int v_t_hour, .int p1, .int v_t_hour, .int (1 : Int32), .int v_t_done, .ref q_t_at, .ref q_t_lastHeld, .ref q_t_owed]] H := hP
  have hD : va_D A [ob q_t 2 [.int v_t_hour, .int p1, .int v_t_hour, .int (1 : Int32), .int v_t_done, .ref q_t_at, .ref q_t_lastHeld, .ref q_t_owed]] := hD
  obtain rfl := Option.some.inj hf
  exact ret_V hx hb hr hlocks hK hP hD hS dX2_receive_18

def fX2_walkTo (v_t_hour : Int32) (v_t_holder : Int32) (r_t_at : Nat → Int32) (p1 : Int32) (p2 : Int32) : Option (Int32 × (Nat → Int32)) :=
  (fX2_isHeld v_t_holder).bind (fun o1 => (if o1 = 0 then some (v_t_hour, r_t_at) else chk (vin v_t_holder 6) (lt_ (v_t_hour + p2) (fun z4 => some (z4, (upd r_t_at v_t_holder.toNatClampNeg p1))))))
theorem hd_X2_walkTo : yX2_walkTo.cls = RX2 ∧ yX2_walkTo.cls ≠ "java/lang/invoke/MethodHandle" ∧ yX2_walkTo.cls ≠ "java/lang/invoke/VarHandle" ∧ (parseMethodDescriptor yX2_walkTo.desc).map (fun d => d.parameters.length) = some 2 := by decide +kernel
set_option maxHeartbeats 4000000 in
set_option maxRecDepth 100000 in
theorem k_X2_walkTo (l : Launch) (D : va_G) (C : Nat → ClassId) (q_t : Nat) (q_t_at : Nat) (q_t_lastHeld : Nat) (q_t_owed : Nat) (v_t_hour : Int32) (v_t_holder : Int32) (v_t_since : Int32) (v_t_fresh : Int32) (v_t_done : Int32) (r_t_at : Nat → Int32) (p1 : Int32) (p2 : Int32) (sz : Nat) (out : Int32 × (Nat → Int32)) (hf : fX2_walkTo v_t_hour v_t_holder r_t_at p1 p2 = some out) : MV l yX2_walkTo wsX2_walkTo ({ frames := 1, cells := 0, slots := 0, locals := 20 }) D C [.ref q_t, .int p1, .int p2] [ob q_t 2 [.int v_t_hour, .int v_t_holder, .int v_t_since, .int v_t_fresh, .int v_t_done, .ref q_t_at, .ref q_t_lastHeld, .ref q_t_owed], ia C q_t_at 6 r_t_at] [ob q_t 2 [.int out.1, .int v_t_holder, .int v_t_since, .int v_t_fresh, .int v_t_done, .ref q_t_at, .ref q_t_lastHeld, .ref q_t_owed], ia C q_t_at 6 out.2] sz := by
  unfold fX2_walkTo at hf
  refine en_V (by decide) rfl (Nat.le_of_ble_eq_true rfl) ?_
  intro p e s m below meth c A ls H locs hx hb hr hlocks hml hts hown hK hP hD hS hA hl
  have hl : lv_has ls 3 [(0, .ref q_t), (1, .int p1), (2, .int p2)] := hl
  have inX2 : ∀ w ∈ u_ws RX2 TX2 8, w ∈ wsX2_walkTo := fun w h => List.mem_cons_of_mem _ (List.mem_append_right _ h)
  refine lv_aload_n hx hb dX2_walkTo_0 rfl (lv_at hl 0 rfl) ?_
  obtain ⟨o1, ho1, hf⟩ := of_bind hf
  refine c_I (wr := [ia C q_t_at 6 r_t_at]) (W2 := [ob q_t 2 [.int v_t_hour, .int v_t_holder, .int v_t_since, .int v_t_fresh, .int v_t_done, .ref q_t_at, .ref q_t_lastHeld, .ref q_t_owed], ia C q_t_at 6 r_t_at]) (cV_run ⟨hx, hb, hml, hown, hts⟩ (k_X2_isHeld l D C q_t q_t_at q_t_lastHeld q_t_owed v_t_hour v_t_holder v_t_since v_t_fresh v_t_done H.size o1 ho1) gX2_walkTo_X2_isHeld rfl ⟨rfl, rfl⟩ hd_X2_isHeld ⟨(Nat.le_of_ble_eq_true rfl), (Nat.le_of_ble_eq_true rfl)⟩ rfl hK (cut_in hK hP hD [0] rfl (by decide)) (ci := 2) rfl rfl rfl hl.1 rfl (Nat.le_of_ble_eq_true rfl) dX2_walkTo_1 ⟨Nat.zero_le _, Nat.zero_le _⟩) hP hD hS hA [0] [1] [1, 0] rfl rfl (by decide) (by decide) rfl (by decide) (fun H locs hP hD hS => ?_)
  have hP : va_P D vwCl [ob q_t 2 [.int v_t_hour, .int v_t_holder, .int v_t_since, .int v_t_fresh, .int v_t_done, .ref q_t_at, .ref q_t_lastHeld, .ref q_t_owed], ia C q_t_at 6 r_t_at] H := hP
  have hD : va_D A [ob q_t 2 [.int v_t_hour, .int v_t_holder, .int v_t_since, .int v_t_fresh, .int v_t_done, .ref q_t_at, .ref q_t_lastHeld, .ref q_t_owed], ia C q_t_at 6 r_t_at] := hD
  refine lv_if_eq (tgt := 27) hx hb dX2_walkTo_4 (by decide) (fun c2 => ?_) (fun c2 => ?_)
  · have hf := of_pos hf c2
    obtain rfl := Option.some.inj hf
    exact ret_V hx hb hr hlocks hK hP hD hS dX2_walkTo_27
  · have hf := of_neg hf c2
    refine lv_aload_n hx hb dX2_walkTo_7 rfl (lv_at hl 0 rfl) ?_
    refine va_get (D := D) (ci := 2) (v := .ref q_t_at) (C := RX2) (T := TX2) (N := 8) hx hb hts inX2 hown hK hP 0 rfl rfl 5 (by decide) (hts (.fieldLink RX2 15 "LentCourage$Moment" "at" "[I") (List.mem_of_getElem? (i := 1) rfl)) (fun _ h9 => h9) rfl dX2_walkTo_8 ?_
    refine lv_aload_n hx hb dX2_walkTo_11 rfl (lv_at hl 0 rfl) ?_
    refine va_get (D := D) (ci := 2) (v := .int v_t_holder) (C := RX2) (T := TX2) (N := 8) hx hb hts inX2 hown hK hP 0 rfl rfl 1 (by decide) (hts (.fieldLink RX2 9 "LentCourage$Moment" "holder" "I") (List.mem_of_getElem? (i := 2) rfl)) (fun _ h9 => h9) rfl dX2_walkTo_12 ?_
    refine lv_iload_n hx hb dX2_walkTo_15 rfl (lv_at hl 1 rfl) ?_
    obtain ⟨h3, hf⟩ := of_chk hf
    refine va_iast hx hb hK hP hD hS 1 0 rfl rfl h3 dX2_walkTo_16 (fun H locs hP hD hS => ?_)
    have hP : va_P D vwCl [ob q_t 2 [.int v_t_hour, .int v_t_holder, .int v_t_since, .int v_t_fresh, .int v_t_done, .ref q_t_at, .ref q_t_lastHeld, .ref q_t_owed], ia C q_t_at 6 (upd r_t_at v_t_holder.toNatClampNeg p1)] H := hP
    have hD : va_D A [ob q_t 2 [.int v_t_hour, .int v_t_holder, .int v_t_since, .int v_t_fresh, .int v_t_done, .ref q_t_at, .ref q_t_lastHeld, .ref q_t_owed], ia C q_t_at 6 (upd r_t_at v_t_holder.toNatClampNeg p1)] := hD
    refine lv_aload_n hx hb dX2_walkTo_17 rfl (lv_at hl 0 rfl) ?_
    refine lv_dup hx hb dX2_walkTo_18 rfl ?_
    refine va_get (D := D) (ci := 2) (v := .int v_t_hour) (C := RX2) (T := TX2) (N := 8) hx hb hts inX2 hown hK hP 0 rfl rfl 0 (by decide) (hts (.fieldLink RX2 25 "LentCourage$Moment" "hour" "I") (List.mem_of_getElem? (i := 3) rfl)) (fun _ h9 => h9) rfl dX2_walkTo_19 ?_
    refine lv_iload_n hx hb dX2_walkTo_22 rfl (lv_at hl 2 rfl) ?_
    refine lv_iadd hx hb dX2_walkTo_23 ?_
    refine lv_topi (fun z4 ez4 => ?_)
    have hf := of_lt hf ez4
    refine va_put (D := D) (ci := 2) (v := .int z4) (ty := .int) (C := RX2) (T := TX2) (N := 8) hx hb hts inX2 tyX2 tyX2_ok nmX2 hown hK hP hD hS 0 rfl rfl 0 (by decide) (hts (.fieldLink RX2 25 "LentCourage$Moment" "hour" "I") (List.mem_of_getElem? (i := 3) rfl)) (fun _ h9 => h9) rfl (tyX2_ok 0 (by decide)) rfl rfl (Nat.le_of_ble_eq_true rfl) dX2_walkTo_24 (fun H locs hP hD hS => ?_)
    have hP : va_P D vwCl [ob q_t 2 [.int z4, .int v_t_holder, .int v_t_since, .int v_t_fresh, .int v_t_done, .ref q_t_at, .ref q_t_lastHeld, .ref q_t_owed], ia C q_t_at 6 (upd r_t_at v_t_holder.toNatClampNeg p1)] H := hP
    have hD : va_D A [ob q_t 2 [.int z4, .int v_t_holder, .int v_t_since, .int v_t_fresh, .int v_t_done, .ref q_t_at, .ref q_t_lastHeld, .ref q_t_owed], ia C q_t_at 6 (upd r_t_at v_t_holder.toNatClampNeg p1)] := hD
    obtain rfl := Option.some.inj hf
    exact ret_V hx hb hr hlocks hK hP hD hS dX2_walkTo_27

def fX2_owedByAll_4 (r_t_owed_4 : Nat → Int32) : Nat → Int32 → Int32 → Option (Int32 × Int32)
  | 0, _, _ => none
  | n + 1, w2_4, w1_4 => (if (6 : Int32) ≤ w2_4 then some (w2_4, w1_4) else chk (vin w2_4 6) (lt_ (w1_4 + (r_t_owed_4 w2_4.toNatClampNeg)) (fun z3 => lt_ (w2_4 + (1 : Int32)) (fun z4 => fX2_owedByAll_4 r_t_owed_4 n z4 z3))))
def fX2_owedByAll (r_t_owed : Nat → Int32) : Option (Int32) :=
  (fX2_owedByAll_4 r_t_owed FU (0 : Int32) (0 : Int32)).bind (fun y5 => some y5.2)
theorem hd_X2_owedByAll : yX2_owedByAll.cls = RX2 ∧ yX2_owedByAll.cls ≠ "java/lang/invoke/MethodHandle" ∧ yX2_owedByAll.cls ≠ "java/lang/invoke/VarHandle" ∧ (parseMethodDescriptor yX2_owedByAll.desc).map (fun d => d.parameters.length) = some 0 := by decide +kernel
set_option maxHeartbeats 4000000 in
set_option maxRecDepth 100000 in
theorem k_X2_owedByAll (l : Launch) (D : va_G) (C : Nat → ClassId) (q_t : Nat) (q_t_at : Nat) (q_t_lastHeld : Nat) (q_t_owed : Nat) (v_t_hour : Int32) (v_t_holder : Int32) (v_t_since : Int32) (v_t_fresh : Int32) (v_t_done : Int32) (r_t_owed : Nat → Int32) (sz : Nat) (out : Int32) (hf : fX2_owedByAll r_t_owed = some out) : MI l yX2_owedByAll wsX2_owedByAll ({ frames := 0, cells := 0, slots := 0, locals := 0 }) D C [.ref q_t] [ob q_t 2 [.int v_t_hour, .int v_t_holder, .int v_t_since, .int v_t_fresh, .int v_t_done, .ref q_t_at, .ref q_t_lastHeld, .ref q_t_owed], ia C q_t_owed 6 r_t_owed] [ob q_t 2 [.int v_t_hour, .int v_t_holder, .int v_t_since, .int v_t_fresh, .int v_t_done, .ref q_t_at, .ref q_t_lastHeld, .ref q_t_owed], ia C q_t_owed 6 r_t_owed] sz (out) := by
  unfold fX2_owedByAll at hf
  refine en_I (by decide) rfl (Nat.le_of_ble_eq_true rfl) ?_
  intro p e s m below meth c A ls H locs hx hb hr hlocks hml hts hown hK hP hD hS hA hl
  have hl : lv_has ls 3 [(0, .ref q_t)] := hl
  have inX2 : ∀ w ∈ u_ws RX2 TX2 8, w ∈ wsX2_owedByAll := fun w h => List.mem_cons_of_mem _ (List.mem_append_right _ h)
  have LP4 : ∀ (Q : State → Prop) (n : Nat) (w2_4 : Int32) (w1_4 : Int32) (v_t_hour_4 : Int32) (v_t_holder_4 : Int32) (v_t_since_4 : Int32) (v_t_fresh_4 : Int32) (v_t_done_4 : Int32) (r_t_owed_4 : Nat → Int32) (y_4 : Int32 × Int32), fX2_owedByAll_4 r_t_owed_4 n w2_4 w1_4 = some y_4 → ∀ (H : Heap) (locs : List Loc) (ls : Array Slot), va_P D vwCl [ob q_t 2 [.int v_t_hour_4, .int v_t_holder_4, .int v_t_since_4, .int v_t_fresh_4, .int v_t_done_4, .ref q_t_at, .ref q_t_lastHeld, .ref q_t_owed], ia C q_t_owed 6 r_t_owed_4] H → va_D A [ob q_t 2 [.int v_t_hour_4, .int v_t_holder_4, .int v_t_since_4, .int v_t_fresh_4, .int v_t_done_4, .ref q_t_at, .ref q_t_lastHeld, .ref q_t_owed], ia C q_t_owed 6 r_t_owed_4] → va_S A s.heap H locs → lv_has ls 3 [(2, .int w2_4), (1, .int w1_4), (0, .ref q_t)] → (∀ (H : Heap) (locs : List Loc) (ls : Array Slot), va_P D vwCl [ob q_t 2 [.int v_t_hour_4, .int v_t_holder_4, .int v_t_since_4, .int v_t_fresh_4, .int v_t_done_4, .ref q_t_at, .ref q_t_lastHeld, .ref q_t_owed], ia C q_t_owed 6 r_t_owed_4] H → va_D A [ob q_t 2 [.int v_t_hour_4, .int v_t_holder_4, .int v_t_since_4, .int v_t_fresh_4, .int v_t_done_4, .ref q_t_at, .ref q_t_lastHeld, .ref q_t_owed], ia C q_t_owed 6 r_t_owed_4] → va_S A s.heap H locs → lv_has ls 3 [(2, .int y_4.1), (1, .int y_4.2), (0, .ref q_t)] → W p l e ({ frames := 0, cells := 0, slots := 0, locals := 0 } : Room) s m ([.ref q_t] : List Value).toArray below meth c H locs 0 0 Q (F0 m 25 ls [])) → W p l e ({ frames := 0, cells := 0, slots := 0, locals := 0 } : Room) s m ([.ref q_t] : List Value).toArray below meth c H locs 0 0 Q (F0 m 4 ls []) := by
    intro Q n
    induction n with
    | zero =>
      intro w2_4 w1_4 v_t_hour_4 v_t_holder_4 v_t_since_4 v_t_fresh_4 v_t_done_4 r_t_owed_4 y_4 hf
      rw [fX2_owedByAll_4] at hf
      cases hf
    | succ n ih =>
      intro w2_4 w1_4 v_t_hour_4 v_t_holder_4 v_t_since_4 v_t_fresh_4 v_t_done_4 r_t_owed_4 y_4 hf H locs ls hP hD hS hl KX0
      rw [fX2_owedByAll_4] at hf
      refine lv_iload_n hx hb dX2_owedByAll_4 rfl (lv_at hl 0 rfl) ?_
      refine lv_bipush (v := (6 : Int32)) hx hb dX2_owedByAll_5 (by decide) ?_
      refine lv_icmp_ge (tgt := 25) hx hb dX2_owedByAll_7 (by decide) (fun c1 => ?_) (fun c1 => ?_)
      · have hf := of_pos hf c1
        obtain rfl := Option.some.inj hf
        exact KX0 _ _ _ hP hD hS (lv_sub hl [0, 1, 2] rfl)
      · have hf := of_neg hf c1
        refine lv_iload_n hx hb dX2_owedByAll_10 rfl (lv_at hl 1 rfl) ?_
        refine lv_aload_n hx hb dX2_owedByAll_11 rfl (lv_at hl 2 rfl) ?_
        refine va_get (D := D) (ci := 2) (v := .ref q_t_owed) (C := RX2) (T := TX2) (N := 8) hx hb hts inX2 hown hK hP 0 rfl rfl 7 (by decide) (hts (.fieldLink RX2 22 "LentCourage$Moment" "owed" "[I") (List.mem_of_getElem? (i := 1) rfl)) (fun _ h9 => h9) rfl dX2_owedByAll_12 ?_
        refine lv_iload_n hx hb dX2_owedByAll_15 rfl (lv_at hl 0 rfl) ?_
        obtain ⟨h2, hf⟩ := of_chk hf
        refine va_iald hx hb hK hP 1 0 rfl rfl h2 dX2_owedByAll_16 ?_
        refine lv_iadd hx hb dX2_owedByAll_17 ?_
        refine lv_topi (fun z3 ez3 => ?_)
        have hf := of_lt hf ez3
        refine lv_istore_n (lv' := [(1, .int z3), (2, .int w2_4), (0, .ref q_t)]) hx hb dX2_owedByAll_18 rfl hl (by decide) rfl (fun ls hl => ?_)
        obtain ⟨z4, ez4⟩ : ∃ y : Int32, y = (w2_4 + (1 : Int32)) := ⟨_, rfl⟩
        have hf := of_lt hf ez4
        refine lv_iinc (v := z4) (lv' := [(2, .int z4), (1, .int z3), (0, .ref q_t)]) hx hb dX2_owedByAll_19 hl (k := 1) rfl (by rw [ez4]; rfl) (by decide) rfl (fun ls hl => ?_)
        refine lv_goto (tgt := 4) hx hb dX2_owedByAll_22 (by decide) ?_
        exact ih _ _ _ _ _ _ _ _ _ hf H locs ls hP hD hS (lv_sub hl [0, 1, 2] rfl) KX0
  refine lv_iconst (v := (0 : Int32)) hx hb dX2_owedByAll_0 (by decide) ?_
  refine lv_istore_n (lv' := [(1, .int (0 : Int32)), (0, .ref q_t)]) hx hb dX2_owedByAll_1 rfl hl (by decide) rfl (fun ls hl => ?_)
  refine lv_iconst (v := (0 : Int32)) hx hb dX2_owedByAll_2 (by decide) ?_
  refine lv_istore_n (lv' := [(2, .int (0 : Int32)), (1, .int (0 : Int32)), (0, .ref q_t)]) hx hb dX2_owedByAll_3 rfl hl (by decide) rfl (fun ls hl => ?_)
  obtain ⟨y5, hy5, hf⟩ := of_bind hf
  refine LP4 _ FU _ _ _ _ _ _ _ _ y5 hy5 H locs ls hP hD hS (lv_sub hl [0, 1, 2] rfl) (fun H locs ls hP hD hS hl => ?_)
  refine lv_iload_n hx hb dX2_owedByAll_25 rfl (lv_at hl 1 rfl) ?_
  obtain rfl := Option.some.inj hf
  exact ret_I hx hb hr hlocks hK hP hD hS dX2_owedByAll_26

def fX2_begin_28 (r_a1_home_28 : Nat → Int32) : Nat → Int32 → (Nat → Int32) → (Nat → Int32) → (Nat → Int32) → Option (Int32 × (Nat → Int32) × (Nat → Int32) × (Nat → Int32))
  | 0, _, _, _, _ => none
  | n + 1, w2_28, r_t_at_28, r_t_lastHeld_28, r_t_owed_28 => (if (6 : Int32) ≤ w2_28 then some (w2_28, r_t_at_28, r_t_lastHeld_28, r_t_owed_28) else chk (vin w2_28 6) (lt_ (r_a1_home_28 w2_28.toNatClampNeg) (fun z3 => lt_ (w2_28 + (1 : Int32)) (fun z4 => fX2_begin_28 r_a1_home_28 n z4 (upd r_t_at_28 w2_28.toNatClampNeg z3) (upd r_t_lastHeld_28 w2_28.toNatClampNeg (0 : Int32)) (upd r_t_owed_28 w2_28.toNatClampNeg (0 : Int32))))))
def fX2_begin (r_t_at : Nat → Int32) (r_t_lastHeld : Nat → Int32) (r_t_owed : Nat → Int32) (r_a1_home : Nat → Int32) : Option (Int32 × Int32 × Int32 × Int32 × Int32 × (Nat → Int32) × (Nat → Int32) × (Nat → Int32)) :=
  (fX2_begin_28 r_a1_home FU (0 : Int32) r_t_at r_t_lastHeld r_t_owed).bind (fun y5 => some ((0 : Int32), (-9 : Int32), (0 : Int32), (0 : Int32), (0 : Int32), y5.2.1, y5.2.2.1, y5.2.2.2))
theorem hd_X2_begin : yX2_begin.cls = RX2 ∧ yX2_begin.cls ≠ "java/lang/invoke/MethodHandle" ∧ yX2_begin.cls ≠ "java/lang/invoke/VarHandle" ∧ (parseMethodDescriptor yX2_begin.desc).map (fun d => d.parameters.length) = some 1 := by decide +kernel
set_option maxHeartbeats 4000000 in
set_option maxRecDepth 100000 in
theorem k_X2_begin (l : Launch) (D : va_G) (C : Nat → ClassId) (q_t : Nat) (q_t_at : Nat) (q_t_lastHeld : Nat) (q_t_owed : Nat) (q_a1 : Nat) (q_a1_home : Nat) (q_a1_who : Nat) (q_a1_place : Nat) (q_a1_from : Nat) (q_a1_till : Nat) (q_a1_worth : Nat) (v_t_hour : Int32) (v_t_holder : Int32) (v_t_since : Int32) (v_t_fresh : Int32) (v_t_done : Int32) (r_t_at : Nat → Int32) (r_t_lastHeld : Nat → Int32) (r_t_owed : Nat → Int32) (v_a1_office : Int32) (v_a1_free : Int32) (v_a1_people : Int32) (v_a1_deeds : Int32) (r_a1_home : Nat → Int32) (sz : Nat) (out : Int32 × Int32 × Int32 × Int32 × Int32 × (Nat → Int32) × (Nat → Int32) × (Nat → Int32)) (hf : fX2_begin r_t_at r_t_lastHeld r_t_owed r_a1_home = some out) : MV l yX2_begin wsX2_begin ({ frames := 0, cells := 0, slots := 0, locals := 0 }) D C [.ref q_t, .ref q_a1] [ob q_t 2 [.int v_t_hour, .int v_t_holder, .int v_t_since, .int v_t_fresh, .int v_t_done, .ref q_t_at, .ref q_t_lastHeld, .ref q_t_owed], ia C q_t_at 6 r_t_at, ia C q_t_lastHeld 6 r_t_lastHeld, ia C q_t_owed 6 r_t_owed, ob q_a1 4 [.int v_a1_office, .int v_a1_free, .int v_a1_people, .int v_a1_deeds, .ref q_a1_home, .ref q_a1_who, .ref q_a1_place, .ref q_a1_from, .ref q_a1_till, .ref q_a1_worth], ia C q_a1_home 6 r_a1_home] [ob q_t 2 [.int out.1, .int out.2.1, .int out.2.2.1, .int out.2.2.2.1, .int out.2.2.2.2.1, .ref q_t_at, .ref q_t_lastHeld, .ref q_t_owed], ia C q_t_at 6 out.2.2.2.2.2.1, ia C q_t_lastHeld 6 out.2.2.2.2.2.2.1, ia C q_t_owed 6 out.2.2.2.2.2.2.2, ob q_a1 4 [.int v_a1_office, .int v_a1_free, .int v_a1_people, .int v_a1_deeds, .ref q_a1_home, .ref q_a1_who, .ref q_a1_place, .ref q_a1_from, .ref q_a1_till, .ref q_a1_worth], ia C q_a1_home 6 r_a1_home] sz := by
  unfold fX2_begin at hf
  refine en_V (by decide) rfl (Nat.le_of_ble_eq_true rfl) ?_
  intro p e s m below meth c A ls H locs hx hb hr hlocks hml hts hown hK hP hD hS hA hl
  have hl : lv_has ls 3 [(0, .ref q_t), (1, .ref q_a1)] := hl
  have inX2 : ∀ w ∈ u_ws RX2 TX2 8, w ∈ wsX2_begin := fun w h => List.mem_cons_of_mem _ (List.mem_append_left _ (List.mem_append_right _ h))
  have inX4 : ∀ w ∈ u_ws RX4 TX4 10, w ∈ wsX2_begin := fun w h => List.mem_cons_of_mem _ (List.mem_append_right _ h)
  have LP28 : ∀ (Q : State → Prop) (n : Nat) (w2_28 : Int32) (v_t_hour_28 : Int32) (v_t_holder_28 : Int32) (v_t_since_28 : Int32) (v_t_fresh_28 : Int32) (v_t_done_28 : Int32) (r_t_at_28 : Nat → Int32) (r_t_lastHeld_28 : Nat → Int32) (r_t_owed_28 : Nat → Int32) (v_a1_office_28 : Int32) (v_a1_free_28 : Int32) (v_a1_people_28 : Int32) (v_a1_deeds_28 : Int32) (r_a1_home_28 : Nat → Int32) (y_28 : Int32 × (Nat → Int32) × (Nat → Int32) × (Nat → Int32)), fX2_begin_28 r_a1_home_28 n w2_28 r_t_at_28 r_t_lastHeld_28 r_t_owed_28 = some y_28 → ∀ (H : Heap) (locs : List Loc) (ls : Array Slot), va_P D vwCl [ob q_t 2 [.int v_t_hour_28, .int v_t_holder_28, .int v_t_since_28, .int v_t_fresh_28, .int v_t_done_28, .ref q_t_at, .ref q_t_lastHeld, .ref q_t_owed], ia C q_t_at 6 r_t_at_28, ia C q_t_lastHeld 6 r_t_lastHeld_28, ia C q_t_owed 6 r_t_owed_28, ob q_a1 4 [.int v_a1_office_28, .int v_a1_free_28, .int v_a1_people_28, .int v_a1_deeds_28, .ref q_a1_home, .ref q_a1_who, .ref q_a1_place, .ref q_a1_from, .ref q_a1_till, .ref q_a1_worth], ia C q_a1_home 6 r_a1_home_28] H → va_D A [ob q_t 2 [.int v_t_hour_28, .int v_t_holder_28, .int v_t_since_28, .int v_t_fresh_28, .int v_t_done_28, .ref q_t_at, .ref q_t_lastHeld, .ref q_t_owed], ia C q_t_at 6 r_t_at_28, ia C q_t_lastHeld 6 r_t_lastHeld_28, ia C q_t_owed 6 r_t_owed_28, ob q_a1 4 [.int v_a1_office_28, .int v_a1_free_28, .int v_a1_people_28, .int v_a1_deeds_28, .ref q_a1_home, .ref q_a1_who, .ref q_a1_place, .ref q_a1_from, .ref q_a1_till, .ref q_a1_worth], ia C q_a1_home 6 r_a1_home_28] → va_S A s.heap H locs → lv_has ls 3 [(2, .int w2_28), (0, .ref q_t), (1, .ref q_a1)] → (∀ (H : Heap) (locs : List Loc) (ls : Array Slot), va_P D vwCl [ob q_t 2 [.int v_t_hour_28, .int v_t_holder_28, .int v_t_since_28, .int v_t_fresh_28, .int v_t_done_28, .ref q_t_at, .ref q_t_lastHeld, .ref q_t_owed], ia C q_t_at 6 y_28.2.1, ia C q_t_lastHeld 6 y_28.2.2.1, ia C q_t_owed 6 y_28.2.2.2, ob q_a1 4 [.int v_a1_office_28, .int v_a1_free_28, .int v_a1_people_28, .int v_a1_deeds_28, .ref q_a1_home, .ref q_a1_who, .ref q_a1_place, .ref q_a1_from, .ref q_a1_till, .ref q_a1_worth], ia C q_a1_home 6 r_a1_home_28] H → va_D A [ob q_t 2 [.int v_t_hour_28, .int v_t_holder_28, .int v_t_since_28, .int v_t_fresh_28, .int v_t_done_28, .ref q_t_at, .ref q_t_lastHeld, .ref q_t_owed], ia C q_t_at 6 y_28.2.1, ia C q_t_lastHeld 6 y_28.2.2.1, ia C q_t_owed 6 y_28.2.2.2, ob q_a1 4 [.int v_a1_office_28, .int v_a1_free_28, .int v_a1_people_28, .int v_a1_deeds_28, .ref q_a1_home, .ref q_a1_who, .ref q_a1_place, .ref q_a1_from, .ref q_a1_till, .ref q_a1_worth], ia C q_a1_home 6 r_a1_home_28] → va_S A s.heap H locs → lv_has ls 3 [(2, .int y_28.1), (0, .ref q_t), (1, .ref q_a1)] → W p l e ({ frames := 0, cells := 0, slots := 0, locals := 0 } : Room) s m ([.ref q_t, .ref q_a1] : List Value).toArray below meth c H locs 0 0 Q (F0 m 66 ls [])) → W p l e ({ frames := 0, cells := 0, slots := 0, locals := 0 } : Room) s m ([.ref q_t, .ref q_a1] : List Value).toArray below meth c H locs 0 0 Q (F0 m 28 ls []) := by
    intro Q n
    induction n with
    | zero =>
      intro w2_28 v_t_hour_28 v_t_holder_28 v_t_since_28 v_t_fresh_28 v_t_done_28 r_t_at_28 r_t_lastHeld_28 r_t_owed_28 v_a1_office_28 v_a1_free_28 v_a1_people_28 v_a1_deeds_28 r_a1_home_28 y_28 hf
      rw [fX2_begin_28] at hf
      cases hf
    | succ n ih =>
      intro w2_28 v_t_hour_28 v_t_holder_28 v_t_since_28 v_t_fresh_28 v_t_done_28 r_t_at_28 r_t_lastHeld_28 r_t_owed_28 v_a1_office_28 v_a1_free_28 v_a1_people_28 v_a1_deeds_28 r_a1_home_28 y_28 hf H locs ls hP hD hS hl KX0
      rw [fX2_begin_28] at hf
      refine lv_iload_n hx hb dX2_begin_28 rfl (lv_at hl 0 rfl) ?_
      refine lv_bipush (v := (6 : Int32)) hx hb dX2_begin_29 (by decide) ?_
      refine lv_icmp_ge (tgt := 66) hx hb dX2_begin_31 (by decide) (fun c1 => ?_) (fun c1 => ?_)
      · have hf := of_pos hf c1
        obtain rfl := Option.some.inj hf
        exact KX0 _ _ _ hP hD hS (lv_sub hl [0, 1, 2] rfl)
      · have hf := of_neg hf c1
        refine lv_aload_n hx hb dX2_begin_34 rfl (lv_at hl 1 rfl) ?_
        refine va_get (D := D) (ci := 2) (v := .ref q_t_at) (C := RX2) (T := TX2) (N := 8) hx hb hts inX2 hown hK hP 0 rfl rfl 5 (by decide) (hts (.fieldLink RX2 15 "LentCourage$Moment" "at" "[I") (List.mem_of_getElem? (i := 6) rfl)) (fun _ h9 => h9) rfl dX2_begin_35 ?_
        refine lv_iload_n hx hb dX2_begin_38 rfl (lv_at hl 0 rfl) ?_
        refine lv_aload_n hx hb dX2_begin_39 rfl (lv_at hl 2 rfl) ?_
        refine va_get (D := D) (ci := 4) (v := .ref q_a1_home) (C := RX4) (T := TX4) (N := 10) hx hb hts inX4 hown hK hP 4 rfl rfl 4 (by decide) (hts (.fieldLink RX2 38 "LentCourage$Port" "home" "[I") (List.mem_of_getElem? (i := 7) rfl)) (fun _ h9 => h9) rfl dX2_begin_40 ?_
        refine lv_iload_n hx hb dX2_begin_43 rfl (lv_at hl 0 rfl) ?_
        obtain ⟨h2, hf⟩ := of_chk hf
        refine va_iald hx hb hK hP 5 0 rfl rfl h2 dX2_begin_44 ?_
        refine lv_topi (fun z3 ez3 => ?_)
        have hf := of_lt hf ez3
        refine va_iast hx hb hK hP hD hS 1 0 rfl rfl h2 dX2_begin_45 (fun H locs hP hD hS => ?_)
        have hP : va_P D vwCl [ob q_t 2 [.int v_t_hour_28, .int v_t_holder_28, .int v_t_since_28, .int v_t_fresh_28, .int v_t_done_28, .ref q_t_at, .ref q_t_lastHeld, .ref q_t_owed], ia C q_t_at 6 (upd r_t_at_28 w2_28.toNatClampNeg z3), ia C q_t_lastHeld 6 r_t_lastHeld_28, ia C q_t_owed 6 r_t_owed_28, ob q_a1 4 [.int v_a1_office_28, .int v_a1_free_28, .int v_a1_people_28, .int v_a1_deeds_28, .ref q_a1_home, .ref q_a1_who, .ref q_a1_place, .ref q_a1_from, .ref q_a1_till, .ref q_a1_worth], ia C q_a1_home 6 r_a1_home_28] H := hP
        have hD : va_D A [ob q_t 2 [.int v_t_hour_28, .int v_t_holder_28, .int v_t_since_28, .int v_t_fresh_28, .int v_t_done_28, .ref q_t_at, .ref q_t_lastHeld, .ref q_t_owed], ia C q_t_at 6 (upd r_t_at_28 w2_28.toNatClampNeg z3), ia C q_t_lastHeld 6 r_t_lastHeld_28, ia C q_t_owed 6 r_t_owed_28, ob q_a1 4 [.int v_a1_office_28, .int v_a1_free_28, .int v_a1_people_28, .int v_a1_deeds_28, .ref q_a1_home, .ref q_a1_who, .ref q_a1_place, .ref q_a1_from, .ref q_a1_till, .ref q_a1_worth], ia C q_a1_home 6 r_a1_home_28] := hD
        refine lv_aload_n hx hb dX2_begin_46 rfl (lv_at hl 1 rfl) ?_
        refine va_get (D := D) (ci := 2) (v := .ref q_t_lastHeld) (C := RX2) (T := TX2) (N := 8) hx hb hts inX2 hown hK hP 0 rfl rfl 6 (by decide) (hts (.fieldLink RX2 19 "LentCourage$Moment" "lastHeld" "[I") (List.mem_of_getElem? (i := 8) rfl)) (fun _ h9 => h9) rfl dX2_begin_47 ?_
        refine lv_iload_n hx hb dX2_begin_50 rfl (lv_at hl 0 rfl) ?_
        refine lv_iconst (v := (0 : Int32)) hx hb dX2_begin_51 (by decide) ?_
        refine va_iast hx hb hK hP hD hS 2 0 rfl rfl h2 dX2_begin_52 (fun H locs hP hD hS => ?_)
        have hP : va_P D vwCl [ob q_t 2 [.int v_t_hour_28, .int v_t_holder_28, .int v_t_since_28, .int v_t_fresh_28, .int v_t_done_28, .ref q_t_at, .ref q_t_lastHeld, .ref q_t_owed], ia C q_t_at 6 (upd r_t_at_28 w2_28.toNatClampNeg z3), ia C q_t_lastHeld 6 (upd r_t_lastHeld_28 w2_28.toNatClampNeg (0 : Int32)), ia C q_t_owed 6 r_t_owed_28, ob q_a1 4 [.int v_a1_office_28, .int v_a1_free_28, .int v_a1_people_28, .int v_a1_deeds_28, .ref q_a1_home, .ref q_a1_who, .ref q_a1_place, .ref q_a1_from, .ref q_a1_till, .ref q_a1_worth], ia C q_a1_home 6 r_a1_home_28] H := hP
        have hD : va_D A [ob q_t 2 [.int v_t_hour_28, .int v_t_holder_28, .int v_t_since_28, .int v_t_fresh_28, .int v_t_done_28, .ref q_t_at, .ref q_t_lastHeld, .ref q_t_owed], ia C q_t_at 6 (upd r_t_at_28 w2_28.toNatClampNeg z3), ia C q_t_lastHeld 6 (upd r_t_lastHeld_28 w2_28.toNatClampNeg (0 : Int32)), ia C q_t_owed 6 r_t_owed_28, ob q_a1 4 [.int v_a1_office_28, .int v_a1_free_28, .int v_a1_people_28, .int v_a1_deeds_28, .ref q_a1_home, .ref q_a1_who, .ref q_a1_place, .ref q_a1_from, .ref q_a1_till, .ref q_a1_worth], ia C q_a1_home 6 r_a1_home_28] := hD
        refine lv_aload_n hx hb dX2_begin_53 rfl (lv_at hl 1 rfl) ?_
        refine va_get (D := D) (ci := 2) (v := .ref q_t_owed) (C := RX2) (T := TX2) (N := 8) hx hb hts inX2 hown hK hP 0 rfl rfl 7 (by decide) (hts (.fieldLink RX2 22 "LentCourage$Moment" "owed" "[I") (List.mem_of_getElem? (i := 9) rfl)) (fun _ h9 => h9) rfl dX2_begin_54 ?_
        refine lv_iload_n hx hb dX2_begin_57 rfl (lv_at hl 0 rfl) ?_
        refine lv_iconst (v := (0 : Int32)) hx hb dX2_begin_58 (by decide) ?_
        refine va_iast hx hb hK hP hD hS 3 0 rfl rfl h2 dX2_begin_59 (fun H locs hP hD hS => ?_)
        have hP : va_P D vwCl [ob q_t 2 [.int v_t_hour_28, .int v_t_holder_28, .int v_t_since_28, .int v_t_fresh_28, .int v_t_done_28, .ref q_t_at, .ref q_t_lastHeld, .ref q_t_owed], ia C q_t_at 6 (upd r_t_at_28 w2_28.toNatClampNeg z3), ia C q_t_lastHeld 6 (upd r_t_lastHeld_28 w2_28.toNatClampNeg (0 : Int32)), ia C q_t_owed 6 (upd r_t_owed_28 w2_28.toNatClampNeg (0 : Int32)), ob q_a1 4 [.int v_a1_office_28, .int v_a1_free_28, .int v_a1_people_28, .int v_a1_deeds_28, .ref q_a1_home, .ref q_a1_who, .ref q_a1_place, .ref q_a1_from, .ref q_a1_till, .ref q_a1_worth], ia C q_a1_home 6 r_a1_home_28] H := hP
        have hD : va_D A [ob q_t 2 [.int v_t_hour_28, .int v_t_holder_28, .int v_t_since_28, .int v_t_fresh_28, .int v_t_done_28, .ref q_t_at, .ref q_t_lastHeld, .ref q_t_owed], ia C q_t_at 6 (upd r_t_at_28 w2_28.toNatClampNeg z3), ia C q_t_lastHeld 6 (upd r_t_lastHeld_28 w2_28.toNatClampNeg (0 : Int32)), ia C q_t_owed 6 (upd r_t_owed_28 w2_28.toNatClampNeg (0 : Int32)), ob q_a1 4 [.int v_a1_office_28, .int v_a1_free_28, .int v_a1_people_28, .int v_a1_deeds_28, .ref q_a1_home, .ref q_a1_who, .ref q_a1_place, .ref q_a1_from, .ref q_a1_till, .ref q_a1_worth], ia C q_a1_home 6 r_a1_home_28] := hD
        obtain ⟨z4, ez4⟩ : ∃ y : Int32, y = (w2_28 + (1 : Int32)) := ⟨_, rfl⟩
        have hf := of_lt hf ez4
        refine lv_iinc (v := z4) (lv' := [(2, .int z4), (0, .ref q_t), (1, .ref q_a1)]) hx hb dX2_begin_60 hl (k := 0) rfl (by rw [ez4]; rfl) (by decide) rfl (fun ls hl => ?_)
        refine lv_goto (tgt := 28) hx hb dX2_begin_63 (by decide) ?_
        exact ih _ _ _ _ _ _ _ _ _ _ _ _ _ _ _ hf H locs ls hP hD hS (lv_sub hl [0, 1, 2] rfl) KX0
  refine lv_aload_n hx hb dX2_begin_0 rfl (lv_at hl 0 rfl) ?_
  refine lv_iconst (v := (0 : Int32)) hx hb dX2_begin_1 (by decide) ?_
  refine va_put (D := D) (ci := 2) (v := .int (0 : Int32)) (ty := .int) (C := RX2) (T := TX2) (N := 8) hx hb hts inX2 tyX2 tyX2_ok nmX2 hown hK hP hD hS 0 rfl rfl 0 (by decide) (hts (.fieldLink RX2 25 "LentCourage$Moment" "hour" "I") (List.mem_of_getElem? (i := 1) rfl)) (fun _ h9 => h9) rfl (tyX2_ok 0 (by decide)) rfl rfl (Nat.le_of_ble_eq_true rfl) dX2_begin_2 (fun H locs hP hD hS => ?_)
  have hP : va_P D vwCl [ob q_t 2 [.int (0 : Int32), .int v_t_holder, .int v_t_since, .int v_t_fresh, .int v_t_done, .ref q_t_at, .ref q_t_lastHeld, .ref q_t_owed], ia C q_t_at 6 r_t_at, ia C q_t_lastHeld 6 r_t_lastHeld, ia C q_t_owed 6 r_t_owed, ob q_a1 4 [.int v_a1_office, .int v_a1_free, .int v_a1_people, .int v_a1_deeds, .ref q_a1_home, .ref q_a1_who, .ref q_a1_place, .ref q_a1_from, .ref q_a1_till, .ref q_a1_worth], ia C q_a1_home 6 r_a1_home] H := hP
  have hD : va_D A [ob q_t 2 [.int (0 : Int32), .int v_t_holder, .int v_t_since, .int v_t_fresh, .int v_t_done, .ref q_t_at, .ref q_t_lastHeld, .ref q_t_owed], ia C q_t_at 6 r_t_at, ia C q_t_lastHeld 6 r_t_lastHeld, ia C q_t_owed 6 r_t_owed, ob q_a1 4 [.int v_a1_office, .int v_a1_free, .int v_a1_people, .int v_a1_deeds, .ref q_a1_home, .ref q_a1_who, .ref q_a1_place, .ref q_a1_from, .ref q_a1_till, .ref q_a1_worth], ia C q_a1_home 6 r_a1_home] := hD
  refine lv_aload_n hx hb dX2_begin_5 rfl (lv_at hl 0 rfl) ?_
  refine lv_bipush (v := (-9 : Int32)) hx hb dX2_begin_6 (by decide) ?_
  refine va_put (D := D) (ci := 2) (v := .int (-9 : Int32)) (ty := .int) (C := RX2) (T := TX2) (N := 8) hx hb hts inX2 tyX2 tyX2_ok nmX2 hown hK hP hD hS 0 rfl rfl 1 (by decide) (hts (.fieldLink RX2 9 "LentCourage$Moment" "holder" "I") (List.mem_of_getElem? (i := 2) rfl)) (fun _ h9 => h9) rfl (tyX2_ok 1 (by decide)) rfl rfl (Nat.le_of_ble_eq_true rfl) dX2_begin_8 (fun H locs hP hD hS => ?_)
  have hP : va_P D vwCl [ob q_t 2 [.int (0 : Int32), .int (-9 : Int32), .int v_t_since, .int v_t_fresh, .int v_t_done, .ref q_t_at, .ref q_t_lastHeld, .ref q_t_owed], ia C q_t_at 6 r_t_at, ia C q_t_lastHeld 6 r_t_lastHeld, ia C q_t_owed 6 r_t_owed, ob q_a1 4 [.int v_a1_office, .int v_a1_free, .int v_a1_people, .int v_a1_deeds, .ref q_a1_home, .ref q_a1_who, .ref q_a1_place, .ref q_a1_from, .ref q_a1_till, .ref q_a1_worth], ia C q_a1_home 6 r_a1_home] H := hP
  have hD : va_D A [ob q_t 2 [.int (0 : Int32), .int (-9 : Int32), .int v_t_since, .int v_t_fresh, .int v_t_done, .ref q_t_at, .ref q_t_lastHeld, .ref q_t_owed], ia C q_t_at 6 r_t_at, ia C q_t_lastHeld 6 r_t_lastHeld, ia C q_t_owed 6 r_t_owed, ob q_a1 4 [.int v_a1_office, .int v_a1_free, .int v_a1_people, .int v_a1_deeds, .ref q_a1_home, .ref q_a1_who, .ref q_a1_place, .ref q_a1_from, .ref q_a1_till, .ref q_a1_worth], ia C q_a1_home 6 r_a1_home] := hD
  refine lv_aload_n hx hb dX2_begin_11 rfl (lv_at hl 0 rfl) ?_
  refine lv_iconst (v := (0 : Int32)) hx hb dX2_begin_12 (by decide) ?_
  refine va_put (D := D) (ci := 2) (v := .int (0 : Int32)) (ty := .int) (C := RX2) (T := TX2) (N := 8) hx hb hts inX2 tyX2 tyX2_ok nmX2 hown hK hP hD hS 0 rfl rfl 2 (by decide) (hts (.fieldLink RX2 28 "LentCourage$Moment" "since" "I") (List.mem_of_getElem? (i := 3) rfl)) (fun _ h9 => h9) rfl (tyX2_ok 2 (by decide)) rfl rfl (Nat.le_of_ble_eq_true rfl) dX2_begin_13 (fun H locs hP hD hS => ?_)
  have hP : va_P D vwCl [ob q_t 2 [.int (0 : Int32), .int (-9 : Int32), .int (0 : Int32), .int v_t_fresh, .int v_t_done, .ref q_t_at, .ref q_t_lastHeld, .ref q_t_owed], ia C q_t_at 6 r_t_at, ia C q_t_lastHeld 6 r_t_lastHeld, ia C q_t_owed 6 r_t_owed, ob q_a1 4 [.int v_a1_office, .int v_a1_free, .int v_a1_people, .int v_a1_deeds, .ref q_a1_home, .ref q_a1_who, .ref q_a1_place, .ref q_a1_from, .ref q_a1_till, .ref q_a1_worth], ia C q_a1_home 6 r_a1_home] H := hP
  have hD : va_D A [ob q_t 2 [.int (0 : Int32), .int (-9 : Int32), .int (0 : Int32), .int v_t_fresh, .int v_t_done, .ref q_t_at, .ref q_t_lastHeld, .ref q_t_owed], ia C q_t_at 6 r_t_at, ia C q_t_lastHeld 6 r_t_lastHeld, ia C q_t_owed 6 r_t_owed, ob q_a1 4 [.int v_a1_office, .int v_a1_free, .int v_a1_people, .int v_a1_deeds, .ref q_a1_home, .ref q_a1_who, .ref q_a1_place, .ref q_a1_from, .ref q_a1_till, .ref q_a1_worth], ia C q_a1_home 6 r_a1_home] := hD
  refine lv_aload_n hx hb dX2_begin_16 rfl (lv_at hl 0 rfl) ?_
  refine lv_iconst (v := (0 : Int32)) hx hb dX2_begin_17 (by decide) ?_
  refine va_put (D := D) (ci := 2) (v := .int (0 : Int32)) (ty := .boolean) (C := RX2) (T := TX2) (N := 8) hx hb hts inX2 tyX2 tyX2_ok nmX2 hown hK hP hD hS 0 rfl rfl 3 (by decide) (hts (.fieldLink RX2 31 "LentCourage$Moment" "fresh" "Z") (List.mem_of_getElem? (i := 4) rfl)) (fun _ h9 => h9) rfl (tyX2_ok 3 (by decide)) (okZ_nar okZ_0) (okZ_fit okZ_0) (Nat.le_of_ble_eq_true rfl) dX2_begin_18 (fun H locs hP hD hS => ?_)
  have hP : va_P D vwCl [ob q_t 2 [.int (0 : Int32), .int (-9 : Int32), .int (0 : Int32), .int (0 : Int32), .int v_t_done, .ref q_t_at, .ref q_t_lastHeld, .ref q_t_owed], ia C q_t_at 6 r_t_at, ia C q_t_lastHeld 6 r_t_lastHeld, ia C q_t_owed 6 r_t_owed, ob q_a1 4 [.int v_a1_office, .int v_a1_free, .int v_a1_people, .int v_a1_deeds, .ref q_a1_home, .ref q_a1_who, .ref q_a1_place, .ref q_a1_from, .ref q_a1_till, .ref q_a1_worth], ia C q_a1_home 6 r_a1_home] H := hP
  have hD : va_D A [ob q_t 2 [.int (0 : Int32), .int (-9 : Int32), .int (0 : Int32), .int (0 : Int32), .int v_t_done, .ref q_t_at, .ref q_t_lastHeld, .ref q_t_owed], ia C q_t_at 6 r_t_at, ia C q_t_lastHeld 6 r_t_lastHeld, ia C q_t_owed 6 r_t_owed, ob q_a1 4 [.int v_a1_office, .int v_a1_free, .int v_a1_people, .int v_a1_deeds, .ref q_a1_home, .ref q_a1_who, .ref q_a1_place, .ref q_a1_from, .ref q_a1_till, .ref q_a1_worth], ia C q_a1_home 6 r_a1_home] := hD
  refine lv_aload_n hx hb dX2_begin_21 rfl (lv_at hl 0 rfl) ?_
  refine lv_iconst (v := (0 : Int32)) hx hb dX2_begin_22 (by decide) ?_
  refine va_put (D := D) (ci := 2) (v := .int (0 : Int32)) (ty := .int) (C := RX2) (T := TX2) (N := 8) hx hb hts inX2 tyX2 tyX2_ok nmX2 hown hK hP hD hS 0 rfl rfl 4 (by decide) (hts (.fieldLink RX2 35 "LentCourage$Moment" "done" "I") (List.mem_of_getElem? (i := 5) rfl)) (fun _ h9 => h9) rfl (tyX2_ok 4 (by decide)) rfl rfl (Nat.le_of_ble_eq_true rfl) dX2_begin_23 (fun H locs hP hD hS => ?_)
  have hP : va_P D vwCl [ob q_t 2 [.int (0 : Int32), .int (-9 : Int32), .int (0 : Int32), .int (0 : Int32), .int (0 : Int32), .ref q_t_at, .ref q_t_lastHeld, .ref q_t_owed], ia C q_t_at 6 r_t_at, ia C q_t_lastHeld 6 r_t_lastHeld, ia C q_t_owed 6 r_t_owed, ob q_a1 4 [.int v_a1_office, .int v_a1_free, .int v_a1_people, .int v_a1_deeds, .ref q_a1_home, .ref q_a1_who, .ref q_a1_place, .ref q_a1_from, .ref q_a1_till, .ref q_a1_worth], ia C q_a1_home 6 r_a1_home] H := hP
  have hD : va_D A [ob q_t 2 [.int (0 : Int32), .int (-9 : Int32), .int (0 : Int32), .int (0 : Int32), .int (0 : Int32), .ref q_t_at, .ref q_t_lastHeld, .ref q_t_owed], ia C q_t_at 6 r_t_at, ia C q_t_lastHeld 6 r_t_lastHeld, ia C q_t_owed 6 r_t_owed, ob q_a1 4 [.int v_a1_office, .int v_a1_free, .int v_a1_people, .int v_a1_deeds, .ref q_a1_home, .ref q_a1_who, .ref q_a1_place, .ref q_a1_from, .ref q_a1_till, .ref q_a1_worth], ia C q_a1_home 6 r_a1_home] := hD
  refine lv_iconst (v := (0 : Int32)) hx hb dX2_begin_26 (by decide) ?_
  refine lv_istore_n (lv' := [(2, .int (0 : Int32)), (0, .ref q_t), (1, .ref q_a1)]) hx hb dX2_begin_27 rfl hl (by decide) rfl (fun ls hl => ?_)
  obtain ⟨y5, hy5, hf⟩ := of_bind hf
  refine LP28 _ FU _ _ _ _ _ _ _ _ _ _ _ _ _ _ y5 hy5 H locs ls hP hD hS (lv_sub hl [0, 1, 2] rfl) (fun H locs ls hP hD hS hl => ?_)
  obtain rfl := Option.some.inj hf
  exact ret_V hx hb hr hlocks hK hP hD hS dX2_begin_66

def fX2_copyFrom (r_t_at : Nat → Int32) (r_t_lastHeld : Nat → Int32) (r_t_owed : Nat → Int32) (v_a1_hour : Int32) (v_a1_holder : Int32) (v_a1_since : Int32) (v_a1_fresh : Int32) (v_a1_done : Int32) (r_a1_at : Nat → Int32) (r_a1_lastHeld : Nat → Int32) (r_a1_owed : Nat → Int32) : Option (Int32 × Int32 × Int32 × Int32 × Int32 × (Nat → Int32) × (Nat → Int32) × (Nat → Int32)) :=
  chk (okZ v_a1_fresh) (some (v_a1_hour, v_a1_holder, v_a1_since, v_a1_fresh, v_a1_done, (cpn r_a1_at r_t_at (6)), (cpn r_a1_lastHeld r_t_lastHeld (6)), (cpn r_a1_owed r_t_owed (6))))
theorem hd_X2_copyFrom : yX2_copyFrom.cls = RX2 ∧ yX2_copyFrom.cls ≠ "java/lang/invoke/MethodHandle" ∧ yX2_copyFrom.cls ≠ "java/lang/invoke/VarHandle" ∧ (parseMethodDescriptor yX2_copyFrom.desc).map (fun d => d.parameters.length) = some 1 := by decide +kernel
set_option maxHeartbeats 4000000 in
set_option maxRecDepth 100000 in
theorem k_X2_copyFrom (l : Launch) (D : va_G) (C : Nat → ClassId) (q_t : Nat) (q_t_at : Nat) (q_t_lastHeld : Nat) (q_t_owed : Nat) (q_a1 : Nat) (q_a1_at : Nat) (q_a1_lastHeld : Nat) (q_a1_owed : Nat) (v_t_hour : Int32) (v_t_holder : Int32) (v_t_since : Int32) (v_t_fresh : Int32) (v_t_done : Int32) (r_t_at : Nat → Int32) (r_t_lastHeld : Nat → Int32) (r_t_owed : Nat → Int32) (v_a1_hour : Int32) (v_a1_holder : Int32) (v_a1_since : Int32) (v_a1_fresh : Int32) (v_a1_done : Int32) (r_a1_at : Nat → Int32) (r_a1_lastHeld : Nat → Int32) (r_a1_owed : Nat → Int32) (sz : Nat) (out : Int32 × Int32 × Int32 × Int32 × Int32 × (Nat → Int32) × (Nat → Int32) × (Nat → Int32)) (hf : fX2_copyFrom r_t_at r_t_lastHeld r_t_owed v_a1_hour v_a1_holder v_a1_since v_a1_fresh v_a1_done r_a1_at r_a1_lastHeld r_a1_owed = some out) : MV l yX2_copyFrom wsX2_copyFrom ({ frames := 1, cells := 0, slots := 0, locals := 64 }) D C [.ref q_t, .ref q_a1] [ob q_t 2 [.int v_t_hour, .int v_t_holder, .int v_t_since, .int v_t_fresh, .int v_t_done, .ref q_t_at, .ref q_t_lastHeld, .ref q_t_owed], ia C q_t_at 6 r_t_at, ia C q_t_lastHeld 6 r_t_lastHeld, ia C q_t_owed 6 r_t_owed, ob q_a1 2 [.int v_a1_hour, .int v_a1_holder, .int v_a1_since, .int v_a1_fresh, .int v_a1_done, .ref q_a1_at, .ref q_a1_lastHeld, .ref q_a1_owed], ia C q_a1_at 6 r_a1_at, ia C q_a1_lastHeld 6 r_a1_lastHeld, ia C q_a1_owed 6 r_a1_owed] [ob q_t 2 [.int out.1, .int out.2.1, .int out.2.2.1, .int out.2.2.2.1, .int out.2.2.2.2.1, .ref q_t_at, .ref q_t_lastHeld, .ref q_t_owed], ia C q_t_at 6 out.2.2.2.2.2.1, ia C q_t_lastHeld 6 out.2.2.2.2.2.2.1, ia C q_t_owed 6 out.2.2.2.2.2.2.2, ob q_a1 2 [.int v_a1_hour, .int v_a1_holder, .int v_a1_since, .int v_a1_fresh, .int v_a1_done, .ref q_a1_at, .ref q_a1_lastHeld, .ref q_a1_owed], ia C q_a1_at 6 r_a1_at, ia C q_a1_lastHeld 6 r_a1_lastHeld, ia C q_a1_owed 6 r_a1_owed] sz := by
  unfold fX2_copyFrom at hf
  refine en_V (by decide) rfl (Nat.le_of_ble_eq_true rfl) ?_
  intro p e s m below meth c A ls H locs hx hb hr hlocks hml hts hown hK hP hD hS hA hl
  have hl : lv_has ls 2 [(0, .ref q_t), (1, .ref q_a1)] := hl
  have inX2 : ∀ w ∈ u_ws RX2 TX2 8, w ∈ wsX2_copyFrom := fun w h => List.mem_cons_of_mem _ (List.mem_append_right _ h)
  refine lv_aload_n hx hb dX2_copyFrom_0 rfl (lv_at hl 0 rfl) ?_
  refine lv_aload_n hx hb dX2_copyFrom_1 rfl (lv_at hl 1 rfl) ?_
  refine va_get (D := D) (ci := 2) (v := .int v_a1_hour) (C := RX2) (T := TX2) (N := 8) hx hb hts inX2 hown hK hP 4 rfl rfl 0 (by decide) (hts (.fieldLink RX2 25 "LentCourage$Moment" "hour" "I") (List.mem_of_getElem? (i := 1) rfl)) (fun _ h9 => h9) rfl dX2_copyFrom_2 ?_
  refine va_put (D := D) (ci := 2) (v := .int v_a1_hour) (ty := .int) (C := RX2) (T := TX2) (N := 8) hx hb hts inX2 tyX2 tyX2_ok nmX2 hown hK hP hD hS 0 rfl rfl 0 (by decide) (hts (.fieldLink RX2 25 "LentCourage$Moment" "hour" "I") (List.mem_of_getElem? (i := 1) rfl)) (fun _ h9 => h9) rfl (tyX2_ok 0 (by decide)) rfl rfl (Nat.le_of_ble_eq_true rfl) dX2_copyFrom_5 (fun H locs hP hD hS => ?_)
  have hP : va_P D vwCl [ob q_t 2 [.int v_a1_hour, .int v_t_holder, .int v_t_since, .int v_t_fresh, .int v_t_done, .ref q_t_at, .ref q_t_lastHeld, .ref q_t_owed], ia C q_t_at 6 r_t_at, ia C q_t_lastHeld 6 r_t_lastHeld, ia C q_t_owed 6 r_t_owed, ob q_a1 2 [.int v_a1_hour, .int v_a1_holder, .int v_a1_since, .int v_a1_fresh, .int v_a1_done, .ref q_a1_at, .ref q_a1_lastHeld, .ref q_a1_owed], ia C q_a1_at 6 r_a1_at, ia C q_a1_lastHeld 6 r_a1_lastHeld, ia C q_a1_owed 6 r_a1_owed] H := hP
  have hD : va_D A [ob q_t 2 [.int v_a1_hour, .int v_t_holder, .int v_t_since, .int v_t_fresh, .int v_t_done, .ref q_t_at, .ref q_t_lastHeld, .ref q_t_owed], ia C q_t_at 6 r_t_at, ia C q_t_lastHeld 6 r_t_lastHeld, ia C q_t_owed 6 r_t_owed, ob q_a1 2 [.int v_a1_hour, .int v_a1_holder, .int v_a1_since, .int v_a1_fresh, .int v_a1_done, .ref q_a1_at, .ref q_a1_lastHeld, .ref q_a1_owed], ia C q_a1_at 6 r_a1_at, ia C q_a1_lastHeld 6 r_a1_lastHeld, ia C q_a1_owed 6 r_a1_owed] := hD
  refine lv_aload_n hx hb dX2_copyFrom_8 rfl (lv_at hl 0 rfl) ?_
  refine lv_aload_n hx hb dX2_copyFrom_9 rfl (lv_at hl 1 rfl) ?_
  refine va_get (D := D) (ci := 2) (v := .int v_a1_holder) (C := RX2) (T := TX2) (N := 8) hx hb hts inX2 hown hK hP 4 rfl rfl 1 (by decide) (hts (.fieldLink RX2 9 "LentCourage$Moment" "holder" "I") (List.mem_of_getElem? (i := 2) rfl)) (fun _ h9 => h9) rfl dX2_copyFrom_10 ?_
  refine va_put (D := D) (ci := 2) (v := .int v_a1_holder) (ty := .int) (C := RX2) (T := TX2) (N := 8) hx hb hts inX2 tyX2 tyX2_ok nmX2 hown hK hP hD hS 0 rfl rfl 1 (by decide) (hts (.fieldLink RX2 9 "LentCourage$Moment" "holder" "I") (List.mem_of_getElem? (i := 2) rfl)) (fun _ h9 => h9) rfl (tyX2_ok 1 (by decide)) rfl rfl (Nat.le_of_ble_eq_true rfl) dX2_copyFrom_13 (fun H locs hP hD hS => ?_)
  have hP : va_P D vwCl [ob q_t 2 [.int v_a1_hour, .int v_a1_holder, .int v_t_since, .int v_t_fresh, .int v_t_done, .ref q_t_at, .ref q_t_lastHeld, .ref q_t_owed], ia C q_t_at 6 r_t_at, ia C q_t_lastHeld 6 r_t_lastHeld, ia C q_t_owed 6 r_t_owed, ob q_a1 2 [.int v_a1_hour, .int v_a1_holder, .int v_a1_since, .int v_a1_fresh, .int v_a1_done, .ref q_a1_at, .ref q_a1_lastHeld, .ref q_a1_owed], ia C q_a1_at 6 r_a1_at, ia C q_a1_lastHeld 6 r_a1_lastHeld, ia C q_a1_owed 6 r_a1_owed] H := hP
  have hD : va_D A [ob q_t 2 [.int v_a1_hour, .int v_a1_holder, .int v_t_since, .int v_t_fresh, .int v_t_done, .ref q_t_at, .ref q_t_lastHeld, .ref q_t_owed], ia C q_t_at 6 r_t_at, ia C q_t_lastHeld 6 r_t_lastHeld, ia C q_t_owed 6 r_t_owed, ob q_a1 2 [.int v_a1_hour, .int v_a1_holder, .int v_a1_since, .int v_a1_fresh, .int v_a1_done, .ref q_a1_at, .ref q_a1_lastHeld, .ref q_a1_owed], ia C q_a1_at 6 r_a1_at, ia C q_a1_lastHeld 6 r_a1_lastHeld, ia C q_a1_owed 6 r_a1_owed] := hD
  refine lv_aload_n hx hb dX2_copyFrom_16 rfl (lv_at hl 0 rfl) ?_
  refine lv_aload_n hx hb dX2_copyFrom_17 rfl (lv_at hl 1 rfl) ?_
  refine va_get (D := D) (ci := 2) (v := .int v_a1_since) (C := RX2) (T := TX2) (N := 8) hx hb hts inX2 hown hK hP 4 rfl rfl 2 (by decide) (hts (.fieldLink RX2 28 "LentCourage$Moment" "since" "I") (List.mem_of_getElem? (i := 3) rfl)) (fun _ h9 => h9) rfl dX2_copyFrom_18 ?_
  refine va_put (D := D) (ci := 2) (v := .int v_a1_since) (ty := .int) (C := RX2) (T := TX2) (N := 8) hx hb hts inX2 tyX2 tyX2_ok nmX2 hown hK hP hD hS 0 rfl rfl 2 (by decide) (hts (.fieldLink RX2 28 "LentCourage$Moment" "since" "I") (List.mem_of_getElem? (i := 3) rfl)) (fun _ h9 => h9) rfl (tyX2_ok 2 (by decide)) rfl rfl (Nat.le_of_ble_eq_true rfl) dX2_copyFrom_21 (fun H locs hP hD hS => ?_)
  have hP : va_P D vwCl [ob q_t 2 [.int v_a1_hour, .int v_a1_holder, .int v_a1_since, .int v_t_fresh, .int v_t_done, .ref q_t_at, .ref q_t_lastHeld, .ref q_t_owed], ia C q_t_at 6 r_t_at, ia C q_t_lastHeld 6 r_t_lastHeld, ia C q_t_owed 6 r_t_owed, ob q_a1 2 [.int v_a1_hour, .int v_a1_holder, .int v_a1_since, .int v_a1_fresh, .int v_a1_done, .ref q_a1_at, .ref q_a1_lastHeld, .ref q_a1_owed], ia C q_a1_at 6 r_a1_at, ia C q_a1_lastHeld 6 r_a1_lastHeld, ia C q_a1_owed 6 r_a1_owed] H := hP
  have hD : va_D A [ob q_t 2 [.int v_a1_hour, .int v_a1_holder, .int v_a1_since, .int v_t_fresh, .int v_t_done, .ref q_t_at, .ref q_t_lastHeld, .ref q_t_owed], ia C q_t_at 6 r_t_at, ia C q_t_lastHeld 6 r_t_lastHeld, ia C q_t_owed 6 r_t_owed, ob q_a1 2 [.int v_a1_hour, .int v_a1_holder, .int v_a1_since, .int v_a1_fresh, .int v_a1_done, .ref q_a1_at, .ref q_a1_lastHeld, .ref q_a1_owed], ia C q_a1_at 6 r_a1_at, ia C q_a1_lastHeld 6 r_a1_lastHeld, ia C q_a1_owed 6 r_a1_owed] := hD
  refine lv_aload_n hx hb dX2_copyFrom_24 rfl (lv_at hl 0 rfl) ?_
  refine lv_aload_n hx hb dX2_copyFrom_25 rfl (lv_at hl 1 rfl) ?_
  refine va_get (D := D) (ci := 2) (v := .int v_a1_fresh) (C := RX2) (T := TX2) (N := 8) hx hb hts inX2 hown hK hP 4 rfl rfl 3 (by decide) (hts (.fieldLink RX2 31 "LentCourage$Moment" "fresh" "Z") (List.mem_of_getElem? (i := 4) rfl)) (fun _ h9 => h9) rfl dX2_copyFrom_26 ?_
  obtain ⟨h1, hf⟩ := of_chk hf
  refine va_put (D := D) (ci := 2) (v := .int v_a1_fresh) (ty := .boolean) (C := RX2) (T := TX2) (N := 8) hx hb hts inX2 tyX2 tyX2_ok nmX2 hown hK hP hD hS 0 rfl rfl 3 (by decide) (hts (.fieldLink RX2 31 "LentCourage$Moment" "fresh" "Z") (List.mem_of_getElem? (i := 4) rfl)) (fun _ h9 => h9) rfl (tyX2_ok 3 (by decide)) (okZ_nar h1) (okZ_fit h1) (Nat.le_of_ble_eq_true rfl) dX2_copyFrom_29 (fun H locs hP hD hS => ?_)
  have hP : va_P D vwCl [ob q_t 2 [.int v_a1_hour, .int v_a1_holder, .int v_a1_since, .int v_a1_fresh, .int v_t_done, .ref q_t_at, .ref q_t_lastHeld, .ref q_t_owed], ia C q_t_at 6 r_t_at, ia C q_t_lastHeld 6 r_t_lastHeld, ia C q_t_owed 6 r_t_owed, ob q_a1 2 [.int v_a1_hour, .int v_a1_holder, .int v_a1_since, .int v_a1_fresh, .int v_a1_done, .ref q_a1_at, .ref q_a1_lastHeld, .ref q_a1_owed], ia C q_a1_at 6 r_a1_at, ia C q_a1_lastHeld 6 r_a1_lastHeld, ia C q_a1_owed 6 r_a1_owed] H := hP
  have hD : va_D A [ob q_t 2 [.int v_a1_hour, .int v_a1_holder, .int v_a1_since, .int v_a1_fresh, .int v_t_done, .ref q_t_at, .ref q_t_lastHeld, .ref q_t_owed], ia C q_t_at 6 r_t_at, ia C q_t_lastHeld 6 r_t_lastHeld, ia C q_t_owed 6 r_t_owed, ob q_a1 2 [.int v_a1_hour, .int v_a1_holder, .int v_a1_since, .int v_a1_fresh, .int v_a1_done, .ref q_a1_at, .ref q_a1_lastHeld, .ref q_a1_owed], ia C q_a1_at 6 r_a1_at, ia C q_a1_lastHeld 6 r_a1_lastHeld, ia C q_a1_owed 6 r_a1_owed] := hD
  refine lv_aload_n hx hb dX2_copyFrom_32 rfl (lv_at hl 0 rfl) ?_
  refine lv_aload_n hx hb dX2_copyFrom_33 rfl (lv_at hl 1 rfl) ?_
  refine va_get (D := D) (ci := 2) (v := .int v_a1_done) (C := RX2) (T := TX2) (N := 8) hx hb hts inX2 hown hK hP 4 rfl rfl 4 (by decide) (hts (.fieldLink RX2 35 "LentCourage$Moment" "done" "I") (List.mem_of_getElem? (i := 5) rfl)) (fun _ h9 => h9) rfl dX2_copyFrom_34 ?_
  refine va_put (D := D) (ci := 2) (v := .int v_a1_done) (ty := .int) (C := RX2) (T := TX2) (N := 8) hx hb hts inX2 tyX2 tyX2_ok nmX2 hown hK hP hD hS 0 rfl rfl 4 (by decide) (hts (.fieldLink RX2 35 "LentCourage$Moment" "done" "I") (List.mem_of_getElem? (i := 5) rfl)) (fun _ h9 => h9) rfl (tyX2_ok 4 (by decide)) rfl rfl (Nat.le_of_ble_eq_true rfl) dX2_copyFrom_37 (fun H locs hP hD hS => ?_)
  have hP : va_P D vwCl [ob q_t 2 [.int v_a1_hour, .int v_a1_holder, .int v_a1_since, .int v_a1_fresh, .int v_a1_done, .ref q_t_at, .ref q_t_lastHeld, .ref q_t_owed], ia C q_t_at 6 r_t_at, ia C q_t_lastHeld 6 r_t_lastHeld, ia C q_t_owed 6 r_t_owed, ob q_a1 2 [.int v_a1_hour, .int v_a1_holder, .int v_a1_since, .int v_a1_fresh, .int v_a1_done, .ref q_a1_at, .ref q_a1_lastHeld, .ref q_a1_owed], ia C q_a1_at 6 r_a1_at, ia C q_a1_lastHeld 6 r_a1_lastHeld, ia C q_a1_owed 6 r_a1_owed] H := hP
  have hD : va_D A [ob q_t 2 [.int v_a1_hour, .int v_a1_holder, .int v_a1_since, .int v_a1_fresh, .int v_a1_done, .ref q_t_at, .ref q_t_lastHeld, .ref q_t_owed], ia C q_t_at 6 r_t_at, ia C q_t_lastHeld 6 r_t_lastHeld, ia C q_t_owed 6 r_t_owed, ob q_a1 2 [.int v_a1_hour, .int v_a1_holder, .int v_a1_since, .int v_a1_fresh, .int v_a1_done, .ref q_a1_at, .ref q_a1_lastHeld, .ref q_a1_owed], ia C q_a1_at 6 r_a1_at, ia C q_a1_lastHeld 6 r_a1_lastHeld, ia C q_a1_owed 6 r_a1_owed] := hD
  refine lv_aload_n hx hb dX2_copyFrom_40 rfl (lv_at hl 1 rfl) ?_
  refine va_get (D := D) (ci := 2) (v := .ref q_a1_at) (C := RX2) (T := TX2) (N := 8) hx hb hts inX2 hown hK hP 4 rfl rfl 5 (by decide) (hts (.fieldLink RX2 15 "LentCourage$Moment" "at" "[I") (List.mem_of_getElem? (i := 6) rfl)) (fun _ h9 => h9) rfl dX2_copyFrom_41 ?_
  refine lv_iconst (v := (0 : Int32)) hx hb dX2_copyFrom_44 (by decide) ?_
  refine lv_aload_n hx hb dX2_copyFrom_45 rfl (lv_at hl 0 rfl) ?_
  refine va_get (D := D) (ci := 2) (v := .ref q_t_at) (C := RX2) (T := TX2) (N := 8) hx hb hts inX2 hown hK hP 0 rfl rfl 5 (by decide) (hts (.fieldLink RX2 15 "LentCourage$Moment" "at" "[I") (List.mem_of_getElem? (i := 6) rfl)) (fun _ h9 => h9) rfl dX2_copyFrom_46 ?_
  refine lv_iconst (v := (0 : Int32)) hx hb dX2_copyFrom_49 (by decide) ?_
  refine lv_bipush (v := (6 : Int32)) hx hb dX2_copyFrom_50 (by decide) ?_
  refine cp_I (k := 6) hx hb (hml.trans hl.1.symm) hown (hts (.methodLink RX2 43 arraycopyName) (List.mem_of_getElem? (i := 7) rfl)) (hts (.native arraycopyName) (List.mem_of_getElem? (i := 8) rfl)) (hts (.static arraycopyName) (List.mem_of_getElem? (i := 9) rfl)) (hts (.initialized "java/lang/System") (List.mem_of_getElem? (i := 10) rfl)) hK hP hD hS 5 1 rfl rfl (by decide) (by decide) (by decide) (by decide) (Nat.le_of_ble_eq_true rfl) (Nat.le_of_ble_eq_true rfl) dX2_copyFrom_52 (fun H locs hP hD hS => ?_)
  have hP : va_P D vwCl [ob q_t 2 [.int v_a1_hour, .int v_a1_holder, .int v_a1_since, .int v_a1_fresh, .int v_a1_done, .ref q_t_at, .ref q_t_lastHeld, .ref q_t_owed], ia C q_t_at 6 (cpn r_a1_at r_t_at (6)), ia C q_t_lastHeld 6 r_t_lastHeld, ia C q_t_owed 6 r_t_owed, ob q_a1 2 [.int v_a1_hour, .int v_a1_holder, .int v_a1_since, .int v_a1_fresh, .int v_a1_done, .ref q_a1_at, .ref q_a1_lastHeld, .ref q_a1_owed], ia C q_a1_at 6 r_a1_at, ia C q_a1_lastHeld 6 r_a1_lastHeld, ia C q_a1_owed 6 r_a1_owed] H := hP
  have hD : va_D A [ob q_t 2 [.int v_a1_hour, .int v_a1_holder, .int v_a1_since, .int v_a1_fresh, .int v_a1_done, .ref q_t_at, .ref q_t_lastHeld, .ref q_t_owed], ia C q_t_at 6 (cpn r_a1_at r_t_at (6)), ia C q_t_lastHeld 6 r_t_lastHeld, ia C q_t_owed 6 r_t_owed, ob q_a1 2 [.int v_a1_hour, .int v_a1_holder, .int v_a1_since, .int v_a1_fresh, .int v_a1_done, .ref q_a1_at, .ref q_a1_lastHeld, .ref q_a1_owed], ia C q_a1_at 6 r_a1_at, ia C q_a1_lastHeld 6 r_a1_lastHeld, ia C q_a1_owed 6 r_a1_owed] := hD
  refine lv_aload_n hx hb dX2_copyFrom_55 rfl (lv_at hl 1 rfl) ?_
  refine va_get (D := D) (ci := 2) (v := .ref q_a1_lastHeld) (C := RX2) (T := TX2) (N := 8) hx hb hts inX2 hown hK hP 4 rfl rfl 6 (by decide) (hts (.fieldLink RX2 19 "LentCourage$Moment" "lastHeld" "[I") (List.mem_of_getElem? (i := 11) rfl)) (fun _ h9 => h9) rfl dX2_copyFrom_56 ?_
  refine lv_iconst (v := (0 : Int32)) hx hb dX2_copyFrom_59 (by decide) ?_
  refine lv_aload_n hx hb dX2_copyFrom_60 rfl (lv_at hl 0 rfl) ?_
  refine va_get (D := D) (ci := 2) (v := .ref q_t_lastHeld) (C := RX2) (T := TX2) (N := 8) hx hb hts inX2 hown hK hP 0 rfl rfl 6 (by decide) (hts (.fieldLink RX2 19 "LentCourage$Moment" "lastHeld" "[I") (List.mem_of_getElem? (i := 11) rfl)) (fun _ h9 => h9) rfl dX2_copyFrom_61 ?_
  refine lv_iconst (v := (0 : Int32)) hx hb dX2_copyFrom_64 (by decide) ?_
  refine lv_bipush (v := (6 : Int32)) hx hb dX2_copyFrom_65 (by decide) ?_
  refine cp_I (k := 6) hx hb (hml.trans hl.1.symm) hown (hts (.methodLink RX2 43 arraycopyName) (List.mem_of_getElem? (i := 7) rfl)) (hts (.native arraycopyName) (List.mem_of_getElem? (i := 8) rfl)) (hts (.static arraycopyName) (List.mem_of_getElem? (i := 9) rfl)) (hts (.initialized "java/lang/System") (List.mem_of_getElem? (i := 10) rfl)) hK hP hD hS 6 2 rfl rfl (by decide) (by decide) (by decide) (by decide) (Nat.le_of_ble_eq_true rfl) (Nat.le_of_ble_eq_true rfl) dX2_copyFrom_67 (fun H locs hP hD hS => ?_)
  have hP : va_P D vwCl [ob q_t 2 [.int v_a1_hour, .int v_a1_holder, .int v_a1_since, .int v_a1_fresh, .int v_a1_done, .ref q_t_at, .ref q_t_lastHeld, .ref q_t_owed], ia C q_t_at 6 (cpn r_a1_at r_t_at (6)), ia C q_t_lastHeld 6 (cpn r_a1_lastHeld r_t_lastHeld (6)), ia C q_t_owed 6 r_t_owed, ob q_a1 2 [.int v_a1_hour, .int v_a1_holder, .int v_a1_since, .int v_a1_fresh, .int v_a1_done, .ref q_a1_at, .ref q_a1_lastHeld, .ref q_a1_owed], ia C q_a1_at 6 r_a1_at, ia C q_a1_lastHeld 6 r_a1_lastHeld, ia C q_a1_owed 6 r_a1_owed] H := hP
  have hD : va_D A [ob q_t 2 [.int v_a1_hour, .int v_a1_holder, .int v_a1_since, .int v_a1_fresh, .int v_a1_done, .ref q_t_at, .ref q_t_lastHeld, .ref q_t_owed], ia C q_t_at 6 (cpn r_a1_at r_t_at (6)), ia C q_t_lastHeld 6 (cpn r_a1_lastHeld r_t_lastHeld (6)), ia C q_t_owed 6 r_t_owed, ob q_a1 2 [.int v_a1_hour, .int v_a1_holder, .int v_a1_since, .int v_a1_fresh, .int v_a1_done, .ref q_a1_at, .ref q_a1_lastHeld, .ref q_a1_owed], ia C q_a1_at 6 r_a1_at, ia C q_a1_lastHeld 6 r_a1_lastHeld, ia C q_a1_owed 6 r_a1_owed] := hD
  refine lv_aload_n hx hb dX2_copyFrom_70 rfl (lv_at hl 1 rfl) ?_
  refine va_get (D := D) (ci := 2) (v := .ref q_a1_owed) (C := RX2) (T := TX2) (N := 8) hx hb hts inX2 hown hK hP 4 rfl rfl 7 (by decide) (hts (.fieldLink RX2 22 "LentCourage$Moment" "owed" "[I") (List.mem_of_getElem? (i := 12) rfl)) (fun _ h9 => h9) rfl dX2_copyFrom_71 ?_
  refine lv_iconst (v := (0 : Int32)) hx hb dX2_copyFrom_74 (by decide) ?_
  refine lv_aload_n hx hb dX2_copyFrom_75 rfl (lv_at hl 0 rfl) ?_
  refine va_get (D := D) (ci := 2) (v := .ref q_t_owed) (C := RX2) (T := TX2) (N := 8) hx hb hts inX2 hown hK hP 0 rfl rfl 7 (by decide) (hts (.fieldLink RX2 22 "LentCourage$Moment" "owed" "[I") (List.mem_of_getElem? (i := 12) rfl)) (fun _ h9 => h9) rfl dX2_copyFrom_76 ?_
  refine lv_iconst (v := (0 : Int32)) hx hb dX2_copyFrom_79 (by decide) ?_
  refine lv_bipush (v := (6 : Int32)) hx hb dX2_copyFrom_80 (by decide) ?_
  refine cp_I (k := 6) hx hb (hml.trans hl.1.symm) hown (hts (.methodLink RX2 43 arraycopyName) (List.mem_of_getElem? (i := 7) rfl)) (hts (.native arraycopyName) (List.mem_of_getElem? (i := 8) rfl)) (hts (.static arraycopyName) (List.mem_of_getElem? (i := 9) rfl)) (hts (.initialized "java/lang/System") (List.mem_of_getElem? (i := 10) rfl)) hK hP hD hS 7 3 rfl rfl (by decide) (by decide) (by decide) (by decide) (Nat.le_of_ble_eq_true rfl) (Nat.le_of_ble_eq_true rfl) dX2_copyFrom_82 (fun H locs hP hD hS => ?_)
  have hP : va_P D vwCl [ob q_t 2 [.int v_a1_hour, .int v_a1_holder, .int v_a1_since, .int v_a1_fresh, .int v_a1_done, .ref q_t_at, .ref q_t_lastHeld, .ref q_t_owed], ia C q_t_at 6 (cpn r_a1_at r_t_at (6)), ia C q_t_lastHeld 6 (cpn r_a1_lastHeld r_t_lastHeld (6)), ia C q_t_owed 6 (cpn r_a1_owed r_t_owed (6)), ob q_a1 2 [.int v_a1_hour, .int v_a1_holder, .int v_a1_since, .int v_a1_fresh, .int v_a1_done, .ref q_a1_at, .ref q_a1_lastHeld, .ref q_a1_owed], ia C q_a1_at 6 r_a1_at, ia C q_a1_lastHeld 6 r_a1_lastHeld, ia C q_a1_owed 6 r_a1_owed] H := hP
  have hD : va_D A [ob q_t 2 [.int v_a1_hour, .int v_a1_holder, .int v_a1_since, .int v_a1_fresh, .int v_a1_done, .ref q_t_at, .ref q_t_lastHeld, .ref q_t_owed], ia C q_t_at 6 (cpn r_a1_at r_t_at (6)), ia C q_t_lastHeld 6 (cpn r_a1_lastHeld r_t_lastHeld (6)), ia C q_t_owed 6 (cpn r_a1_owed r_t_owed (6)), ob q_a1 2 [.int v_a1_hour, .int v_a1_holder, .int v_a1_since, .int v_a1_fresh, .int v_a1_done, .ref q_a1_at, .ref q_a1_lastHeld, .ref q_a1_owed], ia C q_a1_at 6 r_a1_at, ia C q_a1_lastHeld 6 r_a1_lastHeld, ia C q_a1_owed 6 r_a1_owed] := hD
  obtain rfl := Option.some.inj hf
  exact ret_V hx hb hr hlocks hK hP hD hS dX2_copyFrom_85

def fX4_hasOne (v_t_people : Int32) (p1 : Int32) : Option (Int32) :=
  some (if p1 < 0 then (0 : Int32) else (if v_t_people ≤ p1 then (0 : Int32) else (1 : Int32)))
theorem hd_X4_hasOne : yX4_hasOne.cls = RX4 ∧ yX4_hasOne.cls ≠ "java/lang/invoke/MethodHandle" ∧ yX4_hasOne.cls ≠ "java/lang/invoke/VarHandle" ∧ (parseMethodDescriptor yX4_hasOne.desc).map (fun d => d.parameters.length) = some 1 := by decide +kernel
set_option maxHeartbeats 4000000 in
set_option maxRecDepth 100000 in
theorem k_X4_hasOne (l : Launch) (D : va_G) (C : Nat → ClassId) (q_t : Nat) (q_t_home : Nat) (q_t_who : Nat) (q_t_place : Nat) (q_t_from : Nat) (q_t_till : Nat) (q_t_worth : Nat) (v_t_office : Int32) (v_t_free : Int32) (v_t_people : Int32) (v_t_deeds : Int32) (p1 : Int32) (sz : Nat) (out : Int32) (hf : fX4_hasOne v_t_people p1 = some out) : MI l yX4_hasOne wsX4_hasOne ({ frames := 0, cells := 0, slots := 0, locals := 0 }) D C [.ref q_t, .int p1] [ob q_t 4 [.int v_t_office, .int v_t_free, .int v_t_people, .int v_t_deeds, .ref q_t_home, .ref q_t_who, .ref q_t_place, .ref q_t_from, .ref q_t_till, .ref q_t_worth]] [ob q_t 4 [.int v_t_office, .int v_t_free, .int v_t_people, .int v_t_deeds, .ref q_t_home, .ref q_t_who, .ref q_t_place, .ref q_t_from, .ref q_t_till, .ref q_t_worth]] sz (out) := by
  unfold fX4_hasOne at hf
  refine en_I (by decide) rfl (Nat.le_of_ble_eq_true rfl) ?_
  intro p e s m below meth c A ls H locs hx hb hr hlocks hml hts hown hK hP hD hS hA hl
  have hl : lv_has ls 2 [(0, .ref q_t), (1, .int p1)] := hl
  have inX4 : ∀ w ∈ u_ws RX4 TX4 10, w ∈ wsX4_hasOne := fun w h => List.mem_cons_of_mem _ (List.mem_append_right _ h)
  refine lv_iload_n hx hb dX4_hasOne_0 rfl (lv_at hl 1 rfl) ?_
  refine jp (g2 := F0 m 17 ls [.int (if p1 < 0 then (0 : Int32) else (if v_t_people ≤ p1 then (0 : Int32) else (1 : Int32)))]) ?_ (fun JP => ?_)
  · obtain rfl := Option.some.inj hf
    exact ret_Z hx hb hr hlocks (by repeat (first | exact okZ_0 | exact okZ_1 | apply okZ_ite)) hK hP hD hS dX4_hasOne_17
  · refine lv_if_lt (tgt := 16) hx hb dX4_hasOne_1 (by decide) (fun c1 => ?_) (fun c1 => ?_)
    · refine lv_iconst (v := (0 : Int32)) hx hb dX4_hasOne_16 (by decide) ?_
      exact W.eq (congrArg (fun x => F0 m 17 ls (Value.int x :: [])) (if_pos c1).symm) JP
    · refine lv_iload_n hx hb dX4_hasOne_4 rfl (lv_at hl 1 rfl) ?_
      refine lv_aload_n hx hb dX4_hasOne_5 rfl (lv_at hl 0 rfl) ?_
      refine va_get (D := D) (ci := 4) (v := .int v_t_people) (C := RX4) (T := TX4) (N := 10) hx hb hts inX4 hown hK hP 0 rfl rfl 2 (by decide) (hts (.fieldLink RX4 37 "LentCourage$Port" "people" "I") (List.mem_of_getElem? (i := 1) rfl)) (fun _ h9 => h9) rfl dX4_hasOne_6 ?_
      refine lv_icmp_ge (tgt := 16) hx hb dX4_hasOne_9 (by decide) (fun c2 => ?_) (fun c2 => ?_)
      · refine lv_iconst (v := (0 : Int32)) hx hb dX4_hasOne_16 (by decide) ?_
        exact W.eq (congrArg (fun x => F0 m 17 ls (Value.int x :: [])) ((if_neg c1).trans (if_pos c2)).symm) JP
      · refine lv_iconst (v := (1 : Int32)) hx hb dX4_hasOne_12 (by decide) ?_
        refine lv_goto (tgt := 17) hx hb dX4_hasOne_13 (by decide) ?_
        exact W.eq (congrArg (fun x => F0 m 17 ls (Value.int x :: [])) ((if_neg c1).trans (if_neg c2)).symm) JP

def fX4_hasDeed (v_t_deeds : Int32) (p1 : Int32) : Option (Int32) :=
  some (if p1 < 0 then (0 : Int32) else (if v_t_deeds ≤ p1 then (0 : Int32) else (1 : Int32)))
theorem hd_X4_hasDeed : yX4_hasDeed.cls = RX4 ∧ yX4_hasDeed.cls ≠ "java/lang/invoke/MethodHandle" ∧ yX4_hasDeed.cls ≠ "java/lang/invoke/VarHandle" ∧ (parseMethodDescriptor yX4_hasDeed.desc).map (fun d => d.parameters.length) = some 1 := by decide +kernel
set_option maxHeartbeats 4000000 in
set_option maxRecDepth 100000 in
theorem k_X4_hasDeed (l : Launch) (D : va_G) (C : Nat → ClassId) (q_t : Nat) (q_t_home : Nat) (q_t_who : Nat) (q_t_place : Nat) (q_t_from : Nat) (q_t_till : Nat) (q_t_worth : Nat) (v_t_office : Int32) (v_t_free : Int32) (v_t_people : Int32) (v_t_deeds : Int32) (p1 : Int32) (sz : Nat) (out : Int32) (hf : fX4_hasDeed v_t_deeds p1 = some out) : MI l yX4_hasDeed wsX4_hasDeed ({ frames := 0, cells := 0, slots := 0, locals := 0 }) D C [.ref q_t, .int p1] [ob q_t 4 [.int v_t_office, .int v_t_free, .int v_t_people, .int v_t_deeds, .ref q_t_home, .ref q_t_who, .ref q_t_place, .ref q_t_from, .ref q_t_till, .ref q_t_worth]] [ob q_t 4 [.int v_t_office, .int v_t_free, .int v_t_people, .int v_t_deeds, .ref q_t_home, .ref q_t_who, .ref q_t_place, .ref q_t_from, .ref q_t_till, .ref q_t_worth]] sz (out) := by
  unfold fX4_hasDeed at hf
  refine en_I (by decide) rfl (Nat.le_of_ble_eq_true rfl) ?_
  intro p e s m below meth c A ls H locs hx hb hr hlocks hml hts hown hK hP hD hS hA hl
  have hl : lv_has ls 2 [(0, .ref q_t), (1, .int p1)] := hl
  have inX4 : ∀ w ∈ u_ws RX4 TX4 10, w ∈ wsX4_hasDeed := fun w h => List.mem_cons_of_mem _ (List.mem_append_right _ h)
  refine lv_iload_n hx hb dX4_hasDeed_0 rfl (lv_at hl 1 rfl) ?_
  refine jp (g2 := F0 m 17 ls [.int (if p1 < 0 then (0 : Int32) else (if v_t_deeds ≤ p1 then (0 : Int32) else (1 : Int32)))]) ?_ (fun JP => ?_)
  · obtain rfl := Option.some.inj hf
    exact ret_Z hx hb hr hlocks (by repeat (first | exact okZ_0 | exact okZ_1 | apply okZ_ite)) hK hP hD hS dX4_hasDeed_17
  · refine lv_if_lt (tgt := 16) hx hb dX4_hasDeed_1 (by decide) (fun c1 => ?_) (fun c1 => ?_)
    · refine lv_iconst (v := (0 : Int32)) hx hb dX4_hasDeed_16 (by decide) ?_
      exact W.eq (congrArg (fun x => F0 m 17 ls (Value.int x :: [])) (if_pos c1).symm) JP
    · refine lv_iload_n hx hb dX4_hasDeed_4 rfl (lv_at hl 1 rfl) ?_
      refine lv_aload_n hx hb dX4_hasDeed_5 rfl (lv_at hl 0 rfl) ?_
      refine va_get (D := D) (ci := 4) (v := .int v_t_deeds) (C := RX4) (T := TX4) (N := 10) hx hb hts inX4 hown hK hP 0 rfl rfl 3 (by decide) (hts (.fieldLink RX4 40 "LentCourage$Port" "deeds" "I") (List.mem_of_getElem? (i := 1) rfl)) (fun _ h9 => h9) rfl dX4_hasDeed_6 ?_
      refine lv_icmp_ge (tgt := 16) hx hb dX4_hasDeed_9 (by decide) (fun c2 => ?_) (fun c2 => ?_)
      · refine lv_iconst (v := (0 : Int32)) hx hb dX4_hasDeed_16 (by decide) ?_
        exact W.eq (congrArg (fun x => F0 m 17 ls (Value.int x :: [])) ((if_neg c1).trans (if_pos c2)).symm) JP
      · refine lv_iconst (v := (1 : Int32)) hx hb dX4_hasDeed_12 (by decide) ?_
        refine lv_goto (tgt := 17) hx hb dX4_hasDeed_13 (by decide) ?_
        exact W.eq (congrArg (fun x => F0 m 17 ls (Value.int x :: [])) ((if_neg c1).trans (if_neg c2)).symm) JP

def fX4_empty : Option (Int32 × Int32 × Int32 × Int32) :=
  some ((15 : Int32), (3 : Int32), (0 : Int32), (0 : Int32))
theorem hd_X4_empty : yX4_empty.cls = RX4 ∧ yX4_empty.cls ≠ "java/lang/invoke/MethodHandle" ∧ yX4_empty.cls ≠ "java/lang/invoke/VarHandle" ∧ (parseMethodDescriptor yX4_empty.desc).map (fun d => d.parameters.length) = some 0 := by decide +kernel
set_option maxHeartbeats 4000000 in
set_option maxRecDepth 100000 in
theorem k_X4_empty (l : Launch) (D : va_G) (C : Nat → ClassId) (q_t : Nat) (q_t_home : Nat) (q_t_who : Nat) (q_t_place : Nat) (q_t_from : Nat) (q_t_till : Nat) (q_t_worth : Nat) (v_t_office : Int32) (v_t_free : Int32) (v_t_people : Int32) (v_t_deeds : Int32) (sz : Nat) (out : Int32 × Int32 × Int32 × Int32) (hf : fX4_empty  = some out) : MV l yX4_empty wsX4_empty ({ frames := 0, cells := 0, slots := 0, locals := 0 }) D C [.ref q_t] [ob q_t 4 [.int v_t_office, .int v_t_free, .int v_t_people, .int v_t_deeds, .ref q_t_home, .ref q_t_who, .ref q_t_place, .ref q_t_from, .ref q_t_till, .ref q_t_worth]] [ob q_t 4 [.int out.1, .int out.2.1, .int out.2.2.1, .int out.2.2.2, .ref q_t_home, .ref q_t_who, .ref q_t_place, .ref q_t_from, .ref q_t_till, .ref q_t_worth]] sz := by
  unfold fX4_empty at hf
  refine en_V (by decide) rfl (Nat.le_of_ble_eq_true rfl) ?_
  intro p e s m below meth c A ls H locs hx hb hr hlocks hml hts hown hK hP hD hS hA hl
  have hl : lv_has ls 1 [(0, .ref q_t)] := hl
  have inX4 : ∀ w ∈ u_ws RX4 TX4 10, w ∈ wsX4_empty := fun w h => List.mem_cons_of_mem _ (List.mem_append_right _ h)
  refine lv_aload_n hx hb dX4_empty_0 rfl (lv_at hl 0 rfl) ?_
  refine lv_bipush (v := (15 : Int32)) hx hb dX4_empty_1 (by decide) ?_
  refine va_put (D := D) (ci := 4) (v := .int (15 : Int32)) (ty := .int) (C := RX4) (T := TX4) (N := 10) hx hb hts inX4 tyX4 tyX4_ok nmX4 hown hK hP hD hS 0 rfl rfl 0 (by decide) (hts (.fieldLink RX4 11 "LentCourage$Port" "office" "I") (List.mem_of_getElem? (i := 1) rfl)) (fun _ h9 => h9) rfl (tyX4_ok 0 (by decide)) rfl rfl (Nat.le_of_ble_eq_true rfl) dX4_empty_3 (fun H locs hP hD hS => ?_)
  have hP : va_P D vwCl [ob q_t 4 [.int (15 : Int32), .int v_t_free, .int v_t_people, .int v_t_deeds, .ref q_t_home, .ref q_t_who, .ref q_t_place, .ref q_t_from, .ref q_t_till, .ref q_t_worth]] H := hP
  have hD : va_D A [ob q_t 4 [.int (15 : Int32), .int v_t_free, .int v_t_people, .int v_t_deeds, .ref q_t_home, .ref q_t_who, .ref q_t_place, .ref q_t_from, .ref q_t_till, .ref q_t_worth]] := hD
  refine lv_aload_n hx hb dX4_empty_6 rfl (lv_at hl 0 rfl) ?_
  refine lv_iconst (v := (3 : Int32)) hx hb dX4_empty_7 (by decide) ?_
  refine va_put (D := D) (ci := 4) (v := .int (3 : Int32)) (ty := .int) (C := RX4) (T := TX4) (N := 10) hx hb hts inX4 tyX4 tyX4_ok nmX4 hown hK hP hD hS 0 rfl rfl 1 (by decide) (hts (.fieldLink RX4 15 "LentCourage$Port" "free" "I") (List.mem_of_getElem? (i := 2) rfl)) (fun _ h9 => h9) rfl (tyX4_ok 1 (by decide)) rfl rfl (Nat.le_of_ble_eq_true rfl) dX4_empty_8 (fun H locs hP hD hS => ?_)
  have hP : va_P D vwCl [ob q_t 4 [.int (15 : Int32), .int (3 : Int32), .int v_t_people, .int v_t_deeds, .ref q_t_home, .ref q_t_who, .ref q_t_place, .ref q_t_from, .ref q_t_till, .ref q_t_worth]] H := hP
  have hD : va_D A [ob q_t 4 [.int (15 : Int32), .int (3 : Int32), .int v_t_people, .int v_t_deeds, .ref q_t_home, .ref q_t_who, .ref q_t_place, .ref q_t_from, .ref q_t_till, .ref q_t_worth]] := hD
  refine lv_aload_n hx hb dX4_empty_11 rfl (lv_at hl 0 rfl) ?_
  refine lv_iconst (v := (0 : Int32)) hx hb dX4_empty_12 (by decide) ?_
  refine va_put (D := D) (ci := 4) (v := .int (0 : Int32)) (ty := .int) (C := RX4) (T := TX4) (N := 10) hx hb hts inX4 tyX4 tyX4_ok nmX4 hown hK hP hD hS 0 rfl rfl 2 (by decide) (hts (.fieldLink RX4 37 "LentCourage$Port" "people" "I") (List.mem_of_getElem? (i := 3) rfl)) (fun _ h9 => h9) rfl (tyX4_ok 2 (by decide)) rfl rfl (Nat.le_of_ble_eq_true rfl) dX4_empty_13 (fun H locs hP hD hS => ?_)
  have hP : va_P D vwCl [ob q_t 4 [.int (15 : Int32), .int (3 : Int32), .int (0 : Int32), .int v_t_deeds, .ref q_t_home, .ref q_t_who, .ref q_t_place, .ref q_t_from, .ref q_t_till, .ref q_t_worth]] H := hP
  have hD : va_D A [ob q_t 4 [.int (15 : Int32), .int (3 : Int32), .int (0 : Int32), .int v_t_deeds, .ref q_t_home, .ref q_t_who, .ref q_t_place, .ref q_t_from, .ref q_t_till, .ref q_t_worth]] := hD
  refine lv_aload_n hx hb dX4_empty_16 rfl (lv_at hl 0 rfl) ?_
  refine lv_iconst (v := (0 : Int32)) hx hb dX4_empty_17 (by decide) ?_
  refine va_put (D := D) (ci := 4) (v := .int (0 : Int32)) (ty := .int) (C := RX4) (T := TX4) (N := 10) hx hb hts inX4 tyX4 tyX4_ok nmX4 hown hK hP hD hS 0 rfl rfl 3 (by decide) (hts (.fieldLink RX4 40 "LentCourage$Port" "deeds" "I") (List.mem_of_getElem? (i := 4) rfl)) (fun _ h9 => h9) rfl (tyX4_ok 3 (by decide)) rfl rfl (Nat.le_of_ble_eq_true rfl) dX4_empty_18 (fun H locs hP hD hS => ?_)
  have hP : va_P D vwCl [ob q_t 4 [.int (15 : Int32), .int (3 : Int32), .int (0 : Int32), .int (0 : Int32), .ref q_t_home, .ref q_t_who, .ref q_t_place, .ref q_t_from, .ref q_t_till, .ref q_t_worth]] H := hP
  have hD : va_D A [ob q_t 4 [.int (15 : Int32), .int (3 : Int32), .int (0 : Int32), .int (0 : Int32), .ref q_t_home, .ref q_t_who, .ref q_t_place, .ref q_t_from, .ref q_t_till, .ref q_t_worth]] := hD
  obtain rfl := Option.some.inj hf
  exact ret_V hx hb hr hlocks hK hP hD hS dX4_empty_21

def fX4_copyFrom (r_t_home : Nat → Int32) (r_t_who : Nat → Int32) (r_t_place : Nat → Int32) (r_t_from : Nat → Int32) (r_t_till : Nat → Int32) (r_t_worth : Nat → Int32) (v_a1_office : Int32) (v_a1_free : Int32) (v_a1_people : Int32) (v_a1_deeds : Int32) (r_a1_home : Nat → Int32) (r_a1_who : Nat → Int32) (r_a1_place : Nat → Int32) (r_a1_from : Nat → Int32) (r_a1_till : Nat → Int32) (r_a1_worth : Nat → Int32) : Option (Int32 × Int32 × Int32 × Int32 × (Nat → Int32) × (Nat → Int32) × (Nat → Int32) × (Nat → Int32) × (Nat → Int32) × (Nat → Int32)) :=
  some (v_a1_office, v_a1_free, v_a1_people, v_a1_deeds, (cpn r_a1_home r_t_home (6)), (cpn r_a1_who r_t_who (8)), (cpn r_a1_place r_t_place (8)), (cpn r_a1_from r_t_from (8)), (cpn r_a1_till r_t_till (8)), (cpn r_a1_worth r_t_worth (8)))
theorem hd_X4_copyFrom : yX4_copyFrom.cls = RX4 ∧ yX4_copyFrom.cls ≠ "java/lang/invoke/MethodHandle" ∧ yX4_copyFrom.cls ≠ "java/lang/invoke/VarHandle" ∧ (parseMethodDescriptor yX4_copyFrom.desc).map (fun d => d.parameters.length) = some 1 := by decide +kernel
set_option maxHeartbeats 4000000 in
set_option maxRecDepth 100000 in
theorem k_X4_copyFrom (l : Launch) (D : va_G) (C : Nat → ClassId) (q_t : Nat) (q_t_home : Nat) (q_t_who : Nat) (q_t_place : Nat) (q_t_from : Nat) (q_t_till : Nat) (q_t_worth : Nat) (q_a1 : Nat) (q_a1_home : Nat) (q_a1_who : Nat) (q_a1_place : Nat) (q_a1_from : Nat) (q_a1_till : Nat) (q_a1_worth : Nat) (v_t_office : Int32) (v_t_free : Int32) (v_t_people : Int32) (v_t_deeds : Int32) (r_t_home : Nat → Int32) (r_t_who : Nat → Int32) (r_t_place : Nat → Int32) (r_t_from : Nat → Int32) (r_t_till : Nat → Int32) (r_t_worth : Nat → Int32) (v_a1_office : Int32) (v_a1_free : Int32) (v_a1_people : Int32) (v_a1_deeds : Int32) (r_a1_home : Nat → Int32) (r_a1_who : Nat → Int32) (r_a1_place : Nat → Int32) (r_a1_from : Nat → Int32) (r_a1_till : Nat → Int32) (r_a1_worth : Nat → Int32) (sz : Nat) (out : Int32 × Int32 × Int32 × Int32 × (Nat → Int32) × (Nat → Int32) × (Nat → Int32) × (Nat → Int32) × (Nat → Int32) × (Nat → Int32)) (hf : fX4_copyFrom r_t_home r_t_who r_t_place r_t_from r_t_till r_t_worth v_a1_office v_a1_free v_a1_people v_a1_deeds r_a1_home r_a1_who r_a1_place r_a1_from r_a1_till r_a1_worth = some out) : MV l yX4_copyFrom wsX4_copyFrom ({ frames := 1, cells := 0, slots := 0, locals := 64 }) D C [.ref q_t, .ref q_a1] [ob q_t 4 [.int v_t_office, .int v_t_free, .int v_t_people, .int v_t_deeds, .ref q_t_home, .ref q_t_who, .ref q_t_place, .ref q_t_from, .ref q_t_till, .ref q_t_worth], ia C q_t_home 6 r_t_home, ia C q_t_who 8 r_t_who, ia C q_t_place 8 r_t_place, ia C q_t_from 8 r_t_from, ia C q_t_till 8 r_t_till, ia C q_t_worth 8 r_t_worth, ob q_a1 4 [.int v_a1_office, .int v_a1_free, .int v_a1_people, .int v_a1_deeds, .ref q_a1_home, .ref q_a1_who, .ref q_a1_place, .ref q_a1_from, .ref q_a1_till, .ref q_a1_worth], ia C q_a1_home 6 r_a1_home, ia C q_a1_who 8 r_a1_who, ia C q_a1_place 8 r_a1_place, ia C q_a1_from 8 r_a1_from, ia C q_a1_till 8 r_a1_till, ia C q_a1_worth 8 r_a1_worth] [ob q_t 4 [.int out.1, .int out.2.1, .int out.2.2.1, .int out.2.2.2.1, .ref q_t_home, .ref q_t_who, .ref q_t_place, .ref q_t_from, .ref q_t_till, .ref q_t_worth], ia C q_t_home 6 out.2.2.2.2.1, ia C q_t_who 8 out.2.2.2.2.2.1, ia C q_t_place 8 out.2.2.2.2.2.2.1, ia C q_t_from 8 out.2.2.2.2.2.2.2.1, ia C q_t_till 8 out.2.2.2.2.2.2.2.2.1, ia C q_t_worth 8 out.2.2.2.2.2.2.2.2.2, ob q_a1 4 [.int v_a1_office, .int v_a1_free, .int v_a1_people, .int v_a1_deeds, .ref q_a1_home, .ref q_a1_who, .ref q_a1_place, .ref q_a1_from, .ref q_a1_till, .ref q_a1_worth], ia C q_a1_home 6 r_a1_home, ia C q_a1_who 8 r_a1_who, ia C q_a1_place 8 r_a1_place, ia C q_a1_from 8 r_a1_from, ia C q_a1_till 8 r_a1_till, ia C q_a1_worth 8 r_a1_worth] sz := by
  unfold fX4_copyFrom at hf
  refine en_V (by decide) rfl (Nat.le_of_ble_eq_true rfl) ?_
  intro p e s m below meth c A ls H locs hx hb hr hlocks hml hts hown hK hP hD hS hA hl
  have hl : lv_has ls 2 [(0, .ref q_t), (1, .ref q_a1)] := hl
  have inX4 : ∀ w ∈ u_ws RX4 TX4 10, w ∈ wsX4_copyFrom := fun w h => List.mem_cons_of_mem _ (List.mem_append_right _ h)
  refine lv_aload_n hx hb dX4_copyFrom_0 rfl (lv_at hl 0 rfl) ?_
  refine lv_aload_n hx hb dX4_copyFrom_1 rfl (lv_at hl 1 rfl) ?_
  refine va_get (D := D) (ci := 4) (v := .int v_a1_office) (C := RX4) (T := TX4) (N := 10) hx hb hts inX4 hown hK hP 7 rfl rfl 0 (by decide) (hts (.fieldLink RX4 11 "LentCourage$Port" "office" "I") (List.mem_of_getElem? (i := 1) rfl)) (fun _ h9 => h9) rfl dX4_copyFrom_2 ?_
  refine va_put (D := D) (ci := 4) (v := .int v_a1_office) (ty := .int) (C := RX4) (T := TX4) (N := 10) hx hb hts inX4 tyX4 tyX4_ok nmX4 hown hK hP hD hS 0 rfl rfl 0 (by decide) (hts (.fieldLink RX4 11 "LentCourage$Port" "office" "I") (List.mem_of_getElem? (i := 1) rfl)) (fun _ h9 => h9) rfl (tyX4_ok 0 (by decide)) rfl rfl (Nat.le_of_ble_eq_true rfl) dX4_copyFrom_5 (fun H locs hP hD hS => ?_)
  have hP : va_P D vwCl [ob q_t 4 [.int v_a1_office, .int v_t_free, .int v_t_people, .int v_t_deeds, .ref q_t_home, .ref q_t_who, .ref q_t_place, .ref q_t_from, .ref q_t_till, .ref q_t_worth], ia C q_t_home 6 r_t_home, ia C q_t_who 8 r_t_who, ia C q_t_place 8 r_t_place, ia C q_t_from 8 r_t_from, ia C q_t_till 8 r_t_till, ia C q_t_worth 8 r_t_worth, ob q_a1 4 [.int v_a1_office, .int v_a1_free, .int v_a1_people, .int v_a1_deeds, .ref q_a1_home, .ref q_a1_who, .ref q_a1_place, .ref q_a1_from, .ref q_a1_till, .ref q_a1_worth], ia C q_a1_home 6 r_a1_home, ia C q_a1_who 8 r_a1_who, ia C q_a1_place 8 r_a1_place, ia C q_a1_from 8 r_a1_from, ia C q_a1_till 8 r_a1_till, ia C q_a1_worth 8 r_a1_worth] H := hP
  have hD : va_D A [ob q_t 4 [.int v_a1_office, .int v_t_free, .int v_t_people, .int v_t_deeds, .ref q_t_home, .ref q_t_who, .ref q_t_place, .ref q_t_from, .ref q_t_till, .ref q_t_worth], ia C q_t_home 6 r_t_home, ia C q_t_who 8 r_t_who, ia C q_t_place 8 r_t_place, ia C q_t_from 8 r_t_from, ia C q_t_till 8 r_t_till, ia C q_t_worth 8 r_t_worth, ob q_a1 4 [.int v_a1_office, .int v_a1_free, .int v_a1_people, .int v_a1_deeds, .ref q_a1_home, .ref q_a1_who, .ref q_a1_place, .ref q_a1_from, .ref q_a1_till, .ref q_a1_worth], ia C q_a1_home 6 r_a1_home, ia C q_a1_who 8 r_a1_who, ia C q_a1_place 8 r_a1_place, ia C q_a1_from 8 r_a1_from, ia C q_a1_till 8 r_a1_till, ia C q_a1_worth 8 r_a1_worth] := hD
  refine lv_aload_n hx hb dX4_copyFrom_8 rfl (lv_at hl 0 rfl) ?_
  refine lv_aload_n hx hb dX4_copyFrom_9 rfl (lv_at hl 1 rfl) ?_
  refine va_get (D := D) (ci := 4) (v := .int v_a1_free) (C := RX4) (T := TX4) (N := 10) hx hb hts inX4 hown hK hP 7 rfl rfl 1 (by decide) (hts (.fieldLink RX4 15 "LentCourage$Port" "free" "I") (List.mem_of_getElem? (i := 2) rfl)) (fun _ h9 => h9) rfl dX4_copyFrom_10 ?_
  refine va_put (D := D) (ci := 4) (v := .int v_a1_free) (ty := .int) (C := RX4) (T := TX4) (N := 10) hx hb hts inX4 tyX4 tyX4_ok nmX4 hown hK hP hD hS 0 rfl rfl 1 (by decide) (hts (.fieldLink RX4 15 "LentCourage$Port" "free" "I") (List.mem_of_getElem? (i := 2) rfl)) (fun _ h9 => h9) rfl (tyX4_ok 1 (by decide)) rfl rfl (Nat.le_of_ble_eq_true rfl) dX4_copyFrom_13 (fun H locs hP hD hS => ?_)
  have hP : va_P D vwCl [ob q_t 4 [.int v_a1_office, .int v_a1_free, .int v_t_people, .int v_t_deeds, .ref q_t_home, .ref q_t_who, .ref q_t_place, .ref q_t_from, .ref q_t_till, .ref q_t_worth], ia C q_t_home 6 r_t_home, ia C q_t_who 8 r_t_who, ia C q_t_place 8 r_t_place, ia C q_t_from 8 r_t_from, ia C q_t_till 8 r_t_till, ia C q_t_worth 8 r_t_worth, ob q_a1 4 [.int v_a1_office, .int v_a1_free, .int v_a1_people, .int v_a1_deeds, .ref q_a1_home, .ref q_a1_who, .ref q_a1_place, .ref q_a1_from, .ref q_a1_till, .ref q_a1_worth], ia C q_a1_home 6 r_a1_home, ia C q_a1_who 8 r_a1_who, ia C q_a1_place 8 r_a1_place, ia C q_a1_from 8 r_a1_from, ia C q_a1_till 8 r_a1_till, ia C q_a1_worth 8 r_a1_worth] H := hP
  have hD : va_D A [ob q_t 4 [.int v_a1_office, .int v_a1_free, .int v_t_people, .int v_t_deeds, .ref q_t_home, .ref q_t_who, .ref q_t_place, .ref q_t_from, .ref q_t_till, .ref q_t_worth], ia C q_t_home 6 r_t_home, ia C q_t_who 8 r_t_who, ia C q_t_place 8 r_t_place, ia C q_t_from 8 r_t_from, ia C q_t_till 8 r_t_till, ia C q_t_worth 8 r_t_worth, ob q_a1 4 [.int v_a1_office, .int v_a1_free, .int v_a1_people, .int v_a1_deeds, .ref q_a1_home, .ref q_a1_who, .ref q_a1_place, .ref q_a1_from, .ref q_a1_till, .ref q_a1_worth], ia C q_a1_home 6 r_a1_home, ia C q_a1_who 8 r_a1_who, ia C q_a1_place 8 r_a1_place, ia C q_a1_from 8 r_a1_from, ia C q_a1_till 8 r_a1_till, ia C q_a1_worth 8 r_a1_worth] := hD
  refine lv_aload_n hx hb dX4_copyFrom_16 rfl (lv_at hl 0 rfl) ?_
  refine lv_aload_n hx hb dX4_copyFrom_17 rfl (lv_at hl 1 rfl) ?_
  refine va_get (D := D) (ci := 4) (v := .int v_a1_people) (C := RX4) (T := TX4) (N := 10) hx hb hts inX4 hown hK hP 7 rfl rfl 2 (by decide) (hts (.fieldLink RX4 37 "LentCourage$Port" "people" "I") (List.mem_of_getElem? (i := 3) rfl)) (fun _ h9 => h9) rfl dX4_copyFrom_18 ?_
  refine va_put (D := D) (ci := 4) (v := .int v_a1_people) (ty := .int) (C := RX4) (T := TX4) (N := 10) hx hb hts inX4 tyX4 tyX4_ok nmX4 hown hK hP hD hS 0 rfl rfl 2 (by decide) (hts (.fieldLink RX4 37 "LentCourage$Port" "people" "I") (List.mem_of_getElem? (i := 3) rfl)) (fun _ h9 => h9) rfl (tyX4_ok 2 (by decide)) rfl rfl (Nat.le_of_ble_eq_true rfl) dX4_copyFrom_21 (fun H locs hP hD hS => ?_)
  have hP : va_P D vwCl [ob q_t 4 [.int v_a1_office, .int v_a1_free, .int v_a1_people, .int v_t_deeds, .ref q_t_home, .ref q_t_who, .ref q_t_place, .ref q_t_from, .ref q_t_till, .ref q_t_worth], ia C q_t_home 6 r_t_home, ia C q_t_who 8 r_t_who, ia C q_t_place 8 r_t_place, ia C q_t_from 8 r_t_from, ia C q_t_till 8 r_t_till, ia C q_t_worth 8 r_t_worth, ob q_a1 4 [.int v_a1_office, .int v_a1_free, .int v_a1_people, .int v_a1_deeds, .ref q_a1_home, .ref q_a1_who, .ref q_a1_place, .ref q_a1_from, .ref q_a1_till, .ref q_a1_worth], ia C q_a1_home 6 r_a1_home, ia C q_a1_who 8 r_a1_who, ia C q_a1_place 8 r_a1_place, ia C q_a1_from 8 r_a1_from, ia C q_a1_till 8 r_a1_till, ia C q_a1_worth 8 r_a1_worth] H := hP
  have hD : va_D A [ob q_t 4 [.int v_a1_office, .int v_a1_free, .int v_a1_people, .int v_t_deeds, .ref q_t_home, .ref q_t_who, .ref q_t_place, .ref q_t_from, .ref q_t_till, .ref q_t_worth], ia C q_t_home 6 r_t_home, ia C q_t_who 8 r_t_who, ia C q_t_place 8 r_t_place, ia C q_t_from 8 r_t_from, ia C q_t_till 8 r_t_till, ia C q_t_worth 8 r_t_worth, ob q_a1 4 [.int v_a1_office, .int v_a1_free, .int v_a1_people, .int v_a1_deeds, .ref q_a1_home, .ref q_a1_who, .ref q_a1_place, .ref q_a1_from, .ref q_a1_till, .ref q_a1_worth], ia C q_a1_home 6 r_a1_home, ia C q_a1_who 8 r_a1_who, ia C q_a1_place 8 r_a1_place, ia C q_a1_from 8 r_a1_from, ia C q_a1_till 8 r_a1_till, ia C q_a1_worth 8 r_a1_worth] := hD
  refine lv_aload_n hx hb dX4_copyFrom_24 rfl (lv_at hl 0 rfl) ?_
  refine lv_aload_n hx hb dX4_copyFrom_25 rfl (lv_at hl 1 rfl) ?_
  refine va_get (D := D) (ci := 4) (v := .int v_a1_deeds) (C := RX4) (T := TX4) (N := 10) hx hb hts inX4 hown hK hP 7 rfl rfl 3 (by decide) (hts (.fieldLink RX4 40 "LentCourage$Port" "deeds" "I") (List.mem_of_getElem? (i := 4) rfl)) (fun _ h9 => h9) rfl dX4_copyFrom_26 ?_
  refine va_put (D := D) (ci := 4) (v := .int v_a1_deeds) (ty := .int) (C := RX4) (T := TX4) (N := 10) hx hb hts inX4 tyX4 tyX4_ok nmX4 hown hK hP hD hS 0 rfl rfl 3 (by decide) (hts (.fieldLink RX4 40 "LentCourage$Port" "deeds" "I") (List.mem_of_getElem? (i := 4) rfl)) (fun _ h9 => h9) rfl (tyX4_ok 3 (by decide)) rfl rfl (Nat.le_of_ble_eq_true rfl) dX4_copyFrom_29 (fun H locs hP hD hS => ?_)
  have hP : va_P D vwCl [ob q_t 4 [.int v_a1_office, .int v_a1_free, .int v_a1_people, .int v_a1_deeds, .ref q_t_home, .ref q_t_who, .ref q_t_place, .ref q_t_from, .ref q_t_till, .ref q_t_worth], ia C q_t_home 6 r_t_home, ia C q_t_who 8 r_t_who, ia C q_t_place 8 r_t_place, ia C q_t_from 8 r_t_from, ia C q_t_till 8 r_t_till, ia C q_t_worth 8 r_t_worth, ob q_a1 4 [.int v_a1_office, .int v_a1_free, .int v_a1_people, .int v_a1_deeds, .ref q_a1_home, .ref q_a1_who, .ref q_a1_place, .ref q_a1_from, .ref q_a1_till, .ref q_a1_worth], ia C q_a1_home 6 r_a1_home, ia C q_a1_who 8 r_a1_who, ia C q_a1_place 8 r_a1_place, ia C q_a1_from 8 r_a1_from, ia C q_a1_till 8 r_a1_till, ia C q_a1_worth 8 r_a1_worth] H := hP
  have hD : va_D A [ob q_t 4 [.int v_a1_office, .int v_a1_free, .int v_a1_people, .int v_a1_deeds, .ref q_t_home, .ref q_t_who, .ref q_t_place, .ref q_t_from, .ref q_t_till, .ref q_t_worth], ia C q_t_home 6 r_t_home, ia C q_t_who 8 r_t_who, ia C q_t_place 8 r_t_place, ia C q_t_from 8 r_t_from, ia C q_t_till 8 r_t_till, ia C q_t_worth 8 r_t_worth, ob q_a1 4 [.int v_a1_office, .int v_a1_free, .int v_a1_people, .int v_a1_deeds, .ref q_a1_home, .ref q_a1_who, .ref q_a1_place, .ref q_a1_from, .ref q_a1_till, .ref q_a1_worth], ia C q_a1_home 6 r_a1_home, ia C q_a1_who 8 r_a1_who, ia C q_a1_place 8 r_a1_place, ia C q_a1_from 8 r_a1_from, ia C q_a1_till 8 r_a1_till, ia C q_a1_worth 8 r_a1_worth] := hD
  refine lv_aload_n hx hb dX4_copyFrom_32 rfl (lv_at hl 1 rfl) ?_
  refine va_get (D := D) (ci := 4) (v := .ref q_a1_home) (C := RX4) (T := TX4) (N := 10) hx hb hts inX4 hown hK hP 7 rfl rfl 4 (by decide) (hts (.fieldLink RX4 18 "LentCourage$Port" "home" "[I") (List.mem_of_getElem? (i := 5) rfl)) (fun _ h9 => h9) rfl dX4_copyFrom_33 ?_
  refine lv_iconst (v := (0 : Int32)) hx hb dX4_copyFrom_36 (by decide) ?_
  refine lv_aload_n hx hb dX4_copyFrom_37 rfl (lv_at hl 0 rfl) ?_
  refine va_get (D := D) (ci := 4) (v := .ref q_t_home) (C := RX4) (T := TX4) (N := 10) hx hb hts inX4 hown hK hP 0 rfl rfl 4 (by decide) (hts (.fieldLink RX4 18 "LentCourage$Port" "home" "[I") (List.mem_of_getElem? (i := 5) rfl)) (fun _ h9 => h9) rfl dX4_copyFrom_38 ?_
  refine lv_iconst (v := (0 : Int32)) hx hb dX4_copyFrom_41 (by decide) ?_
  refine lv_bipush (v := (6 : Int32)) hx hb dX4_copyFrom_42 (by decide) ?_
  refine cp_I (k := 6) hx hb (hml.trans hl.1.symm) hown (hts (.methodLink RX4 43 arraycopyName) (List.mem_of_getElem? (i := 6) rfl)) (hts (.native arraycopyName) (List.mem_of_getElem? (i := 7) rfl)) (hts (.static arraycopyName) (List.mem_of_getElem? (i := 8) rfl)) (hts (.initialized "java/lang/System") (List.mem_of_getElem? (i := 9) rfl)) hK hP hD hS 8 1 rfl rfl (by decide) (by decide) (by decide) (by decide) (Nat.le_of_ble_eq_true rfl) (Nat.le_of_ble_eq_true rfl) dX4_copyFrom_44 (fun H locs hP hD hS => ?_)
  have hP : va_P D vwCl [ob q_t 4 [.int v_a1_office, .int v_a1_free, .int v_a1_people, .int v_a1_deeds, .ref q_t_home, .ref q_t_who, .ref q_t_place, .ref q_t_from, .ref q_t_till, .ref q_t_worth], ia C q_t_home 6 (cpn r_a1_home r_t_home (6)), ia C q_t_who 8 r_t_who, ia C q_t_place 8 r_t_place, ia C q_t_from 8 r_t_from, ia C q_t_till 8 r_t_till, ia C q_t_worth 8 r_t_worth, ob q_a1 4 [.int v_a1_office, .int v_a1_free, .int v_a1_people, .int v_a1_deeds, .ref q_a1_home, .ref q_a1_who, .ref q_a1_place, .ref q_a1_from, .ref q_a1_till, .ref q_a1_worth], ia C q_a1_home 6 r_a1_home, ia C q_a1_who 8 r_a1_who, ia C q_a1_place 8 r_a1_place, ia C q_a1_from 8 r_a1_from, ia C q_a1_till 8 r_a1_till, ia C q_a1_worth 8 r_a1_worth] H := hP
  have hD : va_D A [ob q_t 4 [.int v_a1_office, .int v_a1_free, .int v_a1_people, .int v_a1_deeds, .ref q_t_home, .ref q_t_who, .ref q_t_place, .ref q_t_from, .ref q_t_till, .ref q_t_worth], ia C q_t_home 6 (cpn r_a1_home r_t_home (6)), ia C q_t_who 8 r_t_who, ia C q_t_place 8 r_t_place, ia C q_t_from 8 r_t_from, ia C q_t_till 8 r_t_till, ia C q_t_worth 8 r_t_worth, ob q_a1 4 [.int v_a1_office, .int v_a1_free, .int v_a1_people, .int v_a1_deeds, .ref q_a1_home, .ref q_a1_who, .ref q_a1_place, .ref q_a1_from, .ref q_a1_till, .ref q_a1_worth], ia C q_a1_home 6 r_a1_home, ia C q_a1_who 8 r_a1_who, ia C q_a1_place 8 r_a1_place, ia C q_a1_from 8 r_a1_from, ia C q_a1_till 8 r_a1_till, ia C q_a1_worth 8 r_a1_worth] := hD
  refine lv_aload_n hx hb dX4_copyFrom_47 rfl (lv_at hl 1 rfl) ?_
  refine va_get (D := D) (ci := 4) (v := .ref q_a1_who) (C := RX4) (T := TX4) (N := 10) hx hb hts inX4 hown hK hP 7 rfl rfl 5 (by decide) (hts (.fieldLink RX4 22 "LentCourage$Port" "who" "[I") (List.mem_of_getElem? (i := 10) rfl)) (fun _ h9 => h9) rfl dX4_copyFrom_48 ?_
  refine lv_iconst (v := (0 : Int32)) hx hb dX4_copyFrom_51 (by decide) ?_
  refine lv_aload_n hx hb dX4_copyFrom_52 rfl (lv_at hl 0 rfl) ?_
  refine va_get (D := D) (ci := 4) (v := .ref q_t_who) (C := RX4) (T := TX4) (N := 10) hx hb hts inX4 hown hK hP 0 rfl rfl 5 (by decide) (hts (.fieldLink RX4 22 "LentCourage$Port" "who" "[I") (List.mem_of_getElem? (i := 10) rfl)) (fun _ h9 => h9) rfl dX4_copyFrom_53 ?_
  refine lv_iconst (v := (0 : Int32)) hx hb dX4_copyFrom_56 (by decide) ?_
  refine lv_bipush (v := (8 : Int32)) hx hb dX4_copyFrom_57 (by decide) ?_
  refine cp_I (k := 8) hx hb (hml.trans hl.1.symm) hown (hts (.methodLink RX4 43 arraycopyName) (List.mem_of_getElem? (i := 6) rfl)) (hts (.native arraycopyName) (List.mem_of_getElem? (i := 7) rfl)) (hts (.static arraycopyName) (List.mem_of_getElem? (i := 8) rfl)) (hts (.initialized "java/lang/System") (List.mem_of_getElem? (i := 9) rfl)) hK hP hD hS 9 2 rfl rfl (by decide) (by decide) (by decide) (by decide) (Nat.le_of_ble_eq_true rfl) (Nat.le_of_ble_eq_true rfl) dX4_copyFrom_59 (fun H locs hP hD hS => ?_)
  have hP : va_P D vwCl [ob q_t 4 [.int v_a1_office, .int v_a1_free, .int v_a1_people, .int v_a1_deeds, .ref q_t_home, .ref q_t_who, .ref q_t_place, .ref q_t_from, .ref q_t_till, .ref q_t_worth], ia C q_t_home 6 (cpn r_a1_home r_t_home (6)), ia C q_t_who 8 (cpn r_a1_who r_t_who (8)), ia C q_t_place 8 r_t_place, ia C q_t_from 8 r_t_from, ia C q_t_till 8 r_t_till, ia C q_t_worth 8 r_t_worth, ob q_a1 4 [.int v_a1_office, .int v_a1_free, .int v_a1_people, .int v_a1_deeds, .ref q_a1_home, .ref q_a1_who, .ref q_a1_place, .ref q_a1_from, .ref q_a1_till, .ref q_a1_worth], ia C q_a1_home 6 r_a1_home, ia C q_a1_who 8 r_a1_who, ia C q_a1_place 8 r_a1_place, ia C q_a1_from 8 r_a1_from, ia C q_a1_till 8 r_a1_till, ia C q_a1_worth 8 r_a1_worth] H := hP
  have hD : va_D A [ob q_t 4 [.int v_a1_office, .int v_a1_free, .int v_a1_people, .int v_a1_deeds, .ref q_t_home, .ref q_t_who, .ref q_t_place, .ref q_t_from, .ref q_t_till, .ref q_t_worth], ia C q_t_home 6 (cpn r_a1_home r_t_home (6)), ia C q_t_who 8 (cpn r_a1_who r_t_who (8)), ia C q_t_place 8 r_t_place, ia C q_t_from 8 r_t_from, ia C q_t_till 8 r_t_till, ia C q_t_worth 8 r_t_worth, ob q_a1 4 [.int v_a1_office, .int v_a1_free, .int v_a1_people, .int v_a1_deeds, .ref q_a1_home, .ref q_a1_who, .ref q_a1_place, .ref q_a1_from, .ref q_a1_till, .ref q_a1_worth], ia C q_a1_home 6 r_a1_home, ia C q_a1_who 8 r_a1_who, ia C q_a1_place 8 r_a1_place, ia C q_a1_from 8 r_a1_from, ia C q_a1_till 8 r_a1_till, ia C q_a1_worth 8 r_a1_worth] := hD
  refine lv_aload_n hx hb dX4_copyFrom_62 rfl (lv_at hl 1 rfl) ?_
  refine va_get (D := D) (ci := 4) (v := .ref q_a1_place) (C := RX4) (T := TX4) (N := 10) hx hb hts inX4 hown hK hP 7 rfl rfl 6 (by decide) (hts (.fieldLink RX4 25 "LentCourage$Port" "place" "[I") (List.mem_of_getElem? (i := 11) rfl)) (fun _ h9 => h9) rfl dX4_copyFrom_63 ?_
  refine lv_iconst (v := (0 : Int32)) hx hb dX4_copyFrom_66 (by decide) ?_
  refine lv_aload_n hx hb dX4_copyFrom_67 rfl (lv_at hl 0 rfl) ?_
  refine va_get (D := D) (ci := 4) (v := .ref q_t_place) (C := RX4) (T := TX4) (N := 10) hx hb hts inX4 hown hK hP 0 rfl rfl 6 (by decide) (hts (.fieldLink RX4 25 "LentCourage$Port" "place" "[I") (List.mem_of_getElem? (i := 11) rfl)) (fun _ h9 => h9) rfl dX4_copyFrom_68 ?_
  refine lv_iconst (v := (0 : Int32)) hx hb dX4_copyFrom_71 (by decide) ?_
  refine lv_bipush (v := (8 : Int32)) hx hb dX4_copyFrom_72 (by decide) ?_
  refine cp_I (k := 8) hx hb (hml.trans hl.1.symm) hown (hts (.methodLink RX4 43 arraycopyName) (List.mem_of_getElem? (i := 6) rfl)) (hts (.native arraycopyName) (List.mem_of_getElem? (i := 7) rfl)) (hts (.static arraycopyName) (List.mem_of_getElem? (i := 8) rfl)) (hts (.initialized "java/lang/System") (List.mem_of_getElem? (i := 9) rfl)) hK hP hD hS 10 3 rfl rfl (by decide) (by decide) (by decide) (by decide) (Nat.le_of_ble_eq_true rfl) (Nat.le_of_ble_eq_true rfl) dX4_copyFrom_74 (fun H locs hP hD hS => ?_)
  have hP : va_P D vwCl [ob q_t 4 [.int v_a1_office, .int v_a1_free, .int v_a1_people, .int v_a1_deeds, .ref q_t_home, .ref q_t_who, .ref q_t_place, .ref q_t_from, .ref q_t_till, .ref q_t_worth], ia C q_t_home 6 (cpn r_a1_home r_t_home (6)), ia C q_t_who 8 (cpn r_a1_who r_t_who (8)), ia C q_t_place 8 (cpn r_a1_place r_t_place (8)), ia C q_t_from 8 r_t_from, ia C q_t_till 8 r_t_till, ia C q_t_worth 8 r_t_worth, ob q_a1 4 [.int v_a1_office, .int v_a1_free, .int v_a1_people, .int v_a1_deeds, .ref q_a1_home, .ref q_a1_who, .ref q_a1_place, .ref q_a1_from, .ref q_a1_till, .ref q_a1_worth], ia C q_a1_home 6 r_a1_home, ia C q_a1_who 8 r_a1_who, ia C q_a1_place 8 r_a1_place, ia C q_a1_from 8 r_a1_from, ia C q_a1_till 8 r_a1_till, ia C q_a1_worth 8 r_a1_worth] H := hP
  have hD : va_D A [ob q_t 4 [.int v_a1_office, .int v_a1_free, .int v_a1_people, .int v_a1_deeds, .ref q_t_home, .ref q_t_who, .ref q_t_place, .ref q_t_from, .ref q_t_till, .ref q_t_worth], ia C q_t_home 6 (cpn r_a1_home r_t_home (6)), ia C q_t_who 8 (cpn r_a1_who r_t_who (8)), ia C q_t_place 8 (cpn r_a1_place r_t_place (8)), ia C q_t_from 8 r_t_from, ia C q_t_till 8 r_t_till, ia C q_t_worth 8 r_t_worth, ob q_a1 4 [.int v_a1_office, .int v_a1_free, .int v_a1_people, .int v_a1_deeds, .ref q_a1_home, .ref q_a1_who, .ref q_a1_place, .ref q_a1_from, .ref q_a1_till, .ref q_a1_worth], ia C q_a1_home 6 r_a1_home, ia C q_a1_who 8 r_a1_who, ia C q_a1_place 8 r_a1_place, ia C q_a1_from 8 r_a1_from, ia C q_a1_till 8 r_a1_till, ia C q_a1_worth 8 r_a1_worth] := hD
  refine lv_aload_n hx hb dX4_copyFrom_77 rfl (lv_at hl 1 rfl) ?_
  refine va_get (D := D) (ci := 4) (v := .ref q_a1_from) (C := RX4) (T := TX4) (N := 10) hx hb hts inX4 hown hK hP 7 rfl rfl 7 (by decide) (hts (.fieldLink RX4 28 "LentCourage$Port" "from" "[I") (List.mem_of_getElem? (i := 12) rfl)) (fun _ h9 => h9) rfl dX4_copyFrom_78 ?_
  refine lv_iconst (v := (0 : Int32)) hx hb dX4_copyFrom_81 (by decide) ?_
  refine lv_aload_n hx hb dX4_copyFrom_82 rfl (lv_at hl 0 rfl) ?_
  refine va_get (D := D) (ci := 4) (v := .ref q_t_from) (C := RX4) (T := TX4) (N := 10) hx hb hts inX4 hown hK hP 0 rfl rfl 7 (by decide) (hts (.fieldLink RX4 28 "LentCourage$Port" "from" "[I") (List.mem_of_getElem? (i := 12) rfl)) (fun _ h9 => h9) rfl dX4_copyFrom_83 ?_
  refine lv_iconst (v := (0 : Int32)) hx hb dX4_copyFrom_86 (by decide) ?_
  refine lv_bipush (v := (8 : Int32)) hx hb dX4_copyFrom_87 (by decide) ?_
  refine cp_I (k := 8) hx hb (hml.trans hl.1.symm) hown (hts (.methodLink RX4 43 arraycopyName) (List.mem_of_getElem? (i := 6) rfl)) (hts (.native arraycopyName) (List.mem_of_getElem? (i := 7) rfl)) (hts (.static arraycopyName) (List.mem_of_getElem? (i := 8) rfl)) (hts (.initialized "java/lang/System") (List.mem_of_getElem? (i := 9) rfl)) hK hP hD hS 11 4 rfl rfl (by decide) (by decide) (by decide) (by decide) (Nat.le_of_ble_eq_true rfl) (Nat.le_of_ble_eq_true rfl) dX4_copyFrom_89 (fun H locs hP hD hS => ?_)
  have hP : va_P D vwCl [ob q_t 4 [.int v_a1_office, .int v_a1_free, .int v_a1_people, .int v_a1_deeds, .ref q_t_home, .ref q_t_who, .ref q_t_place, .ref q_t_from, .ref q_t_till, .ref q_t_worth], ia C q_t_home 6 (cpn r_a1_home r_t_home (6)), ia C q_t_who 8 (cpn r_a1_who r_t_who (8)), ia C q_t_place 8 (cpn r_a1_place r_t_place (8)), ia C q_t_from 8 (cpn r_a1_from r_t_from (8)), ia C q_t_till 8 r_t_till, ia C q_t_worth 8 r_t_worth, ob q_a1 4 [.int v_a1_office, .int v_a1_free, .int v_a1_people, .int v_a1_deeds, .ref q_a1_home, .ref q_a1_who, .ref q_a1_place, .ref q_a1_from, .ref q_a1_till, .ref q_a1_worth], ia C q_a1_home 6 r_a1_home, ia C q_a1_who 8 r_a1_who, ia C q_a1_place 8 r_a1_place, ia C q_a1_from 8 r_a1_from, ia C q_a1_till 8 r_a1_till, ia C q_a1_worth 8 r_a1_worth] H := hP
  have hD : va_D A [ob q_t 4 [.int v_a1_office, .int v_a1_free, .int v_a1_people, .int v_a1_deeds, .ref q_t_home, .ref q_t_who, .ref q_t_place, .ref q_t_from, .ref q_t_till, .ref q_t_worth], ia C q_t_home 6 (cpn r_a1_home r_t_home (6)), ia C q_t_who 8 (cpn r_a1_who r_t_who (8)), ia C q_t_place 8 (cpn r_a1_place r_t_place (8)), ia C q_t_from 8 (cpn r_a1_from r_t_from (8)), ia C q_t_till 8 r_t_till, ia C q_t_worth 8 r_t_worth, ob q_a1 4 [.int v_a1_office, .int v_a1_free, .int v_a1_people, .int v_a1_deeds, .ref q_a1_home, .ref q_a1_who, .ref q_a1_place, .ref q_a1_from, .ref q_a1_till, .ref q_a1_worth], ia C q_a1_home 6 r_a1_home, ia C q_a1_who 8 r_a1_who, ia C q_a1_place 8 r_a1_place, ia C q_a1_from 8 r_a1_from, ia C q_a1_till 8 r_a1_till, ia C q_a1_worth 8 r_a1_worth] := hD
  refine lv_aload_n hx hb dX4_copyFrom_92 rfl (lv_at hl 1 rfl) ?_
  refine va_get (D := D) (ci := 4) (v := .ref q_a1_till) (C := RX4) (T := TX4) (N := 10) hx hb hts inX4 hown hK hP 7 rfl rfl 8 (by decide) (hts (.fieldLink RX4 31 "LentCourage$Port" "till" "[I") (List.mem_of_getElem? (i := 13) rfl)) (fun _ h9 => h9) rfl dX4_copyFrom_93 ?_
  refine lv_iconst (v := (0 : Int32)) hx hb dX4_copyFrom_96 (by decide) ?_
  refine lv_aload_n hx hb dX4_copyFrom_97 rfl (lv_at hl 0 rfl) ?_
  refine va_get (D := D) (ci := 4) (v := .ref q_t_till) (C := RX4) (T := TX4) (N := 10) hx hb hts inX4 hown hK hP 0 rfl rfl 8 (by decide) (hts (.fieldLink RX4 31 "LentCourage$Port" "till" "[I") (List.mem_of_getElem? (i := 13) rfl)) (fun _ h9 => h9) rfl dX4_copyFrom_98 ?_
  refine lv_iconst (v := (0 : Int32)) hx hb dX4_copyFrom_101 (by decide) ?_
  refine lv_bipush (v := (8 : Int32)) hx hb dX4_copyFrom_102 (by decide) ?_
  refine cp_I (k := 8) hx hb (hml.trans hl.1.symm) hown (hts (.methodLink RX4 43 arraycopyName) (List.mem_of_getElem? (i := 6) rfl)) (hts (.native arraycopyName) (List.mem_of_getElem? (i := 7) rfl)) (hts (.static arraycopyName) (List.mem_of_getElem? (i := 8) rfl)) (hts (.initialized "java/lang/System") (List.mem_of_getElem? (i := 9) rfl)) hK hP hD hS 12 5 rfl rfl (by decide) (by decide) (by decide) (by decide) (Nat.le_of_ble_eq_true rfl) (Nat.le_of_ble_eq_true rfl) dX4_copyFrom_104 (fun H locs hP hD hS => ?_)
  have hP : va_P D vwCl [ob q_t 4 [.int v_a1_office, .int v_a1_free, .int v_a1_people, .int v_a1_deeds, .ref q_t_home, .ref q_t_who, .ref q_t_place, .ref q_t_from, .ref q_t_till, .ref q_t_worth], ia C q_t_home 6 (cpn r_a1_home r_t_home (6)), ia C q_t_who 8 (cpn r_a1_who r_t_who (8)), ia C q_t_place 8 (cpn r_a1_place r_t_place (8)), ia C q_t_from 8 (cpn r_a1_from r_t_from (8)), ia C q_t_till 8 (cpn r_a1_till r_t_till (8)), ia C q_t_worth 8 r_t_worth, ob q_a1 4 [.int v_a1_office, .int v_a1_free, .int v_a1_people, .int v_a1_deeds, .ref q_a1_home, .ref q_a1_who, .ref q_a1_place, .ref q_a1_from, .ref q_a1_till, .ref q_a1_worth], ia C q_a1_home 6 r_a1_home, ia C q_a1_who 8 r_a1_who, ia C q_a1_place 8 r_a1_place, ia C q_a1_from 8 r_a1_from, ia C q_a1_till 8 r_a1_till, ia C q_a1_worth 8 r_a1_worth] H := hP
  have hD : va_D A [ob q_t 4 [.int v_a1_office, .int v_a1_free, .int v_a1_people, .int v_a1_deeds, .ref q_t_home, .ref q_t_who, .ref q_t_place, .ref q_t_from, .ref q_t_till, .ref q_t_worth], ia C q_t_home 6 (cpn r_a1_home r_t_home (6)), ia C q_t_who 8 (cpn r_a1_who r_t_who (8)), ia C q_t_place 8 (cpn r_a1_place r_t_place (8)), ia C q_t_from 8 (cpn r_a1_from r_t_from (8)), ia C q_t_till 8 (cpn r_a1_till r_t_till (8)), ia C q_t_worth 8 r_t_worth, ob q_a1 4 [.int v_a1_office, .int v_a1_free, .int v_a1_people, .int v_a1_deeds, .ref q_a1_home, .ref q_a1_who, .ref q_a1_place, .ref q_a1_from, .ref q_a1_till, .ref q_a1_worth], ia C q_a1_home 6 r_a1_home, ia C q_a1_who 8 r_a1_who, ia C q_a1_place 8 r_a1_place, ia C q_a1_from 8 r_a1_from, ia C q_a1_till 8 r_a1_till, ia C q_a1_worth 8 r_a1_worth] := hD
  refine lv_aload_n hx hb dX4_copyFrom_107 rfl (lv_at hl 1 rfl) ?_
  refine va_get (D := D) (ci := 4) (v := .ref q_a1_worth) (C := RX4) (T := TX4) (N := 10) hx hb hts inX4 hown hK hP 7 rfl rfl 9 (by decide) (hts (.fieldLink RX4 34 "LentCourage$Port" "worth" "[I") (List.mem_of_getElem? (i := 14) rfl)) (fun _ h9 => h9) rfl dX4_copyFrom_108 ?_
  refine lv_iconst (v := (0 : Int32)) hx hb dX4_copyFrom_111 (by decide) ?_
  refine lv_aload_n hx hb dX4_copyFrom_112 rfl (lv_at hl 0 rfl) ?_
  refine va_get (D := D) (ci := 4) (v := .ref q_t_worth) (C := RX4) (T := TX4) (N := 10) hx hb hts inX4 hown hK hP 0 rfl rfl 9 (by decide) (hts (.fieldLink RX4 34 "LentCourage$Port" "worth" "[I") (List.mem_of_getElem? (i := 14) rfl)) (fun _ h9 => h9) rfl dX4_copyFrom_113 ?_
  refine lv_iconst (v := (0 : Int32)) hx hb dX4_copyFrom_116 (by decide) ?_
  refine lv_bipush (v := (8 : Int32)) hx hb dX4_copyFrom_117 (by decide) ?_
  refine cp_I (k := 8) hx hb (hml.trans hl.1.symm) hown (hts (.methodLink RX4 43 arraycopyName) (List.mem_of_getElem? (i := 6) rfl)) (hts (.native arraycopyName) (List.mem_of_getElem? (i := 7) rfl)) (hts (.static arraycopyName) (List.mem_of_getElem? (i := 8) rfl)) (hts (.initialized "java/lang/System") (List.mem_of_getElem? (i := 9) rfl)) hK hP hD hS 13 6 rfl rfl (by decide) (by decide) (by decide) (by decide) (Nat.le_of_ble_eq_true rfl) (Nat.le_of_ble_eq_true rfl) dX4_copyFrom_119 (fun H locs hP hD hS => ?_)
  have hP : va_P D vwCl [ob q_t 4 [.int v_a1_office, .int v_a1_free, .int v_a1_people, .int v_a1_deeds, .ref q_t_home, .ref q_t_who, .ref q_t_place, .ref q_t_from, .ref q_t_till, .ref q_t_worth], ia C q_t_home 6 (cpn r_a1_home r_t_home (6)), ia C q_t_who 8 (cpn r_a1_who r_t_who (8)), ia C q_t_place 8 (cpn r_a1_place r_t_place (8)), ia C q_t_from 8 (cpn r_a1_from r_t_from (8)), ia C q_t_till 8 (cpn r_a1_till r_t_till (8)), ia C q_t_worth 8 (cpn r_a1_worth r_t_worth (8)), ob q_a1 4 [.int v_a1_office, .int v_a1_free, .int v_a1_people, .int v_a1_deeds, .ref q_a1_home, .ref q_a1_who, .ref q_a1_place, .ref q_a1_from, .ref q_a1_till, .ref q_a1_worth], ia C q_a1_home 6 r_a1_home, ia C q_a1_who 8 r_a1_who, ia C q_a1_place 8 r_a1_place, ia C q_a1_from 8 r_a1_from, ia C q_a1_till 8 r_a1_till, ia C q_a1_worth 8 r_a1_worth] H := hP
  have hD : va_D A [ob q_t 4 [.int v_a1_office, .int v_a1_free, .int v_a1_people, .int v_a1_deeds, .ref q_t_home, .ref q_t_who, .ref q_t_place, .ref q_t_from, .ref q_t_till, .ref q_t_worth], ia C q_t_home 6 (cpn r_a1_home r_t_home (6)), ia C q_t_who 8 (cpn r_a1_who r_t_who (8)), ia C q_t_place 8 (cpn r_a1_place r_t_place (8)), ia C q_t_from 8 (cpn r_a1_from r_t_from (8)), ia C q_t_till 8 (cpn r_a1_till r_t_till (8)), ia C q_t_worth 8 (cpn r_a1_worth r_t_worth (8)), ob q_a1 4 [.int v_a1_office, .int v_a1_free, .int v_a1_people, .int v_a1_deeds, .ref q_a1_home, .ref q_a1_who, .ref q_a1_place, .ref q_a1_from, .ref q_a1_till, .ref q_a1_worth], ia C q_a1_home 6 r_a1_home, ia C q_a1_who 8 r_a1_who, ia C q_a1_place 8 r_a1_place, ia C q_a1_from 8 r_a1_from, ia C q_a1_till 8 r_a1_till, ia C q_a1_worth 8 r_a1_worth] := hD
  obtain rfl := Option.some.inj hf
  exact ret_V hx hb hr hlocks hK hP hD hS dX4_copyFrom_122

def fX2_canDo (v_t_hour : Int32) (v_t_holder : Int32) (v_t_fresh : Int32) (v_t_done : Int32) (r_t_at : Nat → Int32) (r_a1_who : Nat → Int32) (r_a1_place : Nat → Int32) (r_a1_from : Nat → Int32) (r_a1_till : Nat → Int32) (p2 : Int32) : Option (Int32) :=
  (fX2_isHeld v_t_holder).bind (fun o1 => ((if o1 = 0 then some (0 : Int32) else (if v_t_fresh = 0 then some (0 : Int32) else chk (vin p2 8) ((if (r_a1_who p2.toNatClampNeg) = v_t_holder then chk (vin v_t_holder 6) ((if (r_t_at v_t_holder.toNatClampNeg) = (r_a1_place p2.toNatClampNeg) then (fX2_isDone v_t_done p2).bind (fun o9 => (if o9 = 0 then (if v_t_hour < (r_a1_from p2.toNatClampNeg) then some (0 : Int32) else (if (r_a1_till p2.toNatClampNeg) < v_t_hour then some (0 : Int32) else some (1 : Int32))) else some (0 : Int32))) else some (0 : Int32))) else some (0 : Int32)))))).bind (fun j2 => chk (okZ j2) (some j2)))
theorem hd_X2_canDo : yX2_canDo.cls = RX2 ∧ yX2_canDo.cls ≠ "java/lang/invoke/MethodHandle" ∧ yX2_canDo.cls ≠ "java/lang/invoke/VarHandle" ∧ (parseMethodDescriptor yX2_canDo.desc).map (fun d => d.parameters.length) = some 2 := by decide +kernel
set_option maxHeartbeats 4000000 in
set_option maxRecDepth 100000 in
theorem k_X2_canDo (l : Launch) (D : va_G) (C : Nat → ClassId) (q_t : Nat) (q_t_at : Nat) (q_t_lastHeld : Nat) (q_t_owed : Nat) (q_a1 : Nat) (q_a1_home : Nat) (q_a1_who : Nat) (q_a1_place : Nat) (q_a1_from : Nat) (q_a1_till : Nat) (q_a1_worth : Nat) (v_t_hour : Int32) (v_t_holder : Int32) (v_t_since : Int32) (v_t_fresh : Int32) (v_t_done : Int32) (r_t_at : Nat → Int32) (v_a1_office : Int32) (v_a1_free : Int32) (v_a1_people : Int32) (v_a1_deeds : Int32) (r_a1_who : Nat → Int32) (r_a1_place : Nat → Int32) (r_a1_from : Nat → Int32) (r_a1_till : Nat → Int32) (p2 : Int32) (sz : Nat) (out : Int32) (hf : fX2_canDo v_t_hour v_t_holder v_t_fresh v_t_done r_t_at r_a1_who r_a1_place r_a1_from r_a1_till p2 = some out) : MI l yX2_canDo wsX2_canDo ({ frames := 1, cells := 0, slots := 0, locals := 21 }) D C [.ref q_t, .ref q_a1, .int p2] [ob q_t 2 [.int v_t_hour, .int v_t_holder, .int v_t_since, .int v_t_fresh, .int v_t_done, .ref q_t_at, .ref q_t_lastHeld, .ref q_t_owed], ia C q_t_at 6 r_t_at, ob q_a1 4 [.int v_a1_office, .int v_a1_free, .int v_a1_people, .int v_a1_deeds, .ref q_a1_home, .ref q_a1_who, .ref q_a1_place, .ref q_a1_from, .ref q_a1_till, .ref q_a1_worth], ia C q_a1_who 8 r_a1_who, ia C q_a1_place 8 r_a1_place, ia C q_a1_from 8 r_a1_from, ia C q_a1_till 8 r_a1_till] [ob q_t 2 [.int v_t_hour, .int v_t_holder, .int v_t_since, .int v_t_fresh, .int v_t_done, .ref q_t_at, .ref q_t_lastHeld, .ref q_t_owed], ia C q_t_at 6 r_t_at, ob q_a1 4 [.int v_a1_office, .int v_a1_free, .int v_a1_people, .int v_a1_deeds, .ref q_a1_home, .ref q_a1_who, .ref q_a1_place, .ref q_a1_from, .ref q_a1_till, .ref q_a1_worth], ia C q_a1_who 8 r_a1_who, ia C q_a1_place 8 r_a1_place, ia C q_a1_from 8 r_a1_from, ia C q_a1_till 8 r_a1_till] sz (out) := by
  unfold fX2_canDo at hf
  refine en_I (by decide) rfl (Nat.le_of_ble_eq_true rfl) ?_
  intro p e s m below meth c A ls H locs hx hb hr hlocks hml hts hown hK hP hD hS hA hl
  have hl : lv_has ls 3 [(0, .ref q_t), (1, .ref q_a1), (2, .int p2)] := hl
  have inX2 : ∀ w ∈ u_ws RX2 TX2 8, w ∈ wsX2_canDo := fun w h => List.mem_cons_of_mem _ (List.mem_append_left _ (List.mem_append_right _ h))
  have inX4 : ∀ w ∈ u_ws RX4 TX4 10, w ∈ wsX2_canDo := fun w h => List.mem_cons_of_mem _ (List.mem_append_right _ h)
  refine lv_aload_n hx hb dX2_canDo_0 rfl (lv_at hl 0 rfl) ?_
  obtain ⟨o1, ho1, hf⟩ := of_bind hf
  refine c_I (wr := [ia C q_t_at 6 r_t_at, ob q_a1 4 [.int v_a1_office, .int v_a1_free, .int v_a1_people, .int v_a1_deeds, .ref q_a1_home, .ref q_a1_who, .ref q_a1_place, .ref q_a1_from, .ref q_a1_till, .ref q_a1_worth], ia C q_a1_who 8 r_a1_who, ia C q_a1_place 8 r_a1_place, ia C q_a1_from 8 r_a1_from, ia C q_a1_till 8 r_a1_till]) (W2 := [ob q_t 2 [.int v_t_hour, .int v_t_holder, .int v_t_since, .int v_t_fresh, .int v_t_done, .ref q_t_at, .ref q_t_lastHeld, .ref q_t_owed], ia C q_t_at 6 r_t_at, ob q_a1 4 [.int v_a1_office, .int v_a1_free, .int v_a1_people, .int v_a1_deeds, .ref q_a1_home, .ref q_a1_who, .ref q_a1_place, .ref q_a1_from, .ref q_a1_till, .ref q_a1_worth], ia C q_a1_who 8 r_a1_who, ia C q_a1_place 8 r_a1_place, ia C q_a1_from 8 r_a1_from, ia C q_a1_till 8 r_a1_till]) (cV_run ⟨hx, hb, hml, hown, hts⟩ (k_X2_isHeld l D C q_t q_t_at q_t_lastHeld q_t_owed v_t_hour v_t_holder v_t_since v_t_fresh v_t_done H.size o1 ho1) gX2_canDo_X2_isHeld rfl ⟨rfl, rfl⟩ hd_X2_isHeld ⟨(Nat.le_of_ble_eq_true rfl), (Nat.le_of_ble_eq_true rfl)⟩ rfl hK (cut_in hK hP hD [0] rfl (by decide)) (ci := 2) rfl rfl rfl hl.1 rfl (Nat.le_of_ble_eq_true rfl) dX2_canDo_1 ⟨Nat.zero_le _, Nat.zero_le _⟩) hP hD hS hA [0] [1, 2, 3, 4, 5, 6] [6, 0, 1, 2, 3, 4, 5] rfl rfl (by decide) (by decide) rfl (by decide) (fun H locs hP hD hS => ?_)
  have hP : va_P D vwCl [ob q_t 2 [.int v_t_hour, .int v_t_holder, .int v_t_since, .int v_t_fresh, .int v_t_done, .ref q_t_at, .ref q_t_lastHeld, .ref q_t_owed], ia C q_t_at 6 r_t_at, ob q_a1 4 [.int v_a1_office, .int v_a1_free, .int v_a1_people, .int v_a1_deeds, .ref q_a1_home, .ref q_a1_who, .ref q_a1_place, .ref q_a1_from, .ref q_a1_till, .ref q_a1_worth], ia C q_a1_who 8 r_a1_who, ia C q_a1_place 8 r_a1_place, ia C q_a1_from 8 r_a1_from, ia C q_a1_till 8 r_a1_till] H := hP
  have hD : va_D A [ob q_t 2 [.int v_t_hour, .int v_t_holder, .int v_t_since, .int v_t_fresh, .int v_t_done, .ref q_t_at, .ref q_t_lastHeld, .ref q_t_owed], ia C q_t_at 6 r_t_at, ob q_a1 4 [.int v_a1_office, .int v_a1_free, .int v_a1_people, .int v_a1_deeds, .ref q_a1_home, .ref q_a1_who, .ref q_a1_place, .ref q_a1_from, .ref q_a1_till, .ref q_a1_worth], ia C q_a1_who 8 r_a1_who, ia C q_a1_place 8 r_a1_place, ia C q_a1_from 8 r_a1_from, ia C q_a1_till 8 r_a1_till] := hD
  obtain ⟨j2, hrj2, hf⟩ := of_bind hf
  refine jn (fun H L g => ∃ ls, g = F0 m 84 ls [.int j2] ∧ va_P D vwCl [ob q_t 2 [.int v_t_hour, .int v_t_holder, .int v_t_since, .int v_t_fresh, .int v_t_done, .ref q_t_at, .ref q_t_lastHeld, .ref q_t_owed], ia C q_t_at 6 r_t_at, ob q_a1 4 [.int v_a1_office, .int v_a1_free, .int v_a1_people, .int v_a1_deeds, .ref q_a1_home, .ref q_a1_who, .ref q_a1_place, .ref q_a1_from, .ref q_a1_till, .ref q_a1_worth], ia C q_a1_who 8 r_a1_who, ia C q_a1_place 8 r_a1_place, ia C q_a1_from 8 r_a1_from, ia C q_a1_till 8 r_a1_till] H ∧ va_D A [ob q_t 2 [.int v_t_hour, .int v_t_holder, .int v_t_since, .int v_t_fresh, .int v_t_done, .ref q_t_at, .ref q_t_lastHeld, .ref q_t_owed], ia C q_t_at 6 r_t_at, ob q_a1 4 [.int v_a1_office, .int v_a1_free, .int v_a1_people, .int v_a1_deeds, .ref q_a1_home, .ref q_a1_who, .ref q_a1_place, .ref q_a1_from, .ref q_a1_till, .ref q_a1_worth], ia C q_a1_who 8 r_a1_who, ia C q_a1_place 8 r_a1_place, ia C q_a1_from 8 r_a1_from, ia C q_a1_till 8 r_a1_till] ∧ va_S A s.heap H L ∧ lv_has ls 3 [(0, .ref q_t), (1, .ref q_a1), (2, .int p2)]) (fun H locs g hI => ?_) (fun Jj2 => ?_)
  · obtain ⟨ls, rfl, hP, hD, hS, hl⟩ := hI
    obtain ⟨h13, hf⟩ := of_chk hf
    obtain rfl := Option.some.inj hf
    exact ret_Z hx hb hr hlocks h13 hK hP hD hS dX2_canDo_84
  · have hf := hrj2
    refine lv_if_eq (tgt := 83) hx hb dX2_canDo_4 (by decide) (fun c3 => ?_) (fun c3 => ?_)
    · have hf := of_pos hf c3
      refine lv_iconst (v := (0 : Int32)) hx hb dX2_canDo_83 (by decide) ?_
      obtain rfl := Option.some.inj hf
      exact Jj2 _ _ _ ⟨_, rfl, hP, hD, hS, lv_sub hl [0, 1, 2] rfl⟩
    · have hf := of_neg hf c3
      refine lv_aload_n hx hb dX2_canDo_7 rfl (lv_at hl 0 rfl) ?_
      refine va_get (D := D) (ci := 2) (v := .int v_t_fresh) (C := RX2) (T := TX2) (N := 8) hx hb hts inX2 hown hK hP 0 rfl rfl 3 (by decide) (hts (.fieldLink RX2 31 "LentCourage$Moment" "fresh" "Z") (List.mem_of_getElem? (i := 1) rfl)) (fun _ h9 => h9) rfl dX2_canDo_8 ?_
      refine lv_if_eq (tgt := 83) hx hb dX2_canDo_11 (by decide) (fun c4 => ?_) (fun c4 => ?_)
      · have hf := of_pos hf c4
        refine lv_iconst (v := (0 : Int32)) hx hb dX2_canDo_83 (by decide) ?_
        obtain rfl := Option.some.inj hf
        exact Jj2 _ _ _ ⟨_, rfl, hP, hD, hS, lv_sub hl [0, 1, 2] rfl⟩
      · have hf := of_neg hf c4
        refine lv_aload_n hx hb dX2_canDo_14 rfl (lv_at hl 1 rfl) ?_
        refine va_get (D := D) (ci := 4) (v := .ref q_a1_who) (C := RX4) (T := TX4) (N := 10) hx hb hts inX4 hown hK hP 2 rfl rfl 5 (by decide) (hts (.fieldLink RX2 69 "LentCourage$Port" "who" "[I") (List.mem_of_getElem? (i := 2) rfl)) (fun _ h9 => h9) rfl dX2_canDo_15 ?_
        refine lv_iload_n hx hb dX2_canDo_18 rfl (lv_at hl 2 rfl) ?_
        obtain ⟨h5, hf⟩ := of_chk hf
        refine va_iald hx hb hK hP 3 0 rfl rfl h5 dX2_canDo_19 ?_
        refine lv_aload_n hx hb dX2_canDo_20 rfl (lv_at hl 0 rfl) ?_
        refine va_get (D := D) (ci := 2) (v := .int v_t_holder) (C := RX2) (T := TX2) (N := 8) hx hb hts inX2 hown hK hP 0 rfl rfl 1 (by decide) (hts (.fieldLink RX2 9 "LentCourage$Moment" "holder" "I") (List.mem_of_getElem? (i := 3) rfl)) (fun _ h9 => h9) rfl dX2_canDo_21 ?_
        refine lv_icmp_ne (tgt := 83) hx hb dX2_canDo_24 (by decide) (fun c6 => ?_) (fun c6 => ?_)
        · have hf := of_neg hf c6
          refine lv_iconst (v := (0 : Int32)) hx hb dX2_canDo_83 (by decide) ?_
          obtain rfl := Option.some.inj hf
          exact Jj2 _ _ _ ⟨_, rfl, hP, hD, hS, lv_sub hl [0, 1, 2] rfl⟩
        · have hf := of_pos hf c6
          refine lv_aload_n hx hb dX2_canDo_27 rfl (lv_at hl 0 rfl) ?_
          refine va_get (D := D) (ci := 2) (v := .ref q_t_at) (C := RX2) (T := TX2) (N := 8) hx hb hts inX2 hown hK hP 0 rfl rfl 5 (by decide) (hts (.fieldLink RX2 15 "LentCourage$Moment" "at" "[I") (List.mem_of_getElem? (i := 4) rfl)) (fun _ h9 => h9) rfl dX2_canDo_28 ?_
          refine lv_aload_n hx hb dX2_canDo_31 rfl (lv_at hl 0 rfl) ?_
          refine va_get (D := D) (ci := 2) (v := .int v_t_holder) (C := RX2) (T := TX2) (N := 8) hx hb hts inX2 hown hK hP 0 rfl rfl 1 (by decide) (hts (.fieldLink RX2 9 "LentCourage$Moment" "holder" "I") (List.mem_of_getElem? (i := 3) rfl)) (fun _ h9 => h9) rfl dX2_canDo_32 ?_
          obtain ⟨h7, hf⟩ := of_chk hf
          refine va_iald hx hb hK hP 1 0 rfl rfl h7 dX2_canDo_35 ?_
          refine lv_aload_n hx hb dX2_canDo_36 rfl (lv_at hl 1 rfl) ?_
          refine va_get (D := D) (ci := 4) (v := .ref q_a1_place) (C := RX4) (T := TX4) (N := 10) hx hb hts inX4 hown hK hP 2 rfl rfl 6 (by decide) (hts (.fieldLink RX2 72 "LentCourage$Port" "place" "[I") (List.mem_of_getElem? (i := 5) rfl)) (fun _ h9 => h9) rfl dX2_canDo_37 ?_
          refine lv_iload_n hx hb dX2_canDo_40 rfl (lv_at hl 2 rfl) ?_
          refine va_iald hx hb hK hP 4 0 rfl rfl h5 dX2_canDo_41 ?_
          refine lv_icmp_ne (tgt := 83) hx hb dX2_canDo_42 (by decide) (fun c8 => ?_) (fun c8 => ?_)
          · have hf := of_neg hf c8
            refine lv_iconst (v := (0 : Int32)) hx hb dX2_canDo_83 (by decide) ?_
            obtain rfl := Option.some.inj hf
            exact Jj2 _ _ _ ⟨_, rfl, hP, hD, hS, lv_sub hl [0, 1, 2] rfl⟩
          · have hf := of_pos hf c8
            refine lv_aload_n hx hb dX2_canDo_45 rfl (lv_at hl 0 rfl) ?_
            refine lv_iload_n hx hb dX2_canDo_46 rfl (lv_at hl 2 rfl) ?_
            obtain ⟨o9, ho9, hf⟩ := of_bind hf
            refine c_I (wr := [ia C q_t_at 6 r_t_at, ob q_a1 4 [.int v_a1_office, .int v_a1_free, .int v_a1_people, .int v_a1_deeds, .ref q_a1_home, .ref q_a1_who, .ref q_a1_place, .ref q_a1_from, .ref q_a1_till, .ref q_a1_worth], ia C q_a1_who 8 r_a1_who, ia C q_a1_place 8 r_a1_place, ia C q_a1_from 8 r_a1_from, ia C q_a1_till 8 r_a1_till]) (W2 := [ob q_t 2 [.int v_t_hour, .int v_t_holder, .int v_t_since, .int v_t_fresh, .int v_t_done, .ref q_t_at, .ref q_t_lastHeld, .ref q_t_owed], ia C q_t_at 6 r_t_at, ob q_a1 4 [.int v_a1_office, .int v_a1_free, .int v_a1_people, .int v_a1_deeds, .ref q_a1_home, .ref q_a1_who, .ref q_a1_place, .ref q_a1_from, .ref q_a1_till, .ref q_a1_worth], ia C q_a1_who 8 r_a1_who, ia C q_a1_place 8 r_a1_place, ia C q_a1_from 8 r_a1_from, ia C q_a1_till 8 r_a1_till]) (cV_run ⟨hx, hb, hml, hown, hts⟩ (k_X2_isDone l D C q_t q_t_at q_t_lastHeld q_t_owed v_t_hour v_t_holder v_t_since v_t_fresh v_t_done p2 H.size o9 ho9) gX2_canDo_X2_isDone rfl ⟨rfl, rfl⟩ hd_X2_isDone ⟨(Nat.le_of_ble_eq_true rfl), (Nat.le_of_ble_eq_true rfl)⟩ rfl hK (cut_in hK hP hD [0] rfl (by decide)) (ci := 2) rfl rfl rfl hl.1 rfl (Nat.le_of_ble_eq_true rfl) dX2_canDo_47 ⟨Nat.zero_le _, Nat.zero_le _⟩) hP hD hS hA [0] [1, 2, 3, 4, 5, 6] [6, 0, 1, 2, 3, 4, 5] rfl rfl (by decide) (by decide) rfl (by decide) (fun H locs hP hD hS => ?_)
            have hP : va_P D vwCl [ob q_t 2 [.int v_t_hour, .int v_t_holder, .int v_t_since, .int v_t_fresh, .int v_t_done, .ref q_t_at, .ref q_t_lastHeld, .ref q_t_owed], ia C q_t_at 6 r_t_at, ob q_a1 4 [.int v_a1_office, .int v_a1_free, .int v_a1_people, .int v_a1_deeds, .ref q_a1_home, .ref q_a1_who, .ref q_a1_place, .ref q_a1_from, .ref q_a1_till, .ref q_a1_worth], ia C q_a1_who 8 r_a1_who, ia C q_a1_place 8 r_a1_place, ia C q_a1_from 8 r_a1_from, ia C q_a1_till 8 r_a1_till] H := hP
            have hD : va_D A [ob q_t 2 [.int v_t_hour, .int v_t_holder, .int v_t_since, .int v_t_fresh, .int v_t_done, .ref q_t_at, .ref q_t_lastHeld, .ref q_t_owed], ia C q_t_at 6 r_t_at, ob q_a1 4 [.int v_a1_office, .int v_a1_free, .int v_a1_people, .int v_a1_deeds, .ref q_a1_home, .ref q_a1_who, .ref q_a1_place, .ref q_a1_from, .ref q_a1_till, .ref q_a1_worth], ia C q_a1_who 8 r_a1_who, ia C q_a1_place 8 r_a1_place, ia C q_a1_from 8 r_a1_from, ia C q_a1_till 8 r_a1_till] := hD
            refine lv_if_ne (tgt := 83) hx hb dX2_canDo_50 (by decide) (fun c10 => ?_) (fun c10 => ?_)
            · have hf := of_neg hf c10
              refine lv_iconst (v := (0 : Int32)) hx hb dX2_canDo_83 (by decide) ?_
              obtain rfl := Option.some.inj hf
              exact Jj2 _ _ _ ⟨_, rfl, hP, hD, hS, lv_sub hl [0, 1, 2] rfl⟩
            · have hf := of_pos hf c10
              refine lv_aload_n hx hb dX2_canDo_53 rfl (lv_at hl 0 rfl) ?_
              refine va_get (D := D) (ci := 2) (v := .int v_t_hour) (C := RX2) (T := TX2) (N := 8) hx hb hts inX2 hown hK hP 0 rfl rfl 0 (by decide) (hts (.fieldLink RX2 25 "LentCourage$Moment" "hour" "I") (List.mem_of_getElem? (i := 6) rfl)) (fun _ h9 => h9) rfl dX2_canDo_54 ?_
              refine lv_aload_n hx hb dX2_canDo_57 rfl (lv_at hl 1 rfl) ?_
              refine va_get (D := D) (ci := 4) (v := .ref q_a1_from) (C := RX4) (T := TX4) (N := 10) hx hb hts inX4 hown hK hP 2 rfl rfl 7 (by decide) (hts (.fieldLink RX2 79 "LentCourage$Port" "from" "[I") (List.mem_of_getElem? (i := 7) rfl)) (fun _ h9 => h9) rfl dX2_canDo_58 ?_
              refine lv_iload_n hx hb dX2_canDo_61 rfl (lv_at hl 2 rfl) ?_
              refine va_iald hx hb hK hP 5 0 rfl rfl h5 dX2_canDo_62 ?_
              refine lv_icmp_lt (tgt := 83) hx hb dX2_canDo_63 (by decide) (fun c11 => ?_) (fun c11 => ?_)
              · have hf := of_pos hf c11
                refine lv_iconst (v := (0 : Int32)) hx hb dX2_canDo_83 (by decide) ?_
                obtain rfl := Option.some.inj hf
                exact Jj2 _ _ _ ⟨_, rfl, hP, hD, hS, lv_sub hl [0, 1, 2] rfl⟩
              · have hf := of_neg hf c11
                refine lv_aload_n hx hb dX2_canDo_66 rfl (lv_at hl 0 rfl) ?_
                refine va_get (D := D) (ci := 2) (v := .int v_t_hour) (C := RX2) (T := TX2) (N := 8) hx hb hts inX2 hown hK hP 0 rfl rfl 0 (by decide) (hts (.fieldLink RX2 25 "LentCourage$Moment" "hour" "I") (List.mem_of_getElem? (i := 6) rfl)) (fun _ h9 => h9) rfl dX2_canDo_67 ?_
                refine lv_aload_n hx hb dX2_canDo_70 rfl (lv_at hl 1 rfl) ?_
                refine va_get (D := D) (ci := 4) (v := .ref q_a1_till) (C := RX4) (T := TX4) (N := 10) hx hb hts inX4 hown hK hP 2 rfl rfl 8 (by decide) (hts (.fieldLink RX2 82 "LentCourage$Port" "till" "[I") (List.mem_of_getElem? (i := 8) rfl)) (fun _ h9 => h9) rfl dX2_canDo_71 ?_
                refine lv_iload_n hx hb dX2_canDo_74 rfl (lv_at hl 2 rfl) ?_
                refine va_iald hx hb hK hP 6 0 rfl rfl h5 dX2_canDo_75 ?_
                refine lv_icmp_gt (tgt := 83) hx hb dX2_canDo_76 (by decide) (fun c12 => ?_) (fun c12 => ?_)
                · have hf := of_pos hf c12
                  refine lv_iconst (v := (0 : Int32)) hx hb dX2_canDo_83 (by decide) ?_
                  obtain rfl := Option.some.inj hf
                  exact Jj2 _ _ _ ⟨_, rfl, hP, hD, hS, lv_sub hl [0, 1, 2] rfl⟩
                · have hf := of_neg hf c12
                  refine lv_iconst (v := (1 : Int32)) hx hb dX2_canDo_79 (by decide) ?_
                  refine lv_goto (tgt := 84) hx hb dX2_canDo_80 (by decide) ?_
                  obtain rfl := Option.some.inj hf
                  exact Jj2 _ _ _ ⟨_, rfl, hP, hD, hS, lv_sub hl [0, 1, 2] rfl⟩

def fX2_worthDone_4 (v_t_done_4 : Int32) (v_a1_deeds_4 : Int32) (r_a1_worth_4 : Nat → Int32) : Nat → Int32 → Int32 → Option (Int32 × Int32)
  | 0, _, _ => none
  | n + 1, w3_4, w2_4 => (if v_a1_deeds_4 ≤ w3_4 then some (w3_4, w2_4) else (fX2_isDone v_t_done_4 w3_4).bind (fun o2 => (if o2 = 0 then lt_ (w3_4 + (1 : Int32)) (fun z4 => fX2_worthDone_4 v_t_done_4 v_a1_deeds_4 r_a1_worth_4 n z4 w2_4) else chk (vin w3_4 8) (lt_ (w2_4 + (r_a1_worth_4 w3_4.toNatClampNeg)) (fun z6 => lt_ (w3_4 + (1 : Int32)) (fun z7 => fX2_worthDone_4 v_t_done_4 v_a1_deeds_4 r_a1_worth_4 n z7 z6))))))
def fX2_worthDone (v_t_done : Int32) (v_a1_deeds : Int32) (r_a1_worth : Nat → Int32) : Option (Int32) :=
  (fX2_worthDone_4 v_t_done v_a1_deeds r_a1_worth FU (0 : Int32) (0 : Int32)).bind (fun y8 => some y8.2)
theorem hd_X2_worthDone : yX2_worthDone.cls = RX2 ∧ yX2_worthDone.cls ≠ "java/lang/invoke/MethodHandle" ∧ yX2_worthDone.cls ≠ "java/lang/invoke/VarHandle" ∧ (parseMethodDescriptor yX2_worthDone.desc).map (fun d => d.parameters.length) = some 1 := by decide +kernel
set_option maxHeartbeats 4000000 in
set_option maxRecDepth 100000 in
theorem k_X2_worthDone (l : Launch) (D : va_G) (C : Nat → ClassId) (q_t : Nat) (q_t_at : Nat) (q_t_lastHeld : Nat) (q_t_owed : Nat) (q_a1 : Nat) (q_a1_home : Nat) (q_a1_who : Nat) (q_a1_place : Nat) (q_a1_from : Nat) (q_a1_till : Nat) (q_a1_worth : Nat) (v_t_hour : Int32) (v_t_holder : Int32) (v_t_since : Int32) (v_t_fresh : Int32) (v_t_done : Int32) (v_a1_office : Int32) (v_a1_free : Int32) (v_a1_people : Int32) (v_a1_deeds : Int32) (r_a1_worth : Nat → Int32) (sz : Nat) (out : Int32) (hf : fX2_worthDone v_t_done v_a1_deeds r_a1_worth = some out) : MI l yX2_worthDone wsX2_worthDone ({ frames := 1, cells := 0, slots := 0, locals := 21 }) D C [.ref q_t, .ref q_a1] [ob q_t 2 [.int v_t_hour, .int v_t_holder, .int v_t_since, .int v_t_fresh, .int v_t_done, .ref q_t_at, .ref q_t_lastHeld, .ref q_t_owed], ob q_a1 4 [.int v_a1_office, .int v_a1_free, .int v_a1_people, .int v_a1_deeds, .ref q_a1_home, .ref q_a1_who, .ref q_a1_place, .ref q_a1_from, .ref q_a1_till, .ref q_a1_worth], ia C q_a1_worth 8 r_a1_worth] [ob q_t 2 [.int v_t_hour, .int v_t_holder, .int v_t_since, .int v_t_fresh, .int v_t_done, .ref q_t_at, .ref q_t_lastHeld, .ref q_t_owed], ob q_a1 4 [.int v_a1_office, .int v_a1_free, .int v_a1_people, .int v_a1_deeds, .ref q_a1_home, .ref q_a1_who, .ref q_a1_place, .ref q_a1_from, .ref q_a1_till, .ref q_a1_worth], ia C q_a1_worth 8 r_a1_worth] sz (out) := by
  unfold fX2_worthDone at hf
  refine en_I (by decide) rfl (Nat.le_of_ble_eq_true rfl) ?_
  intro p e s m below meth c A ls H locs hx hb hr hlocks hml hts hown hK hP hD hS hA hl
  have hl : lv_has ls 4 [(0, .ref q_t), (1, .ref q_a1)] := hl
  have inX4 : ∀ w ∈ u_ws RX4 TX4 10, w ∈ wsX2_worthDone := fun w h => List.mem_cons_of_mem _ (List.mem_append_left _ (List.mem_append_right _ h))
  have LP4 : ∀ (Q : State → Prop) (n : Nat) (w3_4 : Int32) (w2_4 : Int32) (v_t_hour_4 : Int32) (v_t_holder_4 : Int32) (v_t_since_4 : Int32) (v_t_fresh_4 : Int32) (v_t_done_4 : Int32) (v_a1_office_4 : Int32) (v_a1_free_4 : Int32) (v_a1_people_4 : Int32) (v_a1_deeds_4 : Int32) (r_a1_worth_4 : Nat → Int32) (y_4 : Int32 × Int32), fX2_worthDone_4 v_t_done_4 v_a1_deeds_4 r_a1_worth_4 n w3_4 w2_4 = some y_4 → ∀ (H : Heap) (locs : List Loc) (ls : Array Slot), va_P D vwCl [ob q_t 2 [.int v_t_hour_4, .int v_t_holder_4, .int v_t_since_4, .int v_t_fresh_4, .int v_t_done_4, .ref q_t_at, .ref q_t_lastHeld, .ref q_t_owed], ob q_a1 4 [.int v_a1_office_4, .int v_a1_free_4, .int v_a1_people_4, .int v_a1_deeds_4, .ref q_a1_home, .ref q_a1_who, .ref q_a1_place, .ref q_a1_from, .ref q_a1_till, .ref q_a1_worth], ia C q_a1_worth 8 r_a1_worth_4] H → va_D A [ob q_t 2 [.int v_t_hour_4, .int v_t_holder_4, .int v_t_since_4, .int v_t_fresh_4, .int v_t_done_4, .ref q_t_at, .ref q_t_lastHeld, .ref q_t_owed], ob q_a1 4 [.int v_a1_office_4, .int v_a1_free_4, .int v_a1_people_4, .int v_a1_deeds_4, .ref q_a1_home, .ref q_a1_who, .ref q_a1_place, .ref q_a1_from, .ref q_a1_till, .ref q_a1_worth], ia C q_a1_worth 8 r_a1_worth_4] → va_S A s.heap H locs → lv_has ls 4 [(3, .int w3_4), (2, .int w2_4), (0, .ref q_t), (1, .ref q_a1)] → (∀ (H : Heap) (locs : List Loc) (ls : Array Slot), va_P D vwCl [ob q_t 2 [.int v_t_hour_4, .int v_t_holder_4, .int v_t_since_4, .int v_t_fresh_4, .int v_t_done_4, .ref q_t_at, .ref q_t_lastHeld, .ref q_t_owed], ob q_a1 4 [.int v_a1_office_4, .int v_a1_free_4, .int v_a1_people_4, .int v_a1_deeds_4, .ref q_a1_home, .ref q_a1_who, .ref q_a1_place, .ref q_a1_from, .ref q_a1_till, .ref q_a1_worth], ia C q_a1_worth 8 r_a1_worth_4] H → va_D A [ob q_t 2 [.int v_t_hour_4, .int v_t_holder_4, .int v_t_since_4, .int v_t_fresh_4, .int v_t_done_4, .ref q_t_at, .ref q_t_lastHeld, .ref q_t_owed], ob q_a1 4 [.int v_a1_office_4, .int v_a1_free_4, .int v_a1_people_4, .int v_a1_deeds_4, .ref q_a1_home, .ref q_a1_who, .ref q_a1_place, .ref q_a1_from, .ref q_a1_till, .ref q_a1_worth], ia C q_a1_worth 8 r_a1_worth_4] → va_S A s.heap H locs → lv_has ls 4 [(3, .int y_4.1), (2, .int y_4.2), (0, .ref q_t), (1, .ref q_a1)] → W p l e ({ frames := 1, cells := 0, slots := 0, locals := 21 } : Room) s m ([.ref q_t, .ref q_a1] : List Value).toArray below meth c H locs 0 0 Q (F0 m 35 ls [])) → W p l e ({ frames := 1, cells := 0, slots := 0, locals := 21 } : Room) s m ([.ref q_t, .ref q_a1] : List Value).toArray below meth c H locs 0 0 Q (F0 m 4 ls []) := by
    intro Q n
    induction n with
    | zero =>
      intro w3_4 w2_4 v_t_hour_4 v_t_holder_4 v_t_since_4 v_t_fresh_4 v_t_done_4 v_a1_office_4 v_a1_free_4 v_a1_people_4 v_a1_deeds_4 r_a1_worth_4 y_4 hf
      rw [fX2_worthDone_4] at hf
      cases hf
    | succ n ih =>
      intro w3_4 w2_4 v_t_hour_4 v_t_holder_4 v_t_since_4 v_t_fresh_4 v_t_done_4 v_a1_office_4 v_a1_free_4 v_a1_people_4 v_a1_deeds_4 r_a1_worth_4 y_4 hf H locs ls hP hD hS hl KX0
      rw [fX2_worthDone_4] at hf
      refine lv_iload_n hx hb dX2_worthDone_4 rfl (lv_at hl 0 rfl) ?_
      refine lv_aload_n hx hb dX2_worthDone_5 rfl (lv_at hl 3 rfl) ?_
      refine va_get (D := D) (ci := 4) (v := .int v_a1_deeds_4) (C := RX4) (T := TX4) (N := 10) hx hb hts inX4 hown hK hP 1 rfl rfl 3 (by decide) (hts (.fieldLink RX2 85 "LentCourage$Port" "deeds" "I") (List.mem_of_getElem? (i := 1) rfl)) (fun _ h9 => h9) rfl dX2_worthDone_6 ?_
      refine lv_icmp_ge (tgt := 35) hx hb dX2_worthDone_9 (by decide) (fun c1 => ?_) (fun c1 => ?_)
      · have hf := of_pos hf c1
        obtain rfl := Option.some.inj hf
        exact KX0 _ _ _ hP hD hS (lv_sub hl [0, 1, 2, 3] rfl)
      · have hf := of_neg hf c1
        refine lv_aload_n hx hb dX2_worthDone_12 rfl (lv_at hl 2 rfl) ?_
        refine lv_iload_n hx hb dX2_worthDone_13 rfl (lv_at hl 0 rfl) ?_
        obtain ⟨o2, ho2, hf⟩ := of_bind hf
        refine c_I (wr := [ob q_a1 4 [.int v_a1_office_4, .int v_a1_free_4, .int v_a1_people_4, .int v_a1_deeds_4, .ref q_a1_home, .ref q_a1_who, .ref q_a1_place, .ref q_a1_from, .ref q_a1_till, .ref q_a1_worth], ia C q_a1_worth 8 r_a1_worth_4]) (W2 := [ob q_t 2 [.int v_t_hour_4, .int v_t_holder_4, .int v_t_since_4, .int v_t_fresh_4, .int v_t_done_4, .ref q_t_at, .ref q_t_lastHeld, .ref q_t_owed], ob q_a1 4 [.int v_a1_office_4, .int v_a1_free_4, .int v_a1_people_4, .int v_a1_deeds_4, .ref q_a1_home, .ref q_a1_who, .ref q_a1_place, .ref q_a1_from, .ref q_a1_till, .ref q_a1_worth], ia C q_a1_worth 8 r_a1_worth_4]) (cV_run ⟨hx, hb, hml, hown, hts⟩ (k_X2_isDone l D C q_t q_t_at q_t_lastHeld q_t_owed v_t_hour_4 v_t_holder_4 v_t_since_4 v_t_fresh_4 v_t_done_4 w3_4 H.size o2 ho2) gX2_worthDone_X2_isDone rfl ⟨rfl, rfl⟩ hd_X2_isDone ⟨(Nat.le_of_ble_eq_true rfl), (Nat.le_of_ble_eq_true rfl)⟩ rfl hK (cut_in hK hP hD [0] rfl (by decide)) (ci := 2) rfl rfl rfl hl.1 rfl (Nat.le_of_ble_eq_true rfl) dX2_worthDone_14 ⟨Nat.zero_le _, Nat.zero_le _⟩) hP hD hS hA [0] [1, 2] [2, 0, 1] rfl rfl (by decide) (by decide) rfl (by decide) (fun H locs hP hD hS => ?_)
        have hP : va_P D vwCl [ob q_t 2 [.int v_t_hour_4, .int v_t_holder_4, .int v_t_since_4, .int v_t_fresh_4, .int v_t_done_4, .ref q_t_at, .ref q_t_lastHeld, .ref q_t_owed], ob q_a1 4 [.int v_a1_office_4, .int v_a1_free_4, .int v_a1_people_4, .int v_a1_deeds_4, .ref q_a1_home, .ref q_a1_who, .ref q_a1_place, .ref q_a1_from, .ref q_a1_till, .ref q_a1_worth], ia C q_a1_worth 8 r_a1_worth_4] H := hP
        have hD : va_D A [ob q_t 2 [.int v_t_hour_4, .int v_t_holder_4, .int v_t_since_4, .int v_t_fresh_4, .int v_t_done_4, .ref q_t_at, .ref q_t_lastHeld, .ref q_t_owed], ob q_a1 4 [.int v_a1_office_4, .int v_a1_free_4, .int v_a1_people_4, .int v_a1_deeds_4, .ref q_a1_home, .ref q_a1_who, .ref q_a1_place, .ref q_a1_from, .ref q_a1_till, .ref q_a1_worth], ia C q_a1_worth 8 r_a1_worth_4] := hD
        refine lv_if_eq (tgt := 29) hx hb dX2_worthDone_17 (by decide) (fun c3 => ?_) (fun c3 => ?_)
        · have hf := of_pos hf c3
          obtain ⟨z4, ez4⟩ : ∃ y : Int32, y = (w3_4 + (1 : Int32)) := ⟨_, rfl⟩
          have hf := of_lt hf ez4
          refine lv_iinc (v := z4) (lv' := [(3, .int z4), (2, .int w2_4), (0, .ref q_t), (1, .ref q_a1)]) hx hb dX2_worthDone_29 hl (k := 0) rfl (by rw [ez4]; rfl) (by decide) rfl (fun ls hl => ?_)
          refine lv_goto (tgt := 4) hx hb dX2_worthDone_32 (by decide) ?_
          exact ih _ _ _ _ _ _ _ _ _ _ _ _ _ hf H locs ls hP hD hS (lv_sub hl [0, 1, 2, 3] rfl) KX0
        · have hf := of_neg hf c3
          refine lv_iload_n hx hb dX2_worthDone_20 rfl (lv_at hl 1 rfl) ?_
          refine lv_aload_n hx hb dX2_worthDone_21 rfl (lv_at hl 3 rfl) ?_
          refine va_get (D := D) (ci := 4) (v := .ref q_a1_worth) (C := RX4) (T := TX4) (N := 10) hx hb hts inX4 hown hK hP 1 rfl rfl 9 (by decide) (hts (.fieldLink RX2 88 "LentCourage$Port" "worth" "[I") (List.mem_of_getElem? (i := 2) rfl)) (fun _ h9 => h9) rfl dX2_worthDone_22 ?_
          refine lv_iload_n hx hb dX2_worthDone_25 rfl (lv_at hl 0 rfl) ?_
          obtain ⟨h5, hf⟩ := of_chk hf
          refine va_iald hx hb hK hP 2 0 rfl rfl h5 dX2_worthDone_26 ?_
          refine lv_iadd hx hb dX2_worthDone_27 ?_
          refine lv_topi (fun z6 ez6 => ?_)
          have hf := of_lt hf ez6
          refine lv_istore_n (lv' := [(2, .int z6), (3, .int w3_4), (0, .ref q_t), (1, .ref q_a1)]) hx hb dX2_worthDone_28 rfl hl (by decide) rfl (fun ls hl => ?_)
          obtain ⟨z7, ez7⟩ : ∃ y : Int32, y = (w3_4 + (1 : Int32)) := ⟨_, rfl⟩
          have hf := of_lt hf ez7
          refine lv_iinc (v := z7) (lv' := [(3, .int z7), (2, .int z6), (0, .ref q_t), (1, .ref q_a1)]) hx hb dX2_worthDone_29 hl (k := 1) rfl (by rw [ez7]; rfl) (by decide) rfl (fun ls hl => ?_)
          refine lv_goto (tgt := 4) hx hb dX2_worthDone_32 (by decide) ?_
          exact ih _ _ _ _ _ _ _ _ _ _ _ _ _ hf H locs ls hP hD hS (lv_sub hl [0, 1, 2, 3] rfl) KX0
  refine lv_iconst (v := (0 : Int32)) hx hb dX2_worthDone_0 (by decide) ?_
  refine lv_istore_n (lv' := [(2, .int (0 : Int32)), (0, .ref q_t), (1, .ref q_a1)]) hx hb dX2_worthDone_1 rfl hl (by decide) rfl (fun ls hl => ?_)
  refine lv_iconst (v := (0 : Int32)) hx hb dX2_worthDone_2 (by decide) ?_
  refine lv_istore_n (lv' := [(3, .int (0 : Int32)), (2, .int (0 : Int32)), (0, .ref q_t), (1, .ref q_a1)]) hx hb dX2_worthDone_3 rfl hl (by decide) rfl (fun ls hl => ?_)
  obtain ⟨y8, hy8, hf⟩ := of_bind hf
  refine LP4 _ FU _ _ _ _ _ _ _ _ _ _ _ _ y8 hy8 H locs ls hP hD hS (lv_sub hl [0, 1, 2, 3] rfl) (fun H locs ls hP hD hS hl => ?_)
  refine lv_iload_n hx hb dX2_worthDone_35 rfl (lv_at hl 1 rfl) ?_
  obtain rfl := Option.some.inj hf
  exact ret_I hx hb hr hlocks hK hP hD hS dX2_worthDone_36

def fX2_openDeeds (v_t_done : Int32) (v_a1_deeds : Int32) : Option (Int32) :=
  some ((((1 : Int32) <<< (v_a1_deeds &&& 31)) - (1 : Int32)) &&& (v_t_done ^^^ (-1 : Int32)))
theorem hd_X2_openDeeds : yX2_openDeeds.cls = RX2 ∧ yX2_openDeeds.cls ≠ "java/lang/invoke/MethodHandle" ∧ yX2_openDeeds.cls ≠ "java/lang/invoke/VarHandle" ∧ (parseMethodDescriptor yX2_openDeeds.desc).map (fun d => d.parameters.length) = some 1 := by decide +kernel
set_option maxHeartbeats 4000000 in
set_option maxRecDepth 100000 in
theorem k_X2_openDeeds (l : Launch) (D : va_G) (C : Nat → ClassId) (q_t : Nat) (q_t_at : Nat) (q_t_lastHeld : Nat) (q_t_owed : Nat) (q_a1 : Nat) (q_a1_home : Nat) (q_a1_who : Nat) (q_a1_place : Nat) (q_a1_from : Nat) (q_a1_till : Nat) (q_a1_worth : Nat) (v_t_hour : Int32) (v_t_holder : Int32) (v_t_since : Int32) (v_t_fresh : Int32) (v_t_done : Int32) (v_a1_office : Int32) (v_a1_free : Int32) (v_a1_people : Int32) (v_a1_deeds : Int32) (sz : Nat) (out : Int32) (hf : fX2_openDeeds v_t_done v_a1_deeds = some out) : MI l yX2_openDeeds wsX2_openDeeds ({ frames := 0, cells := 0, slots := 0, locals := 0 }) D C [.ref q_t, .ref q_a1] [ob q_t 2 [.int v_t_hour, .int v_t_holder, .int v_t_since, .int v_t_fresh, .int v_t_done, .ref q_t_at, .ref q_t_lastHeld, .ref q_t_owed], ob q_a1 4 [.int v_a1_office, .int v_a1_free, .int v_a1_people, .int v_a1_deeds, .ref q_a1_home, .ref q_a1_who, .ref q_a1_place, .ref q_a1_from, .ref q_a1_till, .ref q_a1_worth]] [ob q_t 2 [.int v_t_hour, .int v_t_holder, .int v_t_since, .int v_t_fresh, .int v_t_done, .ref q_t_at, .ref q_t_lastHeld, .ref q_t_owed], ob q_a1 4 [.int v_a1_office, .int v_a1_free, .int v_a1_people, .int v_a1_deeds, .ref q_a1_home, .ref q_a1_who, .ref q_a1_place, .ref q_a1_from, .ref q_a1_till, .ref q_a1_worth]] sz (out) := by
  unfold fX2_openDeeds at hf
  refine en_I (by decide) rfl (Nat.le_of_ble_eq_true rfl) ?_
  intro p e s m below meth c A ls H locs hx hb hr hlocks hml hts hown hK hP hD hS hA hl
  have hl : lv_has ls 2 [(0, .ref q_t), (1, .ref q_a1)] := hl
  have inX2 : ∀ w ∈ u_ws RX2 TX2 8, w ∈ wsX2_openDeeds := fun w h => List.mem_cons_of_mem _ (List.mem_append_right _ h)
  have inX4 : ∀ w ∈ u_ws RX4 TX4 10, w ∈ wsX2_openDeeds := fun w h => List.mem_cons_of_mem _ (List.mem_append_left _ (List.mem_append_right _ h))
  refine lv_iconst (v := (1 : Int32)) hx hb dX2_openDeeds_0 (by decide) ?_
  refine lv_aload_n hx hb dX2_openDeeds_1 rfl (lv_at hl 1 rfl) ?_
  refine va_get (D := D) (ci := 4) (v := .int v_a1_deeds) (C := RX4) (T := TX4) (N := 10) hx hb hts inX4 hown hK hP 1 rfl rfl 3 (by decide) (hts (.fieldLink RX2 85 "LentCourage$Port" "deeds" "I") (List.mem_of_getElem? (i := 1) rfl)) (fun _ h9 => h9) rfl dX2_openDeeds_2 ?_
  refine lv_ishl hx hb dX2_openDeeds_5 ?_
  refine lv_iconst (v := (1 : Int32)) hx hb dX2_openDeeds_6 (by decide) ?_
  refine lv_isub hx hb dX2_openDeeds_7 ?_
  refine lv_aload_n hx hb dX2_openDeeds_8 rfl (lv_at hl 0 rfl) ?_
  refine va_get (D := D) (ci := 2) (v := .int v_t_done) (C := RX2) (T := TX2) (N := 8) hx hb hts inX2 hown hK hP 0 rfl rfl 4 (by decide) (hts (.fieldLink RX2 35 "LentCourage$Moment" "done" "I") (List.mem_of_getElem? (i := 2) rfl)) (fun _ h9 => h9) rfl dX2_openDeeds_9 ?_
  refine lv_iconst (v := (-1 : Int32)) hx hb dX2_openDeeds_12 (by decide) ?_
  refine lv_ixor hx hb dX2_openDeeds_13 ?_
  refine lv_iand hx hb dX2_openDeeds_14 ?_
  obtain rfl := Option.some.inj hf
  exact ret_I hx hb hr hlocks hK hP hD hS dX2_openDeeds_15
