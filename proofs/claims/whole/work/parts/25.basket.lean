theorem k_X1_setPrice_0 : Cond.fieldLink RX1 25 "FeatherHall$Basket" "price" "I" ∈ wsX1_setPrice := (List.mem_cons_of_mem _ (List.mem_append_left _ (List.mem_of_getElem? (i := 0) rfl)))
theorem ki_X1_setPrice_X1 : ∀ w ∈ u_ws RX1 TX1 6, w ∈ wsX1_setPrice := fun _ hh => (List.mem_cons_of_mem _ (List.mem_append_right _ hh))
theorem hd_X1_setPrice : yX1_setPrice.cls = RX1 ∧ yX1_setPrice.cls ≠ "java/lang/invoke/MethodHandle" ∧ yX1_setPrice.cls ≠ "java/lang/invoke/VarHandle" ∧ (parseMethodDescriptor yX1_setPrice.desc).map (fun d => d.parameters.length) = some 1 := by decide +kernel
set_option maxHeartbeats 4000000 in
set_option maxRecDepth 100000 in
theorem c_X1_setPrice (l : Launch) (D : va_G) (cy : Nat → ClassId) (g : Nat → Nat) (ub : St) (p0 : Int32) (r : Int32) (ub' : St) (h : f_X1_setPrice p0 ub = some (r, ub')) : CtI l yX1_setPrice wsX1_setPrice (rmH 0) [.ref (g 199), .int p0] D cy (wX1 cy g ub) (wX1 cy g ub') r := by
  refine ct_enter (D := D) (cy := cy) (cc := cX1_setPrice) (maxL := 3) (ret := (some .int)) (w := wX1 cy g ub) (Qc := fun sz => va_Qi (fun r' (_ : Unit) => r' = r) (Bw D cy (va_A (wX1 cy g ub) sz) (wX1 cy g ub')) (va_A (wX1 cy g ub) sz)) (by decide) rfl (Nat.le_of_ble_eq_true rfl) ?_
  intro p e s m below meth c A C0 hAe ls hl hP hD hS
  have e1 : MQ below ((fun sz => va_Qi (fun r' (_ : Unit) => r' = r) (Bw D cy (va_A (wX1 cy g ub) sz) (wX1 cy g ub')) (va_A (wX1 cy g ub) sz)) s.heap.size) [.ref (g 199), .int p0].toArray s 0 0 A = QI below [.ref (g 199), .int p0].toArray s A D cy (wX1 cy g ub') r := by rw [hAe]; rfl
  rw [e1]
  clear e1 hAe
  obtain ⟨hx, hb, hr, hml, hown, hts, hlocks, hK, hA⟩ := id C0
  have hl : lv_has ls 3 [(0, .ref (g 199)), (1, .int p0)] := hl
  rw [f_X1_setPrice] at h
  refine lv_aload_n hx hb dX1_setPrice_0 rfl (lv_at hl 0 rfl) ?_
  refine va_get (D := D) (ci := 1) (v := .int (ub.1 4)) (C := RX1) (T := TX1) (N := 6) hx hb hts ki_X1_setPrice_X1 hown hK hP 0 rfl rfl 4 (by decide) (hts _ k_X1_setPrice_0) (fun _ h9 => h9) rfl dX1_setPrice_1 ?_
  refine lv_istore_n (lv' := [(2, .int (ub.1 4)), (0, .ref (g 199)), (1, .int p0)]) hx hb dX1_setPrice_4 rfl hl (by decide) rfl (fun ls hl => ?_)
  refine lv_aload_n hx hb dX1_setPrice_5 rfl (lv_at hl 1 rfl) ?_
  refine lv_iload_n hx hb dX1_setPrice_6 rfl (lv_at hl 2 rfl) ?_
  refine x_put (D := D) (ci := 1) (Wd := (fun uz => wX1 cy g uz)) (u := ub) (C := RX1) (T := TX1) (N := 6) hx hb hts ki_X1_setPrice_X1 tyX1 tyX1_ok nmX1 hown hK hP hD hS 0 rfl rfl 4 (by decide) (hts _ k_X1_setPrice_0) (fun _ h9 => h9) rfl (tyX1_ok 4 (by decide)) rfl rfl (Nat.le_of_ble_eq_true rfl) (fun _ => rfl) h dX1_setPrice_7 (fun ub1 H locs h hP hD hS => ?_)
  refine lv_iload_n hx hb dX1_setPrice_10 rfl (lv_at hl 0 rfl) ?_
  cases h
  exact x_iret hx hb hr hlocks hK hP hD hS dX1_setPrice_11 rfl rfl
theorem k_X1_setLoss_0 : Cond.fieldLink RX1 28 "FeatherHall$Basket" "loss" "I" ∈ wsX1_setLoss := (List.mem_cons_of_mem _ (List.mem_append_left _ (List.mem_of_getElem? (i := 0) rfl)))
theorem ki_X1_setLoss_X1 : ∀ w ∈ u_ws RX1 TX1 6, w ∈ wsX1_setLoss := fun _ hh => (List.mem_cons_of_mem _ (List.mem_append_right _ hh))
theorem hd_X1_setLoss : yX1_setLoss.cls = RX1 ∧ yX1_setLoss.cls ≠ "java/lang/invoke/MethodHandle" ∧ yX1_setLoss.cls ≠ "java/lang/invoke/VarHandle" ∧ (parseMethodDescriptor yX1_setLoss.desc).map (fun d => d.parameters.length) = some 1 := by decide +kernel
set_option maxHeartbeats 4000000 in
set_option maxRecDepth 100000 in
theorem c_X1_setLoss (l : Launch) (D : va_G) (cy : Nat → ClassId) (g : Nat → Nat) (ub : St) (p0 : Int32) (r : Int32) (ub' : St) (h : f_X1_setLoss p0 ub = some (r, ub')) : CtI l yX1_setLoss wsX1_setLoss (rmH 0) [.ref (g 199), .int p0] D cy (wX1 cy g ub) (wX1 cy g ub') r := by
  refine ct_enter (D := D) (cy := cy) (cc := cX1_setLoss) (maxL := 3) (ret := (some .int)) (w := wX1 cy g ub) (Qc := fun sz => va_Qi (fun r' (_ : Unit) => r' = r) (Bw D cy (va_A (wX1 cy g ub) sz) (wX1 cy g ub')) (va_A (wX1 cy g ub) sz)) (by decide) rfl (Nat.le_of_ble_eq_true rfl) ?_
  intro p e s m below meth c A C0 hAe ls hl hP hD hS
  have e1 : MQ below ((fun sz => va_Qi (fun r' (_ : Unit) => r' = r) (Bw D cy (va_A (wX1 cy g ub) sz) (wX1 cy g ub')) (va_A (wX1 cy g ub) sz)) s.heap.size) [.ref (g 199), .int p0].toArray s 0 0 A = QI below [.ref (g 199), .int p0].toArray s A D cy (wX1 cy g ub') r := by rw [hAe]; rfl
  rw [e1]
  clear e1 hAe
  obtain ⟨hx, hb, hr, hml, hown, hts, hlocks, hK, hA⟩ := id C0
  have hl : lv_has ls 3 [(0, .ref (g 199)), (1, .int p0)] := hl
  rw [f_X1_setLoss] at h
  refine lv_aload_n hx hb dX1_setLoss_0 rfl (lv_at hl 0 rfl) ?_
  refine va_get (D := D) (ci := 1) (v := .int (ub.1 5)) (C := RX1) (T := TX1) (N := 6) hx hb hts ki_X1_setLoss_X1 hown hK hP 0 rfl rfl 5 (by decide) (hts _ k_X1_setLoss_0) (fun _ h9 => h9) rfl dX1_setLoss_1 ?_
  refine lv_istore_n (lv' := [(2, .int (ub.1 5)), (0, .ref (g 199)), (1, .int p0)]) hx hb dX1_setLoss_4 rfl hl (by decide) rfl (fun ls hl => ?_)
  refine lv_aload_n hx hb dX1_setLoss_5 rfl (lv_at hl 1 rfl) ?_
  refine lv_iload_n hx hb dX1_setLoss_6 rfl (lv_at hl 2 rfl) ?_
  refine x_put (D := D) (ci := 1) (Wd := (fun uz => wX1 cy g uz)) (u := ub) (C := RX1) (T := TX1) (N := 6) hx hb hts ki_X1_setLoss_X1 tyX1 tyX1_ok nmX1 hown hK hP hD hS 0 rfl rfl 5 (by decide) (hts _ k_X1_setLoss_0) (fun _ h9 => h9) rfl (tyX1_ok 5 (by decide)) rfl rfl (Nat.le_of_ble_eq_true rfl) (fun _ => rfl) h dX1_setLoss_7 (fun ub1 H locs h hP hD hS => ?_)
  refine lv_iload_n hx hb dX1_setLoss_10 rfl (lv_at hl 0 rfl) ?_
  cases h
  exact x_iret hx hb hr hlocks hK hP hD hS dX1_setLoss_11 rfl rfl
theorem k_X1_setWear_0 : Cond.fieldLink RX1 9 "FeatherHall$Basket" "wears" "[I" ∈ wsX1_setWear := (List.mem_cons_of_mem _ (List.mem_append_left _ (List.mem_of_getElem? (i := 0) rfl)))
theorem ki_X1_setWear_X1 : ∀ w ∈ u_ws RX1 TX1 6, w ∈ wsX1_setWear := fun _ hh => (List.mem_cons_of_mem _ (List.mem_append_right _ hh))
theorem hd_X1_setWear : yX1_setWear.cls = RX1 ∧ yX1_setWear.cls ≠ "java/lang/invoke/MethodHandle" ∧ yX1_setWear.cls ≠ "java/lang/invoke/VarHandle" ∧ (parseMethodDescriptor yX1_setWear.desc).map (fun d => d.parameters.length) = some 2 := by decide +kernel
set_option maxHeartbeats 4000000 in
set_option maxRecDepth 100000 in
theorem c_X1_setWear (l : Launch) (D : va_G) (cy : Nat → ClassId) (g : Nat → Nat) (ub : St) (p0 : Int32) (p1 : Int32) (r : Int32) (ub' : St) (h : f_X1_setWear p0 p1 ub = some (r, ub')) : CtI l yX1_setWear wsX1_setWear (rmH 0) [.ref (g 199), .int p0, .int p1] D cy (wX1 cy g ub) (wX1 cy g ub') r := by
  refine ct_enter (D := D) (cy := cy) (cc := cX1_setWear) (maxL := 4) (ret := (some .int)) (w := wX1 cy g ub) (Qc := fun sz => va_Qi (fun r' (_ : Unit) => r' = r) (Bw D cy (va_A (wX1 cy g ub) sz) (wX1 cy g ub')) (va_A (wX1 cy g ub) sz)) (by decide) rfl (Nat.le_of_ble_eq_true rfl) ?_
  intro p e s m below meth c A C0 hAe ls hl hP hD hS
  have e1 : MQ below ((fun sz => va_Qi (fun r' (_ : Unit) => r' = r) (Bw D cy (va_A (wX1 cy g ub) sz) (wX1 cy g ub')) (va_A (wX1 cy g ub) sz)) s.heap.size) [.ref (g 199), .int p0, .int p1].toArray s 0 0 A = QI below [.ref (g 199), .int p0, .int p1].toArray s A D cy (wX1 cy g ub') r := by rw [hAe]; rfl
  rw [e1]
  clear e1 hAe
  obtain ⟨hx, hb, hr, hml, hown, hts, hlocks, hK, hA⟩ := id C0
  have hl : lv_has ls 4 [(0, .ref (g 199)), (1, .int p0), (2, .int p1)] := hl
  rw [f_X1_setWear] at h
  refine lv_aload_n hx hb dX1_setWear_0 rfl (lv_at hl 0 rfl) ?_
  refine va_get (D := D) (ci := 1) (v := .ref (g 100)) (C := RX1) (T := TX1) (N := 6) hx hb hts ki_X1_setWear_X1 hown hK hP 0 rfl rfl 0 (by decide) (hts _ k_X1_setWear_0) (fun _ h9 => h9) rfl dX1_setWear_1 ?_
  refine lv_iload_n hx hb dX1_setWear_4 rfl (lv_at hl 1 rfl) ?_
  refine x_iald hx hb hK hP 1 rfl rfl h dX1_setWear_5 (fun v1 h => ?_)
  refine lv_istore_n (lv' := [(3, .int v1), (0, .ref (g 199)), (1, .int p0), (2, .int p1)]) hx hb dX1_setWear_6 rfl hl (by decide) rfl (fun ls hl => ?_)
  refine lv_aload_n hx hb dX1_setWear_7 rfl (lv_at hl 1 rfl) ?_
  refine va_get (D := D) (ci := 1) (v := .ref (g 100)) (C := RX1) (T := TX1) (N := 6) hx hb hts ki_X1_setWear_X1 hown hK hP 0 rfl rfl 0 (by decide) (hts _ k_X1_setWear_0) (fun _ h9 => h9) rfl dX1_setWear_8 ?_
  refine lv_iload_n hx hb dX1_setWear_11 rfl (lv_at hl 2 rfl) ?_
  refine lv_iload_n hx hb dX1_setWear_12 rfl (lv_at hl 3 rfl) ?_
  refine x_iast (Wd := (fun uz => wX1 cy g uz)) (u := ub) (k := 0) hx hb hK hP hD hS 1 rfl rfl (fun _ => rfl) h dX1_setWear_13 (fun ub2 H locs h hP hD hS => ?_)
  refine lv_iload_n hx hb dX1_setWear_14 rfl (lv_at hl 0 rfl) ?_
  cases h
  exact x_iret hx hb hr hlocks hK hP hD hS dX1_setWear_15 rfl rfl
theorem k_X1_isEmpty_0 : Cond.fieldLink RX1 21 "FeatherHall$Basket" "length" "I" ∈ wsX1_isEmpty := (List.mem_cons_of_mem _ (List.mem_append_left _ (List.mem_of_getElem? (i := 0) rfl)))
theorem ki_X1_isEmpty_X1 : ∀ w ∈ u_ws RX1 TX1 6, w ∈ wsX1_isEmpty := fun _ hh => (List.mem_cons_of_mem _ (List.mem_append_right _ hh))
theorem hd_X1_isEmpty : yX1_isEmpty.cls = RX1 ∧ yX1_isEmpty.cls ≠ "java/lang/invoke/MethodHandle" ∧ yX1_isEmpty.cls ≠ "java/lang/invoke/VarHandle" ∧ (parseMethodDescriptor yX1_isEmpty.desc).map (fun d => d.parameters.length) = some 0 := by decide +kernel
set_option maxHeartbeats 4000000 in
set_option maxRecDepth 100000 in
theorem c_X1_isEmpty (l : Launch) (D : va_G) (cy : Nat → ClassId) (g : Nat → Nat) (ub : St) (r : Int32) (h : f_X1_isEmpty ub = some r) : CtI l yX1_isEmpty wsX1_isEmpty (rmH 0) [.ref (g 199)] D cy (wX1 cy g ub) (wX1 cy g ub) r := by
  refine ct_enter (D := D) (cy := cy) (cc := cX1_isEmpty) (maxL := 1) (ret := (some .boolean)) (w := wX1 cy g ub) (Qc := fun sz => va_Qi (fun r' (_ : Unit) => r' = r) (Bw D cy (va_A (wX1 cy g ub) sz) (wX1 cy g ub)) (va_A (wX1 cy g ub) sz)) (by decide) rfl (Nat.le_of_ble_eq_true rfl) ?_
  intro p e s m below meth c A C0 hAe ls hl hP hD hS
  have e1 : MQ below ((fun sz => va_Qi (fun r' (_ : Unit) => r' = r) (Bw D cy (va_A (wX1 cy g ub) sz) (wX1 cy g ub)) (va_A (wX1 cy g ub) sz)) s.heap.size) [.ref (g 199)].toArray s 0 0 A = QI below [.ref (g 199)].toArray s A D cy (wX1 cy g ub) r := by rw [hAe]; rfl
  rw [e1]
  clear e1 hAe
  obtain ⟨hx, hb, hr, hml, hown, hts, hlocks, hK, hA⟩ := id C0
  have hl : lv_has ls 1 [(0, .ref (g 199))] := hl
  rw [f_X1_isEmpty] at h
  refine lv_aload_n hx hb dX1_isEmpty_0 rfl (lv_at hl 0 rfl) ?_
  refine va_get (D := D) (ci := 1) (v := .int (ub.1 3)) (C := RX1) (T := TX1) (N := 6) hx hb hts ki_X1_isEmpty_X1 hown hK hP 0 rfl rfl 3 (by decide) (hts _ k_X1_isEmpty_0) (fun _ h9 => h9) rfl dX1_isEmpty_1 ?_
  refine x_if_ne (tgt := 11) hx hb dX1_isEmpty_4 (by decide) h (fun _ h => ?_) (fun _ h => ?_)
  · refine lv_iconst (v := 1) hx hb dX1_isEmpty_7 (by decide) ?_
    refine lv_goto (tgt := 12) hx hb dX1_isEmpty_8 (by decide) ?_
    cases h
    exact x_zret hx hb hr hlocks hK hP hD hS (Or.inr rfl) dX1_isEmpty_12 rfl rfl
  · refine lv_iconst (v := 0) hx hb dX1_isEmpty_11 (by decide) ?_
    cases h
    exact x_zret hx hb hr hlocks hK hP hD hS (Or.inl rfl) dX1_isEmpty_12 rfl rfl
theorem k_X1_size_0 : Cond.fieldLink RX1 21 "FeatherHall$Basket" "length" "I" ∈ wsX1_size := (List.mem_cons_of_mem _ (List.mem_append_left _ (List.mem_of_getElem? (i := 0) rfl)))
theorem ki_X1_size_X1 : ∀ w ∈ u_ws RX1 TX1 6, w ∈ wsX1_size := fun _ hh => (List.mem_cons_of_mem _ (List.mem_append_right _ hh))
theorem hd_X1_size : yX1_size.cls = RX1 ∧ yX1_size.cls ≠ "java/lang/invoke/MethodHandle" ∧ yX1_size.cls ≠ "java/lang/invoke/VarHandle" ∧ (parseMethodDescriptor yX1_size.desc).map (fun d => d.parameters.length) = some 0 := by decide +kernel
set_option maxHeartbeats 4000000 in
set_option maxRecDepth 100000 in
theorem c_X1_size (l : Launch) (D : va_G) (cy : Nat → ClassId) (g : Nat → Nat) (ub : St) (r : Int32) (h : f_X1_size ub = some r) : CtI l yX1_size wsX1_size (rmH 0) [.ref (g 199)] D cy (wX1 cy g ub) (wX1 cy g ub) r := by
  refine ct_enter (D := D) (cy := cy) (cc := cX1_size) (maxL := 1) (ret := (some .int)) (w := wX1 cy g ub) (Qc := fun sz => va_Qi (fun r' (_ : Unit) => r' = r) (Bw D cy (va_A (wX1 cy g ub) sz) (wX1 cy g ub)) (va_A (wX1 cy g ub) sz)) (by decide) rfl (Nat.le_of_ble_eq_true rfl) ?_
  intro p e s m below meth c A C0 hAe ls hl hP hD hS
  have e1 : MQ below ((fun sz => va_Qi (fun r' (_ : Unit) => r' = r) (Bw D cy (va_A (wX1 cy g ub) sz) (wX1 cy g ub)) (va_A (wX1 cy g ub) sz)) s.heap.size) [.ref (g 199)].toArray s 0 0 A = QI below [.ref (g 199)].toArray s A D cy (wX1 cy g ub) r := by rw [hAe]; rfl
  rw [e1]
  clear e1 hAe
  obtain ⟨hx, hb, hr, hml, hown, hts, hlocks, hK, hA⟩ := id C0
  have hl : lv_has ls 1 [(0, .ref (g 199))] := hl
  rw [f_X1_size] at h
  refine lv_aload_n hx hb dX1_size_0 rfl (lv_at hl 0 rfl) ?_
  refine va_get (D := D) (ci := 1) (v := .int (ub.1 3)) (C := RX1) (T := TX1) (N := 6) hx hb hts ki_X1_size_X1 hown hK hP 0 rfl rfl 3 (by decide) (hts _ k_X1_size_0) (fun _ h9 => h9) rfl dX1_size_1 ?_
  cases h
  exact x_iret hx hb hr hlocks hK hP hD hS dX1_size_4 rfl rfl
theorem k_X1_add_0 : Cond.fieldLink RX1 21 "FeatherHall$Basket" "length" "I" ∈ wsX1_add := (List.mem_cons_of_mem _ (List.mem_append_left _ (List.mem_of_getElem? (i := 0) rfl)))
theorem ki_X1_add_X1 : ∀ w ∈ u_ws RX1 TX1 6, w ∈ wsX1_add := fun _ hh => (List.mem_cons_of_mem _ (List.mem_append_right _ hh))
theorem k_X1_add_1 : Cond.fieldLink RX1 15 "FeatherHall$Basket" "planned" "[I" ∈ wsX1_add := (List.mem_cons_of_mem _ (List.mem_append_left _ (List.mem_of_getElem? (i := 1) rfl)))
theorem hd_X1_add : yX1_add.cls = RX1 ∧ yX1_add.cls ≠ "java/lang/invoke/MethodHandle" ∧ yX1_add.cls ≠ "java/lang/invoke/VarHandle" ∧ (parseMethodDescriptor yX1_add.desc).map (fun d => d.parameters.length) = some 1 := by decide +kernel
set_option maxHeartbeats 4000000 in
set_option maxRecDepth 100000 in
theorem c_X1_add (l : Launch) (D : va_G) (cy : Nat → ClassId) (g : Nat → Nat) (ub : St) (p0 : Int32) (r : Int32) (ub' : St) (h : f_X1_add p0 ub = some (r, ub')) : CtI l yX1_add wsX1_add (rmH 0) [.ref (g 199), .int p0] D cy (wX1 cy g ub) (wX1 cy g ub') r := by
  refine ct_enter (D := D) (cy := cy) (cc := cX1_add) (maxL := 2) (ret := (some .int)) (w := wX1 cy g ub) (Qc := fun sz => va_Qi (fun r' (_ : Unit) => r' = r) (Bw D cy (va_A (wX1 cy g ub) sz) (wX1 cy g ub')) (va_A (wX1 cy g ub) sz)) (by decide) rfl (Nat.le_of_ble_eq_true rfl) ?_
  intro p e s m below meth c A C0 hAe ls hl hP hD hS
  have e1 : MQ below ((fun sz => va_Qi (fun r' (_ : Unit) => r' = r) (Bw D cy (va_A (wX1 cy g ub) sz) (wX1 cy g ub')) (va_A (wX1 cy g ub) sz)) s.heap.size) [.ref (g 199), .int p0].toArray s 0 0 A = QI below [.ref (g 199), .int p0].toArray s A D cy (wX1 cy g ub') r := by rw [hAe]; rfl
  rw [e1]
  clear e1 hAe
  obtain ⟨hx, hb, hr, hml, hown, hts, hlocks, hK, hA⟩ := id C0
  have hl : lv_has ls 2 [(0, .ref (g 199)), (1, .int p0)] := hl
  rw [f_X1_add] at h
  refine lv_aload_n hx hb dX1_add_0 rfl (lv_at hl 0 rfl) ?_
  refine va_get (D := D) (ci := 1) (v := .int (ub.1 3)) (C := RX1) (T := TX1) (N := 6) hx hb hts ki_X1_add_X1 hown hK hP 0 rfl rfl 3 (by decide) (hts _ k_X1_add_0) (fun _ h9 => h9) rfl dX1_add_1 ?_
  refine lv_bipush (v := 30) hx hb dX1_add_4 (by decide) ?_
  refine x_icmp_lt (tgt := 12) hx hb dX1_add_6 (by decide) h (fun _ h => ?_) (fun _ h => ?_)
  · refine lv_aload_n hx hb dX1_add_12 rfl (lv_at hl 0 rfl) ?_
    refine va_get (D := D) (ci := 1) (v := .ref (g 101)) (C := RX1) (T := TX1) (N := 6) hx hb hts ki_X1_add_X1 hown hK hP 0 rfl rfl 1 (by decide) (hts _ k_X1_add_1) (fun _ h9 => h9) rfl dX1_add_13 ?_
    refine lv_aload_n hx hb dX1_add_16 rfl (lv_at hl 0 rfl) ?_
    refine va_get (D := D) (ci := 1) (v := .int (ub.1 3)) (C := RX1) (T := TX1) (N := 6) hx hb hts ki_X1_add_X1 hown hK hP 0 rfl rfl 3 (by decide) (hts _ k_X1_add_0) (fun _ h9 => h9) rfl dX1_add_17 ?_
    refine lv_iload_n hx hb dX1_add_20 rfl (lv_at hl 1 rfl) ?_
    refine x_iast (Wd := (fun uz => wX1 cy g uz)) (u := ub) (k := 1) hx hb hK hP hD hS 2 rfl rfl (fun _ => rfl) h dX1_add_21 (fun ub1 H locs h hP hD hS => ?_)
    refine lv_aload_n hx hb dX1_add_22 rfl (lv_at hl 0 rfl) ?_
    refine lv_dup hx hb dX1_add_23 rfl ?_
    refine va_get (D := D) (ci := 1) (v := .int (ub1.1 3)) (C := RX1) (T := TX1) (N := 6) hx hb hts ki_X1_add_X1 hown hK hP 0 rfl rfl 3 (by decide) (hts _ k_X1_add_0) (fun _ h9 => h9) rfl dX1_add_24 ?_
    refine lv_iconst (v := 1) hx hb dX1_add_27 (by decide) ?_
    refine lv_iadd hx hb dX1_add_28 ?_
    refine x_put (D := D) (ci := 1) (Wd := (fun uz => wX1 cy g uz)) (u := ub1) (C := RX1) (T := TX1) (N := 6) hx hb hts ki_X1_add_X1 tyX1 tyX1_ok nmX1 hown hK hP hD hS 0 rfl rfl 3 (by decide) (hts _ k_X1_add_0) (fun _ h9 => h9) rfl (tyX1_ok 3 (by decide)) rfl rfl (Nat.le_of_ble_eq_true rfl) (fun _ => rfl) h dX1_add_29 (fun ub2 H locs h hP hD hS => ?_)
    refine lv_aload_n hx hb dX1_add_32 rfl (lv_at hl 0 rfl) ?_
    refine va_get (D := D) (ci := 1) (v := .int (ub2.1 3)) (C := RX1) (T := TX1) (N := 6) hx hb hts ki_X1_add_X1 hown hK hP 0 rfl rfl 3 (by decide) (hts _ k_X1_add_0) (fun _ h9 => h9) rfl dX1_add_33 ?_
    cases h
    exact x_iret hx hb hr hlocks hK hP hD hS dX1_add_36 rfl rfl
  · refine lv_bipush (v := -5) hx hb dX1_add_9 (by decide) ?_
    cases h
    exact x_iret hx hb hr hlocks hK hP hD hS dX1_add_11 rfl rfl
theorem k_X1_clear_0 : Cond.fieldLink RX1 21 "FeatherHall$Basket" "length" "I" ∈ wsX1_clear := (List.mem_cons_of_mem _ (List.mem_append_left _ (List.mem_of_getElem? (i := 0) rfl)))
theorem ki_X1_clear_X1 : ∀ w ∈ u_ws RX1 TX1 6, w ∈ wsX1_clear := fun _ hh => (List.mem_cons_of_mem _ (List.mem_append_right _ hh))
theorem hd_X1_clear : yX1_clear.cls = RX1 ∧ yX1_clear.cls ≠ "java/lang/invoke/MethodHandle" ∧ yX1_clear.cls ≠ "java/lang/invoke/VarHandle" ∧ (parseMethodDescriptor yX1_clear.desc).map (fun d => d.parameters.length) = some 0 := by decide +kernel
set_option maxHeartbeats 4000000 in
set_option maxRecDepth 100000 in
theorem c_X1_clear (l : Launch) (D : va_G) (cy : Nat → ClassId) (g : Nat → Nat) (ub : St) (r : Int32) (ub' : St) (h : f_X1_clear ub = some (r, ub')) : CtI l yX1_clear wsX1_clear (rmH 0) [.ref (g 199)] D cy (wX1 cy g ub) (wX1 cy g ub') r := by
  refine ct_enter (D := D) (cy := cy) (cc := cX1_clear) (maxL := 2) (ret := (some .int)) (w := wX1 cy g ub) (Qc := fun sz => va_Qi (fun r' (_ : Unit) => r' = r) (Bw D cy (va_A (wX1 cy g ub) sz) (wX1 cy g ub')) (va_A (wX1 cy g ub) sz)) (by decide) rfl (Nat.le_of_ble_eq_true rfl) ?_
  intro p e s m below meth c A C0 hAe ls hl hP hD hS
  have e1 : MQ below ((fun sz => va_Qi (fun r' (_ : Unit) => r' = r) (Bw D cy (va_A (wX1 cy g ub) sz) (wX1 cy g ub')) (va_A (wX1 cy g ub) sz)) s.heap.size) [.ref (g 199)].toArray s 0 0 A = QI below [.ref (g 199)].toArray s A D cy (wX1 cy g ub') r := by rw [hAe]; rfl
  rw [e1]
  clear e1 hAe
  obtain ⟨hx, hb, hr, hml, hown, hts, hlocks, hK, hA⟩ := id C0
  have hl : lv_has ls 2 [(0, .ref (g 199))] := hl
  rw [f_X1_clear] at h
  refine lv_aload_n hx hb dX1_clear_0 rfl (lv_at hl 0 rfl) ?_
  refine va_get (D := D) (ci := 1) (v := .int (ub.1 3)) (C := RX1) (T := TX1) (N := 6) hx hb hts ki_X1_clear_X1 hown hK hP 0 rfl rfl 3 (by decide) (hts _ k_X1_clear_0) (fun _ h9 => h9) rfl dX1_clear_1 ?_
  refine lv_istore_n (lv' := [(1, .int (ub.1 3)), (0, .ref (g 199))]) hx hb dX1_clear_4 rfl hl (by decide) rfl (fun ls hl => ?_)
  refine lv_aload_n hx hb dX1_clear_5 rfl (lv_at hl 1 rfl) ?_
  refine lv_iconst (v := 0) hx hb dX1_clear_6 (by decide) ?_
  refine x_put (D := D) (ci := 1) (Wd := (fun uz => wX1 cy g uz)) (u := ub) (C := RX1) (T := TX1) (N := 6) hx hb hts ki_X1_clear_X1 tyX1 tyX1_ok nmX1 hown hK hP hD hS 0 rfl rfl 3 (by decide) (hts _ k_X1_clear_0) (fun _ h9 => h9) rfl (tyX1_ok 3 (by decide)) rfl rfl (Nat.le_of_ble_eq_true rfl) (fun _ => rfl) h dX1_clear_7 (fun ub1 H locs h hP hD hS => ?_)
  refine lv_iload_n hx hb dX1_clear_10 rfl (lv_at hl 0 rfl) ?_
  cases h
  exact x_iret hx hb hr hlocks hK hP hD hS dX1_clear_11 rfl rfl
theorem k_X1_addUp_0 : Cond.fieldLink RX1 18 "FeatherHall$Basket" "sums" "[I" ∈ wsX1_addUp := (List.mem_cons_of_mem _ (List.mem_append_left _ (List.mem_of_getElem? (i := 0) rfl)))
theorem ki_X1_addUp_X1 : ∀ w ∈ u_ws RX1 TX1 6, w ∈ wsX1_addUp := fun _ hh => (List.mem_cons_of_mem _ (List.mem_append_right _ hh))
theorem k_X1_addUp_1 : Cond.fieldLink RX1 25 "FeatherHall$Basket" "price" "I" ∈ wsX1_addUp := (List.mem_cons_of_mem _ (List.mem_append_left _ (List.mem_of_getElem? (i := 1) rfl)))
theorem k_X1_addUp_2 : Cond.fieldLink RX1 28 "FeatherHall$Basket" "loss" "I" ∈ wsX1_addUp := (List.mem_cons_of_mem _ (List.mem_append_left _ (List.mem_of_getElem? (i := 2) rfl)))
theorem k_X1_addUp_3 : Cond.methodLink RX1 35 Lib.Math.min.name ∈ wsX1_addUp := (List.mem_cons_of_mem _ (List.mem_append_left _ (List.mem_of_getElem? (i := 3) rfl)))
theorem k_X1_addUp_4 : Cond.static Lib.Math.min.name ∈ wsX1_addUp := (List.mem_cons_of_mem _ (List.mem_append_left _ (List.mem_of_getElem? (i := 4) rfl)))
theorem k_X1_addUp_5 : Cond.initialized "java/lang/Math" ∈ wsX1_addUp := (List.mem_cons_of_mem _ (List.mem_append_left _ (List.mem_of_getElem? (i := 5) rfl)))
theorem k_X1_addUp_6 : Cond.code Lib.Math.min.name Lib.Math.min.code 2 (some .int) ∈ wsX1_addUp := (List.mem_cons_of_mem _ (List.mem_append_left _ (List.mem_of_getElem? (i := 6) rfl)))
theorem k_X1_addUp_7 : Cond.fieldLink RX1 9 "FeatherHall$Basket" "wears" "[I" ∈ wsX1_addUp := (List.mem_cons_of_mem _ (List.mem_append_left _ (List.mem_of_getElem? (i := 7) rfl)))
theorem k_X1_addUp_8 : Cond.fieldLink RX1 15 "FeatherHall$Basket" "planned" "[I" ∈ wsX1_addUp := (List.mem_cons_of_mem _ (List.mem_append_left _ (List.mem_of_getElem? (i := 8) rfl)))
theorem k_X1_addUp_9 : Cond.fieldLink RX1 21 "FeatherHall$Basket" "length" "I" ∈ wsX1_addUp := (List.mem_cons_of_mem _ (List.mem_append_left _ (List.mem_of_getElem? (i := 9) rfl)))
theorem hd_X1_addUp : yX1_addUp.cls = RX1 ∧ yX1_addUp.cls ≠ "java/lang/invoke/MethodHandle" ∧ yX1_addUp.cls ≠ "java/lang/invoke/VarHandle" ∧ (parseMethodDescriptor yX1_addUp.desc).map (fun d => d.parameters.length) = some 1 := by decide +kernel
set_option maxHeartbeats 4000000 in
set_option maxRecDepth 100000 in
theorem w_X1_addUp_85 {p : Program} {l : Launch} {e : Env} {s : State} {m : MethodId} {below : List Frame} {meth : Method} {c : Code} {args : Array Value} {D : va_G} {cy : Nat → ClassId} {g : Nat → Nat} {A : Nat → Prop} {ub' : St} (C0 : Cx p s m meth c args cX1_addUp 5 none wsX1_addUp RX1 D cy A) {k_17 : Int32 → Int32 → Int32 → Int32 → St → Option (St)} (hk_17 : ∀ (l1 : Int32) (l2 : Int32) (l3 : Int32) (l4 : Int32) (ub : St), k_17 l1 l2 l3 l4 ub = some ub' → ∀ (H : Heap) (locs : List Loc) (ls : Array Slot), va_P D vwCl (wX1 cy g ub) H → va_D A (wX1 cy g ub) → va_S A s.heap H locs → lv_has ls 5 [(0, .ref (g 199)), (1, .int l1), (2, .int l2), (3, .int l3), (4, .int l4)] → W p l e (rmH 1) s m args below meth c H locs 0 0 (QV below args s A D cy (wX1 cy g ub')) (F0 m 17 ls [])) : ∀ (l1 : Int32) (l2 : Int32) (l4 : Int32) (s0 : Int32) (ub : St), f_X1_addUp_85 k_17 l1 l2 l4 s0 ub = some ub' → ∀ (H : Heap) (locs : List Loc) (ls : Array Slot), va_P D vwCl (wX1 cy g ub) H → va_D A (wX1 cy g ub) → va_S A s.heap H locs → lv_has ls 5 [(0, .ref (g 199)), (1, .int l1), (2, .int l2), (4, .int l4)] → W p l e (rmH 1) s m args below meth c H locs 0 0 (QV below args s A D cy (wX1 cy g ub')) (F0 m 85 ls [.int s0]) := by
  obtain ⟨hx, hb, hr, hml, hown, hts, hlocks, hK, hA⟩ := id C0
  intro l1 l2 l4 s0 ub h H locs ls hP hD hS hl
  rw [f_X1_addUp_85] at h
  refine lv_istore_n (lv' := [(3, .int s0), (0, .ref (g 199)), (1, .int l1), (2, .int l2), (4, .int l4)]) hx hb dX1_addUp_85 rfl hl (by decide) rfl (fun ls hl => ?_)
  obtain ⟨v9, ev9, h⟩ := nm_ex h
  refine lv_iinc (v := v9) (lv' := [(4, .int v9), (3, .int s0), (0, .ref (g 199)), (1, .int l1), (2, .int l2)]) hx hb dX1_addUp_86 hl (k := 4) rfl (by rw [ev9]; rfl) (by decide) rfl (fun ls hl => ?_)
  clear ev9
  refine lv_goto (tgt := 17) hx hb dX1_addUp_89 (by decide) ?_
  exact hk_17 l1 l2 s0 v9 ub h _ _ ls hP hD hS (lv_sub hl [2, 3, 4, 1, 0] rfl)
set_option maxHeartbeats 4000000 in
set_option maxRecDepth 100000 in
theorem w_X1_addUp_17 {p : Program} {l : Launch} {e : Env} {s : State} {m : MethodId} {below : List Frame} {meth : Method} {c : Code} {args : Array Value} {D : va_G} {cy : Nat → ClassId} {g : Nat → Nat} {A : Nat → Prop} {ub' : St} (C0 : Cx p s m meth c args cX1_addUp 5 none wsX1_addUp RX1 D cy A) : ∀ (nn : Nat) (l1 : Int32) (l2 : Int32) (l3 : Int32) (l4 : Int32) (ub : St), f_X1_addUp_17 nn l1 l2 l3 l4 ub = some ub' → ∀ (H : Heap) (locs : List Loc) (ls : Array Slot), va_P D vwCl (wX1 cy g ub) H → va_D A (wX1 cy g ub) → va_S A s.heap H locs → lv_has ls 5 [(0, .ref (g 199)), (1, .int l1), (2, .int l2), (3, .int l3), (4, .int l4)] → W p l e (rmH 1) s m args below meth c H locs 0 0 (QV below args s A D cy (wX1 cy g ub')) (F0 m 17 ls []) := by
  obtain ⟨hx, hb, hr, hml, hown, hts, hlocks, hK, hA⟩ := id C0
  intro nn
  induction nn with
  | zero => intro l1 l2 l3 l4 ub h; rw [f_X1_addUp_17] at h; cases h
  | succ nn ih =>
    intro l1 l2 l3 l4 ub h H locs ls hP hD hS hl
    rw [f_X1_addUp_17] at h
    refine lv_iload hx hb dX1_addUp_17 (lv_at hl 4 rfl) ?_
    refine lv_iload_n hx hb dX1_addUp_19 rfl (lv_at hl 1 rfl) ?_
    refine x_icmp_gt (tgt := 92) hx hb dX1_addUp_20 (by decide) h (fun _ h => ?_) (fun _ h => ?_)
    · cases h
      exact x_vret hx hb hr hlocks hK hP hD hS dX1_addUp_92 rfl
    · refine lv_aload_n hx hb dX1_addUp_23 rfl (lv_at hl 0 rfl) ?_
      refine va_get (D := D) (ci := 1) (v := .ref (g 102)) (C := RX1) (T := TX1) (N := 6) hx hb hts ki_X1_addUp_X1 hown hK hP 0 rfl rfl 2 (by decide) (hts _ k_X1_addUp_0) (fun _ h9 => h9) rfl dX1_addUp_24 ?_
      refine lv_iload hx hb dX1_addUp_27 (lv_at hl 4 rfl) ?_
      refine lv_aload_n hx hb dX1_addUp_29 rfl (lv_at hl 0 rfl) ?_
      refine va_get (D := D) (ci := 1) (v := .ref (g 102)) (C := RX1) (T := TX1) (N := 6) hx hb hts ki_X1_addUp_X1 hown hK hP 0 rfl rfl 2 (by decide) (hts _ k_X1_addUp_0) (fun _ h9 => h9) rfl dX1_addUp_30 ?_
      refine lv_iload hx hb dX1_addUp_33 (lv_at hl 4 rfl) ?_
      refine lv_iconst (v := 1) hx hb dX1_addUp_35 (by decide) ?_
      refine lv_isub hx hb dX1_addUp_36 ?_
      refine x_iald hx hb hK hP 3 rfl rfl h dX1_addUp_37 (fun v2 h => ?_)
      refine lv_aload_n hx hb dX1_addUp_38 rfl (lv_at hl 0 rfl) ?_
      refine va_get (D := D) (ci := 1) (v := .int (ub.1 5)) (C := RX1) (T := TX1) (N := 6) hx hb hts ki_X1_addUp_X1 hown hK hP 0 rfl rfl 5 (by decide) (hts _ k_X1_addUp_2) (fun _ h9 => h9) rfl dX1_addUp_39 ?_
      refine lv_bipush (v := 8) hx hb dX1_addUp_42 (by decide) ?_
      refine lv_iload_n hx hb dX1_addUp_44 rfl (lv_at hl 2 rfl) ?_
      refine lv_bipush (v := 10) hx hb dX1_addUp_45 (by decide) ?_
      refine lv_idiv hx hb dX1_addUp_47 (by decide) ?_
      refine x_nm h (fun v3 h => ?_)
      refine va_mmin hx hb (hml.trans hl.1.symm) hown (hts _ k_X1_addUp_3) (hts _ k_X1_addUp_4) (hts _ k_X1_addUp_5) (hts _ k_X1_addUp_6) (Nat.le_of_ble_eq_true rfl) (Nat.le_of_ble_eq_true rfl) (Nat.zero_le _) (Nat.zero_le _) dX1_addUp_48 ?_
      refine x_nm h (fun v4 h => ?_)
      refine lv_imul hx hb dX1_addUp_51 ?_
      refine lv_iadd hx hb dX1_addUp_52 ?_
      refine x_iast (Wd := (fun uz => wX1 cy g uz)) (u := ub) (k := 2) hx hb hK hP hD hS 3 rfl rfl (fun _ => rfl) h dX1_addUp_53 (fun ub5 H locs h hP hD hS => ?_)
      refine lv_iload_n hx hb dX1_addUp_54 rfl (lv_at hl 2 rfl) ?_
      refine lv_aload_n hx hb dX1_addUp_55 rfl (lv_at hl 0 rfl) ?_
      refine va_get (D := D) (ci := 1) (v := .ref (g 100)) (C := RX1) (T := TX1) (N := 6) hx hb hts ki_X1_addUp_X1 hown hK hP 0 rfl rfl 0 (by decide) (hts _ k_X1_addUp_7) (fun _ h9 => h9) rfl dX1_addUp_56 ?_
      refine lv_aload_n hx hb dX1_addUp_59 rfl (lv_at hl 0 rfl) ?_
      refine va_get (D := D) (ci := 1) (v := .ref (g 101)) (C := RX1) (T := TX1) (N := 6) hx hb hts ki_X1_addUp_X1 hown hK hP 0 rfl rfl 1 (by decide) (hts _ k_X1_addUp_8) (fun _ h9 => h9) rfl dX1_addUp_60 ?_
      refine lv_iload_n hx hb dX1_addUp_63 rfl (lv_at hl 3 rfl) ?_
      refine x_iald hx hb hK hP 2 rfl rfl h dX1_addUp_64 (fun v6 h => ?_)
      refine x_iald hx hb hK hP 1 rfl rfl h dX1_addUp_65 (fun v7 h => ?_)
      refine lv_iadd hx hb dX1_addUp_66 ?_
      refine x_nm h (fun v8 h => ?_)
      refine lv_istore_n (lv' := [(2, .int v8), (0, .ref (g 199)), (1, .int l1), (3, .int l3), (4, .int l4)]) hx hb dX1_addUp_67 rfl hl (by decide) rfl (fun ls hl => ?_)
      refine lv_iload_n hx hb dX1_addUp_68 rfl (lv_at hl 3 rfl) ?_
      refine lv_iconst (v := 1) hx hb dX1_addUp_69 (by decide) ?_
      refine lv_iadd hx hb dX1_addUp_70 ?_
      refine lv_aload_n hx hb dX1_addUp_71 rfl (lv_at hl 1 rfl) ?_
      refine va_get (D := D) (ci := 1) (v := .int (ub5.1 3)) (C := RX1) (T := TX1) (N := 6) hx hb hts ki_X1_addUp_X1 hown hK hP 0 rfl rfl 3 (by decide) (hts _ k_X1_addUp_9) (fun _ h9 => h9) rfl dX1_addUp_72 ?_
      refine x_icmp_ge (tgt := 84) hx hb dX1_addUp_75 (by decide) h (fun _ h => ?_) (fun _ h => ?_)
      · refine lv_iconst (v := 0) hx hb dX1_addUp_84 (by decide) ?_
        exact w_X1_addUp_85 C0 ih l1 v8 l4 (0 : Int32) ub5 h _ _ ls hP hD hS (lv_sub hl [1, 2, 0, 4] rfl)
      · refine lv_iload_n hx hb dX1_addUp_78 rfl (lv_at hl 3 rfl) ?_
        refine lv_iconst (v := 1) hx hb dX1_addUp_79 (by decide) ?_
        refine lv_iadd hx hb dX1_addUp_80 ?_
        refine lv_goto (tgt := 85) hx hb dX1_addUp_81 (by decide) ?_
        exact w_X1_addUp_85 C0 ih l1 v8 l4 (l3 + (1 : Int32)) ub5 h _ _ ls hP hD hS (lv_sub hl [1, 2, 0, 4] rfl)
set_option maxHeartbeats 4000000 in
set_option maxRecDepth 100000 in
theorem c_X1_addUp (l : Launch) (D : va_G) (cy : Nat → ClassId) (g : Nat → Nat) (ub : St) (p0 : Int32) (ub' : St) (h : f_X1_addUp p0 ub = some ub') : CtV l yX1_addUp wsX1_addUp (rmH 1) [.ref (g 199), .int p0] D cy (wX1 cy g ub) (wX1 cy g ub') := by
  refine ct_enter (D := D) (cy := cy) (cc := cX1_addUp) (maxL := 5) (ret := none) (w := wX1 cy g ub) (Qc := fun sz => va_Qv (fun (_ : Unit) => True) (Bw D cy (va_A (wX1 cy g ub) sz) (wX1 cy g ub')) (va_A (wX1 cy g ub) sz)) (by decide) rfl (Nat.le_of_ble_eq_true rfl) ?_
  intro p e s m below meth c A C0 hAe ls hl hP hD hS
  have e1 : MQ below ((fun sz => va_Qv (fun (_ : Unit) => True) (Bw D cy (va_A (wX1 cy g ub) sz) (wX1 cy g ub')) (va_A (wX1 cy g ub) sz)) s.heap.size) [.ref (g 199), .int p0].toArray s 0 0 A = QV below [.ref (g 199), .int p0].toArray s A D cy (wX1 cy g ub') := by rw [hAe]; rfl
  rw [e1]
  clear e1 hAe
  obtain ⟨hx, hb, hr, hml, hown, hts, hlocks, hK, hA⟩ := id C0
  have hl : lv_has ls 5 [(0, .ref (g 199)), (1, .int p0)] := hl
  rw [f_X1_addUp] at h
  refine lv_iconst (v := 0) hx hb dX1_addUp_0 (by decide) ?_
  refine lv_istore_n (lv' := [(2, .int (0 : Int32)), (0, .ref (g 199)), (1, .int p0)]) hx hb dX1_addUp_1 rfl hl (by decide) rfl (fun ls hl => ?_)
  refine lv_iconst (v := 0) hx hb dX1_addUp_2 (by decide) ?_
  refine lv_istore_n (lv' := [(3, .int (0 : Int32)), (2, .int (0 : Int32)), (0, .ref (g 199)), (1, .int p0)]) hx hb dX1_addUp_3 rfl hl (by decide) rfl (fun ls hl => ?_)
  refine lv_aload_n hx hb dX1_addUp_4 rfl (lv_at hl 2 rfl) ?_
  refine va_get (D := D) (ci := 1) (v := .ref (g 102)) (C := RX1) (T := TX1) (N := 6) hx hb hts ki_X1_addUp_X1 hown hK hP 0 rfl rfl 2 (by decide) (hts _ k_X1_addUp_0) (fun _ h9 => h9) rfl dX1_addUp_5 ?_
  refine lv_iconst (v := 0) hx hb dX1_addUp_8 (by decide) ?_
  refine lv_aload_n hx hb dX1_addUp_9 rfl (lv_at hl 2 rfl) ?_
  refine va_get (D := D) (ci := 1) (v := .int (ub.1 4)) (C := RX1) (T := TX1) (N := 6) hx hb hts ki_X1_addUp_X1 hown hK hP 0 rfl rfl 4 (by decide) (hts _ k_X1_addUp_1) (fun _ h9 => h9) rfl dX1_addUp_10 ?_
  refine x_iast (Wd := (fun uz => wX1 cy g uz)) (u := ub) (k := 2) hx hb hK hP hD hS 3 rfl rfl (fun _ => rfl) h dX1_addUp_13 (fun ub1 H locs h hP hD hS => ?_)
  refine lv_iconst (v := 1) hx hb dX1_addUp_14 (by decide) ?_
  refine lv_istore (lv' := [(4, .int (1 : Int32)), (3, .int (0 : Int32)), (2, .int (0 : Int32)), (0, .ref (g 199)), (1, .int p0)]) hx hb dX1_addUp_15 hl (by decide) rfl (fun ls hl => ?_)
  exact w_X1_addUp_17 C0 FU p0 (0 : Int32) (0 : Int32) (1 : Int32) ub1 h _ _ ls hP hD hS (lv_sub hl [3, 4, 2, 1, 0] rfl)
theorem k_X1_wholeCost_0 : Cond.fieldLink RX1 18 "FeatherHall$Basket" "sums" "[I" ∈ wsX1_wholeCost := (List.mem_cons_of_mem _ (List.mem_append_left _ (List.mem_of_getElem? (i := 0) rfl)))
theorem ki_X1_wholeCost_X1 : ∀ w ∈ u_ws RX1 TX1 6, w ∈ wsX1_wholeCost := fun _ hh => (List.mem_cons_of_mem _ (List.mem_append_right _ hh))
theorem hd_X1_wholeCost : yX1_wholeCost.cls = RX1 ∧ yX1_wholeCost.cls ≠ "java/lang/invoke/MethodHandle" ∧ yX1_wholeCost.cls ≠ "java/lang/invoke/VarHandle" ∧ (parseMethodDescriptor yX1_wholeCost.desc).map (fun d => d.parameters.length) = some 1 := by decide +kernel
set_option maxHeartbeats 4000000 in
set_option maxRecDepth 100000 in
theorem c_X1_wholeCost (l : Launch) (D : va_G) (cy : Nat → ClassId) (g : Nat → Nat) (ub : St) (p0 : Int32) (r : Int32) (ub' : St) (h : f_X1_wholeCost p0 ub = some (r, ub')) : CtI l yX1_wholeCost wsX1_wholeCost (rmH 2) [.ref (g 199), .int p0] D cy (wX1 cy g ub) (wX1 cy g ub') r := by
  refine ct_enter (D := D) (cy := cy) (cc := cX1_wholeCost) (maxL := 2) (ret := (some .int)) (w := wX1 cy g ub) (Qc := fun sz => va_Qi (fun r' (_ : Unit) => r' = r) (Bw D cy (va_A (wX1 cy g ub) sz) (wX1 cy g ub')) (va_A (wX1 cy g ub) sz)) (by decide) rfl (Nat.le_of_ble_eq_true rfl) ?_
  intro p e s m below meth c A C0 hAe ls hl hP hD hS
  have e1 : MQ below ((fun sz => va_Qi (fun r' (_ : Unit) => r' = r) (Bw D cy (va_A (wX1 cy g ub) sz) (wX1 cy g ub')) (va_A (wX1 cy g ub) sz)) s.heap.size) [.ref (g 199), .int p0].toArray s 0 0 A = QI below [.ref (g 199), .int p0].toArray s A D cy (wX1 cy g ub') r := by rw [hAe]; rfl
  rw [e1]
  clear e1 hAe
  obtain ⟨hx, hb, hr, hml, hown, hts, hlocks, hK, hA⟩ := id C0
  have hl : lv_has ls 2 [(0, .ref (g 199)), (1, .int p0)] := hl
  rw [f_X1_wholeCost] at h
  refine lv_aload_n hx hb dX1_wholeCost_0 rfl (lv_at hl 0 rfl) ?_
  refine lv_iload_n hx hb dX1_wholeCost_1 rfl (lv_at hl 1 rfl) ?_
  obtain ⟨ub1, e2, h⟩ := bd_some h
  refine x_callVV (As := [.int p0]) (rest := []) (n := 1) ⟨hx, hb, hml, hown, hts⟩ (c_X1_addUp l D cy g ub p0 ub1 e2) gX1_wholeCost_X1_addUp rfl hd_X1_addUp ⟨Nat.le_of_ble_eq_true rfl, Nat.le_of_ble_eq_true rfl⟩ ⟨rfl, rfl⟩ hK (sp_all _) (sp_all _) hP hD hS hA 0 rfl rfl rfl hl.1 rfl (Nat.le_of_ble_eq_true rfl) dX1_wholeCost_2 ⟨Nat.zero_le _, Nat.zero_le _⟩ (fun H locs hP hD hS => ?_)
  clear e2
  refine lv_aload_n hx hb dX1_wholeCost_5 rfl (lv_at hl 0 rfl) ?_
  refine va_get (D := D) (ci := 1) (v := .ref (g 102)) (C := RX1) (T := TX1) (N := 6) hx hb hts ki_X1_wholeCost_X1 hown hK hP 0 rfl rfl 2 (by decide) (hts _ k_X1_wholeCost_0) (fun _ h9 => h9) rfl dX1_wholeCost_6 ?_
  refine lv_iload_n hx hb dX1_wholeCost_9 rfl (lv_at hl 1 rfl) ?_
  refine x_iald hx hb hK hP 3 rfl rfl h dX1_wholeCost_10 (fun v3 h => ?_)
  cases h
  exact x_iret hx hb hr hlocks hK hP hD hS dX1_wholeCost_11 rfl rfl
theorem k_X1_bestChange_0 : Cond.fieldLink RX1 18 "FeatherHall$Basket" "sums" "[I" ∈ wsX1_bestChange := (List.mem_cons_of_mem _ (List.mem_append_left _ (List.mem_of_getElem? (i := 0) rfl)))
theorem ki_X1_bestChange_X1 : ∀ w ∈ u_ws RX1 TX1 6, w ∈ wsX1_bestChange := fun _ hh => (List.mem_cons_of_mem _ (List.mem_append_right _ hh))
theorem hd_X1_bestChange : yX1_bestChange.cls = RX1 ∧ yX1_bestChange.cls ≠ "java/lang/invoke/MethodHandle" ∧ yX1_bestChange.cls ≠ "java/lang/invoke/VarHandle" ∧ (parseMethodDescriptor yX1_bestChange.desc).map (fun d => d.parameters.length) = some 0 := by decide +kernel
set_option maxHeartbeats 4000000 in
set_option maxRecDepth 100000 in
theorem w_X1_bestChange_37 {p : Program} {l : Launch} {e : Env} {s : State} {m : MethodId} {below : List Frame} {meth : Method} {c : Code} {args : Array Value} {D : va_G} {cy : Nat → ClassId} {g : Nat → Nat} {A : Nat → Prop} {r : Int32} {ub' : St} (C0 : Cx p s m meth c args cX1_bestChange 3 (some .int) wsX1_bestChange RX1 D cy A) {k_10 : Int32 → Int32 → St → Option (Int32 × St)} (hk_10 : ∀ (l1 : Int32) (l2 : Int32) (ub : St), k_10 l1 l2 ub = some (r, ub') → ∀ (H : Heap) (locs : List Loc) (ls : Array Slot), va_P D vwCl (wX1 cy g ub) H → va_D A (wX1 cy g ub) → va_S A s.heap H locs → lv_has ls 3 [(0, .ref (g 199)), (1, .int l1), (2, .int l2)] → W p l e (rmH 2) s m args below meth c H locs 0 0 (QI below args s A D cy (wX1 cy g ub') r) (F0 m 10 ls [])) : ∀ (l1 : Int32) (l2 : Int32) (ub : St), f_X1_bestChange_37 k_10 l1 l2 ub = some (r, ub') → ∀ (H : Heap) (locs : List Loc) (ls : Array Slot), va_P D vwCl (wX1 cy g ub) H → va_D A (wX1 cy g ub) → va_S A s.heap H locs → lv_has ls 3 [(0, .ref (g 199)), (1, .int l1), (2, .int l2)] → W p l e (rmH 2) s m args below meth c H locs 0 0 (QI below args s A D cy (wX1 cy g ub') r) (F0 m 37 ls []) := by
  obtain ⟨hx, hb, hr, hml, hown, hts, hlocks, hK, hA⟩ := id C0
  intro l1 l2 ub h H locs ls hP hD hS hl
  rw [f_X1_bestChange_37] at h
  obtain ⟨v5, ev5, h⟩ := nm_ex h
  refine lv_iinc (v := v5) (lv' := [(2, .int v5), (0, .ref (g 199)), (1, .int l1)]) hx hb dX1_bestChange_37 hl (k := 2) rfl (by rw [ev5]; rfl) (by decide) rfl (fun ls hl => ?_)
  clear ev5
  refine lv_goto (tgt := 10) hx hb dX1_bestChange_40 (by decide) ?_
  exact hk_10 l1 v5 ub h _ _ ls hP hD hS (lv_sub hl [1, 2, 0] rfl)
set_option maxHeartbeats 4000000 in
set_option maxRecDepth 100000 in
theorem w_X1_bestChange_10 {p : Program} {l : Launch} {e : Env} {s : State} {m : MethodId} {below : List Frame} {meth : Method} {c : Code} {args : Array Value} {D : va_G} {cy : Nat → ClassId} {g : Nat → Nat} {A : Nat → Prop} {r : Int32} {ub' : St} (C0 : Cx p s m meth c args cX1_bestChange 3 (some .int) wsX1_bestChange RX1 D cy A) : ∀ (nn : Nat) (l1 : Int32) (l2 : Int32) (ub : St), f_X1_bestChange_10 nn l1 l2 ub = some (r, ub') → ∀ (H : Heap) (locs : List Loc) (ls : Array Slot), va_P D vwCl (wX1 cy g ub) H → va_D A (wX1 cy g ub) → va_S A s.heap H locs → lv_has ls 3 [(0, .ref (g 199)), (1, .int l1), (2, .int l2)] → W p l e (rmH 2) s m args below meth c H locs 0 0 (QI below args s A D cy (wX1 cy g ub') r) (F0 m 10 ls []) := by
  obtain ⟨hx, hb, hr, hml, hown, hts, hlocks, hK, hA⟩ := id C0
  intro nn
  induction nn with
  | zero => intro l1 l2 ub h; rw [f_X1_bestChange_10] at h; cases h
  | succ nn ih =>
    intro l1 l2 ub h H locs ls hP hD hS hl
    rw [f_X1_bestChange_10] at h
    refine lv_iload_n hx hb dX1_bestChange_10 rfl (lv_at hl 2 rfl) ?_
    refine lv_bipush (v := 120) hx hb dX1_bestChange_11 (by decide) ?_
    refine x_icmp_gt (tgt := 43) hx hb dX1_bestChange_13 (by decide) h (fun _ h => ?_) (fun _ h => ?_)
    · refine lv_iload_n hx hb dX1_bestChange_43 rfl (lv_at hl 1 rfl) ?_
      cases h
      exact x_iret hx hb hr hlocks hK hP hD hS dX1_bestChange_44 rfl rfl
    · refine lv_aload_n hx hb dX1_bestChange_16 rfl (lv_at hl 0 rfl) ?_
      refine va_get (D := D) (ci := 1) (v := .ref (g 102)) (C := RX1) (T := TX1) (N := 6) hx hb hts ki_X1_bestChange_X1 hown hK hP 0 rfl rfl 2 (by decide) (hts _ k_X1_bestChange_0) (fun _ h9 => h9) rfl dX1_bestChange_17 ?_
      refine lv_iload_n hx hb dX1_bestChange_20 rfl (lv_at hl 2 rfl) ?_
      refine x_iald hx hb hK hP 3 rfl rfl h dX1_bestChange_21 (fun v3 h => ?_)
      refine lv_iload_n hx hb dX1_bestChange_22 rfl (lv_at hl 1 rfl) ?_
      refine lv_imul hx hb dX1_bestChange_23 ?_
      refine lv_aload_n hx hb dX1_bestChange_24 rfl (lv_at hl 0 rfl) ?_
      refine va_get (D := D) (ci := 1) (v := .ref (g 102)) (C := RX1) (T := TX1) (N := 6) hx hb hts ki_X1_bestChange_X1 hown hK hP 0 rfl rfl 2 (by decide) (hts _ k_X1_bestChange_0) (fun _ h9 => h9) rfl dX1_bestChange_25 ?_
      refine lv_iload_n hx hb dX1_bestChange_28 rfl (lv_at hl 1 rfl) ?_
      refine x_iald hx hb hK hP 3 rfl rfl h dX1_bestChange_29 (fun v4 h => ?_)
      refine lv_iload_n hx hb dX1_bestChange_30 rfl (lv_at hl 2 rfl) ?_
      refine lv_imul hx hb dX1_bestChange_31 ?_
      refine x_icmp_ge (tgt := 37) hx hb dX1_bestChange_32 (by decide) h (fun _ h => ?_) (fun _ h => ?_)
      · exact w_X1_bestChange_37 C0 ih l1 l2 ub h _ _ ls hP hD hS (lv_sub hl [0, 1, 2] rfl)
      · refine lv_iload_n hx hb dX1_bestChange_35 rfl (lv_at hl 2 rfl) ?_
        refine lv_istore_n (lv' := [(1, .int l2), (0, .ref (g 199)), (2, .int l2)]) hx hb dX1_bestChange_36 rfl hl (by decide) rfl (fun ls hl => ?_)
        exact w_X1_bestChange_37 C0 ih l2 l2 ub h _ _ ls hP hD hS (lv_sub hl [1, 0, 2] rfl)
set_option maxHeartbeats 4000000 in
set_option maxRecDepth 100000 in
theorem c_X1_bestChange (l : Launch) (D : va_G) (cy : Nat → ClassId) (g : Nat → Nat) (ub : St) (r : Int32) (ub' : St) (h : f_X1_bestChange ub = some (r, ub')) : CtI l yX1_bestChange wsX1_bestChange (rmH 2) [.ref (g 199)] D cy (wX1 cy g ub) (wX1 cy g ub') r := by
  refine ct_enter (D := D) (cy := cy) (cc := cX1_bestChange) (maxL := 3) (ret := (some .int)) (w := wX1 cy g ub) (Qc := fun sz => va_Qi (fun r' (_ : Unit) => r' = r) (Bw D cy (va_A (wX1 cy g ub) sz) (wX1 cy g ub')) (va_A (wX1 cy g ub) sz)) (by decide) rfl (Nat.le_of_ble_eq_true rfl) ?_
  intro p e s m below meth c A C0 hAe ls hl hP hD hS
  have e1 : MQ below ((fun sz => va_Qi (fun r' (_ : Unit) => r' = r) (Bw D cy (va_A (wX1 cy g ub) sz) (wX1 cy g ub')) (va_A (wX1 cy g ub) sz)) s.heap.size) [.ref (g 199)].toArray s 0 0 A = QI below [.ref (g 199)].toArray s A D cy (wX1 cy g ub') r := by rw [hAe]; rfl
  rw [e1]
  clear e1 hAe
  obtain ⟨hx, hb, hr, hml, hown, hts, hlocks, hK, hA⟩ := id C0
  have hl : lv_has ls 3 [(0, .ref (g 199))] := hl
  rw [f_X1_bestChange] at h
  refine lv_aload_n hx hb dX1_bestChange_0 rfl (lv_at hl 0 rfl) ?_
  refine lv_bipush (v := 120) hx hb dX1_bestChange_1 (by decide) ?_
  obtain ⟨ub1, e2, h⟩ := bd_some h
  refine x_callVV (As := [.int (120 : Int32)]) (rest := []) (n := 1) ⟨hx, hb, hml, hown, hts⟩ (c_X1_addUp l D cy g ub (120 : Int32) ub1 e2) gX1_bestChange_X1_addUp rfl hd_X1_addUp ⟨Nat.le_of_ble_eq_true rfl, Nat.le_of_ble_eq_true rfl⟩ ⟨rfl, rfl⟩ hK (sp_all _) (sp_all _) hP hD hS hA 0 rfl rfl rfl hl.1 rfl (Nat.le_of_ble_eq_true rfl) dX1_bestChange_3 ⟨Nat.zero_le _, Nat.zero_le _⟩ (fun H locs hP hD hS => ?_)
  clear e2
  refine lv_iconst (v := 1) hx hb dX1_bestChange_6 (by decide) ?_
  refine lv_istore_n (lv' := [(1, .int (1 : Int32)), (0, .ref (g 199))]) hx hb dX1_bestChange_7 rfl hl (by decide) rfl (fun ls hl => ?_)
  refine lv_iconst (v := 2) hx hb dX1_bestChange_8 (by decide) ?_
  refine lv_istore_n (lv' := [(2, .int (2 : Int32)), (1, .int (1 : Int32)), (0, .ref (g 199))]) hx hb dX1_bestChange_9 rfl hl (by decide) rfl (fun ls hl => ?_)
  exact w_X1_bestChange_10 C0 FU (1 : Int32) (2 : Int32) ub1 h _ _ ls hP hD hS (lv_sub hl [2, 1, 0] rfl)
