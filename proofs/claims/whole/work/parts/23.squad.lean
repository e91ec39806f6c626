theorem k_X6_reachOf_0 : Cond.fieldLink RX6 15 "FeatherHall$Squad" "reaches" "[I" ∈ wsX6_reachOf := (List.mem_cons_of_mem _ (List.mem_append_left _ (List.mem_of_getElem? (i := 0) rfl)))
theorem ki_X6_reachOf_X6 : ∀ w ∈ u_ws RX6 TX6 4, w ∈ wsX6_reachOf := fun _ hh => (List.mem_cons_of_mem _ (List.mem_append_right _ hh))
theorem hd_X6_reachOf : yX6_reachOf.cls = RX6 ∧ yX6_reachOf.cls ≠ "java/lang/invoke/MethodHandle" ∧ yX6_reachOf.cls ≠ "java/lang/invoke/VarHandle" ∧ (parseMethodDescriptor yX6_reachOf.desc).map (fun d => d.parameters.length) = some 1 := by decide +kernel
set_option maxHeartbeats 4000000 in
set_option maxRecDepth 100000 in
theorem c_X6_reachOf (l : Launch) (D : va_G) (cy : Nat → ClassId) (g : Nat → Nat) (us : St) (p0 : Int32) (r : Int32) (h : f_X6_reachOf us p0 = some r) : CtI l yX6_reachOf wsX6_reachOf (rmH 0) [.ref (g 699), .int p0] D cy (wX6 cy g us) (wX6 cy g us) r := by
  refine ct_enter (D := D) (cy := cy) (cc := cX6_reachOf) (maxL := 2) (ret := (some .int)) (w := wX6 cy g us) (Qc := fun sz => va_Qi (fun r' (_ : Unit) => r' = r) (Bw D cy (va_A (wX6 cy g us) sz) (wX6 cy g us)) (va_A (wX6 cy g us) sz)) (by decide) rfl (Nat.le_of_ble_eq_true rfl) ?_
  intro p e s m below meth c A C0 hAe ls hl hP hD hS
  have e1 : MQ below ((fun sz => va_Qi (fun r' (_ : Unit) => r' = r) (Bw D cy (va_A (wX6 cy g us) sz) (wX6 cy g us)) (va_A (wX6 cy g us) sz)) s.heap.size) [.ref (g 699), .int p0].toArray s 0 0 A = QI below [.ref (g 699), .int p0].toArray s A D cy (wX6 cy g us) r := by rw [hAe]; rfl
  rw [e1]
  clear e1 hAe
  obtain ⟨hx, hb, hr, hml, hown, hts, hlocks, hK, hA⟩ := id C0
  have hl : lv_has ls 2 [(0, .ref (g 699)), (1, .int p0)] := hl
  rw [f_X6_reachOf] at h
  refine lv_aload_n hx hb dX6_reachOf_0 rfl (lv_at hl 0 rfl) ?_
  refine va_get (D := D) (ci := 5) (v := .ref (g 601)) (C := RX6) (T := TX6) (N := 4) hx hb hts ki_X6_reachOf_X6 hown hK hP 0 rfl rfl 1 (by decide) (hts _ k_X6_reachOf_0) (fun _ h9 => h9) rfl dX6_reachOf_1 ?_
  refine lv_iload_n hx hb dX6_reachOf_4 rfl (lv_at hl 1 rfl) ?_
  refine x_iald hx hb hK hP 2 rfl rfl h dX6_reachOf_5 (fun v1 h => ?_)
  cases h
  exact x_iret hx hb hr hlocks hK hP hD hS dX6_reachOf_6 rfl rfl
theorem k_X6_comes_0 : Cond.fieldLink RX6 21 "FeatherHall$Squad" "strides" "[I" ∈ wsX6_comes := (List.mem_cons_of_mem _ (List.mem_append_left _ (List.mem_of_getElem? (i := 0) rfl)))
theorem ki_X6_comes_X6 : ∀ w ∈ u_ws RX6 TX6 4, w ∈ wsX6_comes := fun _ hh => (List.mem_cons_of_mem _ (List.mem_append_right _ hh))
theorem hd_X6_comes : yX6_comes.cls = RX6 ∧ yX6_comes.cls ≠ "java/lang/invoke/MethodHandle" ∧ yX6_comes.cls ≠ "java/lang/invoke/VarHandle" ∧ (parseMethodDescriptor yX6_comes.desc).map (fun d => d.parameters.length) = some 2 := by decide +kernel
set_option maxHeartbeats 4000000 in
set_option maxRecDepth 100000 in
theorem c_X6_comes (l : Launch) (D : va_G) (cy : Nat → ClassId) (g : Nat → Nat) (us : St) (p0 : Int32) (p1 : Int32) (r : Int32) (h : f_X6_comes us p0 p1 = some r) : CtI l yX6_comes wsX6_comes (rmH 0) [.ref (g 699), .int p0, .int p1] D cy (wX6 cy g us) (wX6 cy g us) r := by
  refine ct_enter (D := D) (cy := cy) (cc := cX6_comes) (maxL := 3) (ret := (some .int)) (w := wX6 cy g us) (Qc := fun sz => va_Qi (fun r' (_ : Unit) => r' = r) (Bw D cy (va_A (wX6 cy g us) sz) (wX6 cy g us)) (va_A (wX6 cy g us) sz)) (by decide) rfl (Nat.le_of_ble_eq_true rfl) ?_
  intro p e s m below meth c A C0 hAe ls hl hP hD hS
  have e1 : MQ below ((fun sz => va_Qi (fun r' (_ : Unit) => r' = r) (Bw D cy (va_A (wX6 cy g us) sz) (wX6 cy g us)) (va_A (wX6 cy g us) sz)) s.heap.size) [.ref (g 699), .int p0, .int p1].toArray s 0 0 A = QI below [.ref (g 699), .int p0, .int p1].toArray s A D cy (wX6 cy g us) r := by rw [hAe]; rfl
  rw [e1]
  clear e1 hAe
  obtain ⟨hx, hb, hr, hml, hown, hts, hlocks, hK, hA⟩ := id C0
  have hl : lv_has ls 3 [(0, .ref (g 699)), (1, .int p0), (2, .int p1)] := hl
  rw [f_X6_comes] at h
  refine lv_iload_n hx hb dX6_comes_0 rfl (lv_at hl 2 rfl) ?_
  refine lv_aload_n hx hb dX6_comes_1 rfl (lv_at hl 0 rfl) ?_
  refine va_get (D := D) (ci := 5) (v := .ref (g 603)) (C := RX6) (T := TX6) (N := 4) hx hb hts ki_X6_comes_X6 hown hK hP 0 rfl rfl 3 (by decide) (hts _ k_X6_comes_0) (fun _ h9 => h9) rfl dX6_comes_2 ?_
  refine lv_iload_n hx hb dX6_comes_5 rfl (lv_at hl 1 rfl) ?_
  refine x_iald hx hb hK hP 4 rfl rfl h dX6_comes_6 (fun v1 h => ?_)
  refine lv_imul hx hb dX6_comes_7 ?_
  refine lv_bipush (v := 10) hx hb dX6_comes_8 (by decide) ?_
  refine lv_idiv hx hb dX6_comes_10 (by decide) ?_
  cases h
  exact x_iret hx hb hr hlocks hK hP hD hS dX6_comes_11 rfl rfl
theorem k_X6_meetingCells_0 : Cond.fieldLink RX6 15 "FeatherHall$Squad" "reaches" "[I" ∈ wsX6_meetingCells := (List.mem_cons_of_mem _ (List.mem_append_left _ (List.mem_append_left _ (List.mem_of_getElem? (i := 0) rfl))))
theorem ki_X6_meetingCells_X6 : ∀ w ∈ u_ws RX6 TX6 4, w ∈ wsX6_meetingCells := fun _ hh => (List.mem_cons_of_mem _ (List.mem_append_right _ hh))
theorem hd_X6_meetingCells : yX6_meetingCells.cls = RX6 ∧ yX6_meetingCells.cls ≠ "java/lang/invoke/MethodHandle" ∧ yX6_meetingCells.cls ≠ "java/lang/invoke/VarHandle" ∧ (parseMethodDescriptor yX6_meetingCells.desc).map (fun d => d.parameters.length) = some 3 := by decide +kernel
set_option maxHeartbeats 4000000 in
set_option maxRecDepth 100000 in
theorem c_X6_meetingCells (l : Launch) (D : va_G) (cy : Nat → ClassId) (g : Nat → Nat) (us : St) (p0 : Int32) (p1 : Int32) (p2 : Int32) (r : Int32) (h : f_X6_meetingCells us p0 p1 p2 = some r) : CtI l yX6_meetingCells wsX6_meetingCells (rmH 2) [.ref (g 699), .int p0, .int p1, .int p2] D cy (wX6 cy g us) (wX6 cy g us) r := by
  refine ct_enter (D := D) (cy := cy) (cc := cX6_meetingCells) (maxL := 4) (ret := (some .int)) (w := wX6 cy g us) (Qc := fun sz => va_Qi (fun r' (_ : Unit) => r' = r) (Bw D cy (va_A (wX6 cy g us) sz) (wX6 cy g us)) (va_A (wX6 cy g us) sz)) (by decide) rfl (Nat.le_of_ble_eq_true rfl) ?_
  intro p e s m below meth c A C0 hAe ls hl hP hD hS
  have e1 : MQ below ((fun sz => va_Qi (fun r' (_ : Unit) => r' = r) (Bw D cy (va_A (wX6 cy g us) sz) (wX6 cy g us)) (va_A (wX6 cy g us) sz)) s.heap.size) [.ref (g 699), .int p0, .int p1, .int p2].toArray s 0 0 A = QI below [.ref (g 699), .int p0, .int p1, .int p2].toArray s A D cy (wX6 cy g us) r := by rw [hAe]; rfl
  rw [e1]
  clear e1 hAe
  obtain ⟨hx, hb, hr, hml, hown, hts, hlocks, hK, hA⟩ := id C0
  have hl : lv_has ls 4 [(0, .ref (g 699)), (1, .int p0), (2, .int p1), (3, .int p2)] := hl
  rw [f_X6_meetingCells] at h
  refine lv_iload_n hx hb dX6_meetingCells_0 rfl (lv_at hl 2 rfl) ?_
  refine lv_aload_n hx hb dX6_meetingCells_1 rfl (lv_at hl 0 rfl) ?_
  refine lv_iload_n hx hb dX6_meetingCells_2 rfl (lv_at hl 1 rfl) ?_
  refine lv_iload_n hx hb dX6_meetingCells_3 rfl (lv_at hl 3 rfl) ?_
  obtain ⟨r1, e2, h⟩ := bd_some h
  refine x_callVI (As := [.int p0, .int p2]) (rest := [.int p1]) (n := 2) ⟨hx, hb, hml, hown, hts⟩ (c_X6_comes l D cy g us p0 p2 r1 e2) gX6_meetingCells_X6_comes rfl hd_X6_comes ⟨Nat.le_of_ble_eq_true rfl, Nat.le_of_ble_eq_true rfl⟩ ⟨rfl, rfl⟩ hK (sp_all _) (sp_all _) hP hD hS hA 0 rfl rfl rfl hl.1 rfl (Nat.le_of_ble_eq_true rfl) dX6_meetingCells_4 ⟨Nat.zero_le _, Nat.zero_le _⟩ (fun H locs hP hD hS => ?_)
  clear e2
  refine lv_aload_n hx hb dX6_meetingCells_7 rfl (lv_at hl 0 rfl) ?_
  refine va_get (D := D) (ci := 5) (v := .ref (g 601)) (C := RX6) (T := TX6) (N := 4) hx hb hts ki_X6_meetingCells_X6 hown hK hP 0 rfl rfl 1 (by decide) (hts _ k_X6_meetingCells_0) (fun _ h9 => h9) rfl dX6_meetingCells_8 ?_
  refine lv_iload_n hx hb dX6_meetingCells_11 rfl (lv_at hl 1 rfl) ?_
  refine x_iald hx hb hK hP 2 rfl rfl h dX6_meetingCells_12 (fun v3 h => ?_)
  refine lv_iadd hx hb dX6_meetingCells_13 ?_
  obtain ⟨r4, e5, h⟩ := bd_some h
  refine x_callSI (As := [.int p1, .int (r1 + v3)]) (rest := []) (n := 2) ⟨hx, hb, hml, hown, hts⟩ (c_X2_near l D cy  p1 (r1 + v3) r4 e5) gX6_meetingCells_X2_near rfl hd_X2_near ⟨Nat.le_of_ble_eq_true rfl, Nat.le_of_ble_eq_true rfl⟩ ⟨rfl, rfl⟩ hK (sp_nil _) (sp_nil _) hP hD hS hA rfl hl.1 rfl (Nat.le_of_ble_eq_true rfl) dX6_meetingCells_14 ⟨Nat.zero_le _, Nat.zero_le _⟩ (fun H locs hP hD hS => ?_)
  clear e5
  cases h
  exact x_iret hx hb hr hlocks hK hP hD hS dX6_meetingCells_17 rfl rfl
theorem k_X6_setStride_0 : Cond.fieldLink RX6 21 "FeatherHall$Squad" "strides" "[I" ∈ wsX6_setStride := (List.mem_cons_of_mem _ (List.mem_append_left _ (List.mem_of_getElem? (i := 0) rfl)))
theorem ki_X6_setStride_X6 : ∀ w ∈ u_ws RX6 TX6 4, w ∈ wsX6_setStride := fun _ hh => (List.mem_cons_of_mem _ (List.mem_append_right _ hh))
theorem k_X6_setStride_1 : Cond.fieldLink RX6 9 "FeatherHall$Squad" "paces" "[I" ∈ wsX6_setStride := (List.mem_cons_of_mem _ (List.mem_append_left _ (List.mem_of_getElem? (i := 1) rfl)))
theorem k_X6_setStride_2 : Cond.fieldLink RX6 18 "FeatherHall$Squad" "tireds" "[I" ∈ wsX6_setStride := (List.mem_cons_of_mem _ (List.mem_append_left _ (List.mem_of_getElem? (i := 2) rfl)))
theorem k_X6_setStride_3 : Cond.methodLink RX6 40 Lib.Math.max.name ∈ wsX6_setStride := (List.mem_cons_of_mem _ (List.mem_append_left _ (List.mem_of_getElem? (i := 3) rfl)))
theorem k_X6_setStride_4 : Cond.static Lib.Math.max.name ∈ wsX6_setStride := (List.mem_cons_of_mem _ (List.mem_append_left _ (List.mem_of_getElem? (i := 4) rfl)))
theorem k_X6_setStride_5 : Cond.initialized "java/lang/Math" ∈ wsX6_setStride := (List.mem_cons_of_mem _ (List.mem_append_left _ (List.mem_of_getElem? (i := 5) rfl)))
theorem k_X6_setStride_6 : Cond.code Lib.Math.max.name Lib.Math.max.code 2 (some .int) ∈ wsX6_setStride := (List.mem_cons_of_mem _ (List.mem_append_left _ (List.mem_of_getElem? (i := 6) rfl)))
theorem hd_X6_setStride : yX6_setStride.cls = RX6 ∧ yX6_setStride.cls ≠ "java/lang/invoke/MethodHandle" ∧ yX6_setStride.cls ≠ "java/lang/invoke/VarHandle" ∧ (parseMethodDescriptor yX6_setStride.desc).map (fun d => d.parameters.length) = some 1 := by decide +kernel
set_option maxHeartbeats 4000000 in
set_option maxRecDepth 100000 in
theorem c_X6_setStride (l : Launch) (D : va_G) (cy : Nat → ClassId) (g : Nat → Nat) (us : St) (p0 : Int32) (us' : St) (h : f_X6_setStride p0 us = some us') : CtV l yX6_setStride wsX6_setStride (rmH 1) [.ref (g 699), .int p0] D cy (wX6 cy g us) (wX6 cy g us') := by
  refine ct_enter (D := D) (cy := cy) (cc := cX6_setStride) (maxL := 2) (ret := none) (w := wX6 cy g us) (Qc := fun sz => va_Qv (fun (_ : Unit) => True) (Bw D cy (va_A (wX6 cy g us) sz) (wX6 cy g us')) (va_A (wX6 cy g us) sz)) (by decide) rfl (Nat.le_of_ble_eq_true rfl) ?_
  intro p e s m below meth c A C0 hAe ls hl hP hD hS
  have e1 : MQ below ((fun sz => va_Qv (fun (_ : Unit) => True) (Bw D cy (va_A (wX6 cy g us) sz) (wX6 cy g us')) (va_A (wX6 cy g us) sz)) s.heap.size) [.ref (g 699), .int p0].toArray s 0 0 A = QV below [.ref (g 699), .int p0].toArray s A D cy (wX6 cy g us') := by rw [hAe]; rfl
  rw [e1]
  clear e1 hAe
  obtain ⟨hx, hb, hr, hml, hown, hts, hlocks, hK, hA⟩ := id C0
  have hl : lv_has ls 2 [(0, .ref (g 699)), (1, .int p0)] := hl
  rw [f_X6_setStride] at h
  refine lv_aload_n hx hb dX6_setStride_0 rfl (lv_at hl 0 rfl) ?_
  refine va_get (D := D) (ci := 5) (v := .ref (g 603)) (C := RX6) (T := TX6) (N := 4) hx hb hts ki_X6_setStride_X6 hown hK hP 0 rfl rfl 3 (by decide) (hts _ k_X6_setStride_0) (fun _ h9 => h9) rfl dX6_setStride_1 ?_
  refine lv_iload_n hx hb dX6_setStride_4 rfl (lv_at hl 1 rfl) ?_
  refine lv_iconst (v := 1) hx hb dX6_setStride_5 (by decide) ?_
  refine lv_aload_n hx hb dX6_setStride_6 rfl (lv_at hl 0 rfl) ?_
  refine va_get (D := D) (ci := 5) (v := .ref (g 600)) (C := RX6) (T := TX6) (N := 4) hx hb hts ki_X6_setStride_X6 hown hK hP 0 rfl rfl 0 (by decide) (hts _ k_X6_setStride_1) (fun _ h9 => h9) rfl dX6_setStride_7 ?_
  refine lv_iload_n hx hb dX6_setStride_10 rfl (lv_at hl 1 rfl) ?_
  refine x_iald hx hb hK hP 1 rfl rfl h dX6_setStride_11 (fun v1 h => ?_)
  refine lv_sipush (v := 200) hx hb dX6_setStride_12 (by decide) ?_
  refine lv_aload_n hx hb dX6_setStride_15 rfl (lv_at hl 0 rfl) ?_
  refine va_get (D := D) (ci := 5) (v := .ref (g 602)) (C := RX6) (T := TX6) (N := 4) hx hb hts ki_X6_setStride_X6 hown hK hP 0 rfl rfl 2 (by decide) (hts _ k_X6_setStride_2) (fun _ h9 => h9) rfl dX6_setStride_16 ?_
  refine lv_iload_n hx hb dX6_setStride_19 rfl (lv_at hl 1 rfl) ?_
  refine x_iald hx hb hK hP 3 rfl rfl h dX6_setStride_20 (fun v2 h => ?_)
  refine lv_isub hx hb dX6_setStride_21 ?_
  refine lv_imul hx hb dX6_setStride_22 ?_
  refine lv_sipush (v := 200) hx hb dX6_setStride_23 (by decide) ?_
  refine lv_idiv hx hb dX6_setStride_26 (by decide) ?_
  refine x_nm h (fun v3 h => ?_)
  refine va_mmax hx hb (hml.trans hl.1.symm) hown (hts _ k_X6_setStride_3) (hts _ k_X6_setStride_4) (hts _ k_X6_setStride_5) (hts _ k_X6_setStride_6) (Nat.le_of_ble_eq_true rfl) (Nat.le_of_ble_eq_true rfl) (Nat.zero_le _) (Nat.zero_le _) dX6_setStride_27 ?_
  refine x_nm h (fun v4 h => ?_)
  refine x_iast (Wd := (fun uz => wX6 cy g uz)) (u := us) (k := 3) hx hb hK hP hD hS 4 rfl rfl (fun _ => rfl) h dX6_setStride_30 (fun us5 H locs h hP hD hS => ?_)
  cases h
  exact x_vret hx hb hr hlocks hK hP hD hS dX6_setStride_31 rfl
theorem k_X6_setPlayer_0 : Cond.fieldLink RX6 9 "FeatherHall$Squad" "paces" "[I" ∈ wsX6_setPlayer := (List.mem_cons_of_mem _ (List.mem_append_left _ (List.mem_of_getElem? (i := 0) rfl)))
theorem ki_X6_setPlayer_X6 : ∀ w ∈ u_ws RX6 TX6 4, w ∈ wsX6_setPlayer := fun _ hh => (List.mem_cons_of_mem _ (List.mem_append_right _ hh))
theorem k_X6_setPlayer_1 : Cond.fieldLink RX6 15 "FeatherHall$Squad" "reaches" "[I" ∈ wsX6_setPlayer := (List.mem_cons_of_mem _ (List.mem_append_left _ (List.mem_of_getElem? (i := 1) rfl)))
theorem hd_X6_setPlayer : yX6_setPlayer.cls = RX6 ∧ yX6_setPlayer.cls ≠ "java/lang/invoke/MethodHandle" ∧ yX6_setPlayer.cls ≠ "java/lang/invoke/VarHandle" ∧ (parseMethodDescriptor yX6_setPlayer.desc).map (fun d => d.parameters.length) = some 3 := by decide +kernel
set_option maxHeartbeats 4000000 in
set_option maxRecDepth 100000 in
theorem c_X6_setPlayer (l : Launch) (D : va_G) (cy : Nat → ClassId) (g : Nat → Nat) (us : St) (p0 : Int32) (p1 : Int32) (p2 : Int32) (us' : St) (h : f_X6_setPlayer p0 p1 p2 us = some us') : CtV l yX6_setPlayer wsX6_setPlayer (rmH 2) [.ref (g 699), .int p0, .int p1, .int p2] D cy (wX6 cy g us) (wX6 cy g us') := by
  refine ct_enter (D := D) (cy := cy) (cc := cX6_setPlayer) (maxL := 4) (ret := none) (w := wX6 cy g us) (Qc := fun sz => va_Qv (fun (_ : Unit) => True) (Bw D cy (va_A (wX6 cy g us) sz) (wX6 cy g us')) (va_A (wX6 cy g us) sz)) (by decide) rfl (Nat.le_of_ble_eq_true rfl) ?_
  intro p e s m below meth c A C0 hAe ls hl hP hD hS
  have e1 : MQ below ((fun sz => va_Qv (fun (_ : Unit) => True) (Bw D cy (va_A (wX6 cy g us) sz) (wX6 cy g us')) (va_A (wX6 cy g us) sz)) s.heap.size) [.ref (g 699), .int p0, .int p1, .int p2].toArray s 0 0 A = QV below [.ref (g 699), .int p0, .int p1, .int p2].toArray s A D cy (wX6 cy g us') := by rw [hAe]; rfl
  rw [e1]
  clear e1 hAe
  obtain ⟨hx, hb, hr, hml, hown, hts, hlocks, hK, hA⟩ := id C0
  have hl : lv_has ls 4 [(0, .ref (g 699)), (1, .int p0), (2, .int p1), (3, .int p2)] := hl
  rw [f_X6_setPlayer] at h
  refine lv_aload_n hx hb dX6_setPlayer_0 rfl (lv_at hl 0 rfl) ?_
  refine va_get (D := D) (ci := 5) (v := .ref (g 600)) (C := RX6) (T := TX6) (N := 4) hx hb hts ki_X6_setPlayer_X6 hown hK hP 0 rfl rfl 0 (by decide) (hts _ k_X6_setPlayer_0) (fun _ h9 => h9) rfl dX6_setPlayer_1 ?_
  refine lv_iload_n hx hb dX6_setPlayer_4 rfl (lv_at hl 1 rfl) ?_
  refine lv_iload_n hx hb dX6_setPlayer_5 rfl (lv_at hl 2 rfl) ?_
  refine x_iast (Wd := (fun uz => wX6 cy g uz)) (u := us) (k := 0) hx hb hK hP hD hS 1 rfl rfl (fun _ => rfl) h dX6_setPlayer_6 (fun us1 H locs h hP hD hS => ?_)
  refine lv_aload_n hx hb dX6_setPlayer_7 rfl (lv_at hl 0 rfl) ?_
  refine va_get (D := D) (ci := 5) (v := .ref (g 601)) (C := RX6) (T := TX6) (N := 4) hx hb hts ki_X6_setPlayer_X6 hown hK hP 0 rfl rfl 1 (by decide) (hts _ k_X6_setPlayer_1) (fun _ h9 => h9) rfl dX6_setPlayer_8 ?_
  refine lv_iload_n hx hb dX6_setPlayer_11 rfl (lv_at hl 1 rfl) ?_
  refine lv_iload_n hx hb dX6_setPlayer_12 rfl (lv_at hl 3 rfl) ?_
  refine x_iast (Wd := (fun uz => wX6 cy g uz)) (u := us1) (k := 1) hx hb hK hP hD hS 2 rfl rfl (fun _ => rfl) h dX6_setPlayer_13 (fun us2 H locs h hP hD hS => ?_)
  refine lv_aload_n hx hb dX6_setPlayer_14 rfl (lv_at hl 0 rfl) ?_
  refine lv_iload_n hx hb dX6_setPlayer_15 rfl (lv_at hl 1 rfl) ?_
  obtain ⟨us3, e4, h⟩ := bd_some h
  refine x_callVV (As := [.int p0]) (rest := []) (n := 1) ⟨hx, hb, hml, hown, hts⟩ (c_X6_setStride l D cy g us2 p0 us3 e4) gX6_setPlayer_X6_setStride rfl hd_X6_setStride ⟨Nat.le_of_ble_eq_true rfl, Nat.le_of_ble_eq_true rfl⟩ ⟨rfl, rfl⟩ hK (sp_all _) (sp_all _) hP hD hS hA 0 rfl rfl rfl hl.1 rfl (Nat.le_of_ble_eq_true rfl) dX6_setPlayer_16 ⟨Nat.zero_le _, Nat.zero_le _⟩ (fun H locs hP hD hS => ?_)
  clear e4
  cases h
  exact x_vret hx hb hr hlocks hK hP hD hS dX6_setPlayer_19 rfl
theorem k_X6_tire_0 : Cond.fieldLink RX6 18 "FeatherHall$Squad" "tireds" "[I" ∈ wsX6_tire := (List.mem_cons_of_mem _ (List.mem_append_left _ (List.mem_of_getElem? (i := 0) rfl)))
theorem ki_X6_tire_X6 : ∀ w ∈ u_ws RX6 TX6 4, w ∈ wsX6_tire := fun _ hh => (List.mem_cons_of_mem _ (List.mem_append_right _ hh))
theorem k_X6_tire_1 : Cond.methodLink RX6 34 Lib.Math.min.name ∈ wsX6_tire := (List.mem_cons_of_mem _ (List.mem_append_left _ (List.mem_of_getElem? (i := 1) rfl)))
theorem k_X6_tire_2 : Cond.static Lib.Math.min.name ∈ wsX6_tire := (List.mem_cons_of_mem _ (List.mem_append_left _ (List.mem_of_getElem? (i := 2) rfl)))
theorem k_X6_tire_3 : Cond.initialized "java/lang/Math" ∈ wsX6_tire := (List.mem_cons_of_mem _ (List.mem_append_left _ (List.mem_of_getElem? (i := 3) rfl)))
theorem k_X6_tire_4 : Cond.code Lib.Math.min.name Lib.Math.min.code 2 (some .int) ∈ wsX6_tire := (List.mem_cons_of_mem _ (List.mem_append_left _ (List.mem_of_getElem? (i := 4) rfl)))
theorem k_X6_tire_5 : Cond.methodLink RX6 40 Lib.Math.max.name ∈ wsX6_tire := (List.mem_cons_of_mem _ (List.mem_append_left _ (List.mem_of_getElem? (i := 5) rfl)))
theorem k_X6_tire_6 : Cond.static Lib.Math.max.name ∈ wsX6_tire := (List.mem_cons_of_mem _ (List.mem_append_left _ (List.mem_of_getElem? (i := 6) rfl)))
theorem k_X6_tire_7 : Cond.code Lib.Math.max.name Lib.Math.max.code 2 (some .int) ∈ wsX6_tire := (List.mem_cons_of_mem _ (List.mem_append_left _ (List.mem_of_getElem? (i := 7) rfl)))
theorem hd_X6_tire : yX6_tire.cls = RX6 ∧ yX6_tire.cls ≠ "java/lang/invoke/MethodHandle" ∧ yX6_tire.cls ≠ "java/lang/invoke/VarHandle" ∧ (parseMethodDescriptor yX6_tire.desc).map (fun d => d.parameters.length) = some 2 := by decide +kernel
set_option maxHeartbeats 4000000 in
set_option maxRecDepth 100000 in
theorem c_X6_tire (l : Launch) (D : va_G) (cy : Nat → ClassId) (g : Nat → Nat) (us : St) (p0 : Int32) (p1 : Int32) (r : Int32) (us' : St) (h : f_X6_tire p0 p1 us = some (r, us')) : CtI l yX6_tire wsX6_tire (rmH 2) [.ref (g 699), .int p0, .int p1] D cy (wX6 cy g us) (wX6 cy g us') r := by
  refine ct_enter (D := D) (cy := cy) (cc := cX6_tire) (maxL := 3) (ret := (some .int)) (w := wX6 cy g us) (Qc := fun sz => va_Qi (fun r' (_ : Unit) => r' = r) (Bw D cy (va_A (wX6 cy g us) sz) (wX6 cy g us')) (va_A (wX6 cy g us) sz)) (by decide) rfl (Nat.le_of_ble_eq_true rfl) ?_
  intro p e s m below meth c A C0 hAe ls hl hP hD hS
  have e1 : MQ below ((fun sz => va_Qi (fun r' (_ : Unit) => r' = r) (Bw D cy (va_A (wX6 cy g us) sz) (wX6 cy g us')) (va_A (wX6 cy g us) sz)) s.heap.size) [.ref (g 699), .int p0, .int p1].toArray s 0 0 A = QI below [.ref (g 699), .int p0, .int p1].toArray s A D cy (wX6 cy g us') r := by rw [hAe]; rfl
  rw [e1]
  clear e1 hAe
  obtain ⟨hx, hb, hr, hml, hown, hts, hlocks, hK, hA⟩ := id C0
  have hl : lv_has ls 3 [(0, .ref (g 699)), (1, .int p0), (2, .int p1)] := hl
  rw [f_X6_tire] at h
  refine lv_aload_n hx hb dX6_tire_0 rfl (lv_at hl 0 rfl) ?_
  refine va_get (D := D) (ci := 5) (v := .ref (g 602)) (C := RX6) (T := TX6) (N := 4) hx hb hts ki_X6_tire_X6 hown hK hP 0 rfl rfl 2 (by decide) (hts _ k_X6_tire_0) (fun _ h9 => h9) rfl dX6_tire_1 ?_
  refine lv_iload_n hx hb dX6_tire_4 rfl (lv_at hl 1 rfl) ?_
  refine lv_iconst (v := 0) hx hb dX6_tire_5 (by decide) ?_
  refine lv_bipush (v := 100) hx hb dX6_tire_6 (by decide) ?_
  refine lv_aload_n hx hb dX6_tire_8 rfl (lv_at hl 0 rfl) ?_
  refine va_get (D := D) (ci := 5) (v := .ref (g 602)) (C := RX6) (T := TX6) (N := 4) hx hb hts ki_X6_tire_X6 hown hK hP 0 rfl rfl 2 (by decide) (hts _ k_X6_tire_0) (fun _ h9 => h9) rfl dX6_tire_9 ?_
  refine lv_iload_n hx hb dX6_tire_12 rfl (lv_at hl 1 rfl) ?_
  refine x_iald hx hb hK hP 3 rfl rfl h dX6_tire_13 (fun v1 h => ?_)
  refine lv_iload_n hx hb dX6_tire_14 rfl (lv_at hl 2 rfl) ?_
  refine lv_iadd hx hb dX6_tire_15 ?_
  refine x_nm h (fun v2 h => ?_)
  refine va_mmin hx hb (hml.trans hl.1.symm) hown (hts _ k_X6_tire_1) (hts _ k_X6_tire_2) (hts _ k_X6_tire_3) (hts _ k_X6_tire_4) (Nat.le_of_ble_eq_true rfl) (Nat.le_of_ble_eq_true rfl) (Nat.zero_le _) (Nat.zero_le _) dX6_tire_16 ?_
  refine x_nm h (fun v3 h => ?_)
  refine va_mmax hx hb (hml.trans hl.1.symm) hown (hts _ k_X6_tire_5) (hts _ k_X6_tire_6) (hts _ k_X6_tire_3) (hts _ k_X6_tire_7) (Nat.le_of_ble_eq_true rfl) (Nat.le_of_ble_eq_true rfl) (Nat.zero_le _) (Nat.zero_le _) dX6_tire_19 ?_
  refine x_nm h (fun v4 h => ?_)
  refine x_iast (Wd := (fun uz => wX6 cy g uz)) (u := us) (k := 2) hx hb hK hP hD hS 3 rfl rfl (fun _ => rfl) h dX6_tire_22 (fun us5 H locs h hP hD hS => ?_)
  refine lv_aload_n hx hb dX6_tire_23 rfl (lv_at hl 0 rfl) ?_
  refine lv_iload_n hx hb dX6_tire_24 rfl (lv_at hl 1 rfl) ?_
  obtain ⟨us6, e7, h⟩ := bd_some h
  refine x_callVV (As := [.int p0]) (rest := []) (n := 1) ⟨hx, hb, hml, hown, hts⟩ (c_X6_setStride l D cy g us5 p0 us6 e7) gX6_tire_X6_setStride rfl hd_X6_setStride ⟨Nat.le_of_ble_eq_true rfl, Nat.le_of_ble_eq_true rfl⟩ ⟨rfl, rfl⟩ hK (sp_all _) (sp_all _) hP hD hS hA 0 rfl rfl rfl hl.1 rfl (Nat.le_of_ble_eq_true rfl) dX6_tire_25 ⟨Nat.zero_le _, Nat.zero_le _⟩ (fun H locs hP hD hS => ?_)
  clear e7
  refine lv_aload_n hx hb dX6_tire_28 rfl (lv_at hl 0 rfl) ?_
  refine va_get (D := D) (ci := 5) (v := .ref (g 602)) (C := RX6) (T := TX6) (N := 4) hx hb hts ki_X6_tire_X6 hown hK hP 0 rfl rfl 2 (by decide) (hts _ k_X6_tire_0) (fun _ h9 => h9) rfl dX6_tire_29 ?_
  refine lv_iload_n hx hb dX6_tire_32 rfl (lv_at hl 1 rfl) ?_
  refine x_iald hx hb hK hP 3 rfl rfl h dX6_tire_33 (fun v8 h => ?_)
  cases h
  exact x_iret hx hb hr hlocks hK hP hD hS dX6_tire_34 rfl rfl
theorem k_X6_tiredOf_0 : Cond.fieldLink RX6 18 "FeatherHall$Squad" "tireds" "[I" ∈ wsX6_tiredOf := (List.mem_cons_of_mem _ (List.mem_append_left _ (List.mem_of_getElem? (i := 0) rfl)))
theorem ki_X6_tiredOf_X6 : ∀ w ∈ u_ws RX6 TX6 4, w ∈ wsX6_tiredOf := fun _ hh => (List.mem_cons_of_mem _ (List.mem_append_right _ hh))
theorem hd_X6_tiredOf : yX6_tiredOf.cls = RX6 ∧ yX6_tiredOf.cls ≠ "java/lang/invoke/MethodHandle" ∧ yX6_tiredOf.cls ≠ "java/lang/invoke/VarHandle" ∧ (parseMethodDescriptor yX6_tiredOf.desc).map (fun d => d.parameters.length) = some 1 := by decide +kernel
set_option maxHeartbeats 4000000 in
set_option maxRecDepth 100000 in
theorem c_X6_tiredOf (l : Launch) (D : va_G) (cy : Nat → ClassId) (g : Nat → Nat) (us : St) (p0 : Int32) (r : Int32) (h : f_X6_tiredOf us p0 = some r) : CtI l yX6_tiredOf wsX6_tiredOf (rmH 0) [.ref (g 699), .int p0] D cy (wX6 cy g us) (wX6 cy g us) r := by
  refine ct_enter (D := D) (cy := cy) (cc := cX6_tiredOf) (maxL := 2) (ret := (some .int)) (w := wX6 cy g us) (Qc := fun sz => va_Qi (fun r' (_ : Unit) => r' = r) (Bw D cy (va_A (wX6 cy g us) sz) (wX6 cy g us)) (va_A (wX6 cy g us) sz)) (by decide) rfl (Nat.le_of_ble_eq_true rfl) ?_
  intro p e s m below meth c A C0 hAe ls hl hP hD hS
  have e1 : MQ below ((fun sz => va_Qi (fun r' (_ : Unit) => r' = r) (Bw D cy (va_A (wX6 cy g us) sz) (wX6 cy g us)) (va_A (wX6 cy g us) sz)) s.heap.size) [.ref (g 699), .int p0].toArray s 0 0 A = QI below [.ref (g 699), .int p0].toArray s A D cy (wX6 cy g us) r := by rw [hAe]; rfl
  rw [e1]
  clear e1 hAe
  obtain ⟨hx, hb, hr, hml, hown, hts, hlocks, hK, hA⟩ := id C0
  have hl : lv_has ls 2 [(0, .ref (g 699)), (1, .int p0)] := hl
  rw [f_X6_tiredOf] at h
  refine lv_aload_n hx hb dX6_tiredOf_0 rfl (lv_at hl 0 rfl) ?_
  refine va_get (D := D) (ci := 5) (v := .ref (g 602)) (C := RX6) (T := TX6) (N := 4) hx hb hts ki_X6_tiredOf_X6 hown hK hP 0 rfl rfl 2 (by decide) (hts _ k_X6_tiredOf_0) (fun _ h9 => h9) rfl dX6_tiredOf_1 ?_
  refine lv_iload_n hx hb dX6_tiredOf_4 rfl (lv_at hl 1 rfl) ?_
  refine x_iald hx hb hK hP 3 rfl rfl h dX6_tiredOf_5 (fun v1 h => ?_)
  cases h
  exact x_iret hx hb hr hlocks hK hP hD hS dX6_tiredOf_6 rfl rfl
theorem k_X6_strideOf_0 : Cond.fieldLink RX6 21 "FeatherHall$Squad" "strides" "[I" ∈ wsX6_strideOf := (List.mem_cons_of_mem _ (List.mem_append_left _ (List.mem_of_getElem? (i := 0) rfl)))
theorem ki_X6_strideOf_X6 : ∀ w ∈ u_ws RX6 TX6 4, w ∈ wsX6_strideOf := fun _ hh => (List.mem_cons_of_mem _ (List.mem_append_right _ hh))
theorem hd_X6_strideOf : yX6_strideOf.cls = RX6 ∧ yX6_strideOf.cls ≠ "java/lang/invoke/MethodHandle" ∧ yX6_strideOf.cls ≠ "java/lang/invoke/VarHandle" ∧ (parseMethodDescriptor yX6_strideOf.desc).map (fun d => d.parameters.length) = some 1 := by decide +kernel
set_option maxHeartbeats 4000000 in
set_option maxRecDepth 100000 in
theorem c_X6_strideOf (l : Launch) (D : va_G) (cy : Nat → ClassId) (g : Nat → Nat) (us : St) (p0 : Int32) (r : Int32) (h : f_X6_strideOf us p0 = some r) : CtI l yX6_strideOf wsX6_strideOf (rmH 0) [.ref (g 699), .int p0] D cy (wX6 cy g us) (wX6 cy g us) r := by
  refine ct_enter (D := D) (cy := cy) (cc := cX6_strideOf) (maxL := 2) (ret := (some .int)) (w := wX6 cy g us) (Qc := fun sz => va_Qi (fun r' (_ : Unit) => r' = r) (Bw D cy (va_A (wX6 cy g us) sz) (wX6 cy g us)) (va_A (wX6 cy g us) sz)) (by decide) rfl (Nat.le_of_ble_eq_true rfl) ?_
  intro p e s m below meth c A C0 hAe ls hl hP hD hS
  have e1 : MQ below ((fun sz => va_Qi (fun r' (_ : Unit) => r' = r) (Bw D cy (va_A (wX6 cy g us) sz) (wX6 cy g us)) (va_A (wX6 cy g us) sz)) s.heap.size) [.ref (g 699), .int p0].toArray s 0 0 A = QI below [.ref (g 699), .int p0].toArray s A D cy (wX6 cy g us) r := by rw [hAe]; rfl
  rw [e1]
  clear e1 hAe
  obtain ⟨hx, hb, hr, hml, hown, hts, hlocks, hK, hA⟩ := id C0
  have hl : lv_has ls 2 [(0, .ref (g 699)), (1, .int p0)] := hl
  rw [f_X6_strideOf] at h
  refine lv_aload_n hx hb dX6_strideOf_0 rfl (lv_at hl 0 rfl) ?_
  refine va_get (D := D) (ci := 5) (v := .ref (g 603)) (C := RX6) (T := TX6) (N := 4) hx hb hts ki_X6_strideOf_X6 hown hK hP 0 rfl rfl 3 (by decide) (hts _ k_X6_strideOf_0) (fun _ h9 => h9) rfl dX6_strideOf_1 ?_
  refine lv_iload_n hx hb dX6_strideOf_4 rfl (lv_at hl 1 rfl) ?_
  refine x_iald hx hb hK hP 4 rfl rfl h dX6_strideOf_5 (fun v1 h => ?_)
  cases h
  exact x_iret hx hb hr hlocks hK hP hD hS dX6_strideOf_6 rfl rfl
