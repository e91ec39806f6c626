theorem k_X4_setCourts_0 : Cond.fieldLink RX4 31 "FeatherHall$Evening" "courtsNow" "I" ∈ wsX4_setCourts := (List.mem_cons_of_mem _ (List.mem_append_left _ (List.mem_of_getElem? (i := 0) rfl)))
theorem ki_X4_setCourts_X4 : ∀ w ∈ u_ws RX4 TX4 14, w ∈ wsX4_setCourts := fun _ hh => (List.mem_cons_of_mem _ (List.mem_append_right _ hh))
theorem k_X4_setCourts_1 : Cond.fieldLink RX4 41 "FeatherHall$Evening" "isSought" "Z" ∈ wsX4_setCourts := (List.mem_cons_of_mem _ (List.mem_append_left _ (List.mem_of_getElem? (i := 1) rfl)))
theorem hd_X4_setCourts : yX4_setCourts.cls = RX4 ∧ yX4_setCourts.cls ≠ "java/lang/invoke/MethodHandle" ∧ yX4_setCourts.cls ≠ "java/lang/invoke/VarHandle" ∧ (parseMethodDescriptor yX4_setCourts.desc).map (fun d => d.parameters.length) = some 1 := by decide +kernel
set_option maxHeartbeats 4000000 in
set_option maxRecDepth 100000 in
theorem c_X4_setCourts (l : Launch) (D : va_G) (cy : Nat → ClassId) (g : Nat → Nat) (ue : St) (p0 : Int32) (r : Int32) (ue' : St) (h : f_X4_setCourts p0 ue = some (r, ue')) : CtI l yX4_setCourts wsX4_setCourts (rmH 0) [.ref (g 499), .int p0] D cy (wX4 cy g ue) (wX4 cy g ue') r := by
  refine ct_enter (D := D) (cy := cy) (cc := cX4_setCourts) (maxL := 3) (ret := (some .int)) (w := wX4 cy g ue) (Qc := fun sz => va_Qi (fun r' (_ : Unit) => r' = r) (Bw D cy (va_A (wX4 cy g ue) sz) (wX4 cy g ue')) (va_A (wX4 cy g ue) sz)) (by decide) rfl (Nat.le_of_ble_eq_true rfl) ?_
  intro p e s m below meth c A C0 hAe ls hl hP hD hS
  have e1 : MQ below ((fun sz => va_Qi (fun r' (_ : Unit) => r' = r) (Bw D cy (va_A (wX4 cy g ue) sz) (wX4 cy g ue')) (va_A (wX4 cy g ue) sz)) s.heap.size) [.ref (g 499), .int p0].toArray s 0 0 A = QI below [.ref (g 499), .int p0].toArray s A D cy (wX4 cy g ue') r := by rw [hAe]; rfl
  rw [e1]
  clear e1 hAe
  obtain ⟨hx, hb, hr, hml, hown, hts, hlocks, hK, hA⟩ := id C0
  have hl : lv_has ls 3 [(0, .ref (g 499)), (1, .int p0)] := hl
  rw [f_X4_setCourts] at h
  refine lv_aload_n hx hb dX4_setCourts_0 rfl (lv_at hl 0 rfl) ?_
  refine va_get (D := D) (ci := 3) (v := .int (ue.1 6)) (C := RX4) (T := TX4) (N := 14) hx hb hts ki_X4_setCourts_X4 hown hK hP 0 rfl rfl 6 (by decide) (hts _ k_X4_setCourts_0) (fun _ h9 => h9) rfl dX4_setCourts_1 ?_
  refine lv_istore_n (lv' := [(2, .int (ue.1 6)), (0, .ref (g 499)), (1, .int p0)]) hx hb dX4_setCourts_4 rfl hl (by decide) rfl (fun ls hl => ?_)
  refine lv_aload_n hx hb dX4_setCourts_5 rfl (lv_at hl 1 rfl) ?_
  refine lv_iload_n hx hb dX4_setCourts_6 rfl (lv_at hl 2 rfl) ?_
  refine x_put (D := D) (ci := 3) (Wd := (fun uz => wX4 cy g uz)) (u := ue) (C := RX4) (T := TX4) (N := 14) hx hb hts ki_X4_setCourts_X4 tyX4 tyX4_ok nmX4 hown hK hP hD hS 0 rfl rfl 6 (by decide) (hts _ k_X4_setCourts_0) (fun _ h9 => h9) rfl (tyX4_ok 6 (by decide)) rfl rfl (Nat.le_of_ble_eq_true rfl) (fun _ => rfl) h dX4_setCourts_7 (fun ue1 H locs h hP hD hS => ?_)
  refine lv_aload_n hx hb dX4_setCourts_10 rfl (lv_at hl 1 rfl) ?_
  refine lv_iconst (v := 0) hx hb dX4_setCourts_11 (by decide) ?_
  refine x_put (D := D) (ci := 3) (Wd := (fun uz => wX4 cy g uz)) (u := ue1) (C := RX4) (T := TX4) (N := 14) hx hb hts ki_X4_setCourts_X4 tyX4 tyX4_ok nmX4 hown hK hP hD hS 0 rfl rfl 9 (by decide) (hts _ k_X4_setCourts_1) (fun _ h9 => h9) rfl (tyX4_ok 9 (by decide)) rfl rfl (Nat.le_of_ble_eq_true rfl) (fun _ => rfl) h dX4_setCourts_12 (fun ue2 H locs h hP hD hS => ?_)
  refine lv_iload_n hx hb dX4_setCourts_15 rfl (lv_at hl 0 rfl) ?_
  cases h
  exact x_iret hx hb hr hlocks hK hP hD hS dX4_setCourts_16 rfl rfl
theorem k_X4_isThere_0 : Cond.fieldLink RX4 9 "FeatherHall$Evening" "there" "[Z" ∈ wsX4_isThere := (List.mem_cons_of_mem _ (List.mem_append_left _ (List.mem_of_getElem? (i := 0) rfl)))
theorem ki_X4_isThere_X4 : ∀ w ∈ u_ws RX4 TX4 14, w ∈ wsX4_isThere := fun _ hh => (List.mem_cons_of_mem _ (List.mem_append_right _ hh))
theorem hd_X4_isThere : yX4_isThere.cls = RX4 ∧ yX4_isThere.cls ≠ "java/lang/invoke/MethodHandle" ∧ yX4_isThere.cls ≠ "java/lang/invoke/VarHandle" ∧ (parseMethodDescriptor yX4_isThere.desc).map (fun d => d.parameters.length) = some 1 := by decide +kernel
set_option maxHeartbeats 4000000 in
set_option maxRecDepth 100000 in
theorem c_X4_isThere (l : Launch) (D : va_G) (cy : Nat → ClassId) (g : Nat → Nat) (ue : St) (p0 : Int32) (r : Int32) (h : f_X4_isThere ue p0 = some r) : CtI l yX4_isThere wsX4_isThere (rmH 0) [.ref (g 499), .int p0] D cy (wX4 cy g ue) (wX4 cy g ue) r := by
  refine ct_enter (D := D) (cy := cy) (cc := cX4_isThere) (maxL := 2) (ret := (some .boolean)) (w := wX4 cy g ue) (Qc := fun sz => va_Qi (fun r' (_ : Unit) => r' = r) (Bw D cy (va_A (wX4 cy g ue) sz) (wX4 cy g ue)) (va_A (wX4 cy g ue) sz)) (by decide) rfl (Nat.le_of_ble_eq_true rfl) ?_
  intro p e s m below meth c A C0 hAe ls hl hP hD hS
  have e1 : MQ below ((fun sz => va_Qi (fun r' (_ : Unit) => r' = r) (Bw D cy (va_A (wX4 cy g ue) sz) (wX4 cy g ue)) (va_A (wX4 cy g ue) sz)) s.heap.size) [.ref (g 499), .int p0].toArray s 0 0 A = QI below [.ref (g 499), .int p0].toArray s A D cy (wX4 cy g ue) r := by rw [hAe]; rfl
  rw [e1]
  clear e1 hAe
  obtain ⟨hx, hb, hr, hml, hown, hts, hlocks, hK, hA⟩ := id C0
  have hl : lv_has ls 2 [(0, .ref (g 499)), (1, .int p0)] := hl
  rw [f_X4_isThere] at h
  refine lv_aload_n hx hb dX4_isThere_0 rfl (lv_at hl 0 rfl) ?_
  refine va_get (D := D) (ci := 3) (v := .ref (g 400)) (C := RX4) (T := TX4) (N := 14) hx hb hts ki_X4_isThere_X4 hown hK hP 0 rfl rfl 0 (by decide) (hts _ k_X4_isThere_0) (fun _ h9 => h9) rfl dX4_isThere_1 ?_
  refine lv_iload_n hx hb dX4_isThere_4 rfl (lv_at hl 1 rfl) ?_
  refine x_zald hx hb hK hP 1 rfl rfl h dX4_isThere_5 (fun v1 h => ?_)
  obtain ⟨hz, h⟩ := bk_some h
  cases h
  exact x_zret hx hb hr hlocks hK hP hD hS hz dX4_isThere_6 rfl rfl
theorem k_X4_enter_0 : Cond.fieldLink RX4 9 "FeatherHall$Evening" "there" "[Z" ∈ wsX4_enter := (List.mem_cons_of_mem _ (List.mem_append_left _ (List.mem_of_getElem? (i := 0) rfl)))
theorem ki_X4_enter_X4 : ∀ w ∈ u_ws RX4 TX4 14, w ∈ wsX4_enter := fun _ hh => (List.mem_cons_of_mem _ (List.mem_append_right _ hh))
theorem k_X4_enter_1 : Cond.fieldLink RX4 15 "FeatherHall$Evening" "grades" "[I" ∈ wsX4_enter := (List.mem_cons_of_mem _ (List.mem_append_left _ (List.mem_of_getElem? (i := 1) rfl)))
theorem k_X4_enter_2 : Cond.fieldLink RX4 19 "FeatherHall$Evening" "waited" "[I" ∈ wsX4_enter := (List.mem_cons_of_mem _ (List.mem_append_left _ (List.mem_of_getElem? (i := 2) rfl)))
theorem k_X4_enter_3 : Cond.fieldLink RX4 35 "FeatherHall$Evening" "present" "I" ∈ wsX4_enter := (List.mem_cons_of_mem _ (List.mem_append_left _ (List.mem_of_getElem? (i := 3) rfl)))
theorem k_X4_enter_4 : Cond.fieldLink RX4 41 "FeatherHall$Evening" "isSought" "Z" ∈ wsX4_enter := (List.mem_cons_of_mem _ (List.mem_append_left _ (List.mem_of_getElem? (i := 4) rfl)))
theorem hd_X4_enter : yX4_enter.cls = RX4 ∧ yX4_enter.cls ≠ "java/lang/invoke/MethodHandle" ∧ yX4_enter.cls ≠ "java/lang/invoke/VarHandle" ∧ (parseMethodDescriptor yX4_enter.desc).map (fun d => d.parameters.length) = some 2 := by decide +kernel
set_option maxHeartbeats 4000000 in
set_option maxRecDepth 100000 in
theorem c_X4_enter (l : Launch) (D : va_G) (cy : Nat → ClassId) (g : Nat → Nat) (ue : St) (p0 : Int32) (p1 : Int32) (r : Int32) (ue' : St) (h : f_X4_enter p0 p1 ue = some (r, ue')) : CtI l yX4_enter wsX4_enter (rmH 0) [.ref (g 499), .int p0, .int p1] D cy (wX4 cy g ue) (wX4 cy g ue') r := by
  refine ct_enter (D := D) (cy := cy) (cc := cX4_enter) (maxL := 3) (ret := (some .int)) (w := wX4 cy g ue) (Qc := fun sz => va_Qi (fun r' (_ : Unit) => r' = r) (Bw D cy (va_A (wX4 cy g ue) sz) (wX4 cy g ue')) (va_A (wX4 cy g ue) sz)) (by decide) rfl (Nat.le_of_ble_eq_true rfl) ?_
  intro p e s m below meth c A C0 hAe ls hl hP hD hS
  have e1 : MQ below ((fun sz => va_Qi (fun r' (_ : Unit) => r' = r) (Bw D cy (va_A (wX4 cy g ue) sz) (wX4 cy g ue')) (va_A (wX4 cy g ue) sz)) s.heap.size) [.ref (g 499), .int p0, .int p1].toArray s 0 0 A = QI below [.ref (g 499), .int p0, .int p1].toArray s A D cy (wX4 cy g ue') r := by rw [hAe]; rfl
  rw [e1]
  clear e1 hAe
  obtain ⟨hx, hb, hr, hml, hown, hts, hlocks, hK, hA⟩ := id C0
  have hl : lv_has ls 3 [(0, .ref (g 499)), (1, .int p0), (2, .int p1)] := hl
  rw [f_X4_enter] at h
  refine lv_aload_n hx hb dX4_enter_0 rfl (lv_at hl 0 rfl) ?_
  refine va_get (D := D) (ci := 3) (v := .ref (g 400)) (C := RX4) (T := TX4) (N := 14) hx hb hts ki_X4_enter_X4 hown hK hP 0 rfl rfl 0 (by decide) (hts _ k_X4_enter_0) (fun _ h9 => h9) rfl dX4_enter_1 ?_
  refine lv_iload_n hx hb dX4_enter_4 rfl (lv_at hl 1 rfl) ?_
  refine lv_iconst (v := 1) hx hb dX4_enter_5 (by decide) ?_
  refine x_zast (Wd := (fun uz => wX4 cy g uz)) (u := ue) (k := 0) hx hb hK hP hD hS 1 rfl rfl (fun _ => rfl) h dX4_enter_6 (fun ue1 H locs h hP hD hS => ?_)
  refine lv_aload_n hx hb dX4_enter_7 rfl (lv_at hl 0 rfl) ?_
  refine va_get (D := D) (ci := 3) (v := .ref (g 401)) (C := RX4) (T := TX4) (N := 14) hx hb hts ki_X4_enter_X4 hown hK hP 0 rfl rfl 1 (by decide) (hts _ k_X4_enter_1) (fun _ h9 => h9) rfl dX4_enter_8 ?_
  refine lv_iload_n hx hb dX4_enter_11 rfl (lv_at hl 1 rfl) ?_
  refine lv_iload_n hx hb dX4_enter_12 rfl (lv_at hl 2 rfl) ?_
  refine x_iast (Wd := (fun uz => wX4 cy g uz)) (u := ue1) (k := 1) hx hb hK hP hD hS 2 rfl rfl (fun _ => rfl) h dX4_enter_13 (fun ue2 H locs h hP hD hS => ?_)
  refine lv_aload_n hx hb dX4_enter_14 rfl (lv_at hl 0 rfl) ?_
  refine va_get (D := D) (ci := 3) (v := .ref (g 402)) (C := RX4) (T := TX4) (N := 14) hx hb hts ki_X4_enter_X4 hown hK hP 0 rfl rfl 2 (by decide) (hts _ k_X4_enter_2) (fun _ h9 => h9) rfl dX4_enter_15 ?_
  refine lv_iload_n hx hb dX4_enter_18 rfl (lv_at hl 1 rfl) ?_
  refine lv_iconst (v := 0) hx hb dX4_enter_19 (by decide) ?_
  refine x_iast (Wd := (fun uz => wX4 cy g uz)) (u := ue2) (k := 2) hx hb hK hP hD hS 3 rfl rfl (fun _ => rfl) h dX4_enter_20 (fun ue3 H locs h hP hD hS => ?_)
  refine lv_aload_n hx hb dX4_enter_21 rfl (lv_at hl 0 rfl) ?_
  refine lv_dup hx hb dX4_enter_22 rfl ?_
  refine va_get (D := D) (ci := 3) (v := .int (ue3.1 7)) (C := RX4) (T := TX4) (N := 14) hx hb hts ki_X4_enter_X4 hown hK hP 0 rfl rfl 7 (by decide) (hts _ k_X4_enter_3) (fun _ h9 => h9) rfl dX4_enter_23 ?_
  refine lv_iconst (v := 1) hx hb dX4_enter_26 (by decide) ?_
  refine lv_iadd hx hb dX4_enter_27 ?_
  refine x_put (D := D) (ci := 3) (Wd := (fun uz => wX4 cy g uz)) (u := ue3) (C := RX4) (T := TX4) (N := 14) hx hb hts ki_X4_enter_X4 tyX4 tyX4_ok nmX4 hown hK hP hD hS 0 rfl rfl 7 (by decide) (hts _ k_X4_enter_3) (fun _ h9 => h9) rfl (tyX4_ok 7 (by decide)) rfl rfl (Nat.le_of_ble_eq_true rfl) (fun _ => rfl) h dX4_enter_28 (fun ue4 H locs h hP hD hS => ?_)
  refine lv_aload_n hx hb dX4_enter_31 rfl (lv_at hl 0 rfl) ?_
  refine lv_iconst (v := 0) hx hb dX4_enter_32 (by decide) ?_
  refine x_put (D := D) (ci := 3) (Wd := (fun uz => wX4 cy g uz)) (u := ue4) (C := RX4) (T := TX4) (N := 14) hx hb hts ki_X4_enter_X4 tyX4 tyX4_ok nmX4 hown hK hP hD hS 0 rfl rfl 9 (by decide) (hts _ k_X4_enter_4) (fun _ h9 => h9) rfl (tyX4_ok 9 (by decide)) rfl rfl (Nat.le_of_ble_eq_true rfl) (fun _ => rfl) h dX4_enter_33 (fun ue5 H locs h hP hD hS => ?_)
  refine lv_aload_n hx hb dX4_enter_36 rfl (lv_at hl 0 rfl) ?_
  refine va_get (D := D) (ci := 3) (v := .int (ue5.1 7)) (C := RX4) (T := TX4) (N := 14) hx hb hts ki_X4_enter_X4 hown hK hP 0 rfl rfl 7 (by decide) (hts _ k_X4_enter_3) (fun _ h9 => h9) rfl dX4_enter_37 ?_
  cases h
  exact x_iret hx hb hr hlocks hK hP hD hS dX4_enter_40 rfl rfl
theorem k_X4_exit_0 : Cond.fieldLink RX4 9 "FeatherHall$Evening" "there" "[Z" ∈ wsX4_exit := (List.mem_cons_of_mem _ (List.mem_append_left _ (List.mem_of_getElem? (i := 0) rfl)))
theorem ki_X4_exit_X4 : ∀ w ∈ u_ws RX4 TX4 14, w ∈ wsX4_exit := fun _ hh => (List.mem_cons_of_mem _ (List.mem_append_right _ hh))
theorem k_X4_exit_1 : Cond.fieldLink RX4 35 "FeatherHall$Evening" "present" "I" ∈ wsX4_exit := (List.mem_cons_of_mem _ (List.mem_append_left _ (List.mem_of_getElem? (i := 1) rfl)))
theorem k_X4_exit_2 : Cond.fieldLink RX4 41 "FeatherHall$Evening" "isSought" "Z" ∈ wsX4_exit := (List.mem_cons_of_mem _ (List.mem_append_left _ (List.mem_of_getElem? (i := 2) rfl)))
theorem hd_X4_exit : yX4_exit.cls = RX4 ∧ yX4_exit.cls ≠ "java/lang/invoke/MethodHandle" ∧ yX4_exit.cls ≠ "java/lang/invoke/VarHandle" ∧ (parseMethodDescriptor yX4_exit.desc).map (fun d => d.parameters.length) = some 1 := by decide +kernel
set_option maxHeartbeats 4000000 in
set_option maxRecDepth 100000 in
theorem c_X4_exit (l : Launch) (D : va_G) (cy : Nat → ClassId) (g : Nat → Nat) (ue : St) (p0 : Int32) (r : Int32) (ue' : St) (h : f_X4_exit p0 ue = some (r, ue')) : CtI l yX4_exit wsX4_exit (rmH 0) [.ref (g 499), .int p0] D cy (wX4 cy g ue) (wX4 cy g ue') r := by
  refine ct_enter (D := D) (cy := cy) (cc := cX4_exit) (maxL := 2) (ret := (some .int)) (w := wX4 cy g ue) (Qc := fun sz => va_Qi (fun r' (_ : Unit) => r' = r) (Bw D cy (va_A (wX4 cy g ue) sz) (wX4 cy g ue')) (va_A (wX4 cy g ue) sz)) (by decide) rfl (Nat.le_of_ble_eq_true rfl) ?_
  intro p e s m below meth c A C0 hAe ls hl hP hD hS
  have e1 : MQ below ((fun sz => va_Qi (fun r' (_ : Unit) => r' = r) (Bw D cy (va_A (wX4 cy g ue) sz) (wX4 cy g ue')) (va_A (wX4 cy g ue) sz)) s.heap.size) [.ref (g 499), .int p0].toArray s 0 0 A = QI below [.ref (g 499), .int p0].toArray s A D cy (wX4 cy g ue') r := by rw [hAe]; rfl
  rw [e1]
  clear e1 hAe
  obtain ⟨hx, hb, hr, hml, hown, hts, hlocks, hK, hA⟩ := id C0
  have hl : lv_has ls 2 [(0, .ref (g 499)), (1, .int p0)] := hl
  rw [f_X4_exit] at h
  refine lv_aload_n hx hb dX4_exit_0 rfl (lv_at hl 0 rfl) ?_
  refine va_get (D := D) (ci := 3) (v := .ref (g 400)) (C := RX4) (T := TX4) (N := 14) hx hb hts ki_X4_exit_X4 hown hK hP 0 rfl rfl 0 (by decide) (hts _ k_X4_exit_0) (fun _ h9 => h9) rfl dX4_exit_1 ?_
  refine lv_iload_n hx hb dX4_exit_4 rfl (lv_at hl 1 rfl) ?_
  refine lv_iconst (v := 0) hx hb dX4_exit_5 (by decide) ?_
  refine x_zast (Wd := (fun uz => wX4 cy g uz)) (u := ue) (k := 0) hx hb hK hP hD hS 1 rfl rfl (fun _ => rfl) h dX4_exit_6 (fun ue1 H locs h hP hD hS => ?_)
  refine lv_aload_n hx hb dX4_exit_7 rfl (lv_at hl 0 rfl) ?_
  refine lv_dup hx hb dX4_exit_8 rfl ?_
  refine va_get (D := D) (ci := 3) (v := .int (ue1.1 7)) (C := RX4) (T := TX4) (N := 14) hx hb hts ki_X4_exit_X4 hown hK hP 0 rfl rfl 7 (by decide) (hts _ k_X4_exit_1) (fun _ h9 => h9) rfl dX4_exit_9 ?_
  refine lv_iconst (v := 1) hx hb dX4_exit_12 (by decide) ?_
  refine lv_isub hx hb dX4_exit_13 ?_
  refine x_put (D := D) (ci := 3) (Wd := (fun uz => wX4 cy g uz)) (u := ue1) (C := RX4) (T := TX4) (N := 14) hx hb hts ki_X4_exit_X4 tyX4 tyX4_ok nmX4 hown hK hP hD hS 0 rfl rfl 7 (by decide) (hts _ k_X4_exit_1) (fun _ h9 => h9) rfl (tyX4_ok 7 (by decide)) rfl rfl (Nat.le_of_ble_eq_true rfl) (fun _ => rfl) h dX4_exit_14 (fun ue2 H locs h hP hD hS => ?_)
  refine lv_aload_n hx hb dX4_exit_17 rfl (lv_at hl 0 rfl) ?_
  refine lv_iconst (v := 0) hx hb dX4_exit_18 (by decide) ?_
  refine x_put (D := D) (ci := 3) (Wd := (fun uz => wX4 cy g uz)) (u := ue2) (C := RX4) (T := TX4) (N := 14) hx hb hts ki_X4_exit_X4 tyX4 tyX4_ok nmX4 hown hK hP hD hS 0 rfl rfl 9 (by decide) (hts _ k_X4_exit_2) (fun _ h9 => h9) rfl (tyX4_ok 9 (by decide)) rfl rfl (Nat.le_of_ble_eq_true rfl) (fun _ => rfl) h dX4_exit_19 (fun ue3 H locs h hP hD hS => ?_)
  refine lv_aload_n hx hb dX4_exit_22 rfl (lv_at hl 0 rfl) ?_
  refine va_get (D := D) (ci := 3) (v := .int (ue3.1 7)) (C := RX4) (T := TX4) (N := 14) hx hb hts ki_X4_exit_X4 hown hK hP 0 rfl rfl 7 (by decide) (hts _ k_X4_exit_1) (fun _ h9 => h9) rfl dX4_exit_23 ?_
  cases h
  exact x_iret hx hb hr hlocks hK hP hD hS dX4_exit_26 rfl rfl
theorem k_X4_gamesAtOnce_0 : Cond.fieldLink RX4 31 "FeatherHall$Evening" "courtsNow" "I" ∈ wsX4_gamesAtOnce := (List.mem_cons_of_mem _ (List.mem_append_left _ (List.mem_of_getElem? (i := 0) rfl)))
theorem ki_X4_gamesAtOnce_X4 : ∀ w ∈ u_ws RX4 TX4 14, w ∈ wsX4_gamesAtOnce := fun _ hh => (List.mem_cons_of_mem _ (List.mem_append_right _ hh))
theorem k_X4_gamesAtOnce_1 : Cond.fieldLink RX4 35 "FeatherHall$Evening" "present" "I" ∈ wsX4_gamesAtOnce := (List.mem_cons_of_mem _ (List.mem_append_left _ (List.mem_of_getElem? (i := 1) rfl)))
theorem k_X4_gamesAtOnce_2 : Cond.methodLink RX4 64 Lib.Math.min.name ∈ wsX4_gamesAtOnce := (List.mem_cons_of_mem _ (List.mem_append_left _ (List.mem_of_getElem? (i := 2) rfl)))
theorem k_X4_gamesAtOnce_3 : Cond.static Lib.Math.min.name ∈ wsX4_gamesAtOnce := (List.mem_cons_of_mem _ (List.mem_append_left _ (List.mem_of_getElem? (i := 3) rfl)))
theorem k_X4_gamesAtOnce_4 : Cond.initialized "java/lang/Math" ∈ wsX4_gamesAtOnce := (List.mem_cons_of_mem _ (List.mem_append_left _ (List.mem_of_getElem? (i := 4) rfl)))
theorem k_X4_gamesAtOnce_5 : Cond.code Lib.Math.min.name Lib.Math.min.code 2 (some .int) ∈ wsX4_gamesAtOnce := (List.mem_cons_of_mem _ (List.mem_append_left _ (List.mem_of_getElem? (i := 5) rfl)))
theorem hd_X4_gamesAtOnce : yX4_gamesAtOnce.cls = RX4 ∧ yX4_gamesAtOnce.cls ≠ "java/lang/invoke/MethodHandle" ∧ yX4_gamesAtOnce.cls ≠ "java/lang/invoke/VarHandle" ∧ (parseMethodDescriptor yX4_gamesAtOnce.desc).map (fun d => d.parameters.length) = some 0 := by decide +kernel
set_option maxHeartbeats 4000000 in
set_option maxRecDepth 100000 in
theorem c_X4_gamesAtOnce (l : Launch) (D : va_G) (cy : Nat → ClassId) (g : Nat → Nat) (ue : St) (r : Int32) (h : f_X4_gamesAtOnce ue = some r) : CtI l yX4_gamesAtOnce wsX4_gamesAtOnce (rmH 1) [.ref (g 499)] D cy (wX4 cy g ue) (wX4 cy g ue) r := by
  refine ct_enter (D := D) (cy := cy) (cc := cX4_gamesAtOnce) (maxL := 1) (ret := (some .int)) (w := wX4 cy g ue) (Qc := fun sz => va_Qi (fun r' (_ : Unit) => r' = r) (Bw D cy (va_A (wX4 cy g ue) sz) (wX4 cy g ue)) (va_A (wX4 cy g ue) sz)) (by decide) rfl (Nat.le_of_ble_eq_true rfl) ?_
  intro p e s m below meth c A C0 hAe ls hl hP hD hS
  have e1 : MQ below ((fun sz => va_Qi (fun r' (_ : Unit) => r' = r) (Bw D cy (va_A (wX4 cy g ue) sz) (wX4 cy g ue)) (va_A (wX4 cy g ue) sz)) s.heap.size) [.ref (g 499)].toArray s 0 0 A = QI below [.ref (g 499)].toArray s A D cy (wX4 cy g ue) r := by rw [hAe]; rfl
  rw [e1]
  clear e1 hAe
  obtain ⟨hx, hb, hr, hml, hown, hts, hlocks, hK, hA⟩ := id C0
  have hl : lv_has ls 1 [(0, .ref (g 499))] := hl
  rw [f_X4_gamesAtOnce] at h
  refine lv_aload_n hx hb dX4_gamesAtOnce_0 rfl (lv_at hl 0 rfl) ?_
  refine va_get (D := D) (ci := 3) (v := .int (ue.1 6)) (C := RX4) (T := TX4) (N := 14) hx hb hts ki_X4_gamesAtOnce_X4 hown hK hP 0 rfl rfl 6 (by decide) (hts _ k_X4_gamesAtOnce_0) (fun _ h9 => h9) rfl dX4_gamesAtOnce_1 ?_
  refine lv_aload_n hx hb dX4_gamesAtOnce_4 rfl (lv_at hl 0 rfl) ?_
  refine va_get (D := D) (ci := 3) (v := .int (ue.1 7)) (C := RX4) (T := TX4) (N := 14) hx hb hts ki_X4_gamesAtOnce_X4 hown hK hP 0 rfl rfl 7 (by decide) (hts _ k_X4_gamesAtOnce_1) (fun _ h9 => h9) rfl dX4_gamesAtOnce_5 ?_
  refine lv_iconst (v := 2) hx hb dX4_gamesAtOnce_8 (by decide) ?_
  refine lv_idiv hx hb dX4_gamesAtOnce_9 (by decide) ?_
  refine x_nm h (fun v1 h => ?_)
  refine va_mmin hx hb (hml.trans hl.1.symm) hown (hts _ k_X4_gamesAtOnce_2) (hts _ k_X4_gamesAtOnce_3) (hts _ k_X4_gamesAtOnce_4) (hts _ k_X4_gamesAtOnce_5) (Nat.le_of_ble_eq_true rfl) (Nat.le_of_ble_eq_true rfl) (Nat.zero_le _) (Nat.zero_le _) dX4_gamesAtOnce_10 ?_
  refine x_nm h (fun v2 h => ?_)
  cases h
  exact x_iret hx hb hr hlocks hK hP hD hS dX4_gamesAtOnce_13 rfl rfl
theorem k_X4_isBetter_0 : Cond.fieldLink RX4 48 "FeatherHall$Evening" "bestWaited" "I" ∈ wsX4_isBetter := (List.mem_cons_of_mem _ (List.mem_append_left _ (List.mem_of_getElem? (i := 0) rfl)))
theorem ki_X4_isBetter_X4 : ∀ w ∈ u_ws RX4 TX4 14, w ∈ wsX4_isBetter := fun _ hh => (List.mem_cons_of_mem _ (List.mem_append_right _ hh))
theorem k_X4_isBetter_1 : Cond.fieldLink RX4 51 "FeatherHall$Evening" "bestBefore" "I" ∈ wsX4_isBetter := (List.mem_cons_of_mem _ (List.mem_append_left _ (List.mem_of_getElem? (i := 1) rfl)))
theorem k_X4_isBetter_2 : Cond.fieldLink RX4 54 "FeatherHall$Evening" "bestUneven" "I" ∈ wsX4_isBetter := (List.mem_cons_of_mem _ (List.mem_append_left _ (List.mem_of_getElem? (i := 2) rfl)))
theorem hd_X4_isBetter : yX4_isBetter.cls = RX4 ∧ yX4_isBetter.cls ≠ "java/lang/invoke/MethodHandle" ∧ yX4_isBetter.cls ≠ "java/lang/invoke/VarHandle" ∧ (parseMethodDescriptor yX4_isBetter.desc).map (fun d => d.parameters.length) = some 3 := by decide +kernel
set_option maxHeartbeats 4000000 in
set_option maxRecDepth 100000 in
theorem c_X4_isBetter (l : Launch) (D : va_G) (cy : Nat → ClassId) (g : Nat → Nat) (ue : St) (p0 : Int32) (p1 : Int32) (p2 : Int32) (r : Int32) (h : f_X4_isBetter ue p0 p1 p2 = some r) : CtI l yX4_isBetter wsX4_isBetter (rmH 0) [.ref (g 499), .int p0, .int p1, .int p2] D cy (wX4 cy g ue) (wX4 cy g ue) r := by
  refine ct_enter (D := D) (cy := cy) (cc := cX4_isBetter) (maxL := 4) (ret := (some .boolean)) (w := wX4 cy g ue) (Qc := fun sz => va_Qi (fun r' (_ : Unit) => r' = r) (Bw D cy (va_A (wX4 cy g ue) sz) (wX4 cy g ue)) (va_A (wX4 cy g ue) sz)) (by decide) rfl (Nat.le_of_ble_eq_true rfl) ?_
  intro p e s m below meth c A C0 hAe ls hl hP hD hS
  have e1 : MQ below ((fun sz => va_Qi (fun r' (_ : Unit) => r' = r) (Bw D cy (va_A (wX4 cy g ue) sz) (wX4 cy g ue)) (va_A (wX4 cy g ue) sz)) s.heap.size) [.ref (g 499), .int p0, .int p1, .int p2].toArray s 0 0 A = QI below [.ref (g 499), .int p0, .int p1, .int p2].toArray s A D cy (wX4 cy g ue) r := by rw [hAe]; rfl
  rw [e1]
  clear e1 hAe
  obtain ⟨hx, hb, hr, hml, hown, hts, hlocks, hK, hA⟩ := id C0
  have hl : lv_has ls 4 [(0, .ref (g 499)), (1, .int p0), (2, .int p1), (3, .int p2)] := hl
  rw [f_X4_isBetter] at h
  refine lv_iload_n hx hb dX4_isBetter_0 rfl (lv_at hl 1 rfl) ?_
  refine lv_aload_n hx hb dX4_isBetter_1 rfl (lv_at hl 0 rfl) ?_
  refine va_get (D := D) (ci := 3) (v := .int (ue.1 11)) (C := RX4) (T := TX4) (N := 14) hx hb hts ki_X4_isBetter_X4 hown hK hP 0 rfl rfl 11 (by decide) (hts _ k_X4_isBetter_0) (fun _ h9 => h9) rfl dX4_isBetter_2 ?_
  refine x_icmp_eq (tgt := 22) hx hb dX4_isBetter_5 (by decide) h (fun _ h => ?_) (fun _ h => ?_)
  · refine lv_iload_n hx hb dX4_isBetter_22 rfl (lv_at hl 2 rfl) ?_
    refine lv_aload_n hx hb dX4_isBetter_23 rfl (lv_at hl 0 rfl) ?_
    refine va_get (D := D) (ci := 3) (v := .int (ue.1 12)) (C := RX4) (T := TX4) (N := 14) hx hb hts ki_X4_isBetter_X4 hown hK hP 0 rfl rfl 12 (by decide) (hts _ k_X4_isBetter_1) (fun _ h9 => h9) rfl dX4_isBetter_24 ?_
    refine x_icmp_eq (tgt := 44) hx hb dX4_isBetter_27 (by decide) h (fun _ h => ?_) (fun _ h => ?_)
    · refine lv_iload_n hx hb dX4_isBetter_44 rfl (lv_at hl 3 rfl) ?_
      refine lv_aload_n hx hb dX4_isBetter_45 rfl (lv_at hl 0 rfl) ?_
      refine va_get (D := D) (ci := 3) (v := .int (ue.1 13)) (C := RX4) (T := TX4) (N := 14) hx hb hts ki_X4_isBetter_X4 hown hK hP 0 rfl rfl 13 (by decide) (hts _ k_X4_isBetter_2) (fun _ h9 => h9) rfl dX4_isBetter_46 ?_
      refine x_icmp_ge (tgt := 56) hx hb dX4_isBetter_49 (by decide) h (fun _ h => ?_) (fun _ h => ?_)
      · refine lv_iconst (v := 0) hx hb dX4_isBetter_56 (by decide) ?_
        cases h
        exact x_zret hx hb hr hlocks hK hP hD hS (Or.inl rfl) dX4_isBetter_57 rfl rfl
      · refine lv_iconst (v := 1) hx hb dX4_isBetter_52 (by decide) ?_
        refine lv_goto (tgt := 57) hx hb dX4_isBetter_53 (by decide) ?_
        cases h
        exact x_zret hx hb hr hlocks hK hP hD hS (Or.inr rfl) dX4_isBetter_57 rfl rfl
    · refine lv_iload_n hx hb dX4_isBetter_30 rfl (lv_at hl 2 rfl) ?_
      refine lv_aload_n hx hb dX4_isBetter_31 rfl (lv_at hl 0 rfl) ?_
      refine va_get (D := D) (ci := 3) (v := .int (ue.1 12)) (C := RX4) (T := TX4) (N := 14) hx hb hts ki_X4_isBetter_X4 hown hK hP 0 rfl rfl 12 (by decide) (hts _ k_X4_isBetter_1) (fun _ h9 => h9) rfl dX4_isBetter_32 ?_
      refine x_icmp_ge (tgt := 42) hx hb dX4_isBetter_35 (by decide) h (fun _ h => ?_) (fun _ h => ?_)
      · refine lv_iconst (v := 0) hx hb dX4_isBetter_42 (by decide) ?_
        cases h
        exact x_zret hx hb hr hlocks hK hP hD hS (Or.inl rfl) dX4_isBetter_43 rfl rfl
      · refine lv_iconst (v := 1) hx hb dX4_isBetter_38 (by decide) ?_
        refine lv_goto (tgt := 43) hx hb dX4_isBetter_39 (by decide) ?_
        cases h
        exact x_zret hx hb hr hlocks hK hP hD hS (Or.inr rfl) dX4_isBetter_43 rfl rfl
  · refine lv_iload_n hx hb dX4_isBetter_8 rfl (lv_at hl 1 rfl) ?_
    refine lv_aload_n hx hb dX4_isBetter_9 rfl (lv_at hl 0 rfl) ?_
    refine va_get (D := D) (ci := 3) (v := .int (ue.1 11)) (C := RX4) (T := TX4) (N := 14) hx hb hts ki_X4_isBetter_X4 hown hK hP 0 rfl rfl 11 (by decide) (hts _ k_X4_isBetter_0) (fun _ h9 => h9) rfl dX4_isBetter_10 ?_
    refine x_icmp_le (tgt := 20) hx hb dX4_isBetter_13 (by decide) h (fun _ h => ?_) (fun _ h => ?_)
    · refine lv_iconst (v := 0) hx hb dX4_isBetter_20 (by decide) ?_
      cases h
      exact x_zret hx hb hr hlocks hK hP hD hS (Or.inl rfl) dX4_isBetter_21 rfl rfl
    · refine lv_iconst (v := 1) hx hb dX4_isBetter_16 (by decide) ?_
      refine lv_goto (tgt := 21) hx hb dX4_isBetter_17 (by decide) ?_
      cases h
      exact x_zret hx hb hr hlocks hK hP hD hS (Or.inr rfl) dX4_isBetter_21 rfl rfl
theorem k_X4_keepIfBetter_0 : Cond.fieldLink RX4 45 "FeatherHall$Evening" "isFound" "Z" ∈ wsX4_keepIfBetter := (List.mem_cons_of_mem _ (List.mem_append_left _ (List.mem_of_getElem? (i := 0) rfl)))
theorem ki_X4_keepIfBetter_X4 : ∀ w ∈ u_ws RX4 TX4 14, w ∈ wsX4_keepIfBetter := fun _ hh => (List.mem_cons_of_mem _ (List.mem_append_right _ hh))
theorem k_X4_keepIfBetter_1 : Cond.fieldLink RX4 48 "FeatherHall$Evening" "bestWaited" "I" ∈ wsX4_keepIfBetter := (List.mem_cons_of_mem _ (List.mem_append_left _ (List.mem_of_getElem? (i := 1) rfl)))
theorem k_X4_keepIfBetter_2 : Cond.fieldLink RX4 51 "FeatherHall$Evening" "bestBefore" "I" ∈ wsX4_keepIfBetter := (List.mem_cons_of_mem _ (List.mem_append_left _ (List.mem_of_getElem? (i := 2) rfl)))
theorem k_X4_keepIfBetter_3 : Cond.fieldLink RX4 54 "FeatherHall$Evening" "bestUneven" "I" ∈ wsX4_keepIfBetter := (List.mem_cons_of_mem _ (List.mem_append_left _ (List.mem_of_getElem? (i := 3) rfl)))
theorem k_X4_keepIfBetter_4 : Cond.fieldLink RX4 25 "FeatherHall$Evening" "mates" "[I" ∈ wsX4_keepIfBetter := (List.mem_cons_of_mem _ (List.mem_append_left _ (List.mem_of_getElem? (i := 4) rfl)))
theorem k_X4_keepIfBetter_5 : Cond.fieldLink RX4 28 "FeatherHall$Evening" "bestMates" "[I" ∈ wsX4_keepIfBetter := (List.mem_cons_of_mem _ (List.mem_append_left _ (List.mem_of_getElem? (i := 5) rfl)))
theorem k_X4_keepIfBetter_6 : Cond.methodLink RX4 96 arraycopyName ∈ wsX4_keepIfBetter := (List.mem_cons_of_mem _ (List.mem_append_left _ (List.mem_of_getElem? (i := 6) rfl)))
theorem k_X4_keepIfBetter_7 : Cond.native arraycopyName ∈ wsX4_keepIfBetter := (List.mem_cons_of_mem _ (List.mem_append_left _ (List.mem_of_getElem? (i := 7) rfl)))
theorem k_X4_keepIfBetter_8 : Cond.static arraycopyName ∈ wsX4_keepIfBetter := (List.mem_cons_of_mem _ (List.mem_append_left _ (List.mem_of_getElem? (i := 8) rfl)))
theorem k_X4_keepIfBetter_9 : Cond.initialized "java/lang/System" ∈ wsX4_keepIfBetter := (List.mem_cons_of_mem _ (List.mem_append_left _ (List.mem_of_getElem? (i := 9) rfl)))
theorem hd_X4_keepIfBetter : yX4_keepIfBetter.cls = RX4 ∧ yX4_keepIfBetter.cls ≠ "java/lang/invoke/MethodHandle" ∧ yX4_keepIfBetter.cls ≠ "java/lang/invoke/VarHandle" ∧ (parseMethodDescriptor yX4_keepIfBetter.desc).map (fun d => d.parameters.length) = some 3 := by decide +kernel
set_option maxHeartbeats 4000000 in
set_option maxRecDepth 100000 in
theorem w_X4_keepIfBetter_18 {p : Program} {l : Launch} {e : Env} {s : State} {m : MethodId} {below : List Frame} {meth : Method} {c : Code} {args : Array Value} {D : va_G} {cy : Nat → ClassId} {g : Nat → Nat} {A : Nat → Prop} {ue' : St} (C0 : Cx p s m meth c args cX4_keepIfBetter 4 none wsX4_keepIfBetter RX4 D cy A) : ∀ (l1 : Int32) (l2 : Int32) (l3 : Int32) (ue : St), f_X4_keepIfBetter_18 l1 l2 l3 ue = some ue' → ∀ (H : Heap) (locs : List Loc) (ls : Array Slot), va_P D vwCl (wX4 cy g ue) H → va_D A (wX4 cy g ue) → va_S A s.heap H locs → lv_has ls 4 [(0, .ref (g 499)), (1, .int l1), (2, .int l2), (3, .int l3)] → W p l e (rmH 1) s m args below meth c H locs 0 0 (QV below args s A D cy (wX4 cy g ue')) (F0 m 18 ls []) := by
  obtain ⟨hx, hb, hr, hml, hown, hts, hlocks, hK, hA⟩ := id C0
  intro l1 l2 l3 ue h H locs ls hP hD hS hl
  rw [f_X4_keepIfBetter_18] at h
  refine lv_aload_n hx hb dX4_keepIfBetter_18 rfl (lv_at hl 0 rfl) ?_
  refine lv_iconst (v := 1) hx hb dX4_keepIfBetter_19 (by decide) ?_
  refine x_put (D := D) (ci := 3) (Wd := (fun uz => wX4 cy g uz)) (u := ue) (C := RX4) (T := TX4) (N := 14) hx hb hts ki_X4_keepIfBetter_X4 tyX4 tyX4_ok nmX4 hown hK hP hD hS 0 rfl rfl 10 (by decide) (hts _ k_X4_keepIfBetter_0) (fun _ h9 => h9) rfl (tyX4_ok 10 (by decide)) rfl rfl (Nat.le_of_ble_eq_true rfl) (fun _ => rfl) h dX4_keepIfBetter_20 (fun ue3 H locs h hP hD hS => ?_)
  refine lv_aload_n hx hb dX4_keepIfBetter_23 rfl (lv_at hl 0 rfl) ?_
  refine lv_iload_n hx hb dX4_keepIfBetter_24 rfl (lv_at hl 1 rfl) ?_
  refine x_put (D := D) (ci := 3) (Wd := (fun uz => wX4 cy g uz)) (u := ue3) (C := RX4) (T := TX4) (N := 14) hx hb hts ki_X4_keepIfBetter_X4 tyX4 tyX4_ok nmX4 hown hK hP hD hS 0 rfl rfl 11 (by decide) (hts _ k_X4_keepIfBetter_1) (fun _ h9 => h9) rfl (tyX4_ok 11 (by decide)) rfl rfl (Nat.le_of_ble_eq_true rfl) (fun _ => rfl) h dX4_keepIfBetter_25 (fun ue4 H locs h hP hD hS => ?_)
  refine lv_aload_n hx hb dX4_keepIfBetter_28 rfl (lv_at hl 0 rfl) ?_
  refine lv_iload_n hx hb dX4_keepIfBetter_29 rfl (lv_at hl 2 rfl) ?_
  refine x_put (D := D) (ci := 3) (Wd := (fun uz => wX4 cy g uz)) (u := ue4) (C := RX4) (T := TX4) (N := 14) hx hb hts ki_X4_keepIfBetter_X4 tyX4 tyX4_ok nmX4 hown hK hP hD hS 0 rfl rfl 12 (by decide) (hts _ k_X4_keepIfBetter_2) (fun _ h9 => h9) rfl (tyX4_ok 12 (by decide)) rfl rfl (Nat.le_of_ble_eq_true rfl) (fun _ => rfl) h dX4_keepIfBetter_30 (fun ue5 H locs h hP hD hS => ?_)
  refine lv_aload_n hx hb dX4_keepIfBetter_33 rfl (lv_at hl 0 rfl) ?_
  refine lv_iload_n hx hb dX4_keepIfBetter_34 rfl (lv_at hl 3 rfl) ?_
  refine x_put (D := D) (ci := 3) (Wd := (fun uz => wX4 cy g uz)) (u := ue5) (C := RX4) (T := TX4) (N := 14) hx hb hts ki_X4_keepIfBetter_X4 tyX4 tyX4_ok nmX4 hown hK hP hD hS 0 rfl rfl 13 (by decide) (hts _ k_X4_keepIfBetter_3) (fun _ h9 => h9) rfl (tyX4_ok 13 (by decide)) rfl rfl (Nat.le_of_ble_eq_true rfl) (fun _ => rfl) h dX4_keepIfBetter_35 (fun ue6 H locs h hP hD hS => ?_)
  refine lv_aload_n hx hb dX4_keepIfBetter_38 rfl (lv_at hl 0 rfl) ?_
  refine va_get (D := D) (ci := 3) (v := .ref (g 404)) (C := RX4) (T := TX4) (N := 14) hx hb hts ki_X4_keepIfBetter_X4 hown hK hP 0 rfl rfl 4 (by decide) (hts _ k_X4_keepIfBetter_4) (fun _ h9 => h9) rfl dX4_keepIfBetter_39 ?_
  refine lv_iconst (v := 0) hx hb dX4_keepIfBetter_42 (by decide) ?_
  refine lv_aload_n hx hb dX4_keepIfBetter_43 rfl (lv_at hl 0 rfl) ?_
  refine va_get (D := D) (ci := 3) (v := .ref (g 405)) (C := RX4) (T := TX4) (N := 14) hx hb hts ki_X4_keepIfBetter_X4 hown hK hP 0 rfl rfl 5 (by decide) (hts _ k_X4_keepIfBetter_5) (fun _ h9 => h9) rfl dX4_keepIfBetter_44 ?_
  refine lv_iconst (v := 0) hx hb dX4_keepIfBetter_47 (by decide) ?_
  refine lv_bipush (v := 8) hx hb dX4_keepIfBetter_48 (by decide) ?_
  refine va_copyi (ty := .int) hx hb (hml.trans hl.1.symm) hown (hts _ k_X4_keepIfBetter_6) (hts _ k_X4_keepIfBetter_7) (hts _ k_X4_keepIfBetter_8) (hts _ k_X4_keepIfBetter_9) hK hP hD hS 5 6 0 0 rfl rfl rfl rfl rfl (by decide) (by decide) (by decide) (by decide) (by decide) (fun _ _ => rfl) (Nat.le_of_ble_eq_true rfl) (Nat.le_of_ble_eq_true rfl) dX4_keepIfBetter_50 (fun H locs hP hD hS => ?_)
  obtain ⟨ue7, eue7, h⟩ := nm_ex h
  have hP : va_P D vwCl (wX4 cy g ue7) H := by rw [eue7]; exact hP
  have hD : va_D A (wX4 cy g ue7) := by rw [eue7]; exact hD
  clear eue7
  cases h
  exact x_vret hx hb hr hlocks hK hP hD hS dX4_keepIfBetter_53 rfl
set_option maxHeartbeats 4000000 in
set_option maxRecDepth 100000 in
theorem c_X4_keepIfBetter (l : Launch) (D : va_G) (cy : Nat → ClassId) (g : Nat → Nat) (ue : St) (p0 : Int32) (p1 : Int32) (p2 : Int32) (ue' : St) (h : f_X4_keepIfBetter p0 p1 p2 ue = some ue') : CtV l yX4_keepIfBetter wsX4_keepIfBetter (rmH 1) [.ref (g 499), .int p0, .int p1, .int p2] D cy (wX4 cy g ue) (wX4 cy g ue') := by
  refine ct_enter (D := D) (cy := cy) (cc := cX4_keepIfBetter) (maxL := 4) (ret := none) (w := wX4 cy g ue) (Qc := fun sz => va_Qv (fun (_ : Unit) => True) (Bw D cy (va_A (wX4 cy g ue) sz) (wX4 cy g ue')) (va_A (wX4 cy g ue) sz)) (by decide) rfl (Nat.le_of_ble_eq_true rfl) ?_
  intro p e s m below meth c A C0 hAe ls hl hP hD hS
  have e1 : MQ below ((fun sz => va_Qv (fun (_ : Unit) => True) (Bw D cy (va_A (wX4 cy g ue) sz) (wX4 cy g ue')) (va_A (wX4 cy g ue) sz)) s.heap.size) [.ref (g 499), .int p0, .int p1, .int p2].toArray s 0 0 A = QV below [.ref (g 499), .int p0, .int p1, .int p2].toArray s A D cy (wX4 cy g ue') := by rw [hAe]; rfl
  rw [e1]
  clear e1 hAe
  obtain ⟨hx, hb, hr, hml, hown, hts, hlocks, hK, hA⟩ := id C0
  have hl : lv_has ls 4 [(0, .ref (g 499)), (1, .int p0), (2, .int p1), (3, .int p2)] := hl
  rw [f_X4_keepIfBetter] at h
  refine lv_aload_n hx hb dX4_keepIfBetter_0 rfl (lv_at hl 0 rfl) ?_
  refine va_get (D := D) (ci := 3) (v := .int (ue.1 10)) (C := RX4) (T := TX4) (N := 14) hx hb hts ki_X4_keepIfBetter_X4 hown hK hP 0 rfl rfl 10 (by decide) (hts _ k_X4_keepIfBetter_0) (fun _ h9 => h9) rfl dX4_keepIfBetter_1 ?_
  refine x_if_eq (tgt := 18) hx hb dX4_keepIfBetter_4 (by decide) h (fun _ h => ?_) (fun _ h => ?_)
  · exact w_X4_keepIfBetter_18 C0 p0 p1 p2 ue h _ _ ls hP hD hS (lv_sub hl [0, 1, 2, 3] rfl)
  · refine lv_aload_n hx hb dX4_keepIfBetter_7 rfl (lv_at hl 0 rfl) ?_
    refine lv_iload_n hx hb dX4_keepIfBetter_8 rfl (lv_at hl 1 rfl) ?_
    refine lv_iload_n hx hb dX4_keepIfBetter_9 rfl (lv_at hl 2 rfl) ?_
    refine lv_iload_n hx hb dX4_keepIfBetter_10 rfl (lv_at hl 3 rfl) ?_
    obtain ⟨r1, e2, h⟩ := bd_some h
    refine x_callVI (As := [.int p0, .int p1, .int p2]) (rest := []) (n := 3) ⟨hx, hb, hml, hown, hts⟩ (c_X4_isBetter l D cy g ue p0 p1 p2 r1 e2) gX4_keepIfBetter_X4_isBetter rfl hd_X4_isBetter ⟨Nat.le_of_ble_eq_true rfl, Nat.le_of_ble_eq_true rfl⟩ ⟨rfl, rfl⟩ hK (sp_all _) (sp_all _) hP hD hS hA 0 rfl rfl rfl hl.1 rfl (Nat.le_of_ble_eq_true rfl) dX4_keepIfBetter_11 ⟨Nat.zero_le _, Nat.zero_le _⟩ (fun H locs hP hD hS => ?_)
    clear e2
    refine x_if_ne (tgt := 18) hx hb dX4_keepIfBetter_14 (by decide) h (fun _ h => ?_) (fun _ h => ?_)
    · cases h
      exact x_vret hx hb hr hlocks hK hP hD hS dX4_keepIfBetter_17 rfl
    · exact w_X4_keepIfBetter_18 C0 p0 p1 p2 ue h _ _ ls hP hD hS (lv_sub hl [0, 1, 2, 3] rfl)
theorem k_X4_isFree_0 : Cond.fieldLink RX4 9 "FeatherHall$Evening" "there" "[Z" ∈ wsX4_isFree := (List.mem_cons_of_mem _ (List.mem_append_left _ (List.mem_of_getElem? (i := 0) rfl)))
theorem ki_X4_isFree_X4 : ∀ w ∈ u_ws RX4 TX4 14, w ∈ wsX4_isFree := fun _ hh => (List.mem_cons_of_mem _ (List.mem_append_right _ hh))
theorem k_X4_isFree_1 : Cond.fieldLink RX4 25 "FeatherHall$Evening" "mates" "[I" ∈ wsX4_isFree := (List.mem_cons_of_mem _ (List.mem_append_left _ (List.mem_of_getElem? (i := 1) rfl)))
theorem hd_X4_isFree : yX4_isFree.cls = RX4 ∧ yX4_isFree.cls ≠ "java/lang/invoke/MethodHandle" ∧ yX4_isFree.cls ≠ "java/lang/invoke/VarHandle" ∧ (parseMethodDescriptor yX4_isFree.desc).map (fun d => d.parameters.length) = some 1 := by decide +kernel
set_option maxHeartbeats 4000000 in
set_option maxRecDepth 100000 in
theorem c_X4_isFree (l : Launch) (D : va_G) (cy : Nat → ClassId) (g : Nat → Nat) (ue : St) (p0 : Int32) (r : Int32) (h : f_X4_isFree ue p0 = some r) : CtI l yX4_isFree wsX4_isFree (rmH 0) [.ref (g 499), .int p0] D cy (wX4 cy g ue) (wX4 cy g ue) r := by
  refine ct_enter (D := D) (cy := cy) (cc := cX4_isFree) (maxL := 2) (ret := (some .boolean)) (w := wX4 cy g ue) (Qc := fun sz => va_Qi (fun r' (_ : Unit) => r' = r) (Bw D cy (va_A (wX4 cy g ue) sz) (wX4 cy g ue)) (va_A (wX4 cy g ue) sz)) (by decide) rfl (Nat.le_of_ble_eq_true rfl) ?_
  intro p e s m below meth c A C0 hAe ls hl hP hD hS
  have e1 : MQ below ((fun sz => va_Qi (fun r' (_ : Unit) => r' = r) (Bw D cy (va_A (wX4 cy g ue) sz) (wX4 cy g ue)) (va_A (wX4 cy g ue) sz)) s.heap.size) [.ref (g 499), .int p0].toArray s 0 0 A = QI below [.ref (g 499), .int p0].toArray s A D cy (wX4 cy g ue) r := by rw [hAe]; rfl
  rw [e1]
  clear e1 hAe
  obtain ⟨hx, hb, hr, hml, hown, hts, hlocks, hK, hA⟩ := id C0
  have hl : lv_has ls 2 [(0, .ref (g 499)), (1, .int p0)] := hl
  rw [f_X4_isFree] at h
  refine lv_aload_n hx hb dX4_isFree_0 rfl (lv_at hl 0 rfl) ?_
  refine va_get (D := D) (ci := 3) (v := .ref (g 400)) (C := RX4) (T := TX4) (N := 14) hx hb hts ki_X4_isFree_X4 hown hK hP 0 rfl rfl 0 (by decide) (hts _ k_X4_isFree_0) (fun _ h9 => h9) rfl dX4_isFree_1 ?_
  refine lv_iload_n hx hb dX4_isFree_4 rfl (lv_at hl 1 rfl) ?_
  refine x_zald hx hb hK hP 1 rfl rfl h dX4_isFree_5 (fun v1 h => ?_)
  refine x_if_eq (tgt := 23) hx hb dX4_isFree_6 (by decide) h (fun _ h => ?_) (fun _ h => ?_)
  · refine lv_iconst (v := 0) hx hb dX4_isFree_23 (by decide) ?_
    cases h
    exact x_zret hx hb hr hlocks hK hP hD hS (Or.inl rfl) dX4_isFree_24 rfl rfl
  · refine lv_aload_n hx hb dX4_isFree_9 rfl (lv_at hl 0 rfl) ?_
    refine va_get (D := D) (ci := 3) (v := .ref (g 404)) (C := RX4) (T := TX4) (N := 14) hx hb hts ki_X4_isFree_X4 hown hK hP 0 rfl rfl 4 (by decide) (hts _ k_X4_isFree_1) (fun _ h9 => h9) rfl dX4_isFree_10 ?_
    refine lv_iload_n hx hb dX4_isFree_13 rfl (lv_at hl 1 rfl) ?_
    refine x_iald hx hb hK hP 5 rfl rfl h dX4_isFree_14 (fun v2 h => ?_)
    refine lv_iconst (v := -1) hx hb dX4_isFree_15 (by decide) ?_
    refine x_icmp_ne (tgt := 23) hx hb dX4_isFree_16 (by decide) h (fun _ h => ?_) (fun _ h => ?_)
    · refine lv_iconst (v := 1) hx hb dX4_isFree_19 (by decide) ?_
      refine lv_goto (tgt := 24) hx hb dX4_isFree_20 (by decide) ?_
      cases h
      exact x_zret hx hb hr hlocks hK hP hD hS (Or.inr rfl) dX4_isFree_24 rfl rfl
    · refine lv_iconst (v := 0) hx hb dX4_isFree_23 (by decide) ?_
      cases h
      exact x_zret hx hb hr hlocks hK hP hD hS (Or.inl rfl) dX4_isFree_24 rfl rfl
theorem k_X4_pairFrom_0 : Cond.fieldLink RX4 25 "FeatherHall$Evening" "mates" "[I" ∈ wsX4_pairFrom := (List.mem_cons_of_mem _ (List.mem_append_left _ (List.mem_append_left _ (List.mem_of_getElem? (i := 0) rfl))))
theorem ki_X4_pairFrom_X4 : ∀ w ∈ u_ws RX4 TX4 14, w ∈ wsX4_pairFrom := fun _ hh => (List.mem_cons_of_mem _ (List.mem_append_right _ hh))
theorem k_X4_pairFrom_1 : Cond.fieldLink RX4 19 "FeatherHall$Evening" "waited" "[I" ∈ wsX4_pairFrom := (List.mem_cons_of_mem _ (List.mem_append_left _ (List.mem_append_left _ (List.mem_of_getElem? (i := 1) rfl))))
theorem k_X4_pairFrom_2 : Cond.fieldLink RX4 22 "FeatherHall$Evening" "games" "[I" ∈ wsX4_pairFrom := (List.mem_cons_of_mem _ (List.mem_append_left _ (List.mem_append_left _ (List.mem_of_getElem? (i := 2) rfl))))
theorem k_X4_pairFrom_3 : Cond.fieldLink RX4 15 "FeatherHall$Evening" "grades" "[I" ∈ wsX4_pairFrom := (List.mem_cons_of_mem _ (List.mem_append_left _ (List.mem_append_left _ (List.mem_of_getElem? (i := 3) rfl))))
theorem k_X4_pairFrom_4 : Cond.methodLink RX4 88 Lib.Math.abs.name ∈ wsX4_pairFrom := (List.mem_cons_of_mem _ (List.mem_append_left _ (List.mem_append_left _ (List.mem_of_getElem? (i := 4) rfl))))
theorem k_X4_pairFrom_5 : Cond.static Lib.Math.abs.name ∈ wsX4_pairFrom := (List.mem_cons_of_mem _ (List.mem_append_left _ (List.mem_append_left _ (List.mem_of_getElem? (i := 5) rfl))))
theorem k_X4_pairFrom_6 : Cond.initialized "java/lang/Math" ∈ wsX4_pairFrom := (List.mem_cons_of_mem _ (List.mem_append_left _ (List.mem_append_left _ (List.mem_of_getElem? (i := 6) rfl))))
theorem k_X4_pairFrom_7 : Cond.code Lib.Math.abs.name Lib.Math.abs.code 1 (some .int) ∈ wsX4_pairFrom := (List.mem_cons_of_mem _ (List.mem_append_left _ (List.mem_append_left _ (List.mem_of_getElem? (i := 7) rfl))))
theorem hd_X4_pairFrom : yX4_pairFrom.cls = RX4 ∧ yX4_pairFrom.cls ≠ "java/lang/invoke/MethodHandle" ∧ yX4_pairFrom.cls ≠ "java/lang/invoke/VarHandle" ∧ (parseMethodDescriptor yX4_pairFrom.desc).map (fun d => d.parameters.length) = some 5 := by decide +kernel
set_option maxHeartbeats 4000000 in
set_option maxRecDepth 100000 in
theorem w_X4_pairFrom_142 {p : Program} {l : Launch} {e : Env} {s : State} {m : MethodId} {below : List Frame} {meth : Method} {c : Code} {args : Array Value} {D : va_G} {cy : Nat → ClassId} {g : Nat → Nat} {A : Nat → Prop} {ue' : St} {nr : Nat} (C0 : Cx p s m meth c args cX4_pairFrom 7 none wsX4_pairFrom RX4 D cy A) {k_rec : Int32 → Int32 → Int32 → Int32 → Int32 → St → Option (St)} (hrec : ∀ (ue : St) (p0 : Int32) (p1 : Int32) (p2 : Int32) (p3 : Int32) (p4 : Int32) (ue' : St), k_rec p0 p1 p2 p3 p4 ue = some ue' → CtV l yX4_pairFrom wsX4_pairFrom (rmH (nr + 2)) [.ref (g 499), .int p0, .int p1, .int p2, .int p3, .int p4] D cy (wX4 cy g ue) (wX4 cy g ue')) {k_34 : Int32 → Int32 → Int32 → Int32 → Int32 → Int32 → St → Option (St)} (hk_34 : ∀ (l1 : Int32) (l2 : Int32) (l3 : Int32) (l4 : Int32) (l5 : Int32) (l6 : Int32) (ue : St), k_34 l1 l2 l3 l4 l5 l6 ue = some ue' → ∀ (H : Heap) (locs : List Loc) (ls : Array Slot), va_P D vwCl (wX4 cy g ue) H → va_D A (wX4 cy g ue) → va_S A s.heap H locs → lv_has ls 7 [(0, .ref (g 499)), (1, .int l1), (2, .int l2), (3, .int l3), (4, .int l4), (5, .int l5), (6, .int l6)] → W p l e (rmH (nr + 3)) s m args below meth c H locs 0 0 (QV below args s A D cy (wX4 cy g ue')) (F0 m 34 ls [])) : ∀ (l1 : Int32) (l2 : Int32) (l3 : Int32) (l4 : Int32) (l5 : Int32) (l6 : Int32) (ue : St), f_X4_pairFrom_142 k_rec k_34 l1 l2 l3 l4 l5 l6 ue = some ue' → ∀ (H : Heap) (locs : List Loc) (ls : Array Slot), va_P D vwCl (wX4 cy g ue) H → va_D A (wX4 cy g ue) → va_S A s.heap H locs → lv_has ls 7 [(0, .ref (g 499)), (1, .int l1), (2, .int l2), (3, .int l3), (4, .int l4), (5, .int l5), (6, .int l6)] → W p l e (rmH (nr + 3)) s m args below meth c H locs 0 0 (QV below args s A D cy (wX4 cy g ue')) (F0 m 142 ls []) := by
  obtain ⟨hx, hb, hr, hml, hown, hts, hlocks, hK, hA⟩ := id C0
  intro l1 l2 l3 l4 l5 l6 ue h H locs ls hP hD hS hl
  rw [f_X4_pairFrom_142] at h
  obtain ⟨v23, ev23, h⟩ := nm_ex h
  refine lv_iinc (v := v23) (lv' := [(6, .int v23), (0, .ref (g 499)), (1, .int l1), (2, .int l2), (3, .int l3), (4, .int l4), (5, .int l5)]) hx hb dX4_pairFrom_142 hl (k := 6) rfl (by rw [ev23]; rfl) (by decide) rfl (fun ls hl => ?_)
  clear ev23
  refine lv_goto (tgt := 34) hx hb dX4_pairFrom_145 (by decide) ?_
  exact hk_34 l1 l2 l3 l4 l5 v23 ue h _ _ ls hP hD hS (lv_sub hl [1, 2, 3, 4, 5, 6, 0] rfl)
set_option maxHeartbeats 4000000 in
set_option maxRecDepth 100000 in
theorem w_X4_pairFrom_148 {p : Program} {l : Launch} {e : Env} {s : State} {m : MethodId} {below : List Frame} {meth : Method} {c : Code} {args : Array Value} {D : va_G} {cy : Nat → ClassId} {g : Nat → Nat} {A : Nat → Prop} {ue' : St} {nr : Nat} (C0 : Cx p s m meth c args cX4_pairFrom 7 none wsX4_pairFrom RX4 D cy A) {k_rec : Int32 → Int32 → Int32 → Int32 → Int32 → St → Option (St)} (hrec : ∀ (ue : St) (p0 : Int32) (p1 : Int32) (p2 : Int32) (p3 : Int32) (p4 : Int32) (ue' : St), k_rec p0 p1 p2 p3 p4 ue = some ue' → CtV l yX4_pairFrom wsX4_pairFrom (rmH (nr + 2)) [.ref (g 499), .int p0, .int p1, .int p2, .int p3, .int p4] D cy (wX4 cy g ue) (wX4 cy g ue')) : ∀ (l1 : Int32) (l2 : Int32) (l3 : Int32) (l4 : Int32) (l5 : Int32) (ue : St), f_X4_pairFrom_148 k_rec l1 l2 l3 l4 l5 ue = some ue' → ∀ (H : Heap) (locs : List Loc) (ls : Array Slot), va_P D vwCl (wX4 cy g ue) H → va_D A (wX4 cy g ue) → va_S A s.heap H locs → lv_has ls 7 [(0, .ref (g 499)), (1, .int l1), (2, .int l2), (3, .int l3), (4, .int l4), (5, .int l5)] → W p l e (rmH (nr + 3)) s m args below meth c H locs 0 0 (QV below args s A D cy (wX4 cy g ue')) (F0 m 148 ls []) := by
  obtain ⟨hx, hb, hr, hml, hown, hts, hlocks, hK, hA⟩ := id C0
  intro l1 l2 l3 l4 l5 ue h H locs ls hP hD hS hl
  rw [f_X4_pairFrom_148] at h
  refine lv_aload_n hx hb dX4_pairFrom_148 rfl (lv_at hl 0 rfl) ?_
  refine lv_iload_n hx hb dX4_pairFrom_149 rfl (lv_at hl 1 rfl) ?_
  refine lv_iconst (v := 1) hx hb dX4_pairFrom_150 (by decide) ?_
  refine lv_iadd hx hb dX4_pairFrom_151 ?_
  refine lv_iload_n hx hb dX4_pairFrom_152 rfl (lv_at hl 2 rfl) ?_
  refine lv_iload_n hx hb dX4_pairFrom_153 rfl (lv_at hl 3 rfl) ?_
  refine lv_iload hx hb dX4_pairFrom_154 (lv_at hl 4 rfl) ?_
  refine lv_iload hx hb dX4_pairFrom_156 (lv_at hl 5 rfl) ?_
  obtain ⟨ue6, e7, h⟩ := bd_some h
  refine x_callVV (As := [.int (l1 + (1 : Int32)), .int l2, .int l3, .int l4, .int l5]) (rest := []) (n := 5) ⟨hx, hb, hml, hown, hts⟩ (hrec ue (l1 + (1 : Int32)) l2 l3 l4 l5 ue6 e7) gX4_pairFrom_X4_pairFrom rfl hd_X4_pairFrom (rm_ok (by omega) (by omega)) ⟨rfl, rfl⟩ hK (sp_all _) (sp_all _) hP hD hS hA 0 rfl rfl rfl hl.1 rfl (Nat.le_of_ble_eq_true rfl) dX4_pairFrom_158 ⟨Nat.zero_le _, Nat.zero_le _⟩ (fun H locs hP hD hS => ?_)
  clear e7
  cases h
  exact x_vret hx hb hr hlocks hK hP hD hS dX4_pairFrom_161 rfl
set_option maxHeartbeats 4000000 in
set_option maxRecDepth 100000 in
theorem w_X4_pairFrom_34 {p : Program} {l : Launch} {e : Env} {s : State} {m : MethodId} {below : List Frame} {meth : Method} {c : Code} {args : Array Value} {D : va_G} {cy : Nat → ClassId} {g : Nat → Nat} {A : Nat → Prop} {ue' : St} {nr : Nat} (C0 : Cx p s m meth c args cX4_pairFrom 7 none wsX4_pairFrom RX4 D cy A) {k_rec : Int32 → Int32 → Int32 → Int32 → Int32 → St → Option (St)} (hrec : ∀ (ue : St) (p0 : Int32) (p1 : Int32) (p2 : Int32) (p3 : Int32) (p4 : Int32) (ue' : St), k_rec p0 p1 p2 p3 p4 ue = some ue' → CtV l yX4_pairFrom wsX4_pairFrom (rmH (nr + 2)) [.ref (g 499), .int p0, .int p1, .int p2, .int p3, .int p4] D cy (wX4 cy g ue) (wX4 cy g ue')) : ∀ (nn : Nat) (l1 : Int32) (l2 : Int32) (l3 : Int32) (l4 : Int32) (l5 : Int32) (l6 : Int32) (ue : St), f_X4_pairFrom_34 k_rec nn l1 l2 l3 l4 l5 l6 ue = some ue' → ∀ (H : Heap) (locs : List Loc) (ls : Array Slot), va_P D vwCl (wX4 cy g ue) H → va_D A (wX4 cy g ue) → va_S A s.heap H locs → lv_has ls 7 [(0, .ref (g 499)), (1, .int l1), (2, .int l2), (3, .int l3), (4, .int l4), (5, .int l5), (6, .int l6)] → W p l e (rmH (nr + 3)) s m args below meth c H locs 0 0 (QV below args s A D cy (wX4 cy g ue')) (F0 m 34 ls []) := by
  obtain ⟨hx, hb, hr, hml, hown, hts, hlocks, hK, hA⟩ := id C0
  intro nn
  induction nn with
  | zero => intro l1 l2 l3 l4 l5 l6 ue h; rw [f_X4_pairFrom_34] at h; cases h
  | succ nn ih =>
    intro l1 l2 l3 l4 l5 l6 ue h H locs ls hP hD hS hl
    rw [f_X4_pairFrom_34] at h
    refine lv_iload hx hb dX4_pairFrom_34 (lv_at hl 6 rfl) ?_
    refine lv_bipush (v := 8) hx hb dX4_pairFrom_36 (by decide) ?_
    refine x_icmp_ge (tgt := 148) hx hb dX4_pairFrom_38 (by decide) h (fun _ h => ?_) (fun _ h => ?_)
    · exact w_X4_pairFrom_148 C0 hrec l1 l2 l3 l4 l5 ue h _ _ ls hP hD hS (lv_sub hl [0, 1, 2, 3, 4, 5] rfl)
    · refine lv_aload_n hx hb dX4_pairFrom_41 rfl (lv_at hl 0 rfl) ?_
      refine lv_iload hx hb dX4_pairFrom_42 (lv_at hl 6 rfl) ?_
      obtain ⟨r8, e9, h⟩ := bd_some h
      refine x_callVI (As := [.int l6]) (rest := []) (n := 1) ⟨hx, hb, hml, hown, hts⟩ (c_X4_isFree l D cy g ue l6 r8 e9) gX4_pairFrom_X4_isFree rfl hd_X4_isFree (rm_ok (by omega) (by omega)) ⟨rfl, rfl⟩ hK (sp_all _) (sp_all _) hP hD hS hA 0 rfl rfl rfl hl.1 rfl (Nat.le_of_ble_eq_true rfl) dX4_pairFrom_44 ⟨Nat.zero_le _, Nat.zero_le _⟩ (fun H locs hP hD hS => ?_)
      clear e9
      refine x_if_eq (tgt := 142) hx hb dX4_pairFrom_47 (by decide) h (fun _ h => ?_) (fun _ h => ?_)
      · exact w_X4_pairFrom_142 C0 hrec ih l1 l2 l3 l4 l5 l6 ue h _ _ ls hP hD hS (lv_sub hl [0, 1, 2, 3, 4, 5, 6] rfl)
      · refine lv_aload_n hx hb dX4_pairFrom_50 rfl (lv_at hl 0 rfl) ?_
        refine va_get (D := D) (ci := 3) (v := .ref (g 404)) (C := RX4) (T := TX4) (N := 14) hx hb hts ki_X4_pairFrom_X4 hown hK hP 0 rfl rfl 4 (by decide) (hts _ k_X4_pairFrom_0) (fun _ h9 => h9) rfl dX4_pairFrom_51 ?_
        refine lv_iload_n hx hb dX4_pairFrom_54 rfl (lv_at hl 1 rfl) ?_
        refine lv_iload hx hb dX4_pairFrom_55 (lv_at hl 6 rfl) ?_
        refine x_iast (Wd := (fun uz => wX4 cy g uz)) (u := ue) (k := 4) hx hb hK hP hD hS 5 rfl rfl (fun _ => rfl) h dX4_pairFrom_57 (fun ue10 H locs h hP hD hS => ?_)
        refine lv_aload_n hx hb dX4_pairFrom_58 rfl (lv_at hl 0 rfl) ?_
        refine va_get (D := D) (ci := 3) (v := .ref (g 404)) (C := RX4) (T := TX4) (N := 14) hx hb hts ki_X4_pairFrom_X4 hown hK hP 0 rfl rfl 4 (by decide) (hts _ k_X4_pairFrom_0) (fun _ h9 => h9) rfl dX4_pairFrom_59 ?_
        refine lv_iload hx hb dX4_pairFrom_62 (lv_at hl 6 rfl) ?_
        refine lv_iload_n hx hb dX4_pairFrom_64 rfl (lv_at hl 1 rfl) ?_
        refine x_iast (Wd := (fun uz => wX4 cy g uz)) (u := ue10) (k := 4) hx hb hK hP hD hS 5 rfl rfl (fun _ => rfl) h dX4_pairFrom_65 (fun ue11 H locs h hP hD hS => ?_)
        refine lv_aload_n hx hb dX4_pairFrom_66 rfl (lv_at hl 0 rfl) ?_
        refine lv_iload_n hx hb dX4_pairFrom_67 rfl (lv_at hl 1 rfl) ?_
        refine lv_iconst (v := 1) hx hb dX4_pairFrom_68 (by decide) ?_
        refine lv_iadd hx hb dX4_pairFrom_69 ?_
        refine lv_iload_n hx hb dX4_pairFrom_70 rfl (lv_at hl 2 rfl) ?_
        refine lv_iconst (v := 1) hx hb dX4_pairFrom_71 (by decide) ?_
        refine lv_isub hx hb dX4_pairFrom_72 ?_
        refine lv_iload_n hx hb dX4_pairFrom_73 rfl (lv_at hl 3 rfl) ?_
        refine lv_aload_n hx hb dX4_pairFrom_74 rfl (lv_at hl 0 rfl) ?_
        refine va_get (D := D) (ci := 3) (v := .ref (g 402)) (C := RX4) (T := TX4) (N := 14) hx hb hts ki_X4_pairFrom_X4 hown hK hP 0 rfl rfl 2 (by decide) (hts _ k_X4_pairFrom_1) (fun _ h9 => h9) rfl dX4_pairFrom_75 ?_
        refine lv_iload_n hx hb dX4_pairFrom_78 rfl (lv_at hl 1 rfl) ?_
        refine x_iald hx hb hK hP 3 rfl rfl h dX4_pairFrom_79 (fun v12 h => ?_)
        refine lv_iadd hx hb dX4_pairFrom_80 ?_
        refine lv_aload_n hx hb dX4_pairFrom_81 rfl (lv_at hl 0 rfl) ?_
        refine va_get (D := D) (ci := 3) (v := .ref (g 402)) (C := RX4) (T := TX4) (N := 14) hx hb hts ki_X4_pairFrom_X4 hown hK hP 0 rfl rfl 2 (by decide) (hts _ k_X4_pairFrom_1) (fun _ h9 => h9) rfl dX4_pairFrom_82 ?_
        refine lv_iload hx hb dX4_pairFrom_85 (lv_at hl 6 rfl) ?_
        refine x_iald hx hb hK hP 3 rfl rfl h dX4_pairFrom_87 (fun v13 h => ?_)
        refine lv_iadd hx hb dX4_pairFrom_88 ?_
        refine lv_iload hx hb dX4_pairFrom_89 (lv_at hl 4 rfl) ?_
        refine lv_aload_n hx hb dX4_pairFrom_91 rfl (lv_at hl 0 rfl) ?_
        refine va_get (D := D) (ci := 3) (v := .ref (g 403)) (C := RX4) (T := TX4) (N := 14) hx hb hts ki_X4_pairFrom_X4 hown hK hP 0 rfl rfl 3 (by decide) (hts _ k_X4_pairFrom_2) (fun _ h9 => h9) rfl dX4_pairFrom_92 ?_
        refine lv_iload_n hx hb dX4_pairFrom_95 rfl (lv_at hl 1 rfl) ?_
        refine lv_bipush (v := 8) hx hb dX4_pairFrom_96 (by decide) ?_
        refine lv_imul hx hb dX4_pairFrom_98 ?_
        refine lv_iload hx hb dX4_pairFrom_99 (lv_at hl 6 rfl) ?_
        refine lv_iadd hx hb dX4_pairFrom_101 ?_
        refine x_iald hx hb hK hP 4 rfl rfl h dX4_pairFrom_102 (fun v14 h => ?_)
        refine lv_iadd hx hb dX4_pairFrom_103 ?_
        refine lv_iload hx hb dX4_pairFrom_104 (lv_at hl 5 rfl) ?_
        refine lv_aload_n hx hb dX4_pairFrom_106 rfl (lv_at hl 0 rfl) ?_
        refine va_get (D := D) (ci := 3) (v := .ref (g 401)) (C := RX4) (T := TX4) (N := 14) hx hb hts ki_X4_pairFrom_X4 hown hK hP 0 rfl rfl 1 (by decide) (hts _ k_X4_pairFrom_3) (fun _ h9 => h9) rfl dX4_pairFrom_107 ?_
        refine lv_iload_n hx hb dX4_pairFrom_110 rfl (lv_at hl 1 rfl) ?_
        refine x_iald hx hb hK hP 2 rfl rfl h dX4_pairFrom_111 (fun v15 h => ?_)
        refine lv_aload_n hx hb dX4_pairFrom_112 rfl (lv_at hl 0 rfl) ?_
        refine va_get (D := D) (ci := 3) (v := .ref (g 401)) (C := RX4) (T := TX4) (N := 14) hx hb hts ki_X4_pairFrom_X4 hown hK hP 0 rfl rfl 1 (by decide) (hts _ k_X4_pairFrom_3) (fun _ h9 => h9) rfl dX4_pairFrom_113 ?_
        refine lv_iload hx hb dX4_pairFrom_116 (lv_at hl 6 rfl) ?_
        refine x_iald hx hb hK hP 2 rfl rfl h dX4_pairFrom_118 (fun v16 h => ?_)
        refine lv_isub hx hb dX4_pairFrom_119 ?_
        refine x_nm h (fun v17 h => ?_)
        refine va_mabs hx hb (hml.trans hl.1.symm) hown (hts _ k_X4_pairFrom_4) (hts _ k_X4_pairFrom_5) (hts _ k_X4_pairFrom_6) (hts _ k_X4_pairFrom_7) (Nat.le_of_ble_eq_true rfl) (Nat.le_of_ble_eq_true rfl) (Nat.zero_le _) (Nat.zero_le _) dX4_pairFrom_120 ?_
        refine x_nm h (fun v18 h => ?_)
        refine lv_iadd hx hb dX4_pairFrom_123 ?_
        obtain ⟨ue19, e20, h⟩ := bd_some h
        refine x_callVV (As := [.int (l1 + (1 : Int32)), .int (l2 - (1 : Int32)), .int ((l3 + v12) + v13), .int (l4 + v14), .int (l5 + v18)]) (rest := []) (n := 5) ⟨hx, hb, hml, hown, hts⟩ (hrec ue11 (l1 + (1 : Int32)) (l2 - (1 : Int32)) ((l3 + v12) + v13) (l4 + v14) (l5 + v18) ue19 e20) gX4_pairFrom_X4_pairFrom rfl hd_X4_pairFrom (rm_ok (by omega) (by omega)) ⟨rfl, rfl⟩ hK (sp_all _) (sp_all _) hP hD hS hA 0 rfl rfl rfl hl.1 rfl (Nat.le_of_ble_eq_true rfl) dX4_pairFrom_124 ⟨Nat.zero_le _, Nat.zero_le _⟩ (fun H locs hP hD hS => ?_)
        clear e20
        refine lv_aload_n hx hb dX4_pairFrom_127 rfl (lv_at hl 0 rfl) ?_
        refine va_get (D := D) (ci := 3) (v := .ref (g 404)) (C := RX4) (T := TX4) (N := 14) hx hb hts ki_X4_pairFrom_X4 hown hK hP 0 rfl rfl 4 (by decide) (hts _ k_X4_pairFrom_0) (fun _ h9 => h9) rfl dX4_pairFrom_128 ?_
        refine lv_iload_n hx hb dX4_pairFrom_131 rfl (lv_at hl 1 rfl) ?_
        refine lv_iconst (v := -1) hx hb dX4_pairFrom_132 (by decide) ?_
        refine x_iast (Wd := (fun uz => wX4 cy g uz)) (u := ue19) (k := 4) hx hb hK hP hD hS 5 rfl rfl (fun _ => rfl) h dX4_pairFrom_133 (fun ue21 H locs h hP hD hS => ?_)
        refine lv_aload_n hx hb dX4_pairFrom_134 rfl (lv_at hl 0 rfl) ?_
        refine va_get (D := D) (ci := 3) (v := .ref (g 404)) (C := RX4) (T := TX4) (N := 14) hx hb hts ki_X4_pairFrom_X4 hown hK hP 0 rfl rfl 4 (by decide) (hts _ k_X4_pairFrom_0) (fun _ h9 => h9) rfl dX4_pairFrom_135 ?_
        refine lv_iload hx hb dX4_pairFrom_138 (lv_at hl 6 rfl) ?_
        refine lv_iconst (v := -1) hx hb dX4_pairFrom_140 (by decide) ?_
        refine x_iast (Wd := (fun uz => wX4 cy g uz)) (u := ue21) (k := 4) hx hb hK hP hD hS 5 rfl rfl (fun _ => rfl) h dX4_pairFrom_141 (fun ue22 H locs h hP hD hS => ?_)
        exact w_X4_pairFrom_142 C0 hrec ih l1 l2 l3 l4 l5 l6 ue22 h _ _ ls hP hD hS (lv_sub hl [0, 1, 2, 3, 4, 5, 6] rfl)
set_option maxHeartbeats 4000000 in
set_option maxRecDepth 100000 in
theorem c_X4_pairFrom : ∀ (nr : Nat) (l : Launch) (D : va_G) (cy : Nat → ClassId) (g : Nat → Nat) (ue : St) (p0 : Int32) (p1 : Int32) (p2 : Int32) (p3 : Int32) (p4 : Int32) (ue' : St) (_ : f_X4_pairFrom nr p0 p1 p2 p3 p4 ue = some ue'), CtV l yX4_pairFrom wsX4_pairFrom (rmH (nr + 2)) [.ref (g 499), .int p0, .int p1, .int p2, .int p3, .int p4] D cy (wX4 cy g ue) (wX4 cy g ue') := by
  intro nr l D cy g
  induction nr with
  | zero => intro ue p0 p1 p2 p3 p4 ue' h; rw [f_X4_pairFrom] at h; cases h
  | succ nr hrec =>
  intro ue p0 p1 p2 p3 p4 ue' h
  refine ct_enter (D := D) (cy := cy) (cc := cX4_pairFrom) (maxL := 7) (ret := none) (w := wX4 cy g ue) (Qc := fun sz => va_Qv (fun (_ : Unit) => True) (Bw D cy (va_A (wX4 cy g ue) sz) (wX4 cy g ue')) (va_A (wX4 cy g ue) sz)) (by decide) rfl (Nat.le_of_ble_eq_true rfl) ?_
  intro p e s m below meth c A C0 hAe ls hl hP hD hS
  have e1 : MQ below ((fun sz => va_Qv (fun (_ : Unit) => True) (Bw D cy (va_A (wX4 cy g ue) sz) (wX4 cy g ue')) (va_A (wX4 cy g ue) sz)) s.heap.size) [.ref (g 499), .int p0, .int p1, .int p2, .int p3, .int p4].toArray s 0 0 A = QV below [.ref (g 499), .int p0, .int p1, .int p2, .int p3, .int p4].toArray s A D cy (wX4 cy g ue') := by rw [hAe]; rfl
  rw [e1]
  clear e1 hAe
  obtain ⟨hx, hb, hr, hml, hown, hts, hlocks, hK, hA⟩ := id C0
  have hl : lv_has ls 7 [(0, .ref (g 499)), (1, .int p0), (2, .int p1), (3, .int p2), (4, .int p3), (5, .int p4)] := hl
  rw [f_X4_pairFrom] at h
  refine lv_iload_n hx hb dX4_pairFrom_0 rfl (lv_at hl 2 rfl) ?_
  refine x_if_ne (tgt := 14) hx hb dX4_pairFrom_1 (by decide) h (fun _ h => ?_) (fun _ h => ?_)
  · refine lv_aload_n hx hb dX4_pairFrom_4 rfl (lv_at hl 0 rfl) ?_
    refine lv_iload_n hx hb dX4_pairFrom_5 rfl (lv_at hl 3 rfl) ?_
    refine lv_iload hx hb dX4_pairFrom_6 (lv_at hl 4 rfl) ?_
    refine lv_iload hx hb dX4_pairFrom_8 (lv_at hl 5 rfl) ?_
    obtain ⟨ue1, e2, h⟩ := bd_some h
    refine x_callVV (As := [.int p2, .int p3, .int p4]) (rest := []) (n := 3) ⟨hx, hb, hml, hown, hts⟩ (c_X4_keepIfBetter l D cy g ue p2 p3 p4 ue1 e2) gX4_pairFrom_X4_keepIfBetter rfl hd_X4_keepIfBetter (rm_ok (by omega) (by omega)) ⟨rfl, rfl⟩ hK (sp_all _) (sp_all _) hP hD hS hA 0 rfl rfl rfl hl.1 rfl (Nat.le_of_ble_eq_true rfl) dX4_pairFrom_10 ⟨Nat.zero_le _, Nat.zero_le _⟩ (fun H locs hP hD hS => ?_)
    clear e2
    cases h
    exact x_vret hx hb hr hlocks hK hP hD hS dX4_pairFrom_13 rfl
  · refine lv_iload_n hx hb dX4_pairFrom_14 rfl (lv_at hl 1 rfl) ?_
    refine lv_bipush (v := 8) hx hb dX4_pairFrom_15 (by decide) ?_
    refine x_icmp_lt (tgt := 21) hx hb dX4_pairFrom_17 (by decide) h (fun _ h => ?_) (fun _ h => ?_)
    · refine lv_aload_n hx hb dX4_pairFrom_21 rfl (lv_at hl 0 rfl) ?_
      refine lv_iload_n hx hb dX4_pairFrom_22 rfl (lv_at hl 1 rfl) ?_
      obtain ⟨r3, e4, h⟩ := bd_some h
      refine x_callVI (As := [.int p0]) (rest := []) (n := 1) ⟨hx, hb, hml, hown, hts⟩ (c_X4_isFree l D cy g ue p0 r3 e4) gX4_pairFrom_X4_isFree rfl hd_X4_isFree (rm_ok (by omega) (by omega)) ⟨rfl, rfl⟩ hK (sp_all _) (sp_all _) hP hD hS hA 0 rfl rfl rfl hl.1 rfl (Nat.le_of_ble_eq_true rfl) dX4_pairFrom_23 ⟨Nat.zero_le _, Nat.zero_le _⟩ (fun H locs hP hD hS => ?_)
      clear e4
      refine x_if_eq (tgt := 148) hx hb dX4_pairFrom_26 (by decide) h (fun _ h => ?_) (fun _ h => ?_)
      · exact w_X4_pairFrom_148 C0 hrec p0 p1 p2 p3 p4 ue h _ _ ls hP hD hS (lv_sub hl [0, 1, 2, 3, 4, 5] rfl)
      · refine lv_iload_n hx hb dX4_pairFrom_29 rfl (lv_at hl 1 rfl) ?_
        refine lv_iconst (v := 1) hx hb dX4_pairFrom_30 (by decide) ?_
        refine lv_iadd hx hb dX4_pairFrom_31 ?_
        refine x_nm h (fun v5 h => ?_)
        refine lv_istore (lv' := [(6, .int v5), (0, .ref (g 499)), (1, .int p0), (2, .int p1), (3, .int p2), (4, .int p3), (5, .int p4)]) hx hb dX4_pairFrom_32 hl (by decide) rfl (fun ls hl => ?_)
        exact w_X4_pairFrom_34 C0 hrec FU p0 p1 p2 p3 p4 v5 ue h _ _ ls hP hD hS (lv_sub hl [1, 2, 3, 4, 5, 6, 0] rfl)
    · cases h
      exact x_vret hx hb hr hlocks hK hP hD hS dX4_pairFrom_20 rfl
theorem k_X4_seek_0 : Cond.fieldLink RX4 41 "FeatherHall$Evening" "isSought" "Z" ∈ wsX4_seek := (List.mem_cons_of_mem _ (List.mem_append_left _ (List.mem_append_left _ (List.mem_of_getElem? (i := 0) rfl))))
theorem ki_X4_seek_X4 : ∀ w ∈ u_ws RX4 TX4 14, w ∈ wsX4_seek := fun _ hh => (List.mem_cons_of_mem _ (List.mem_append_right _ hh))
theorem k_X4_seek_1 : Cond.fieldLink RX4 45 "FeatherHall$Evening" "isFound" "Z" ∈ wsX4_seek := (List.mem_cons_of_mem _ (List.mem_append_left _ (List.mem_append_left _ (List.mem_of_getElem? (i := 1) rfl))))
theorem k_X4_seek_2 : Cond.fieldLink RX4 25 "FeatherHall$Evening" "mates" "[I" ∈ wsX4_seek := (List.mem_cons_of_mem _ (List.mem_append_left _ (List.mem_append_left _ (List.mem_of_getElem? (i := 2) rfl))))
theorem hd_X4_seek : yX4_seek.cls = RX4 ∧ yX4_seek.cls ≠ "java/lang/invoke/MethodHandle" ∧ yX4_seek.cls ≠ "java/lang/invoke/VarHandle" ∧ (parseMethodDescriptor yX4_seek.desc).map (fun d => d.parameters.length) = some 0 := by decide +kernel
set_option maxHeartbeats 4000000 in
set_option maxRecDepth 100000 in
theorem c_X4_seek (l : Launch) (D : va_G) (cy : Nat → ClassId) (g : Nat → Nat) (ue : St) (ue' : St) (h : f_X4_seek ue = some ue') : CtV l yX4_seek wsX4_seek (rmH 13) [.ref (g 499)] D cy (wX4 cy g ue) (wX4 cy g ue') := by
  refine ct_enter (D := D) (cy := cy) (cc := cX4_seek) (maxL := 1) (ret := none) (w := wX4 cy g ue) (Qc := fun sz => va_Qv (fun (_ : Unit) => True) (Bw D cy (va_A (wX4 cy g ue) sz) (wX4 cy g ue')) (va_A (wX4 cy g ue) sz)) (by decide) rfl (Nat.le_of_ble_eq_true rfl) ?_
  intro p e s m below meth c A C0 hAe ls hl hP hD hS
  have e1 : MQ below ((fun sz => va_Qv (fun (_ : Unit) => True) (Bw D cy (va_A (wX4 cy g ue) sz) (wX4 cy g ue')) (va_A (wX4 cy g ue) sz)) s.heap.size) [.ref (g 499)].toArray s 0 0 A = QV below [.ref (g 499)].toArray s A D cy (wX4 cy g ue') := by rw [hAe]; rfl
  rw [e1]
  clear e1 hAe
  obtain ⟨hx, hb, hr, hml, hown, hts, hlocks, hK, hA⟩ := id C0
  have hl : lv_has ls 1 [(0, .ref (g 499))] := hl
  rw [f_X4_seek] at h
  refine lv_aload_n hx hb dX4_seek_0 rfl (lv_at hl 0 rfl) ?_
  refine va_get (D := D) (ci := 3) (v := .int (ue.1 9)) (C := RX4) (T := TX4) (N := 14) hx hb hts ki_X4_seek_X4 hown hK hP 0 rfl rfl 9 (by decide) (hts _ k_X4_seek_0) (fun _ h9 => h9) rfl dX4_seek_1 ?_
  refine x_if_eq (tgt := 8) hx hb dX4_seek_4 (by decide) h (fun _ h => ?_) (fun _ h => ?_)
  · refine lv_aload_n hx hb dX4_seek_8 rfl (lv_at hl 0 rfl) ?_
    refine lv_iconst (v := 1) hx hb dX4_seek_9 (by decide) ?_
    refine x_put (D := D) (ci := 3) (Wd := (fun uz => wX4 cy g uz)) (u := ue) (C := RX4) (T := TX4) (N := 14) hx hb hts ki_X4_seek_X4 tyX4 tyX4_ok nmX4 hown hK hP hD hS 0 rfl rfl 9 (by decide) (hts _ k_X4_seek_0) (fun _ h9 => h9) rfl (tyX4_ok 9 (by decide)) rfl rfl (Nat.le_of_ble_eq_true rfl) (fun _ => rfl) h dX4_seek_10 (fun ue1 H locs h hP hD hS => ?_)
    refine lv_aload_n hx hb dX4_seek_13 rfl (lv_at hl 0 rfl) ?_
    refine lv_iconst (v := 0) hx hb dX4_seek_14 (by decide) ?_
    refine x_put (D := D) (ci := 3) (Wd := (fun uz => wX4 cy g uz)) (u := ue1) (C := RX4) (T := TX4) (N := 14) hx hb hts ki_X4_seek_X4 tyX4 tyX4_ok nmX4 hown hK hP hD hS 0 rfl rfl 10 (by decide) (hts _ k_X4_seek_1) (fun _ h9 => h9) rfl (tyX4_ok 10 (by decide)) rfl rfl (Nat.le_of_ble_eq_true rfl) (fun _ => rfl) h dX4_seek_15 (fun ue2 H locs h hP hD hS => ?_)
    refine lv_aload_n hx hb dX4_seek_18 rfl (lv_at hl 0 rfl) ?_
    refine va_get (D := D) (ci := 3) (v := .ref (g 404)) (C := RX4) (T := TX4) (N := 14) hx hb hts ki_X4_seek_X4 hown hK hP 0 rfl rfl 4 (by decide) (hts _ k_X4_seek_2) (fun _ h9 => h9) rfl dX4_seek_19 ?_
    refine lv_iconst (v := -1) hx hb dX4_seek_22 (by decide) ?_
    refine x_callSV (As := [.ref (g 404), .int (-1 : Int32)]) (rest := []) (n := 2) ⟨hx, hb, hml, hown, hts⟩ (c_fillI l D cy (g 404) 8 (ue2.2.1 4) (-1 : Int32) (by decide)) gX4_seek_J7_fill_53178 rfl hd_J7_fill_53178 ⟨Nat.le_of_ble_eq_true rfl, Nat.le_of_ble_eq_true rfl⟩ ⟨rfl, rfl⟩ hK (spf_404 cy g ue2) (spg_404 cy g ue2 (fillI 8 (ue2.2.1 4) (-1 : Int32))) hP hD hS hA rfl hl.1 rfl (Nat.le_of_ble_eq_true rfl) dX4_seek_23 ⟨Nat.zero_le _, Nat.zero_le _⟩ (fun H locs hP hD hS => ?_)
    obtain ⟨ue3, eue3, h⟩ := nm_ex h
    rw [← eue3] at hP hD
    clear eue3
    refine lv_aload_n hx hb dX4_seek_26 rfl (lv_at hl 0 rfl) ?_
    refine lv_iconst (v := 0) hx hb dX4_seek_27 (by decide) ?_
    refine lv_aload_n hx hb dX4_seek_28 rfl (lv_at hl 0 rfl) ?_
    obtain ⟨r4, e5, h⟩ := bd_some h
    refine x_callVI (As := []) (rest := [.int (0 : Int32), .ref (g 499)]) (n := 0) ⟨hx, hb, hml, hown, hts⟩ (c_X4_gamesAtOnce l D cy g ue3 r4 e5) gX4_seek_X4_gamesAtOnce rfl hd_X4_gamesAtOnce ⟨Nat.le_of_ble_eq_true rfl, Nat.le_of_ble_eq_true rfl⟩ ⟨rfl, rfl⟩ hK (sp_all _) (sp_all _) hP hD hS hA 0 rfl rfl rfl hl.1 rfl (Nat.le_of_ble_eq_true rfl) dX4_seek_29 ⟨Nat.zero_le _, Nat.zero_le _⟩ (fun H locs hP hD hS => ?_)
    clear e5
    refine lv_iconst (v := 0) hx hb dX4_seek_32 (by decide) ?_
    refine lv_iconst (v := 0) hx hb dX4_seek_33 (by decide) ?_
    refine lv_iconst (v := 0) hx hb dX4_seek_34 (by decide) ?_
    obtain ⟨ue6, e7, h⟩ := bd_some h
    refine x_callVV (As := [.int (0 : Int32), .int r4, .int (0 : Int32), .int (0 : Int32), .int (0 : Int32)]) (rest := []) (n := 5) ⟨hx, hb, hml, hown, hts⟩ (c_X4_pairFrom 10 l D cy g ue3 (0 : Int32) r4 (0 : Int32) (0 : Int32) (0 : Int32) ue6 e7) gX4_seek_X4_pairFrom rfl hd_X4_pairFrom ⟨Nat.le_of_ble_eq_true rfl, Nat.le_of_ble_eq_true rfl⟩ ⟨rfl, rfl⟩ hK (sp_all _) (sp_all _) hP hD hS hA 0 rfl rfl rfl hl.1 rfl (Nat.le_of_ble_eq_true rfl) dX4_seek_35 ⟨Nat.zero_le _, Nat.zero_le _⟩ (fun H locs hP hD hS => ?_)
    clear e7
    cases h
    exact x_vret hx hb hr hlocks hK hP hD hS dX4_seek_38 rfl
  · cases h
    exact x_vret hx hb hr hlocks hK hP hD hS dX4_seek_7 rfl
theorem k_X4_mateOf_0 : Cond.fieldLink RX4 28 "FeatherHall$Evening" "bestMates" "[I" ∈ wsX4_mateOf := (List.mem_cons_of_mem _ (List.mem_append_left _ (List.mem_append_left _ (List.mem_of_getElem? (i := 0) rfl))))
theorem ki_X4_mateOf_X4 : ∀ w ∈ u_ws RX4 TX4 14, w ∈ wsX4_mateOf := fun _ hh => (List.mem_cons_of_mem _ (List.mem_append_right _ hh))
theorem hd_X4_mateOf : yX4_mateOf.cls = RX4 ∧ yX4_mateOf.cls ≠ "java/lang/invoke/MethodHandle" ∧ yX4_mateOf.cls ≠ "java/lang/invoke/VarHandle" ∧ (parseMethodDescriptor yX4_mateOf.desc).map (fun d => d.parameters.length) = some 1 := by decide +kernel
set_option maxHeartbeats 4000000 in
set_option maxRecDepth 100000 in
theorem c_X4_mateOf (l : Launch) (D : va_G) (cy : Nat → ClassId) (g : Nat → Nat) (ue : St) (p0 : Int32) (r : Int32) (ue' : St) (h : f_X4_mateOf p0 ue = some (r, ue')) : CtI l yX4_mateOf wsX4_mateOf (rmH 14) [.ref (g 499), .int p0] D cy (wX4 cy g ue) (wX4 cy g ue') r := by
  refine ct_enter (D := D) (cy := cy) (cc := cX4_mateOf) (maxL := 2) (ret := (some .int)) (w := wX4 cy g ue) (Qc := fun sz => va_Qi (fun r' (_ : Unit) => r' = r) (Bw D cy (va_A (wX4 cy g ue) sz) (wX4 cy g ue')) (va_A (wX4 cy g ue) sz)) (by decide) rfl (Nat.le_of_ble_eq_true rfl) ?_
  intro p e s m below meth c A C0 hAe ls hl hP hD hS
  have e1 : MQ below ((fun sz => va_Qi (fun r' (_ : Unit) => r' = r) (Bw D cy (va_A (wX4 cy g ue) sz) (wX4 cy g ue')) (va_A (wX4 cy g ue) sz)) s.heap.size) [.ref (g 499), .int p0].toArray s 0 0 A = QI below [.ref (g 499), .int p0].toArray s A D cy (wX4 cy g ue') r := by rw [hAe]; rfl
  rw [e1]
  clear e1 hAe
  obtain ⟨hx, hb, hr, hml, hown, hts, hlocks, hK, hA⟩ := id C0
  have hl : lv_has ls 2 [(0, .ref (g 499)), (1, .int p0)] := hl
  rw [f_X4_mateOf] at h
  refine lv_aload_n hx hb dX4_mateOf_0 rfl (lv_at hl 0 rfl) ?_
  obtain ⟨ue1, e2, h⟩ := bd_some h
  refine x_callVV (As := []) (rest := []) (n := 0) ⟨hx, hb, hml, hown, hts⟩ (c_X4_seek l D cy g ue ue1 e2) gX4_mateOf_X4_seek rfl hd_X4_seek ⟨Nat.le_of_ble_eq_true rfl, Nat.le_of_ble_eq_true rfl⟩ ⟨rfl, rfl⟩ hK (sp_all _) (sp_all _) hP hD hS hA 0 rfl rfl rfl hl.1 rfl (Nat.le_of_ble_eq_true rfl) dX4_mateOf_1 ⟨Nat.zero_le _, Nat.zero_le _⟩ (fun H locs hP hD hS => ?_)
  clear e2
  refine lv_aload_n hx hb dX4_mateOf_4 rfl (lv_at hl 0 rfl) ?_
  refine va_get (D := D) (ci := 3) (v := .ref (g 405)) (C := RX4) (T := TX4) (N := 14) hx hb hts ki_X4_mateOf_X4 hown hK hP 0 rfl rfl 5 (by decide) (hts _ k_X4_mateOf_0) (fun _ h9 => h9) rfl dX4_mateOf_5 ?_
  refine lv_iload_n hx hb dX4_mateOf_8 rfl (lv_at hl 1 rfl) ?_
  refine x_iald hx hb hK hP 6 rfl rfl h dX4_mateOf_9 (fun v3 h => ?_)
  cases h
  exact x_iret hx hb hr hlocks hK hP hD hS dX4_mateOf_10 rfl rfl
theorem k_X4_readRound_0 : Cond.fieldLink RX4 48 "FeatherHall$Evening" "bestWaited" "I" ∈ wsX4_readRound := (List.mem_cons_of_mem _ (List.mem_append_left _ (List.mem_append_left _ (List.mem_of_getElem? (i := 0) rfl))))
theorem ki_X4_readRound_X4 : ∀ w ∈ u_ws RX4 TX4 14, w ∈ wsX4_readRound := fun _ hh => (List.mem_cons_of_mem _ (List.mem_append_right _ hh))
theorem k_X4_readRound_1 : Cond.fieldLink RX4 51 "FeatherHall$Evening" "bestBefore" "I" ∈ wsX4_readRound := (List.mem_cons_of_mem _ (List.mem_append_left _ (List.mem_append_left _ (List.mem_of_getElem? (i := 1) rfl))))
theorem k_X4_readRound_2 : Cond.fieldLink RX4 54 "FeatherHall$Evening" "bestUneven" "I" ∈ wsX4_readRound := (List.mem_cons_of_mem _ (List.mem_append_left _ (List.mem_append_left _ (List.mem_of_getElem? (i := 2) rfl))))
theorem hd_X4_readRound : yX4_readRound.cls = RX4 ∧ yX4_readRound.cls ≠ "java/lang/invoke/MethodHandle" ∧ yX4_readRound.cls ≠ "java/lang/invoke/VarHandle" ∧ (parseMethodDescriptor yX4_readRound.desc).map (fun d => d.parameters.length) = some 1 := by decide +kernel
set_option maxHeartbeats 4000000 in
set_option maxRecDepth 100000 in
theorem c_X4_readRound (l : Launch) (D : va_G) (cy : Nat → ClassId) (g : Nat → Nat) (ue : St) (p0 : Int32) (r : Int32) (ue' : St) (h : f_X4_readRound p0 ue = some (r, ue')) : CtI l yX4_readRound wsX4_readRound (rmH 14) [.ref (g 499), .int p0] D cy (wX4 cy g ue) (wX4 cy g ue') r := by
  refine ct_enter (D := D) (cy := cy) (cc := cX4_readRound) (maxL := 2) (ret := (some .int)) (w := wX4 cy g ue) (Qc := fun sz => va_Qi (fun r' (_ : Unit) => r' = r) (Bw D cy (va_A (wX4 cy g ue) sz) (wX4 cy g ue')) (va_A (wX4 cy g ue) sz)) (by decide) rfl (Nat.le_of_ble_eq_true rfl) ?_
  intro p e s m below meth c A C0 hAe ls hl hP hD hS
  have e1 : MQ below ((fun sz => va_Qi (fun r' (_ : Unit) => r' = r) (Bw D cy (va_A (wX4 cy g ue) sz) (wX4 cy g ue')) (va_A (wX4 cy g ue) sz)) s.heap.size) [.ref (g 499), .int p0].toArray s 0 0 A = QI below [.ref (g 499), .int p0].toArray s A D cy (wX4 cy g ue') r := by rw [hAe]; rfl
  rw [e1]
  clear e1 hAe
  obtain ⟨hx, hb, hr, hml, hown, hts, hlocks, hK, hA⟩ := id C0
  have hl : lv_has ls 2 [(0, .ref (g 499)), (1, .int p0)] := hl
  rw [f_X4_readRound] at h
  refine lv_aload_n hx hb dX4_readRound_0 rfl (lv_at hl 0 rfl) ?_
  obtain ⟨ue1, e2, h⟩ := bd_some h
  refine x_callVV (As := []) (rest := []) (n := 0) ⟨hx, hb, hml, hown, hts⟩ (c_X4_seek l D cy g ue ue1 e2) gX4_readRound_X4_seek rfl hd_X4_seek ⟨Nat.le_of_ble_eq_true rfl, Nat.le_of_ble_eq_true rfl⟩ ⟨rfl, rfl⟩ hK (sp_all _) (sp_all _) hP hD hS hA 0 rfl rfl rfl hl.1 rfl (Nat.le_of_ble_eq_true rfl) dX4_readRound_1 ⟨Nat.zero_le _, Nat.zero_le _⟩ (fun H locs hP hD hS => ?_)
  clear e2
  refine lv_iload_n hx hb dX4_readRound_4 rfl (lv_at hl 1 rfl) ?_
  by_cases q0 : p0 = (0 : Int32)
  · subst q0
    rw [if_pos rfl] at h
    refine lv_tableIn (tgt := 32) (off := 27) hx hb dX4_readRound_5 (by decide) (by decide) rfl (by decide) ?_
    refine lv_aload_n hx hb dX4_readRound_32 rfl (lv_at hl 0 rfl) ?_
    obtain ⟨r3, e4, h⟩ := bd_some h
    refine x_callVI (As := []) (rest := []) (n := 0) ⟨hx, hb, hml, hown, hts⟩ (c_X4_gamesAtOnce l D cy g ue1 r3 e4) gX4_readRound_X4_gamesAtOnce rfl hd_X4_gamesAtOnce ⟨Nat.le_of_ble_eq_true rfl, Nat.le_of_ble_eq_true rfl⟩ ⟨rfl, rfl⟩ hK (sp_all _) (sp_all _) hP hD hS hA 0 rfl rfl rfl hl.1 rfl (Nat.le_of_ble_eq_true rfl) dX4_readRound_33 ⟨Nat.zero_le _, Nat.zero_le _⟩ (fun H locs hP hD hS => ?_)
    clear e4
    cases h
    exact x_iret hx hb hr hlocks hK hP hD hS dX4_readRound_36 rfl rfl
  rw [if_neg q0] at h
  by_cases q1 : p0 = (1 : Int32)
  · subst q1
    rw [if_pos rfl] at h
    refine lv_tableIn (tgt := 37) (off := 32) hx hb dX4_readRound_5 (by decide) (by decide) rfl (by decide) ?_
    refine lv_aload_n hx hb dX4_readRound_37 rfl (lv_at hl 0 rfl) ?_
    refine va_get (D := D) (ci := 3) (v := .int (ue1.1 11)) (C := RX4) (T := TX4) (N := 14) hx hb hts ki_X4_readRound_X4 hown hK hP 0 rfl rfl 11 (by decide) (hts _ k_X4_readRound_0) (fun _ h9 => h9) rfl dX4_readRound_38 ?_
    cases h
    exact x_iret hx hb hr hlocks hK hP hD hS dX4_readRound_41 rfl rfl
  rw [if_neg q1] at h
  by_cases q2 : p0 = (2 : Int32)
  · subst q2
    rw [if_pos rfl] at h
    refine lv_tableIn (tgt := 42) (off := 37) hx hb dX4_readRound_5 (by decide) (by decide) rfl (by decide) ?_
    refine lv_aload_n hx hb dX4_readRound_42 rfl (lv_at hl 0 rfl) ?_
    refine va_get (D := D) (ci := 3) (v := .int (ue1.1 12)) (C := RX4) (T := TX4) (N := 14) hx hb hts ki_X4_readRound_X4 hown hK hP 0 rfl rfl 12 (by decide) (hts _ k_X4_readRound_1) (fun _ h9 => h9) rfl dX4_readRound_43 ?_
    cases h
    exact x_iret hx hb hr hlocks hK hP hD hS dX4_readRound_46 rfl rfl
  rw [if_neg q2] at h
  refine lv_tableOut (tgt := 47) hx hb dX4_readRound_5 (sw_out3 q0 q1 q2) (by decide) ?_
  refine lv_aload_n hx hb dX4_readRound_47 rfl (lv_at hl 0 rfl) ?_
  refine va_get (D := D) (ci := 3) (v := .int (ue1.1 13)) (C := RX4) (T := TX4) (N := 14) hx hb hts ki_X4_readRound_X4 hown hK hP 0 rfl rfl 13 (by decide) (hts _ k_X4_readRound_2) (fun _ h9 => h9) rfl dX4_readRound_48 ?_
  cases h
  exact x_iret hx hb hr hlocks hK hP hD hS dX4_readRound_51 rfl rfl
theorem k_X4_playRound_0 : Cond.fieldLink RX4 38 "FeatherHall$Evening" "rounds" "I" ∈ wsX4_playRound := (List.mem_cons_of_mem _ (List.mem_append_left _ (List.mem_append_left _ (List.mem_of_getElem? (i := 4) rfl))))
theorem ki_X4_playRound_X4 : ∀ w ∈ u_ws RX4 TX4 14, w ∈ wsX4_playRound := fun _ hh => (List.mem_cons_of_mem _ (List.mem_append_right _ hh))
theorem k_X4_playRound_1 : Cond.fieldLink RX4 41 "FeatherHall$Evening" "isSought" "Z" ∈ wsX4_playRound := (List.mem_cons_of_mem _ (List.mem_append_left _ (List.mem_append_left _ (List.mem_of_getElem? (i := 5) rfl))))
theorem k_X4_playRound_2 : Cond.fieldLink RX4 28 "FeatherHall$Evening" "bestMates" "[I" ∈ wsX4_playRound := (List.mem_cons_of_mem _ (List.mem_append_left _ (List.mem_append_left _ (List.mem_of_getElem? (i := 0) rfl))))
theorem k_X4_playRound_3 : Cond.fieldLink RX4 9 "FeatherHall$Evening" "there" "[Z" ∈ wsX4_playRound := (List.mem_cons_of_mem _ (List.mem_append_left _ (List.mem_append_left _ (List.mem_of_getElem? (i := 3) rfl))))
theorem k_X4_playRound_4 : Cond.fieldLink RX4 19 "FeatherHall$Evening" "waited" "[I" ∈ wsX4_playRound := (List.mem_cons_of_mem _ (List.mem_append_left _ (List.mem_append_left _ (List.mem_of_getElem? (i := 1) rfl))))
theorem k_X4_playRound_5 : Cond.fieldLink RX4 22 "FeatherHall$Evening" "games" "[I" ∈ wsX4_playRound := (List.mem_cons_of_mem _ (List.mem_append_left _ (List.mem_append_left _ (List.mem_of_getElem? (i := 2) rfl))))
theorem hd_X4_playRound : yX4_playRound.cls = RX4 ∧ yX4_playRound.cls ≠ "java/lang/invoke/MethodHandle" ∧ yX4_playRound.cls ≠ "java/lang/invoke/VarHandle" ∧ (parseMethodDescriptor yX4_playRound.desc).map (fun d => d.parameters.length) = some 0 := by decide +kernel
set_option maxHeartbeats 4000000 in
set_option maxRecDepth 100000 in
theorem w_X4_playRound_68 {p : Program} {l : Launch} {e : Env} {s : State} {m : MethodId} {below : List Frame} {meth : Method} {c : Code} {args : Array Value} {D : va_G} {cy : Nat → ClassId} {g : Nat → Nat} {A : Nat → Prop} {r : Int32} {ue' : St} (C0 : Cx p s m meth c args cX4_playRound 3 (some .int) wsX4_playRound RX4 D cy A) {k_6 : Int32 → St → Option (Int32 × St)} (hk_6 : ∀ (l1 : Int32) (ue : St), k_6 l1 ue = some (r, ue') → ∀ (H : Heap) (locs : List Loc) (ls : Array Slot), va_P D vwCl (wX4 cy g ue) H → va_D A (wX4 cy g ue) → va_S A s.heap H locs → lv_has ls 3 [(0, .ref (g 499)), (1, .int l1)] → W p l e (rmH 14) s m args below meth c H locs 0 0 (QI below args s A D cy (wX4 cy g ue') r) (F0 m 6 ls [])) : ∀ (l1 : Int32) (ue : St), f_X4_playRound_68 k_6 l1 ue = some (r, ue') → ∀ (H : Heap) (locs : List Loc) (ls : Array Slot), va_P D vwCl (wX4 cy g ue) H → va_D A (wX4 cy g ue) → va_S A s.heap H locs → lv_has ls 3 [(0, .ref (g 499)), (1, .int l1)] → W p l e (rmH 14) s m args below meth c H locs 0 0 (QI below args s A D cy (wX4 cy g ue') r) (F0 m 68 ls []) := by
  obtain ⟨hx, hb, hr, hml, hown, hts, hlocks, hK, hA⟩ := id C0
  intro l1 ue h H locs ls hP hD hS hl
  rw [f_X4_playRound_68] at h
  obtain ⟨v15, ev15, h⟩ := nm_ex h
  refine lv_iinc (v := v15) (lv' := [(1, .int v15), (0, .ref (g 499))]) hx hb dX4_playRound_68 hl (k := 1) rfl (by rw [ev15]; rfl) (by decide) rfl (fun ls hl => ?_)
  clear ev15
  refine lv_goto (tgt := 6) hx hb dX4_playRound_71 (by decide) ?_
  exact hk_6 v15 ue h _ _ ls hP hD hS (lv_sub hl [1, 0] rfl)
set_option maxHeartbeats 4000000 in
set_option maxRecDepth 100000 in
theorem w_X4_playRound_6 {p : Program} {l : Launch} {e : Env} {s : State} {m : MethodId} {below : List Frame} {meth : Method} {c : Code} {args : Array Value} {D : va_G} {cy : Nat → ClassId} {g : Nat → Nat} {A : Nat → Prop} {r : Int32} {ue' : St} (C0 : Cx p s m meth c args cX4_playRound 3 (some .int) wsX4_playRound RX4 D cy A) : ∀ (nn : Nat) (l1 : Int32) (ue : St), f_X4_playRound_6 nn l1 ue = some (r, ue') → ∀ (H : Heap) (locs : List Loc) (ls : Array Slot), va_P D vwCl (wX4 cy g ue) H → va_D A (wX4 cy g ue) → va_S A s.heap H locs → lv_has ls 3 [(0, .ref (g 499)), (1, .int l1)] → W p l e (rmH 14) s m args below meth c H locs 0 0 (QI below args s A D cy (wX4 cy g ue') r) (F0 m 6 ls []) := by
  obtain ⟨hx, hb, hr, hml, hown, hts, hlocks, hK, hA⟩ := id C0
  intro nn
  induction nn with
  | zero => intro l1 ue h; rw [f_X4_playRound_6] at h; cases h
  | succ nn ih =>
    intro l1 ue h H locs ls hP hD hS hl
    rw [f_X4_playRound_6] at h
    refine lv_iload_n hx hb dX4_playRound_6 rfl (lv_at hl 1 rfl) ?_
    refine lv_bipush (v := 8) hx hb dX4_playRound_7 (by decide) ?_
    refine x_icmp_ge (tgt := 74) hx hb dX4_playRound_9 (by decide) h (fun _ h => ?_) (fun _ h => ?_)
    · refine lv_aload_n hx hb dX4_playRound_74 rfl (lv_at hl 0 rfl) ?_
      refine lv_dup hx hb dX4_playRound_75 rfl ?_
      refine va_get (D := D) (ci := 3) (v := .int (ue.1 8)) (C := RX4) (T := TX4) (N := 14) hx hb hts ki_X4_playRound_X4 hown hK hP 0 rfl rfl 8 (by decide) (hts _ k_X4_playRound_0) (fun _ h9 => h9) rfl dX4_playRound_76 ?_
      refine lv_iconst (v := 1) hx hb dX4_playRound_79 (by decide) ?_
      refine lv_iadd hx hb dX4_playRound_80 ?_
      refine x_put (D := D) (ci := 3) (Wd := (fun uz => wX4 cy g uz)) (u := ue) (C := RX4) (T := TX4) (N := 14) hx hb hts ki_X4_playRound_X4 tyX4 tyX4_ok nmX4 hown hK hP hD hS 0 rfl rfl 8 (by decide) (hts _ k_X4_playRound_0) (fun _ h9 => h9) rfl (tyX4_ok 8 (by decide)) rfl rfl (Nat.le_of_ble_eq_true rfl) (fun _ => rfl) h dX4_playRound_81 (fun ue3 H locs h hP hD hS => ?_)
      refine lv_aload_n hx hb dX4_playRound_84 rfl (lv_at hl 0 rfl) ?_
      refine lv_iconst (v := 0) hx hb dX4_playRound_85 (by decide) ?_
      refine x_put (D := D) (ci := 3) (Wd := (fun uz => wX4 cy g uz)) (u := ue3) (C := RX4) (T := TX4) (N := 14) hx hb hts ki_X4_playRound_X4 tyX4 tyX4_ok nmX4 hown hK hP hD hS 0 rfl rfl 9 (by decide) (hts _ k_X4_playRound_1) (fun _ h9 => h9) rfl (tyX4_ok 9 (by decide)) rfl rfl (Nat.le_of_ble_eq_true rfl) (fun _ => rfl) h dX4_playRound_86 (fun ue4 H locs h hP hD hS => ?_)
      refine lv_aload_n hx hb dX4_playRound_89 rfl (lv_at hl 0 rfl) ?_
      obtain ⟨r5, e6, h⟩ := bd_some h
      refine x_callVI (As := []) (rest := []) (n := 0) ⟨hx, hb, hml, hown, hts⟩ (c_X4_gamesAtOnce l D cy g ue4 r5 e6) gX4_playRound_X4_gamesAtOnce rfl hd_X4_gamesAtOnce ⟨Nat.le_of_ble_eq_true rfl, Nat.le_of_ble_eq_true rfl⟩ ⟨rfl, rfl⟩ hK (sp_all _) (sp_all _) hP hD hS hA 0 rfl rfl rfl hl.1 rfl (Nat.le_of_ble_eq_true rfl) dX4_playRound_90 ⟨Nat.zero_le _, Nat.zero_le _⟩ (fun H locs hP hD hS => ?_)
      clear e6
      cases h
      exact x_iret hx hb hr hlocks hK hP hD hS dX4_playRound_93 rfl rfl
    · refine lv_aload_n hx hb dX4_playRound_12 rfl (lv_at hl 0 rfl) ?_
      refine va_get (D := D) (ci := 3) (v := .ref (g 405)) (C := RX4) (T := TX4) (N := 14) hx hb hts ki_X4_playRound_X4 hown hK hP 0 rfl rfl 5 (by decide) (hts _ k_X4_playRound_2) (fun _ h9 => h9) rfl dX4_playRound_13 ?_
      refine lv_iload_n hx hb dX4_playRound_16 rfl (lv_at hl 1 rfl) ?_
      refine x_iald hx hb hK hP 6 rfl rfl h dX4_playRound_17 (fun v7 h => ?_)
      refine lv_istore_n (lv' := [(2, .int v7), (0, .ref (g 499)), (1, .int l1)]) hx hb dX4_playRound_18 rfl hl (by decide) rfl (fun ls hl => ?_)
      refine lv_iload_n hx hb dX4_playRound_19 rfl (lv_at hl 0 rfl) ?_
      refine lv_iconst (v := -1) hx hb dX4_playRound_20 (by decide) ?_
      refine x_icmp_eq (tgt := 49) hx hb dX4_playRound_21 (by decide) h (fun _ h => ?_) (fun _ h => ?_)
      · refine lv_aload_n hx hb dX4_playRound_49 rfl (lv_at hl 1 rfl) ?_
        refine va_get (D := D) (ci := 3) (v := .ref (g 400)) (C := RX4) (T := TX4) (N := 14) hx hb hts ki_X4_playRound_X4 hown hK hP 0 rfl rfl 0 (by decide) (hts _ k_X4_playRound_3) (fun _ h9 => h9) rfl dX4_playRound_50 ?_
        refine lv_iload_n hx hb dX4_playRound_53 rfl (lv_at hl 2 rfl) ?_
        refine x_zald hx hb hK hP 1 rfl rfl h dX4_playRound_54 (fun v8 h => ?_)
        refine x_if_eq (tgt := 68) hx hb dX4_playRound_55 (by decide) h (fun _ h => ?_) (fun _ h => ?_)
        · exact w_X4_playRound_68 C0 ih l1 ue h _ _ ls hP hD hS (lv_sub hl [1, 2] rfl)
        · refine lv_aload_n hx hb dX4_playRound_58 rfl (lv_at hl 1 rfl) ?_
          refine va_get (D := D) (ci := 3) (v := .ref (g 402)) (C := RX4) (T := TX4) (N := 14) hx hb hts ki_X4_playRound_X4 hown hK hP 0 rfl rfl 2 (by decide) (hts _ k_X4_playRound_4) (fun _ h9 => h9) rfl dX4_playRound_59 ?_
          refine lv_iload_n hx hb dX4_playRound_62 rfl (lv_at hl 2 rfl) ?_
          refine lv_dup2_11 hx hb dX4_playRound_63 rfl rfl ?_
          refine x_iald hx hb hK hP 3 rfl rfl h dX4_playRound_64 (fun v9 h => ?_)
          refine lv_iconst (v := 1) hx hb dX4_playRound_65 (by decide) ?_
          refine lv_iadd hx hb dX4_playRound_66 ?_
          refine x_iast (Wd := (fun uz => wX4 cy g uz)) (u := ue) (k := 2) hx hb hK hP hD hS 3 rfl rfl (fun _ => rfl) h dX4_playRound_67 (fun ue10 H locs h hP hD hS => ?_)
          exact w_X4_playRound_68 C0 ih l1 ue10 h _ _ ls hP hD hS (lv_sub hl [1, 2] rfl)
      · refine lv_aload_n hx hb dX4_playRound_24 rfl (lv_at hl 1 rfl) ?_
        refine va_get (D := D) (ci := 3) (v := .ref (g 402)) (C := RX4) (T := TX4) (N := 14) hx hb hts ki_X4_playRound_X4 hown hK hP 0 rfl rfl 2 (by decide) (hts _ k_X4_playRound_4) (fun _ h9 => h9) rfl dX4_playRound_25 ?_
        refine lv_iload_n hx hb dX4_playRound_28 rfl (lv_at hl 2 rfl) ?_
        refine lv_iconst (v := 0) hx hb dX4_playRound_29 (by decide) ?_
        refine x_iast (Wd := (fun uz => wX4 cy g uz)) (u := ue) (k := 2) hx hb hK hP hD hS 3 rfl rfl (fun _ => rfl) h dX4_playRound_30 (fun ue11 H locs h hP hD hS => ?_)
        refine lv_aload_n hx hb dX4_playRound_31 rfl (lv_at hl 1 rfl) ?_
        refine va_get (D := D) (ci := 3) (v := .ref (g 403)) (C := RX4) (T := TX4) (N := 14) hx hb hts ki_X4_playRound_X4 hown hK hP 0 rfl rfl 3 (by decide) (hts _ k_X4_playRound_5) (fun _ h9 => h9) rfl dX4_playRound_32 ?_
        refine lv_iload_n hx hb dX4_playRound_35 rfl (lv_at hl 2 rfl) ?_
        refine lv_bipush (v := 8) hx hb dX4_playRound_36 (by decide) ?_
        refine lv_imul hx hb dX4_playRound_38 ?_
        refine lv_iload_n hx hb dX4_playRound_39 rfl (lv_at hl 0 rfl) ?_
        refine lv_iadd hx hb dX4_playRound_40 ?_
        refine x_nm h (fun v12 h => ?_)
        refine lv_dup2_11 hx hb dX4_playRound_41 rfl rfl ?_
        refine x_iald hx hb hK hP 4 rfl rfl h dX4_playRound_42 (fun v13 h => ?_)
        refine lv_iconst (v := 1) hx hb dX4_playRound_43 (by decide) ?_
        refine lv_iadd hx hb dX4_playRound_44 ?_
        refine x_iast (Wd := (fun uz => wX4 cy g uz)) (u := ue11) (k := 3) hx hb hK hP hD hS 4 rfl rfl (fun _ => rfl) h dX4_playRound_45 (fun ue14 H locs h hP hD hS => ?_)
        refine lv_goto (tgt := 68) hx hb dX4_playRound_46 (by decide) ?_
        exact w_X4_playRound_68 C0 ih l1 ue14 h _ _ ls hP hD hS (lv_sub hl [1, 2] rfl)
set_option maxHeartbeats 4000000 in
set_option maxRecDepth 100000 in
theorem c_X4_playRound (l : Launch) (D : va_G) (cy : Nat → ClassId) (g : Nat → Nat) (ue : St) (r : Int32) (ue' : St) (h : f_X4_playRound ue = some (r, ue')) : CtI l yX4_playRound wsX4_playRound (rmH 14) [.ref (g 499)] D cy (wX4 cy g ue) (wX4 cy g ue') r := by
  refine ct_enter (D := D) (cy := cy) (cc := cX4_playRound) (maxL := 3) (ret := (some .int)) (w := wX4 cy g ue) (Qc := fun sz => va_Qi (fun r' (_ : Unit) => r' = r) (Bw D cy (va_A (wX4 cy g ue) sz) (wX4 cy g ue')) (va_A (wX4 cy g ue) sz)) (by decide) rfl (Nat.le_of_ble_eq_true rfl) ?_
  intro p e s m below meth c A C0 hAe ls hl hP hD hS
  have e1 : MQ below ((fun sz => va_Qi (fun r' (_ : Unit) => r' = r) (Bw D cy (va_A (wX4 cy g ue) sz) (wX4 cy g ue')) (va_A (wX4 cy g ue) sz)) s.heap.size) [.ref (g 499)].toArray s 0 0 A = QI below [.ref (g 499)].toArray s A D cy (wX4 cy g ue') r := by rw [hAe]; rfl
  rw [e1]
  clear e1 hAe
  obtain ⟨hx, hb, hr, hml, hown, hts, hlocks, hK, hA⟩ := id C0
  have hl : lv_has ls 3 [(0, .ref (g 499))] := hl
  rw [f_X4_playRound] at h
  refine lv_aload_n hx hb dX4_playRound_0 rfl (lv_at hl 0 rfl) ?_
  obtain ⟨ue1, e2, h⟩ := bd_some h
  refine x_callVV (As := []) (rest := []) (n := 0) ⟨hx, hb, hml, hown, hts⟩ (c_X4_seek l D cy g ue ue1 e2) gX4_playRound_X4_seek rfl hd_X4_seek ⟨Nat.le_of_ble_eq_true rfl, Nat.le_of_ble_eq_true rfl⟩ ⟨rfl, rfl⟩ hK (sp_all _) (sp_all _) hP hD hS hA 0 rfl rfl rfl hl.1 rfl (Nat.le_of_ble_eq_true rfl) dX4_playRound_1 ⟨Nat.zero_le _, Nat.zero_le _⟩ (fun H locs hP hD hS => ?_)
  clear e2
  refine lv_iconst (v := 0) hx hb dX4_playRound_4 (by decide) ?_
  refine lv_istore_n (lv' := [(1, .int (0 : Int32)), (0, .ref (g 499))]) hx hb dX4_playRound_5 rfl hl (by decide) rfl (fun ls hl => ?_)
  exact w_X4_playRound_6 C0 FU (0 : Int32) ue1 h _ _ ls hP hD hS (lv_sub hl [1, 0] rfl)
theorem k_X4_gamesOfBoth_0 : Cond.fieldLink RX4 22 "FeatherHall$Evening" "games" "[I" ∈ wsX4_gamesOfBoth := (List.mem_cons_of_mem _ (List.mem_append_left _ (List.mem_of_getElem? (i := 0) rfl)))
theorem ki_X4_gamesOfBoth_X4 : ∀ w ∈ u_ws RX4 TX4 14, w ∈ wsX4_gamesOfBoth := fun _ hh => (List.mem_cons_of_mem _ (List.mem_append_right _ hh))
theorem hd_X4_gamesOfBoth : yX4_gamesOfBoth.cls = RX4 ∧ yX4_gamesOfBoth.cls ≠ "java/lang/invoke/MethodHandle" ∧ yX4_gamesOfBoth.cls ≠ "java/lang/invoke/VarHandle" ∧ (parseMethodDescriptor yX4_gamesOfBoth.desc).map (fun d => d.parameters.length) = some 2 := by decide +kernel
set_option maxHeartbeats 4000000 in
set_option maxRecDepth 100000 in
theorem c_X4_gamesOfBoth (l : Launch) (D : va_G) (cy : Nat → ClassId) (g : Nat → Nat) (ue : St) (p0 : Int32) (p1 : Int32) (r : Int32) (h : f_X4_gamesOfBoth ue p0 p1 = some r) : CtI l yX4_gamesOfBoth wsX4_gamesOfBoth (rmH 0) [.ref (g 499), .int p0, .int p1] D cy (wX4 cy g ue) (wX4 cy g ue) r := by
  refine ct_enter (D := D) (cy := cy) (cc := cX4_gamesOfBoth) (maxL := 3) (ret := (some .int)) (w := wX4 cy g ue) (Qc := fun sz => va_Qi (fun r' (_ : Unit) => r' = r) (Bw D cy (va_A (wX4 cy g ue) sz) (wX4 cy g ue)) (va_A (wX4 cy g ue) sz)) (by decide) rfl (Nat.le_of_ble_eq_true rfl) ?_
  intro p e s m below meth c A C0 hAe ls hl hP hD hS
  have e1 : MQ below ((fun sz => va_Qi (fun r' (_ : Unit) => r' = r) (Bw D cy (va_A (wX4 cy g ue) sz) (wX4 cy g ue)) (va_A (wX4 cy g ue) sz)) s.heap.size) [.ref (g 499), .int p0, .int p1].toArray s 0 0 A = QI below [.ref (g 499), .int p0, .int p1].toArray s A D cy (wX4 cy g ue) r := by rw [hAe]; rfl
  rw [e1]
  clear e1 hAe
  obtain ⟨hx, hb, hr, hml, hown, hts, hlocks, hK, hA⟩ := id C0
  have hl : lv_has ls 3 [(0, .ref (g 499)), (1, .int p0), (2, .int p1)] := hl
  rw [f_X4_gamesOfBoth] at h
  refine lv_aload_n hx hb dX4_gamesOfBoth_0 rfl (lv_at hl 0 rfl) ?_
  refine va_get (D := D) (ci := 3) (v := .ref (g 403)) (C := RX4) (T := TX4) (N := 14) hx hb hts ki_X4_gamesOfBoth_X4 hown hK hP 0 rfl rfl 3 (by decide) (hts _ k_X4_gamesOfBoth_0) (fun _ h9 => h9) rfl dX4_gamesOfBoth_1 ?_
  refine lv_iload_n hx hb dX4_gamesOfBoth_4 rfl (lv_at hl 1 rfl) ?_
  refine lv_bipush (v := 8) hx hb dX4_gamesOfBoth_5 (by decide) ?_
  refine lv_imul hx hb dX4_gamesOfBoth_7 ?_
  refine lv_iload_n hx hb dX4_gamesOfBoth_8 rfl (lv_at hl 2 rfl) ?_
  refine lv_iadd hx hb dX4_gamesOfBoth_9 ?_
  refine x_iald hx hb hK hP 4 rfl rfl h dX4_gamesOfBoth_10 (fun v1 h => ?_)
  cases h
  exact x_iret hx hb hr hlocks hK hP hD hS dX4_gamesOfBoth_11 rfl rfl
theorem k_X4_gamesOf_0 : Cond.fieldLink RX4 22 "FeatherHall$Evening" "games" "[I" ∈ wsX4_gamesOf := (List.mem_cons_of_mem _ (List.mem_append_left _ (List.mem_of_getElem? (i := 0) rfl)))
theorem ki_X4_gamesOf_X4 : ∀ w ∈ u_ws RX4 TX4 14, w ∈ wsX4_gamesOf := fun _ hh => (List.mem_cons_of_mem _ (List.mem_append_right _ hh))
theorem hd_X4_gamesOf : yX4_gamesOf.cls = RX4 ∧ yX4_gamesOf.cls ≠ "java/lang/invoke/MethodHandle" ∧ yX4_gamesOf.cls ≠ "java/lang/invoke/VarHandle" ∧ (parseMethodDescriptor yX4_gamesOf.desc).map (fun d => d.parameters.length) = some 1 := by decide +kernel
set_option maxHeartbeats 4000000 in
set_option maxRecDepth 100000 in
theorem w_X4_gamesOf_4 {p : Program} {l : Launch} {e : Env} {s : State} {m : MethodId} {below : List Frame} {meth : Method} {c : Code} {args : Array Value} {D : va_G} {cy : Nat → ClassId} {g : Nat → Nat} {A : Nat → Prop} {ue : St} {r : Int32} (C0 : Cx p s m meth c args cX4_gamesOf 4 (some .int) wsX4_gamesOf RX4 D cy A) : ∀ (nn : Nat) (l1 : Int32) (l2 : Int32) (l3 : Int32), f_X4_gamesOf_4 ue nn l1 l2 l3 = some r → ∀ (H : Heap) (locs : List Loc) (ls : Array Slot), va_P D vwCl (wX4 cy g ue) H → va_D A (wX4 cy g ue) → va_S A s.heap H locs → lv_has ls 4 [(0, .ref (g 499)), (1, .int l1), (2, .int l2), (3, .int l3)] → W p l e (rmH 0) s m args below meth c H locs 0 0 (QI below args s A D cy (wX4 cy g ue) r) (F0 m 4 ls []) := by
  obtain ⟨hx, hb, hr, hml, hown, hts, hlocks, hK, hA⟩ := id C0
  intro nn
  induction nn with
  | zero => intro l1 l2 l3 h; rw [f_X4_gamesOf_4] at h; cases h
  | succ nn ih =>
    intro l1 l2 l3 h H locs ls hP hD hS hl
    rw [f_X4_gamesOf_4] at h
    refine lv_iload_n hx hb dX4_gamesOf_4 rfl (lv_at hl 3 rfl) ?_
    refine lv_bipush (v := 8) hx hb dX4_gamesOf_5 (by decide) ?_
    refine x_icmp_ge (tgt := 30) hx hb dX4_gamesOf_7 (by decide) h (fun _ h => ?_) (fun _ h => ?_)
    · refine lv_iload_n hx hb dX4_gamesOf_30 rfl (lv_at hl 2 rfl) ?_
      cases h
      exact x_iret hx hb hr hlocks hK hP hD hS dX4_gamesOf_31 rfl rfl
    · refine lv_iload_n hx hb dX4_gamesOf_10 rfl (lv_at hl 2 rfl) ?_
      refine lv_aload_n hx hb dX4_gamesOf_11 rfl (lv_at hl 0 rfl) ?_
      refine va_get (D := D) (ci := 3) (v := .ref (g 403)) (C := RX4) (T := TX4) (N := 14) hx hb hts ki_X4_gamesOf_X4 hown hK hP 0 rfl rfl 3 (by decide) (hts _ k_X4_gamesOf_0) (fun _ h9 => h9) rfl dX4_gamesOf_12 ?_
      refine lv_iload_n hx hb dX4_gamesOf_15 rfl (lv_at hl 1 rfl) ?_
      refine lv_bipush (v := 8) hx hb dX4_gamesOf_16 (by decide) ?_
      refine lv_imul hx hb dX4_gamesOf_18 ?_
      refine lv_iload_n hx hb dX4_gamesOf_19 rfl (lv_at hl 3 rfl) ?_
      refine lv_iadd hx hb dX4_gamesOf_20 ?_
      refine x_iald hx hb hK hP 4 rfl rfl h dX4_gamesOf_21 (fun v1 h => ?_)
      refine lv_iadd hx hb dX4_gamesOf_22 ?_
      refine x_nm h (fun v2 h => ?_)
      refine lv_istore_n (lv' := [(2, .int v2), (0, .ref (g 499)), (1, .int l1), (3, .int l3)]) hx hb dX4_gamesOf_23 rfl hl (by decide) rfl (fun ls hl => ?_)
      obtain ⟨v3, ev3, h⟩ := nm_ex h
      refine lv_iinc (v := v3) (lv' := [(3, .int v3), (2, .int v2), (0, .ref (g 499)), (1, .int l1)]) hx hb dX4_gamesOf_24 hl (k := 3) rfl (by rw [ev3]; rfl) (by decide) rfl (fun ls hl => ?_)
      clear ev3
      refine lv_goto (tgt := 4) hx hb dX4_gamesOf_27 (by decide) ?_
      exact ih l1 v2 v3 h _ _ ls hP hD hS (lv_sub hl [2, 3, 1, 0] rfl)
set_option maxHeartbeats 4000000 in
set_option maxRecDepth 100000 in
theorem c_X4_gamesOf (l : Launch) (D : va_G) (cy : Nat → ClassId) (g : Nat → Nat) (ue : St) (p0 : Int32) (r : Int32) (h : f_X4_gamesOf ue p0 = some r) : CtI l yX4_gamesOf wsX4_gamesOf (rmH 0) [.ref (g 499), .int p0] D cy (wX4 cy g ue) (wX4 cy g ue) r := by
  refine ct_enter (D := D) (cy := cy) (cc := cX4_gamesOf) (maxL := 4) (ret := (some .int)) (w := wX4 cy g ue) (Qc := fun sz => va_Qi (fun r' (_ : Unit) => r' = r) (Bw D cy (va_A (wX4 cy g ue) sz) (wX4 cy g ue)) (va_A (wX4 cy g ue) sz)) (by decide) rfl (Nat.le_of_ble_eq_true rfl) ?_
  intro p e s m below meth c A C0 hAe ls hl hP hD hS
  have e1 : MQ below ((fun sz => va_Qi (fun r' (_ : Unit) => r' = r) (Bw D cy (va_A (wX4 cy g ue) sz) (wX4 cy g ue)) (va_A (wX4 cy g ue) sz)) s.heap.size) [.ref (g 499), .int p0].toArray s 0 0 A = QI below [.ref (g 499), .int p0].toArray s A D cy (wX4 cy g ue) r := by rw [hAe]; rfl
  rw [e1]
  clear e1 hAe
  obtain ⟨hx, hb, hr, hml, hown, hts, hlocks, hK, hA⟩ := id C0
  have hl : lv_has ls 4 [(0, .ref (g 499)), (1, .int p0)] := hl
  rw [f_X4_gamesOf] at h
  refine lv_iconst (v := 0) hx hb dX4_gamesOf_0 (by decide) ?_
  refine lv_istore_n (lv' := [(2, .int (0 : Int32)), (0, .ref (g 499)), (1, .int p0)]) hx hb dX4_gamesOf_1 rfl hl (by decide) rfl (fun ls hl => ?_)
  refine lv_iconst (v := 0) hx hb dX4_gamesOf_2 (by decide) ?_
  refine lv_istore_n (lv' := [(3, .int (0 : Int32)), (2, .int (0 : Int32)), (0, .ref (g 499)), (1, .int p0)]) hx hb dX4_gamesOf_3 rfl hl (by decide) rfl (fun ls hl => ?_)
  exact w_X4_gamesOf_4 C0 FU p0 (0 : Int32) (0 : Int32) h _ _ ls hP hD hS (lv_sub hl [2, 3, 1, 0] rfl)
theorem k_X4_waitedOf_0 : Cond.fieldLink RX4 9 "FeatherHall$Evening" "there" "[Z" ∈ wsX4_waitedOf := (List.mem_cons_of_mem _ (List.mem_append_left _ (List.mem_of_getElem? (i := 0) rfl)))
theorem ki_X4_waitedOf_X4 : ∀ w ∈ u_ws RX4 TX4 14, w ∈ wsX4_waitedOf := fun _ hh => (List.mem_cons_of_mem _ (List.mem_append_right _ hh))
theorem k_X4_waitedOf_1 : Cond.fieldLink RX4 19 "FeatherHall$Evening" "waited" "[I" ∈ wsX4_waitedOf := (List.mem_cons_of_mem _ (List.mem_append_left _ (List.mem_of_getElem? (i := 1) rfl)))
theorem hd_X4_waitedOf : yX4_waitedOf.cls = RX4 ∧ yX4_waitedOf.cls ≠ "java/lang/invoke/MethodHandle" ∧ yX4_waitedOf.cls ≠ "java/lang/invoke/VarHandle" ∧ (parseMethodDescriptor yX4_waitedOf.desc).map (fun d => d.parameters.length) = some 1 := by decide +kernel
set_option maxHeartbeats 4000000 in
set_option maxRecDepth 100000 in
theorem c_X4_waitedOf (l : Launch) (D : va_G) (cy : Nat → ClassId) (g : Nat → Nat) (ue : St) (p0 : Int32) (r : Int32) (h : f_X4_waitedOf ue p0 = some r) : CtI l yX4_waitedOf wsX4_waitedOf (rmH 0) [.ref (g 499), .int p0] D cy (wX4 cy g ue) (wX4 cy g ue) r := by
  refine ct_enter (D := D) (cy := cy) (cc := cX4_waitedOf) (maxL := 2) (ret := (some .int)) (w := wX4 cy g ue) (Qc := fun sz => va_Qi (fun r' (_ : Unit) => r' = r) (Bw D cy (va_A (wX4 cy g ue) sz) (wX4 cy g ue)) (va_A (wX4 cy g ue) sz)) (by decide) rfl (Nat.le_of_ble_eq_true rfl) ?_
  intro p e s m below meth c A C0 hAe ls hl hP hD hS
  have e1 : MQ below ((fun sz => va_Qi (fun r' (_ : Unit) => r' = r) (Bw D cy (va_A (wX4 cy g ue) sz) (wX4 cy g ue)) (va_A (wX4 cy g ue) sz)) s.heap.size) [.ref (g 499), .int p0].toArray s 0 0 A = QI below [.ref (g 499), .int p0].toArray s A D cy (wX4 cy g ue) r := by rw [hAe]; rfl
  rw [e1]
  clear e1 hAe
  obtain ⟨hx, hb, hr, hml, hown, hts, hlocks, hK, hA⟩ := id C0
  have hl : lv_has ls 2 [(0, .ref (g 499)), (1, .int p0)] := hl
  rw [f_X4_waitedOf] at h
  refine lv_aload_n hx hb dX4_waitedOf_0 rfl (lv_at hl 0 rfl) ?_
  refine va_get (D := D) (ci := 3) (v := .ref (g 400)) (C := RX4) (T := TX4) (N := 14) hx hb hts ki_X4_waitedOf_X4 hown hK hP 0 rfl rfl 0 (by decide) (hts _ k_X4_waitedOf_0) (fun _ h9 => h9) rfl dX4_waitedOf_1 ?_
  refine lv_iload_n hx hb dX4_waitedOf_4 rfl (lv_at hl 1 rfl) ?_
  refine x_zald hx hb hK hP 1 rfl rfl h dX4_waitedOf_5 (fun v1 h => ?_)
  refine x_if_eq (tgt := 18) hx hb dX4_waitedOf_6 (by decide) h (fun _ h => ?_) (fun _ h => ?_)
  · refine lv_iconst (v := -1) hx hb dX4_waitedOf_18 (by decide) ?_
    cases h
    exact x_iret hx hb hr hlocks hK hP hD hS dX4_waitedOf_19 rfl rfl
  · refine lv_aload_n hx hb dX4_waitedOf_9 rfl (lv_at hl 0 rfl) ?_
    refine va_get (D := D) (ci := 3) (v := .ref (g 402)) (C := RX4) (T := TX4) (N := 14) hx hb hts ki_X4_waitedOf_X4 hown hK hP 0 rfl rfl 2 (by decide) (hts _ k_X4_waitedOf_1) (fun _ h9 => h9) rfl dX4_waitedOf_10 ?_
    refine lv_iload_n hx hb dX4_waitedOf_13 rfl (lv_at hl 1 rfl) ?_
    refine x_iald hx hb hK hP 3 rfl rfl h dX4_waitedOf_14 (fun v2 h => ?_)
    refine lv_goto (tgt := 19) hx hb dX4_waitedOf_15 (by decide) ?_
    cases h
    exact x_iret hx hb hr hlocks hK hP hD hS dX4_waitedOf_19 rfl rfl
theorem k_X4_gradeOf_0 : Cond.fieldLink RX4 9 "FeatherHall$Evening" "there" "[Z" ∈ wsX4_gradeOf := (List.mem_cons_of_mem _ (List.mem_append_left _ (List.mem_of_getElem? (i := 0) rfl)))
theorem ki_X4_gradeOf_X4 : ∀ w ∈ u_ws RX4 TX4 14, w ∈ wsX4_gradeOf := fun _ hh => (List.mem_cons_of_mem _ (List.mem_append_right _ hh))
theorem k_X4_gradeOf_1 : Cond.fieldLink RX4 15 "FeatherHall$Evening" "grades" "[I" ∈ wsX4_gradeOf := (List.mem_cons_of_mem _ (List.mem_append_left _ (List.mem_of_getElem? (i := 1) rfl)))
theorem hd_X4_gradeOf : yX4_gradeOf.cls = RX4 ∧ yX4_gradeOf.cls ≠ "java/lang/invoke/MethodHandle" ∧ yX4_gradeOf.cls ≠ "java/lang/invoke/VarHandle" ∧ (parseMethodDescriptor yX4_gradeOf.desc).map (fun d => d.parameters.length) = some 1 := by decide +kernel
set_option maxHeartbeats 4000000 in
set_option maxRecDepth 100000 in
theorem c_X4_gradeOf (l : Launch) (D : va_G) (cy : Nat → ClassId) (g : Nat → Nat) (ue : St) (p0 : Int32) (r : Int32) (h : f_X4_gradeOf ue p0 = some r) : CtI l yX4_gradeOf wsX4_gradeOf (rmH 0) [.ref (g 499), .int p0] D cy (wX4 cy g ue) (wX4 cy g ue) r := by
  refine ct_enter (D := D) (cy := cy) (cc := cX4_gradeOf) (maxL := 2) (ret := (some .int)) (w := wX4 cy g ue) (Qc := fun sz => va_Qi (fun r' (_ : Unit) => r' = r) (Bw D cy (va_A (wX4 cy g ue) sz) (wX4 cy g ue)) (va_A (wX4 cy g ue) sz)) (by decide) rfl (Nat.le_of_ble_eq_true rfl) ?_
  intro p e s m below meth c A C0 hAe ls hl hP hD hS
  have e1 : MQ below ((fun sz => va_Qi (fun r' (_ : Unit) => r' = r) (Bw D cy (va_A (wX4 cy g ue) sz) (wX4 cy g ue)) (va_A (wX4 cy g ue) sz)) s.heap.size) [.ref (g 499), .int p0].toArray s 0 0 A = QI below [.ref (g 499), .int p0].toArray s A D cy (wX4 cy g ue) r := by rw [hAe]; rfl
  rw [e1]
  clear e1 hAe
  obtain ⟨hx, hb, hr, hml, hown, hts, hlocks, hK, hA⟩ := id C0
  have hl : lv_has ls 2 [(0, .ref (g 499)), (1, .int p0)] := hl
  rw [f_X4_gradeOf] at h
  refine lv_aload_n hx hb dX4_gradeOf_0 rfl (lv_at hl 0 rfl) ?_
  refine va_get (D := D) (ci := 3) (v := .ref (g 400)) (C := RX4) (T := TX4) (N := 14) hx hb hts ki_X4_gradeOf_X4 hown hK hP 0 rfl rfl 0 (by decide) (hts _ k_X4_gradeOf_0) (fun _ h9 => h9) rfl dX4_gradeOf_1 ?_
  refine lv_iload_n hx hb dX4_gradeOf_4 rfl (lv_at hl 1 rfl) ?_
  refine x_zald hx hb hK hP 1 rfl rfl h dX4_gradeOf_5 (fun v1 h => ?_)
  refine x_if_eq (tgt := 18) hx hb dX4_gradeOf_6 (by decide) h (fun _ h => ?_) (fun _ h => ?_)
  · refine lv_iconst (v := -1) hx hb dX4_gradeOf_18 (by decide) ?_
    cases h
    exact x_iret hx hb hr hlocks hK hP hD hS dX4_gradeOf_19 rfl rfl
  · refine lv_aload_n hx hb dX4_gradeOf_9 rfl (lv_at hl 0 rfl) ?_
    refine va_get (D := D) (ci := 3) (v := .ref (g 401)) (C := RX4) (T := TX4) (N := 14) hx hb hts ki_X4_gradeOf_X4 hown hK hP 0 rfl rfl 1 (by decide) (hts _ k_X4_gradeOf_1) (fun _ h9 => h9) rfl dX4_gradeOf_10 ?_
    refine lv_iload_n hx hb dX4_gradeOf_13 rfl (lv_at hl 1 rfl) ?_
    refine x_iald hx hb hK hP 2 rfl rfl h dX4_gradeOf_14 (fun v2 h => ?_)
    refine lv_goto (tgt := 19) hx hb dX4_gradeOf_15 (by decide) ?_
    cases h
    exact x_iret hx hb hr hlocks hK hP hD hS dX4_gradeOf_19 rfl rfl
theorem k_X4_thereNow_0 : Cond.fieldLink RX4 35 "FeatherHall$Evening" "present" "I" ∈ wsX4_thereNow := (List.mem_cons_of_mem _ (List.mem_append_left _ (List.mem_of_getElem? (i := 0) rfl)))
theorem ki_X4_thereNow_X4 : ∀ w ∈ u_ws RX4 TX4 14, w ∈ wsX4_thereNow := fun _ hh => (List.mem_cons_of_mem _ (List.mem_append_right _ hh))
theorem hd_X4_thereNow : yX4_thereNow.cls = RX4 ∧ yX4_thereNow.cls ≠ "java/lang/invoke/MethodHandle" ∧ yX4_thereNow.cls ≠ "java/lang/invoke/VarHandle" ∧ (parseMethodDescriptor yX4_thereNow.desc).map (fun d => d.parameters.length) = some 0 := by decide +kernel
set_option maxHeartbeats 4000000 in
set_option maxRecDepth 100000 in
theorem c_X4_thereNow (l : Launch) (D : va_G) (cy : Nat → ClassId) (g : Nat → Nat) (ue : St) (r : Int32) (h : f_X4_thereNow ue = some r) : CtI l yX4_thereNow wsX4_thereNow (rmH 0) [.ref (g 499)] D cy (wX4 cy g ue) (wX4 cy g ue) r := by
  refine ct_enter (D := D) (cy := cy) (cc := cX4_thereNow) (maxL := 1) (ret := (some .int)) (w := wX4 cy g ue) (Qc := fun sz => va_Qi (fun r' (_ : Unit) => r' = r) (Bw D cy (va_A (wX4 cy g ue) sz) (wX4 cy g ue)) (va_A (wX4 cy g ue) sz)) (by decide) rfl (Nat.le_of_ble_eq_true rfl) ?_
  intro p e s m below meth c A C0 hAe ls hl hP hD hS
  have e1 : MQ below ((fun sz => va_Qi (fun r' (_ : Unit) => r' = r) (Bw D cy (va_A (wX4 cy g ue) sz) (wX4 cy g ue)) (va_A (wX4 cy g ue) sz)) s.heap.size) [.ref (g 499)].toArray s 0 0 A = QI below [.ref (g 499)].toArray s A D cy (wX4 cy g ue) r := by rw [hAe]; rfl
  rw [e1]
  clear e1 hAe
  obtain ⟨hx, hb, hr, hml, hown, hts, hlocks, hK, hA⟩ := id C0
  have hl : lv_has ls 1 [(0, .ref (g 499))] := hl
  rw [f_X4_thereNow] at h
  refine lv_aload_n hx hb dX4_thereNow_0 rfl (lv_at hl 0 rfl) ?_
  refine va_get (D := D) (ci := 3) (v := .int (ue.1 7)) (C := RX4) (T := TX4) (N := 14) hx hb hts ki_X4_thereNow_X4 hown hK hP 0 rfl rfl 7 (by decide) (hts _ k_X4_thereNow_0) (fun _ h9 => h9) rfl dX4_thereNow_1 ?_
  cases h
  exact x_iret hx hb hr hlocks hK hP hD hS dX4_thereNow_4 rfl rfl
theorem k_X4_roundsPlayed_0 : Cond.fieldLink RX4 38 "FeatherHall$Evening" "rounds" "I" ∈ wsX4_roundsPlayed := (List.mem_cons_of_mem _ (List.mem_append_left _ (List.mem_of_getElem? (i := 0) rfl)))
theorem ki_X4_roundsPlayed_X4 : ∀ w ∈ u_ws RX4 TX4 14, w ∈ wsX4_roundsPlayed := fun _ hh => (List.mem_cons_of_mem _ (List.mem_append_right _ hh))
theorem hd_X4_roundsPlayed : yX4_roundsPlayed.cls = RX4 ∧ yX4_roundsPlayed.cls ≠ "java/lang/invoke/MethodHandle" ∧ yX4_roundsPlayed.cls ≠ "java/lang/invoke/VarHandle" ∧ (parseMethodDescriptor yX4_roundsPlayed.desc).map (fun d => d.parameters.length) = some 0 := by decide +kernel
set_option maxHeartbeats 4000000 in
set_option maxRecDepth 100000 in
theorem c_X4_roundsPlayed (l : Launch) (D : va_G) (cy : Nat → ClassId) (g : Nat → Nat) (ue : St) (r : Int32) (h : f_X4_roundsPlayed ue = some r) : CtI l yX4_roundsPlayed wsX4_roundsPlayed (rmH 0) [.ref (g 499)] D cy (wX4 cy g ue) (wX4 cy g ue) r := by
  refine ct_enter (D := D) (cy := cy) (cc := cX4_roundsPlayed) (maxL := 1) (ret := (some .int)) (w := wX4 cy g ue) (Qc := fun sz => va_Qi (fun r' (_ : Unit) => r' = r) (Bw D cy (va_A (wX4 cy g ue) sz) (wX4 cy g ue)) (va_A (wX4 cy g ue) sz)) (by decide) rfl (Nat.le_of_ble_eq_true rfl) ?_
  intro p e s m below meth c A C0 hAe ls hl hP hD hS
  have e1 : MQ below ((fun sz => va_Qi (fun r' (_ : Unit) => r' = r) (Bw D cy (va_A (wX4 cy g ue) sz) (wX4 cy g ue)) (va_A (wX4 cy g ue) sz)) s.heap.size) [.ref (g 499)].toArray s 0 0 A = QI below [.ref (g 499)].toArray s A D cy (wX4 cy g ue) r := by rw [hAe]; rfl
  rw [e1]
  clear e1 hAe
  obtain ⟨hx, hb, hr, hml, hown, hts, hlocks, hK, hA⟩ := id C0
  have hl : lv_has ls 1 [(0, .ref (g 499))] := hl
  rw [f_X4_roundsPlayed] at h
  refine lv_aload_n hx hb dX4_roundsPlayed_0 rfl (lv_at hl 0 rfl) ?_
  refine va_get (D := D) (ci := 3) (v := .int (ue.1 8)) (C := RX4) (T := TX4) (N := 14) hx hb hts ki_X4_roundsPlayed_X4 hown hK hP 0 rfl rfl 8 (by decide) (hts _ k_X4_roundsPlayed_0) (fun _ h9 => h9) rfl dX4_roundsPlayed_1 ?_
  cases h
  exact x_iret hx hb hr hlocks hK hP hD hS dX4_roundsPlayed_4 rfl rfl
