theorem hd_X8_isWithin : yX8_isWithin.cls ≠ "java/lang/invoke/MethodHandle" ∧ yX8_isWithin.cls ≠ "java/lang/invoke/VarHandle" ∧ (parseMethodDescriptor yX8_isWithin.desc).map (fun d => d.parameters.length) = some 3 := by decide +kernel
set_option maxHeartbeats 4000000 in
set_option maxRecDepth 100000 in
theorem c_X8_isWithin (l : Launch) (D : va_G) (cy : Nat → ClassId) (p0 : Int32) (p1 : Int32) (p2 : Int32) (r : Int32) (h : f_X8_isWithin p0 p1 p2 = some r) : CtI l yX8_isWithin wsX8_isWithin (rmH 0) [.int p0, .int p1, .int p2] D cy (([] : va_W)) (([] : va_W)) r := by
  refine ct_enter (D := D) (cy := cy) (cc := cX8_isWithin) (maxL := 3) (ret := (some .boolean)) (w := ([] : va_W)) (Qc := fun sz => va_Qi (fun r' (_ : Unit) => r' = r) (Bw D cy (va_A (([] : va_W)) sz) (([] : va_W))) (va_A (([] : va_W)) sz)) (by decide) rfl (Nat.le_of_ble_eq_true rfl) ?_
  intro p e s m below meth c A C0 hAe ls hl hP hD hS
  have e1 : MQ below ((fun sz => va_Qi (fun r' (_ : Unit) => r' = r) (Bw D cy (va_A (([] : va_W)) sz) (([] : va_W))) (va_A (([] : va_W)) sz)) s.heap.size) [.int p0, .int p1, .int p2].toArray s 0 0 A = QI below [.int p0, .int p1, .int p2].toArray s A D cy (([] : va_W)) r := by rw [hAe]; rfl
  rw [e1]
  clear e1 hAe
  obtain ⟨hx, hb, hr, hml, hown, hts, hlocks, hK, hA⟩ := id C0
  have hl : lv_has ls 3 [(0, .int p0), (1, .int p1), (2, .int p2)] := hl
  rw [f_X8_isWithin] at h
  refine lv_iload_n hx hb dX8_isWithin_0 rfl (lv_at hl 0 rfl) ?_
  refine lv_iload_n hx hb dX8_isWithin_1 rfl (lv_at hl 1 rfl) ?_
  refine x_icmp_lt (tgt := 14) hx hb dX8_isWithin_2 (by decide) h (fun _ h => ?_) (fun _ h => ?_)
  · refine lv_iconst (v := 0) hx hb dX8_isWithin_14 (by decide) ?_
    cases h
    exact x_zret hx hb hr hlocks hK hP hD hS (Or.inl rfl) dX8_isWithin_15 rfl rfl
  · refine lv_iload_n hx hb dX8_isWithin_5 rfl (lv_at hl 0 rfl) ?_
    refine lv_iload_n hx hb dX8_isWithin_6 rfl (lv_at hl 2 rfl) ?_
    refine x_icmp_gt (tgt := 14) hx hb dX8_isWithin_7 (by decide) h (fun _ h => ?_) (fun _ h => ?_)
    · refine lv_iconst (v := 0) hx hb dX8_isWithin_14 (by decide) ?_
      cases h
      exact x_zret hx hb hr hlocks hK hP hD hS (Or.inl rfl) dX8_isWithin_15 rfl rfl
    · refine lv_iconst (v := 1) hx hb dX8_isWithin_10 (by decide) ?_
      refine lv_goto (tgt := 15) hx hb dX8_isWithin_11 (by decide) ?_
      cases h
      exact x_zret hx hb hr hlocks hK hP hD hS (Or.inr rfl) dX8_isWithin_15 rfl rfl
theorem hd_X8_isKind : yX8_isKind.cls ≠ "java/lang/invoke/MethodHandle" ∧ yX8_isKind.cls ≠ "java/lang/invoke/VarHandle" ∧ (parseMethodDescriptor yX8_isKind.desc).map (fun d => d.parameters.length) = some 1 := by decide +kernel
set_option maxHeartbeats 4000000 in
set_option maxRecDepth 100000 in
theorem c_X8_isKind (l : Launch) (D : va_G) (cy : Nat → ClassId) (p0 : Int32) (r : Int32) (h : f_X8_isKind p0 = some r) : CtI l yX8_isKind wsX8_isKind (rmH 1) [.int p0] D cy (([] : va_W)) (([] : va_W)) r := by
  refine ct_enter (D := D) (cy := cy) (cc := cX8_isKind) (maxL := 1) (ret := (some .boolean)) (w := ([] : va_W)) (Qc := fun sz => va_Qi (fun r' (_ : Unit) => r' = r) (Bw D cy (va_A (([] : va_W)) sz) (([] : va_W))) (va_A (([] : va_W)) sz)) (by decide) rfl (Nat.le_of_ble_eq_true rfl) ?_
  intro p e s m below meth c A C0 hAe ls hl hP hD hS
  have e1 : MQ below ((fun sz => va_Qi (fun r' (_ : Unit) => r' = r) (Bw D cy (va_A (([] : va_W)) sz) (([] : va_W))) (va_A (([] : va_W)) sz)) s.heap.size) [.int p0].toArray s 0 0 A = QI below [.int p0].toArray s A D cy (([] : va_W)) r := by rw [hAe]; rfl
  rw [e1]
  clear e1 hAe
  obtain ⟨hx, hb, hr, hml, hown, hts, hlocks, hK, hA⟩ := id C0
  have hl : lv_has ls 1 [(0, .int p0)] := hl
  rw [f_X8_isKind] at h
  refine lv_iload_n hx hb dX8_isKind_0 rfl (lv_at hl 0 rfl) ?_
  refine lv_iconst (v := 0) hx hb dX8_isKind_1 (by decide) ?_
  refine lv_iconst (v := 3) hx hb dX8_isKind_2 (by decide) ?_
  obtain ⟨r1, e2, h⟩ := bd_some h
  refine x_callSI (As := [.int p0, .int (0 : Int32), .int (3 : Int32)]) (rest := []) (n := 3) ⟨hx, hb, hml, hown, hts⟩ (c_X8_isWithin l D cy  p0 (0 : Int32) (3 : Int32) r1 e2) gX8_isKind_X8_isWithin rfl hd_X8_isWithin ⟨Nat.le_of_ble_eq_true rfl, Nat.le_of_ble_eq_true rfl⟩ ⟨rfl, rfl⟩ hK (sp_nil _) (sp_nil _) hP hD hS hA rfl hl.1 rfl (Nat.le_of_ble_eq_true rfl) dX8_isKind_3 ⟨Nat.zero_le _, Nat.zero_le _⟩ (fun H locs hP hD hS => ?_)
  clear e2
  obtain ⟨hz, h⟩ := bk_some h
  cases h
  exact x_zret hx hb hr hlocks hK hP hD hS hz dX8_isKind_6 rfl rfl
theorem k_X8_kind_0 : Cond.fieldLink RX8 10 "FeatherHall" "air" "LFeatherHall$Air;" ∈ wsX8_kind := (List.mem_cons_of_mem _ (List.mem_append_left _ (List.mem_append_left _ (List.mem_of_getElem? (i := 0) rfl))))
theorem ki_X8_kind_X8 : ∀ w ∈ u_ws RX8 TX8 7, w ∈ wsX8_kind := fun _ hh => (List.mem_cons_of_mem _ (List.mem_append_left _ (List.mem_append_right _ hh)))
theorem hd_X8_kind : yX8_kind.cls = RX8 ∧ yX8_kind.cls ≠ "java/lang/invoke/MethodHandle" ∧ yX8_kind.cls ≠ "java/lang/invoke/VarHandle" ∧ (parseMethodDescriptor yX8_kind.desc).map (fun d => d.parameters.length) = some 4 := by decide +kernel
set_option maxHeartbeats 4000000 in
set_option maxRecDepth 100000 in
theorem c_X8_kind (l : Launch) (D : va_G) (cy : Nat → ClassId) (g : Nat → Nat) (ua : St) (us : St) (ud : St) (ut : St) (un : St) (ub : St) (ue : St) (p0 : Int32) (p1 : Int32) (p2 : Int32) (p3 : Int32) (r : Int32) (ua' : St) (h : f_X8_kind p0 p1 p2 p3 ua = some (r, ua')) : CtI l yX8_kind wsX8_kind (rmH 2) [.ref (g 899), .int p0, .int p1, .int p2, .int p3] D cy (wX8 cy g ua us ud ut un ub ue) (wX8 cy g ua' us ud ut un ub ue) r := by
  refine ct_enter (D := D) (cy := cy) (cc := cX8_kind) (maxL := 5) (ret := (some .int)) (w := wX8 cy g ua us ud ut un ub ue) (Qc := fun sz => va_Qi (fun r' (_ : Unit) => r' = r) (Bw D cy (va_A (wX8 cy g ua us ud ut un ub ue) sz) (wX8 cy g ua' us ud ut un ub ue)) (va_A (wX8 cy g ua us ud ut un ub ue) sz)) (by decide) rfl (Nat.le_of_ble_eq_true rfl) ?_
  intro p e s m below meth c A C0 hAe ls hl hP hD hS
  have e1 : MQ below ((fun sz => va_Qi (fun r' (_ : Unit) => r' = r) (Bw D cy (va_A (wX8 cy g ua us ud ut un ub ue) sz) (wX8 cy g ua' us ud ut un ub ue)) (va_A (wX8 cy g ua us ud ut un ub ue) sz)) s.heap.size) [.ref (g 899), .int p0, .int p1, .int p2, .int p3].toArray s 0 0 A = QI below [.ref (g 899), .int p0, .int p1, .int p2, .int p3].toArray s A D cy (wX8 cy g ua' us ud ut un ub ue) r := by rw [hAe]; rfl
  rw [e1]
  clear e1 hAe
  obtain ⟨hx, hb, hr, hml, hown, hts, hlocks, hK, hA⟩ := id C0
  have hl : lv_has ls 5 [(0, .ref (g 899)), (1, .int p0), (2, .int p1), (3, .int p2), (4, .int p3)] := hl
  rw [f_X8_kind] at h
  refine lv_iload_n hx hb dX8_kind_0 rfl (lv_at hl 1 rfl) ?_
  obtain ⟨r1, e2, h⟩ := bd_some h
  refine x_callSI (As := [.int p0]) (rest := []) (n := 1) ⟨hx, hb, hml, hown, hts⟩ (c_X8_isKind l D cy  p0 r1 e2) gX8_kind_X8_isKind rfl hd_X8_isKind ⟨Nat.le_of_ble_eq_true rfl, Nat.le_of_ble_eq_true rfl⟩ ⟨rfl, rfl⟩ hK (sp_nil _) (sp_nil _) hP hD hS hA rfl hl.1 rfl (Nat.le_of_ble_eq_true rfl) dX8_kind_1 ⟨Nat.zero_le _, Nat.zero_le _⟩ (fun H locs hP hD hS => ?_)
  clear e2
  refine x_if_ne (tgt := 10) hx hb dX8_kind_4 (by decide) h (fun _ h => ?_) (fun _ h => ?_)
  · refine lv_bipush (v := -2) hx hb dX8_kind_7 (by decide) ?_
    cases h
    exact x_iret hx hb hr hlocks hK hP hD hS dX8_kind_9 rfl rfl
  · refine lv_iload_n hx hb dX8_kind_10 rfl (lv_at hl 2 rfl) ?_
    refine lv_bipush (v := 10) hx hb dX8_kind_11 (by decide) ?_
    refine lv_bipush (v := 60) hx hb dX8_kind_13 (by decide) ?_
    obtain ⟨r3, e4, h⟩ := bd_some h
    refine x_callSI (As := [.int p1, .int (10 : Int32), .int (60 : Int32)]) (rest := []) (n := 3) ⟨hx, hb, hml, hown, hts⟩ (c_X8_isWithin l D cy  p1 (10 : Int32) (60 : Int32) r3 e4) gX8_kind_X8_isWithin rfl hd_X8_isWithin ⟨Nat.le_of_ble_eq_true rfl, Nat.le_of_ble_eq_true rfl⟩ ⟨rfl, rfl⟩ hK (sp_nil _) (sp_nil _) hP hD hS hA rfl hl.1 rfl (Nat.le_of_ble_eq_true rfl) dX8_kind_15 ⟨Nat.zero_le _, Nat.zero_le _⟩ (fun H locs hP hD hS => ?_)
    clear e4
    refine x_if_eq (tgt := 42) hx hb dX8_kind_18 (by decide) h (fun _ h => ?_) (fun _ h => ?_)
    · refine lv_bipush (v := -3) hx hb dX8_kind_42 (by decide) ?_
      cases h
      exact x_iret hx hb hr hlocks hK hP hD hS dX8_kind_44 rfl rfl
    · refine lv_iload_n hx hb dX8_kind_21 rfl (lv_at hl 3 rfl) ?_
      refine lv_iconst (v := 0) hx hb dX8_kind_22 (by decide) ?_
      refine lv_bipush (v := 60) hx hb dX8_kind_23 (by decide) ?_
      obtain ⟨r5, e6, h⟩ := bd_some h
      refine x_callSI (As := [.int p2, .int (0 : Int32), .int (60 : Int32)]) (rest := []) (n := 3) ⟨hx, hb, hml, hown, hts⟩ (c_X8_isWithin l D cy  p2 (0 : Int32) (60 : Int32) r5 e6) gX8_kind_X8_isWithin rfl hd_X8_isWithin ⟨Nat.le_of_ble_eq_true rfl, Nat.le_of_ble_eq_true rfl⟩ ⟨rfl, rfl⟩ hK (sp_nil _) (sp_nil _) hP hD hS hA rfl hl.1 rfl (Nat.le_of_ble_eq_true rfl) dX8_kind_25 ⟨Nat.zero_le _, Nat.zero_le _⟩ (fun H locs hP hD hS => ?_)
      clear e6
      refine x_if_eq (tgt := 42) hx hb dX8_kind_28 (by decide) h (fun _ h => ?_) (fun _ h => ?_)
      · refine lv_bipush (v := -3) hx hb dX8_kind_42 (by decide) ?_
        cases h
        exact x_iret hx hb hr hlocks hK hP hD hS dX8_kind_44 rfl rfl
      · refine lv_iload hx hb dX8_kind_31 (lv_at hl 4 rfl) ?_
        refine lv_iconst (v := 1) hx hb dX8_kind_33 (by decide) ?_
        refine lv_bipush (v := 6) hx hb dX8_kind_34 (by decide) ?_
        obtain ⟨r7, e8, h⟩ := bd_some h
        refine x_callSI (As := [.int p3, .int (1 : Int32), .int (6 : Int32)]) (rest := []) (n := 3) ⟨hx, hb, hml, hown, hts⟩ (c_X8_isWithin l D cy  p3 (1 : Int32) (6 : Int32) r7 e8) gX8_kind_X8_isWithin rfl hd_X8_isWithin ⟨Nat.le_of_ble_eq_true rfl, Nat.le_of_ble_eq_true rfl⟩ ⟨rfl, rfl⟩ hK (sp_nil _) (sp_nil _) hP hD hS hA rfl hl.1 rfl (Nat.le_of_ble_eq_true rfl) dX8_kind_36 ⟨Nat.zero_le _, Nat.zero_le _⟩ (fun H locs hP hD hS => ?_)
        clear e8
        refine x_if_ne (tgt := 45) hx hb dX8_kind_39 (by decide) h (fun _ h => ?_) (fun _ h => ?_)
        · refine lv_bipush (v := -3) hx hb dX8_kind_42 (by decide) ?_
          cases h
          exact x_iret hx hb hr hlocks hK hP hD hS dX8_kind_44 rfl rfl
        · refine lv_aload_n hx hb dX8_kind_45 rfl (lv_at hl 0 rfl) ?_
          refine va_get (D := D) (ci := 7) (v := .ref (g 99)) (C := RX8) (T := TX8) (N := 7) hx hb hts ki_X8_kind_X8 hown hK hP 0 rfl rfl 0 (by decide) (hts _ k_X8_kind_0) (fun _ h9 => h9) rfl dX8_kind_46 ?_
          refine lv_iload_n hx hb dX8_kind_49 rfl (lv_at hl 1 rfl) ?_
          refine lv_iload_n hx hb dX8_kind_50 rfl (lv_at hl 2 rfl) ?_
          refine lv_iload_n hx hb dX8_kind_51 rfl (lv_at hl 3 rfl) ?_
          refine lv_iload hx hb dX8_kind_52 (lv_at hl 4 rfl) ?_
          obtain ⟨ua9, e10, h⟩ := bd_some h
          refine x_callVV (As := [.int p0, .int p1, .int p2, .int p3]) (rest := []) (n := 4) ⟨hx, hb, hml, hown, hts⟩ (c_X0_setKind l D cy g ua p0 p1 p2 p3 ua9 e10) gX8_kind_X0_setKind rfl hd_X0_setKind ⟨Nat.le_of_ble_eq_true rfl, Nat.le_of_ble_eq_true rfl⟩ ⟨rfl, rfl⟩ hK (sp8_X0 cy g ua us ud ut un ub ue) (sp8_X0 cy g ua9 us ud ut un ub ue) hP hD hS hA 0 rfl rfl rfl hl.1 rfl (Nat.le_of_ble_eq_true rfl) dX8_kind_54 ⟨Nat.zero_le _, Nat.zero_le _⟩ (fun H locs hP hD hS => ?_)
          clear e10
          refine lv_iconst (v := 1) hx hb dX8_kind_57 (by decide) ?_
          cases h
          exact x_iret hx hb hr hlocks hK hP hD hS dX8_kind_58 rfl rfl
theorem k_X8_broken_0 : Cond.fieldLink RX8 10 "FeatherHall" "air" "LFeatherHall$Air;" ∈ wsX8_broken := (List.mem_cons_of_mem _ (List.mem_append_left _ (List.mem_append_left _ (List.mem_of_getElem? (i := 0) rfl))))
theorem ki_X8_broken_X8 : ∀ w ∈ u_ws RX8 TX8 7, w ∈ wsX8_broken := fun _ hh => (List.mem_cons_of_mem _ (List.mem_append_left _ (List.mem_append_right _ hh)))
theorem hd_X8_broken : yX8_broken.cls = RX8 ∧ yX8_broken.cls ≠ "java/lang/invoke/MethodHandle" ∧ yX8_broken.cls ≠ "java/lang/invoke/VarHandle" ∧ (parseMethodDescriptor yX8_broken.desc).map (fun d => d.parameters.length) = some 1 := by decide +kernel
set_option maxHeartbeats 4000000 in
set_option maxRecDepth 100000 in
theorem c_X8_broken (l : Launch) (D : va_G) (cy : Nat → ClassId) (g : Nat → Nat) (ua : St) (us : St) (ud : St) (ut : St) (un : St) (ub : St) (ue : St) (p0 : Int32) (r : Int32) (ua' : St) (h : f_X8_broken p0 ua = some (r, ua')) : CtI l yX8_broken wsX8_broken (rmH 2) [.ref (g 899), .int p0] D cy (wX8 cy g ua us ud ut un ub ue) (wX8 cy g ua' us ud ut un ub ue) r := by
  refine ct_enter (D := D) (cy := cy) (cc := cX8_broken) (maxL := 2) (ret := (some .int)) (w := wX8 cy g ua us ud ut un ub ue) (Qc := fun sz => va_Qi (fun r' (_ : Unit) => r' = r) (Bw D cy (va_A (wX8 cy g ua us ud ut un ub ue) sz) (wX8 cy g ua' us ud ut un ub ue)) (va_A (wX8 cy g ua us ud ut un ub ue) sz)) (by decide) rfl (Nat.le_of_ble_eq_true rfl) ?_
  intro p e s m below meth c A C0 hAe ls hl hP hD hS
  have e1 : MQ below ((fun sz => va_Qi (fun r' (_ : Unit) => r' = r) (Bw D cy (va_A (wX8 cy g ua us ud ut un ub ue) sz) (wX8 cy g ua' us ud ut un ub ue)) (va_A (wX8 cy g ua us ud ut un ub ue) sz)) s.heap.size) [.ref (g 899), .int p0].toArray s 0 0 A = QI below [.ref (g 899), .int p0].toArray s A D cy (wX8 cy g ua' us ud ut un ub ue) r := by rw [hAe]; rfl
  rw [e1]
  clear e1 hAe
  obtain ⟨hx, hb, hr, hml, hown, hts, hlocks, hK, hA⟩ := id C0
  have hl : lv_has ls 2 [(0, .ref (g 899)), (1, .int p0)] := hl
  rw [f_X8_broken] at h
  refine lv_iload_n hx hb dX8_broken_0 rfl (lv_at hl 1 rfl) ?_
  refine lv_iconst (v := 0) hx hb dX8_broken_1 (by decide) ?_
  refine lv_bipush (v := 8) hx hb dX8_broken_2 (by decide) ?_
  obtain ⟨r1, e2, h⟩ := bd_some h
  refine x_callSI (As := [.int p0, .int (0 : Int32), .int (8 : Int32)]) (rest := []) (n := 3) ⟨hx, hb, hml, hown, hts⟩ (c_X8_isWithin l D cy  p0 (0 : Int32) (8 : Int32) r1 e2) gX8_broken_X8_isWithin rfl hd_X8_isWithin ⟨Nat.le_of_ble_eq_true rfl, Nat.le_of_ble_eq_true rfl⟩ ⟨rfl, rfl⟩ hK (sp_nil _) (sp_nil _) hP hD hS hA rfl hl.1 rfl (Nat.le_of_ble_eq_true rfl) dX8_broken_4 ⟨Nat.zero_le _, Nat.zero_le _⟩ (fun H locs hP hD hS => ?_)
  clear e2
  refine x_if_ne (tgt := 13) hx hb dX8_broken_7 (by decide) h (fun _ h => ?_) (fun _ h => ?_)
  · refine lv_bipush (v := -3) hx hb dX8_broken_10 (by decide) ?_
    cases h
    exact x_iret hx hb hr hlocks hK hP hD hS dX8_broken_12 rfl rfl
  · refine lv_aload_n hx hb dX8_broken_13 rfl (lv_at hl 0 rfl) ?_
    refine va_get (D := D) (ci := 7) (v := .ref (g 99)) (C := RX8) (T := TX8) (N := 7) hx hb hts ki_X8_broken_X8 hown hK hP 0 rfl rfl 0 (by decide) (hts _ k_X8_broken_0) (fun _ h9 => h9) rfl dX8_broken_14 ?_
    refine lv_iload_n hx hb dX8_broken_17 rfl (lv_at hl 1 rfl) ?_
    obtain ⟨r4, ua3, e5, h⟩ := bd2_some h
    refine x_callVI (As := [.int p0]) (rest := []) (n := 1) ⟨hx, hb, hml, hown, hts⟩ (c_X0_setBroken l D cy g ua p0 r4 ua3 e5) gX8_broken_X0_setBroken rfl hd_X0_setBroken ⟨Nat.le_of_ble_eq_true rfl, Nat.le_of_ble_eq_true rfl⟩ ⟨rfl, rfl⟩ hK (sp8_X0 cy g ua us ud ut un ub ue) (sp8_X0 cy g ua3 us ud ut un ub ue) hP hD hS hA 0 rfl rfl rfl hl.1 rfl (Nat.le_of_ble_eq_true rfl) dX8_broken_18 ⟨Nat.zero_le _, Nat.zero_le _⟩ (fun H locs hP hD hS => ?_)
    clear e5
    cases h
    exact x_iret hx hb hr hlocks hK hP hD hS dX8_broken_21 rfl rfl
theorem hd_X8_isCell : yX8_isCell.cls ≠ "java/lang/invoke/MethodHandle" ∧ yX8_isCell.cls ≠ "java/lang/invoke/VarHandle" ∧ (parseMethodDescriptor yX8_isCell.desc).map (fun d => d.parameters.length) = some 1 := by decide +kernel
set_option maxHeartbeats 4000000 in
set_option maxRecDepth 100000 in
theorem c_X8_isCell (l : Launch) (D : va_G) (cy : Nat → ClassId) (p0 : Int32) (r : Int32) (h : f_X8_isCell p0 = some r) : CtI l yX8_isCell wsX8_isCell (rmH 1) [.int p0] D cy (([] : va_W)) (([] : va_W)) r := by
  refine ct_enter (D := D) (cy := cy) (cc := cX8_isCell) (maxL := 1) (ret := (some .boolean)) (w := ([] : va_W)) (Qc := fun sz => va_Qi (fun r' (_ : Unit) => r' = r) (Bw D cy (va_A (([] : va_W)) sz) (([] : va_W))) (va_A (([] : va_W)) sz)) (by decide) rfl (Nat.le_of_ble_eq_true rfl) ?_
  intro p e s m below meth c A C0 hAe ls hl hP hD hS
  have e1 : MQ below ((fun sz => va_Qi (fun r' (_ : Unit) => r' = r) (Bw D cy (va_A (([] : va_W)) sz) (([] : va_W))) (va_A (([] : va_W)) sz)) s.heap.size) [.int p0].toArray s 0 0 A = QI below [.int p0].toArray s A D cy (([] : va_W)) r := by rw [hAe]; rfl
  rw [e1]
  clear e1 hAe
  obtain ⟨hx, hb, hr, hml, hown, hts, hlocks, hK, hA⟩ := id C0
  have hl : lv_has ls 1 [(0, .int p0)] := hl
  rw [f_X8_isCell] at h
  refine lv_iload_n hx hb dX8_isCell_0 rfl (lv_at hl 0 rfl) ?_
  refine lv_iconst (v := 0) hx hb dX8_isCell_1 (by decide) ?_
  refine lv_bipush (v := 15) hx hb dX8_isCell_2 (by decide) ?_
  obtain ⟨r1, e2, h⟩ := bd_some h
  refine x_callSI (As := [.int p0, .int (0 : Int32), .int (15 : Int32)]) (rest := []) (n := 3) ⟨hx, hb, hml, hown, hts⟩ (c_X8_isWithin l D cy  p0 (0 : Int32) (15 : Int32) r1 e2) gX8_isCell_X8_isWithin rfl hd_X8_isWithin ⟨Nat.le_of_ble_eq_true rfl, Nat.le_of_ble_eq_true rfl⟩ ⟨rfl, rfl⟩ hK (sp_nil _) (sp_nil _) hP hD hS hA rfl hl.1 rfl (Nat.le_of_ble_eq_true rfl) dX8_isCell_4 ⟨Nat.zero_le _, Nat.zero_le _⟩ (fun H locs hP hD hS => ?_)
  clear e2
  obtain ⟨hz, h⟩ := bk_some h
  cases h
  exact x_zret hx hb hr hlocks hK hP hD hS hz dX8_isCell_7 rfl rfl
theorem k_X8_flight_0 : Cond.fieldLink RX8 10 "FeatherHall" "air" "LFeatherHall$Air;" ∈ wsX8_flight := (List.mem_cons_of_mem _ (List.mem_append_left _ (List.mem_append_left _ (List.mem_append_left _ (List.mem_of_getElem? (i := 0) rfl)))))
theorem ki_X8_flight_X8 : ∀ w ∈ u_ws RX8 TX8 7, w ∈ wsX8_flight := fun _ hh => (List.mem_cons_of_mem _ (List.mem_append_left _ (List.mem_append_right _ hh)))
theorem hd_X8_flight : yX8_flight.cls = RX8 ∧ yX8_flight.cls ≠ "java/lang/invoke/MethodHandle" ∧ yX8_flight.cls ≠ "java/lang/invoke/VarHandle" ∧ (parseMethodDescriptor yX8_flight.desc).map (fun d => d.parameters.length) = some 4 := by decide +kernel
set_option maxHeartbeats 4000000 in
set_option maxRecDepth 100000 in
theorem c_X8_flight (l : Launch) (D : va_G) (cy : Nat → ClassId) (g : Nat → Nat) (ua : St) (us : St) (ud : St) (ut : St) (un : St) (ub : St) (ue : St) (p0 : Int32) (p1 : Int32) (p2 : Int32) (p3 : Int32) (r : Int32) (ua' : St) (h : f_X8_flight p0 p1 p2 p3 ua = some (r, ua')) : CtI l yX8_flight wsX8_flight (rmH 4) [.ref (g 899), .int p0, .int p1, .int p2, .int p3] D cy (wX8 cy g ua us ud ut un ub ue) (wX8 cy g ua' us ud ut un ub ue) r := by
  refine ct_enter (D := D) (cy := cy) (cc := cX8_flight) (maxL := 8) (ret := (some .int)) (w := wX8 cy g ua us ud ut un ub ue) (Qc := fun sz => va_Qi (fun r' (_ : Unit) => r' = r) (Bw D cy (va_A (wX8 cy g ua us ud ut un ub ue) sz) (wX8 cy g ua' us ud ut un ub ue)) (va_A (wX8 cy g ua us ud ut un ub ue) sz)) (by decide) rfl (Nat.le_of_ble_eq_true rfl) ?_
  intro p e s m below meth c A C0 hAe ls hl hP hD hS
  have e1 : MQ below ((fun sz => va_Qi (fun r' (_ : Unit) => r' = r) (Bw D cy (va_A (wX8 cy g ua us ud ut un ub ue) sz) (wX8 cy g ua' us ud ut un ub ue)) (va_A (wX8 cy g ua us ud ut un ub ue) sz)) s.heap.size) [.ref (g 899), .int p0, .int p1, .int p2, .int p3].toArray s 0 0 A = QI below [.ref (g 899), .int p0, .int p1, .int p2, .int p3].toArray s A D cy (wX8 cy g ua' us ud ut un ub ue) r := by rw [hAe]; rfl
  rw [e1]
  clear e1 hAe
  obtain ⟨hx, hb, hr, hml, hown, hts, hlocks, hK, hA⟩ := id C0
  have hl : lv_has ls 8 [(0, .ref (g 899)), (1, .int p0), (2, .int p1), (3, .int p2), (4, .int p3)] := hl
  rw [f_X8_flight] at h
  refine lv_iload_n hx hb dX8_flight_0 rfl (lv_at hl 1 rfl) ?_
  obtain ⟨r1, e2, h⟩ := bd_some h
  refine x_callSI (As := [.int p0]) (rest := []) (n := 1) ⟨hx, hb, hml, hown, hts⟩ (c_X8_isKind l D cy  p0 r1 e2) gX8_flight_X8_isKind rfl hd_X8_isKind ⟨Nat.le_of_ble_eq_true rfl, Nat.le_of_ble_eq_true rfl⟩ ⟨rfl, rfl⟩ hK (sp_nil _) (sp_nil _) hP hD hS hA rfl hl.1 rfl (Nat.le_of_ble_eq_true rfl) dX8_flight_1 ⟨Nat.zero_le _, Nat.zero_le _⟩ (fun H locs hP hD hS => ?_)
  clear e2
  refine x_if_eq (tgt := 21) hx hb dX8_flight_4 (by decide) h (fun _ h => ?_) (fun _ h => ?_)
  · refine lv_bipush (v := -2) hx hb dX8_flight_21 (by decide) ?_
    cases h
    exact x_iret hx hb hr hlocks hK hP hD hS dX8_flight_23 rfl rfl
  · refine lv_iload_n hx hb dX8_flight_7 rfl (lv_at hl 2 rfl) ?_
    obtain ⟨r3, e4, h⟩ := bd_some h
    refine x_callSI (As := [.int p1]) (rest := []) (n := 1) ⟨hx, hb, hml, hown, hts⟩ (c_X8_isCell l D cy  p1 r3 e4) gX8_flight_X8_isCell rfl hd_X8_isCell ⟨Nat.le_of_ble_eq_true rfl, Nat.le_of_ble_eq_true rfl⟩ ⟨rfl, rfl⟩ hK (sp_nil _) (sp_nil _) hP hD hS hA rfl hl.1 rfl (Nat.le_of_ble_eq_true rfl) dX8_flight_8 ⟨Nat.zero_le _, Nat.zero_le _⟩ (fun H locs hP hD hS => ?_)
    clear e4
    refine x_if_eq (tgt := 21) hx hb dX8_flight_11 (by decide) h (fun _ h => ?_) (fun _ h => ?_)
    · refine lv_bipush (v := -2) hx hb dX8_flight_21 (by decide) ?_
      cases h
      exact x_iret hx hb hr hlocks hK hP hD hS dX8_flight_23 rfl rfl
    · refine lv_iload_n hx hb dX8_flight_14 rfl (lv_at hl 3 rfl) ?_
      obtain ⟨r5, e6, h⟩ := bd_some h
      refine x_callSI (As := [.int p2]) (rest := []) (n := 1) ⟨hx, hb, hml, hown, hts⟩ (c_X8_isCell l D cy  p2 r5 e6) gX8_flight_X8_isCell rfl hd_X8_isCell ⟨Nat.le_of_ble_eq_true rfl, Nat.le_of_ble_eq_true rfl⟩ ⟨rfl, rfl⟩ hK (sp_nil _) (sp_nil _) hP hD hS hA rfl hl.1 rfl (Nat.le_of_ble_eq_true rfl) dX8_flight_15 ⟨Nat.zero_le _, Nat.zero_le _⟩ (fun H locs hP hD hS => ?_)
      clear e6
      refine x_if_ne (tgt := 24) hx hb dX8_flight_18 (by decide) h (fun _ h => ?_) (fun _ h => ?_)
      · refine lv_bipush (v := -2) hx hb dX8_flight_21 (by decide) ?_
        cases h
        exact x_iret hx hb hr hlocks hK hP hD hS dX8_flight_23 rfl rfl
      · refine lv_iload hx hb dX8_flight_24 (lv_at hl 4 rfl) ?_
        refine lv_iconst (v := 0) hx hb dX8_flight_26 (by decide) ?_
        refine lv_iconst (v := 2) hx hb dX8_flight_27 (by decide) ?_
        obtain ⟨r7, e8, h⟩ := bd_some h
        refine x_callSI (As := [.int p3, .int (0 : Int32), .int (2 : Int32)]) (rest := []) (n := 3) ⟨hx, hb, hml, hown, hts⟩ (c_X8_isWithin l D cy  p3 (0 : Int32) (2 : Int32) r7 e8) gX8_flight_X8_isWithin rfl hd_X8_isWithin ⟨Nat.le_of_ble_eq_true rfl, Nat.le_of_ble_eq_true rfl⟩ ⟨rfl, rfl⟩ hK (sp_nil _) (sp_nil _) hP hD hS hA rfl hl.1 rfl (Nat.le_of_ble_eq_true rfl) dX8_flight_28 ⟨Nat.zero_le _, Nat.zero_le _⟩ (fun H locs hP hD hS => ?_)
        clear e8
        refine x_if_ne (tgt := 37) hx hb dX8_flight_31 (by decide) h (fun _ h => ?_) (fun _ h => ?_)
        · refine lv_bipush (v := -3) hx hb dX8_flight_34 (by decide) ?_
          cases h
          exact x_iret hx hb hr hlocks hK hP hD hS dX8_flight_36 rfl rfl
        · refine lv_aload_n hx hb dX8_flight_37 rfl (lv_at hl 0 rfl) ?_
          refine va_get (D := D) (ci := 7) (v := .ref (g 99)) (C := RX8) (T := TX8) (N := 7) hx hb hts ki_X8_flight_X8 hown hK hP 0 rfl rfl 0 (by decide) (hts _ k_X8_flight_0) (fun _ h9 => h9) rfl dX8_flight_38 ?_
          refine lv_iload_n hx hb dX8_flight_41 rfl (lv_at hl 1 rfl) ?_
          refine lv_iload_n hx hb dX8_flight_42 rfl (lv_at hl 2 rfl) ?_
          refine lv_iload_n hx hb dX8_flight_43 rfl (lv_at hl 3 rfl) ?_
          obtain ⟨r10, ua9, e11, h⟩ := bd2_some h
          refine x_callVL (As := [.int p0, .int p1, .int p2]) (rest := []) (n := 3) ⟨hx, hb, hml, hown, hts⟩ (c_X0_pathOf l D cy g ua p0 p1 p2 r10 ua9 e11) gX8_flight_X0_pathOf rfl hd_X0_pathOf ⟨Nat.le_of_ble_eq_true rfl, Nat.le_of_ble_eq_true rfl⟩ ⟨rfl, rfl⟩ hK (sp8_X0 cy g ua us ud ut un ub ue) (sp8_X0 cy g ua9 us ud ut un ub ue) hP hD hS hA 0 rfl rfl rfl hl.1 rfl (Nat.le_of_ble_eq_true rfl) dX8_flight_44 ⟨Nat.zero_le _, Nat.zero_le _⟩ (fun H locs hP hD hS => ?_)
          clear e11
          refine lv_lstore (lv' := [(5, .long r10), (0, .ref (g 899)), (1, .int p0), (2, .int p1), (3, .int p2), (4, .int p3)]) hx hb dX8_flight_47 hl (by decide) rfl (fun ls hl => ?_)
          refine lv_lload hx hb dX8_flight_49 (lv_at hl 0 rfl) ?_
          obtain ⟨r12, e13, h⟩ := bd_some h
          refine x_callSI (As := [.long r10]) (rest := []) (n := 1) ⟨hx, hb, hml, hown, hts⟩ (c_X0_landingOf l D cy  r10 r12 e13) gX8_flight_X0_landingOf rfl hd_X0_landingOf ⟨Nat.le_of_ble_eq_true rfl, Nat.le_of_ble_eq_true rfl⟩ ⟨rfl, rfl⟩ hK (sp_nil _) (sp_nil _) hP hD hS hA rfl hl.1 rfl (Nat.le_of_ble_eq_true rfl) dX8_flight_51 ⟨Nat.zero_le _, Nat.zero_le _⟩ (fun H locs hP hD hS => ?_)
          clear e13
          refine lv_istore (lv' := [(7, .int r12), (5, .long r10), (0, .ref (g 899)), (1, .int p0), (2, .int p1), (3, .int p2), (4, .int p3)]) hx hb dX8_flight_54 hl (by decide) rfl (fun ls hl => ?_)
          refine lv_iload hx hb dX8_flight_56 (lv_at hl 6 rfl) ?_
          refine x_if_ne (tgt := 64) hx hb dX8_flight_58 (by decide) h (fun _ h => ?_) (fun _ h => ?_)
          · refine lv_iload hx hb dX8_flight_61 (lv_at hl 0 rfl) ?_
            cases h
            exact x_iret hx hb hr hlocks hK hP hD hS dX8_flight_63 rfl rfl
          · refine lv_lload hx hb dX8_flight_64 (lv_at hl 1 rfl) ?_
            obtain ⟨r14, e15, h⟩ := bd_some h
            refine x_callSI (As := [.long r10]) (rest := []) (n := 1) ⟨hx, hb, hml, hown, hts⟩ (c_X0_isNet l D cy  r10 r14 e15) gX8_flight_X0_isNet rfl hd_X0_isNet ⟨Nat.le_of_ble_eq_true rfl, Nat.le_of_ble_eq_true rfl⟩ ⟨rfl, rfl⟩ hK (sp_nil _) (sp_nil _) hP hD hS hA rfl hl.1 rfl (Nat.le_of_ble_eq_true rfl) dX8_flight_66 ⟨Nat.zero_le _, Nat.zero_le _⟩ (fun H locs hP hD hS => ?_)
            clear e15
            refine x_if_eq (tgt := 74) hx hb dX8_flight_69 (by decide) h (fun _ h => ?_) (fun _ h => ?_)
            · refine lv_iload hx hb dX8_flight_74 (lv_at hl 6 rfl) ?_
              refine lv_iconst (v := 1) hx hb dX8_flight_76 (by decide) ?_
              refine x_icmp_ne (tgt := 90) hx hb dX8_flight_77 (by decide) h (fun _ h => ?_) (fun _ h => ?_)
              · refine lv_lload hx hb dX8_flight_80 (lv_at hl 1 rfl) ?_
                refine lv_iload hx hb dX8_flight_82 (lv_at hl 0 rfl) ?_
                obtain ⟨r16, e17, h⟩ := bd_some h
                refine x_callSI (As := [.long r10, .int r12]) (rest := []) (n := 2) ⟨hx, hb, hml, hown, hts⟩ (c_X0_cellAt l D cy  r10 r12 r16 e17) gX8_flight_X0_cellAt rfl hd_X0_cellAt ⟨Nat.le_of_ble_eq_true rfl, Nat.le_of_ble_eq_true rfl⟩ ⟨rfl, rfl⟩ hK (sp_nil _) (sp_nil _) hP hD hS hA rfl hl.1 rfl (Nat.le_of_ble_eq_true rfl) dX8_flight_84 ⟨Nat.zero_le _, Nat.zero_le _⟩ (fun H locs hP hD hS => ?_)
                clear e17
                refine lv_goto (tgt := 95) hx hb dX8_flight_87 (by decide) ?_
                cases h
                exact x_iret hx hb hr hlocks hK hP hD hS dX8_flight_95 rfl rfl
              · refine lv_lload hx hb dX8_flight_90 (lv_at hl 1 rfl) ?_
                obtain ⟨r18, e19, h⟩ := bd_some h
                refine x_callSI (As := [.long r10]) (rest := []) (n := 1) ⟨hx, hb, hml, hown, hts⟩ (c_X0_firstMetOf l D cy  r10 r18 e19) gX8_flight_X0_firstMetOf rfl hd_X0_firstMetOf ⟨Nat.le_of_ble_eq_true rfl, Nat.le_of_ble_eq_true rfl⟩ ⟨rfl, rfl⟩ hK (sp_nil _) (sp_nil _) hP hD hS hA rfl hl.1 rfl (Nat.le_of_ble_eq_true rfl) dX8_flight_92 ⟨Nat.zero_le _, Nat.zero_le _⟩ (fun H locs hP hD hS => ?_)
                clear e19
                cases h
                exact x_iret hx hb hr hlocks hK hP hD hS dX8_flight_95 rfl rfl
            · refine lv_iconst (v := -1) hx hb dX8_flight_72 (by decide) ?_
              cases h
              exact x_iret hx hb hr hlocks hK hP hD hS dX8_flight_73 rfl rfl
theorem k_X8_over_0 : Cond.fieldLink RX8 10 "FeatherHall" "air" "LFeatherHall$Air;" ∈ wsX8_over := (List.mem_cons_of_mem _ (List.mem_append_left _ (List.mem_append_left _ (List.mem_append_left _ (List.mem_of_getElem? (i := 0) rfl)))))
theorem ki_X8_over_X8 : ∀ w ∈ u_ws RX8 TX8 7, w ∈ wsX8_over := fun _ hh => (List.mem_cons_of_mem _ (List.mem_append_left _ (List.mem_append_right _ hh)))
theorem hd_X8_over : yX8_over.cls = RX8 ∧ yX8_over.cls ≠ "java/lang/invoke/MethodHandle" ∧ yX8_over.cls ≠ "java/lang/invoke/VarHandle" ∧ (parseMethodDescriptor yX8_over.desc).map (fun d => d.parameters.length) = some 4 := by decide +kernel
set_option maxHeartbeats 4000000 in
set_option maxRecDepth 100000 in
theorem c_X8_over (l : Launch) (D : va_G) (cy : Nat → ClassId) (g : Nat → Nat) (ua : St) (us : St) (ud : St) (ut : St) (un : St) (ub : St) (ue : St) (p0 : Int32) (p1 : Int32) (p2 : Int32) (p3 : Int32) (r : Int32) (h : f_X8_over ua p0 p1 p2 p3 = some r) : CtI l yX8_over wsX8_over (rmH 3) [.ref (g 899), .int p0, .int p1, .int p2, .int p3] D cy (wX8 cy g ua us ud ut un ub ue) (wX8 cy g ua us ud ut un ub ue) r := by
  refine ct_enter (D := D) (cy := cy) (cc := cX8_over) (maxL := 5) (ret := (some .int)) (w := wX8 cy g ua us ud ut un ub ue) (Qc := fun sz => va_Qi (fun r' (_ : Unit) => r' = r) (Bw D cy (va_A (wX8 cy g ua us ud ut un ub ue) sz) (wX8 cy g ua us ud ut un ub ue)) (va_A (wX8 cy g ua us ud ut un ub ue) sz)) (by decide) rfl (Nat.le_of_ble_eq_true rfl) ?_
  intro p e s m below meth c A C0 hAe ls hl hP hD hS
  have e1 : MQ below ((fun sz => va_Qi (fun r' (_ : Unit) => r' = r) (Bw D cy (va_A (wX8 cy g ua us ud ut un ub ue) sz) (wX8 cy g ua us ud ut un ub ue)) (va_A (wX8 cy g ua us ud ut un ub ue) sz)) s.heap.size) [.ref (g 899), .int p0, .int p1, .int p2, .int p3].toArray s 0 0 A = QI below [.ref (g 899), .int p0, .int p1, .int p2, .int p3].toArray s A D cy (wX8 cy g ua us ud ut un ub ue) r := by rw [hAe]; rfl
  rw [e1]
  clear e1 hAe
  obtain ⟨hx, hb, hr, hml, hown, hts, hlocks, hK, hA⟩ := id C0
  have hl : lv_has ls 5 [(0, .ref (g 899)), (1, .int p0), (2, .int p1), (3, .int p2), (4, .int p3)] := hl
  rw [f_X8_over] at h
  refine lv_iload_n hx hb dX8_over_0 rfl (lv_at hl 1 rfl) ?_
  obtain ⟨r1, e2, h⟩ := bd_some h
  refine x_callSI (As := [.int p0]) (rest := []) (n := 1) ⟨hx, hb, hml, hown, hts⟩ (c_X8_isKind l D cy  p0 r1 e2) gX8_over_X8_isKind rfl hd_X8_isKind ⟨Nat.le_of_ble_eq_true rfl, Nat.le_of_ble_eq_true rfl⟩ ⟨rfl, rfl⟩ hK (sp_nil _) (sp_nil _) hP hD hS hA rfl hl.1 rfl (Nat.le_of_ble_eq_true rfl) dX8_over_1 ⟨Nat.zero_le _, Nat.zero_le _⟩ (fun H locs hP hD hS => ?_)
  clear e2
  refine x_if_eq (tgt := 21) hx hb dX8_over_4 (by decide) h (fun _ h => ?_) (fun _ h => ?_)
  · refine lv_bipush (v := -2) hx hb dX8_over_21 (by decide) ?_
    cases h
    exact x_iret hx hb hr hlocks hK hP hD hS dX8_over_23 rfl rfl
  · refine lv_iload_n hx hb dX8_over_7 rfl (lv_at hl 2 rfl) ?_
    obtain ⟨r3, e4, h⟩ := bd_some h
    refine x_callSI (As := [.int p1]) (rest := []) (n := 1) ⟨hx, hb, hml, hown, hts⟩ (c_X8_isCell l D cy  p1 r3 e4) gX8_over_X8_isCell rfl hd_X8_isCell ⟨Nat.le_of_ble_eq_true rfl, Nat.le_of_ble_eq_true rfl⟩ ⟨rfl, rfl⟩ hK (sp_nil _) (sp_nil _) hP hD hS hA rfl hl.1 rfl (Nat.le_of_ble_eq_true rfl) dX8_over_8 ⟨Nat.zero_le _, Nat.zero_le _⟩ (fun H locs hP hD hS => ?_)
    clear e4
    refine x_if_eq (tgt := 21) hx hb dX8_over_11 (by decide) h (fun _ h => ?_) (fun _ h => ?_)
    · refine lv_bipush (v := -2) hx hb dX8_over_21 (by decide) ?_
      cases h
      exact x_iret hx hb hr hlocks hK hP hD hS dX8_over_23 rfl rfl
    · refine lv_iload_n hx hb dX8_over_14 rfl (lv_at hl 3 rfl) ?_
      obtain ⟨r5, e6, h⟩ := bd_some h
      refine x_callSI (As := [.int p2]) (rest := []) (n := 1) ⟨hx, hb, hml, hown, hts⟩ (c_X8_isCell l D cy  p2 r5 e6) gX8_over_X8_isCell rfl hd_X8_isCell ⟨Nat.le_of_ble_eq_true rfl, Nat.le_of_ble_eq_true rfl⟩ ⟨rfl, rfl⟩ hK (sp_nil _) (sp_nil _) hP hD hS hA rfl hl.1 rfl (Nat.le_of_ble_eq_true rfl) dX8_over_15 ⟨Nat.zero_le _, Nat.zero_le _⟩ (fun H locs hP hD hS => ?_)
      clear e6
      refine x_if_ne (tgt := 24) hx hb dX8_over_18 (by decide) h (fun _ h => ?_) (fun _ h => ?_)
      · refine lv_bipush (v := -2) hx hb dX8_over_21 (by decide) ?_
        cases h
        exact x_iret hx hb hr hlocks hK hP hD hS dX8_over_23 rfl rfl
      · refine lv_iload hx hb dX8_over_24 (lv_at hl 4 rfl) ?_
        refine lv_iconst (v := 1) hx hb dX8_over_26 (by decide) ?_
        refine lv_bipush (v := 60) hx hb dX8_over_27 (by decide) ?_
        obtain ⟨r7, e8, h⟩ := bd_some h
        refine x_callSI (As := [.int p3, .int (1 : Int32), .int (60 : Int32)]) (rest := []) (n := 3) ⟨hx, hb, hml, hown, hts⟩ (c_X8_isWithin l D cy  p3 (1 : Int32) (60 : Int32) r7 e8) gX8_over_X8_isWithin rfl hd_X8_isWithin ⟨Nat.le_of_ble_eq_true rfl, Nat.le_of_ble_eq_true rfl⟩ ⟨rfl, rfl⟩ hK (sp_nil _) (sp_nil _) hP hD hS hA rfl hl.1 rfl (Nat.le_of_ble_eq_true rfl) dX8_over_29 ⟨Nat.zero_le _, Nat.zero_le _⟩ (fun H locs hP hD hS => ?_)
        clear e8
        refine x_if_ne (tgt := 38) hx hb dX8_over_32 (by decide) h (fun _ h => ?_) (fun _ h => ?_)
        · refine lv_bipush (v := -3) hx hb dX8_over_35 (by decide) ?_
          cases h
          exact x_iret hx hb hr hlocks hK hP hD hS dX8_over_37 rfl rfl
        · refine lv_aload_n hx hb dX8_over_38 rfl (lv_at hl 0 rfl) ?_
          refine va_get (D := D) (ci := 7) (v := .ref (g 99)) (C := RX8) (T := TX8) (N := 7) hx hb hts ki_X8_over_X8 hown hK hP 0 rfl rfl 0 (by decide) (hts _ k_X8_over_0) (fun _ h9 => h9) rfl dX8_over_39 ?_
          refine lv_iload_n hx hb dX8_over_42 rfl (lv_at hl 1 rfl) ?_
          refine lv_iload_n hx hb dX8_over_43 rfl (lv_at hl 2 rfl) ?_
          refine lv_iload_n hx hb dX8_over_44 rfl (lv_at hl 3 rfl) ?_
          refine lv_iload hx hb dX8_over_45 (lv_at hl 4 rfl) ?_
          obtain ⟨r9, e10, h⟩ := bd_some h
          refine x_callVI (As := [.int p0, .int p1, .int p2, .int p3]) (rest := []) (n := 4) ⟨hx, hb, hml, hown, hts⟩ (c_X0_placeBehind l D cy g ua p0 p1 p2 p3 r9 e10) gX8_over_X0_placeBehind rfl hd_X0_placeBehind ⟨Nat.le_of_ble_eq_true rfl, Nat.le_of_ble_eq_true rfl⟩ ⟨rfl, rfl⟩ hK (sp8_X0 cy g ua us ud ut un ub ue) (sp8_X0 cy g ua us ud ut un ub ue) hP hD hS hA 0 rfl rfl rfl hl.1 rfl (Nat.le_of_ble_eq_true rfl) dX8_over_47 ⟨Nat.zero_le _, Nat.zero_le _⟩ (fun H locs hP hD hS => ?_)
          clear e10
          cases h
          exact x_iret hx hb hr hlocks hK hP hD hS dX8_over_50 rfl rfl
theorem hd_X8_isPlayer : yX8_isPlayer.cls ≠ "java/lang/invoke/MethodHandle" ∧ yX8_isPlayer.cls ≠ "java/lang/invoke/VarHandle" ∧ (parseMethodDescriptor yX8_isPlayer.desc).map (fun d => d.parameters.length) = some 1 := by decide +kernel
set_option maxHeartbeats 4000000 in
set_option maxRecDepth 100000 in
theorem c_X8_isPlayer (l : Launch) (D : va_G) (cy : Nat → ClassId) (p0 : Int32) (r : Int32) (h : f_X8_isPlayer p0 = some r) : CtI l yX8_isPlayer wsX8_isPlayer (rmH 1) [.int p0] D cy (([] : va_W)) (([] : va_W)) r := by
  refine ct_enter (D := D) (cy := cy) (cc := cX8_isPlayer) (maxL := 1) (ret := (some .boolean)) (w := ([] : va_W)) (Qc := fun sz => va_Qi (fun r' (_ : Unit) => r' = r) (Bw D cy (va_A (([] : va_W)) sz) (([] : va_W))) (va_A (([] : va_W)) sz)) (by decide) rfl (Nat.le_of_ble_eq_true rfl) ?_
  intro p e s m below meth c A C0 hAe ls hl hP hD hS
  have e1 : MQ below ((fun sz => va_Qi (fun r' (_ : Unit) => r' = r) (Bw D cy (va_A (([] : va_W)) sz) (([] : va_W))) (va_A (([] : va_W)) sz)) s.heap.size) [.int p0].toArray s 0 0 A = QI below [.int p0].toArray s A D cy (([] : va_W)) r := by rw [hAe]; rfl
  rw [e1]
  clear e1 hAe
  obtain ⟨hx, hb, hr, hml, hown, hts, hlocks, hK, hA⟩ := id C0
  have hl : lv_has ls 1 [(0, .int p0)] := hl
  rw [f_X8_isPlayer] at h
  refine lv_iload_n hx hb dX8_isPlayer_0 rfl (lv_at hl 0 rfl) ?_
  refine lv_iconst (v := 0) hx hb dX8_isPlayer_1 (by decide) ?_
  refine lv_bipush (v := 7) hx hb dX8_isPlayer_2 (by decide) ?_
  obtain ⟨r1, e2, h⟩ := bd_some h
  refine x_callSI (As := [.int p0, .int (0 : Int32), .int (7 : Int32)]) (rest := []) (n := 3) ⟨hx, hb, hml, hown, hts⟩ (c_X8_isWithin l D cy  p0 (0 : Int32) (7 : Int32) r1 e2) gX8_isPlayer_X8_isWithin rfl hd_X8_isWithin ⟨Nat.le_of_ble_eq_true rfl, Nat.le_of_ble_eq_true rfl⟩ ⟨rfl, rfl⟩ hK (sp_nil _) (sp_nil _) hP hD hS hA rfl hl.1 rfl (Nat.le_of_ble_eq_true rfl) dX8_isPlayer_4 ⟨Nat.zero_le _, Nat.zero_le _⟩ (fun H locs hP hD hS => ?_)
  clear e2
  obtain ⟨hz, h⟩ := bk_some h
  cases h
  exact x_zret hx hb hr hlocks hK hP hD hS hz dX8_isPlayer_7 rfl rfl
theorem k_X8_player_0 : Cond.fieldLink RX8 19 "FeatherHall" "squad" "LFeatherHall$Squad;" ∈ wsX8_player := (List.mem_cons_of_mem _ (List.mem_append_left _ (List.mem_append_left _ (List.mem_append_left _ (List.mem_of_getElem? (i := 0) rfl)))))
theorem ki_X8_player_X8 : ∀ w ∈ u_ws RX8 TX8 7, w ∈ wsX8_player := fun _ hh => (List.mem_cons_of_mem _ (List.mem_append_left _ (List.mem_append_right _ hh)))
theorem hd_X8_player : yX8_player.cls = RX8 ∧ yX8_player.cls ≠ "java/lang/invoke/MethodHandle" ∧ yX8_player.cls ≠ "java/lang/invoke/VarHandle" ∧ (parseMethodDescriptor yX8_player.desc).map (fun d => d.parameters.length) = some 3 := by decide +kernel
set_option maxHeartbeats 4000000 in
set_option maxRecDepth 100000 in
theorem c_X8_player (l : Launch) (D : va_G) (cy : Nat → ClassId) (g : Nat → Nat) (ua : St) (us : St) (ud : St) (ut : St) (un : St) (ub : St) (ue : St) (p0 : Int32) (p1 : Int32) (p2 : Int32) (r : Int32) (us' : St) (h : f_X8_player p0 p1 p2 us = some (r, us')) : CtI l yX8_player wsX8_player (rmH 3) [.ref (g 899), .int p0, .int p1, .int p2] D cy (wX8 cy g ua us ud ut un ub ue) (wX8 cy g ua us' ud ut un ub ue) r := by
  refine ct_enter (D := D) (cy := cy) (cc := cX8_player) (maxL := 4) (ret := (some .int)) (w := wX8 cy g ua us ud ut un ub ue) (Qc := fun sz => va_Qi (fun r' (_ : Unit) => r' = r) (Bw D cy (va_A (wX8 cy g ua us ud ut un ub ue) sz) (wX8 cy g ua us' ud ut un ub ue)) (va_A (wX8 cy g ua us ud ut un ub ue) sz)) (by decide) rfl (Nat.le_of_ble_eq_true rfl) ?_
  intro p e s m below meth c A C0 hAe ls hl hP hD hS
  have e1 : MQ below ((fun sz => va_Qi (fun r' (_ : Unit) => r' = r) (Bw D cy (va_A (wX8 cy g ua us ud ut un ub ue) sz) (wX8 cy g ua us' ud ut un ub ue)) (va_A (wX8 cy g ua us ud ut un ub ue) sz)) s.heap.size) [.ref (g 899), .int p0, .int p1, .int p2].toArray s 0 0 A = QI below [.ref (g 899), .int p0, .int p1, .int p2].toArray s A D cy (wX8 cy g ua us' ud ut un ub ue) r := by rw [hAe]; rfl
  rw [e1]
  clear e1 hAe
  obtain ⟨hx, hb, hr, hml, hown, hts, hlocks, hK, hA⟩ := id C0
  have hl : lv_has ls 4 [(0, .ref (g 899)), (1, .int p0), (2, .int p1), (3, .int p2)] := hl
  rw [f_X8_player] at h
  refine lv_iload_n hx hb dX8_player_0 rfl (lv_at hl 1 rfl) ?_
  obtain ⟨r1, e2, h⟩ := bd_some h
  refine x_callSI (As := [.int p0]) (rest := []) (n := 1) ⟨hx, hb, hml, hown, hts⟩ (c_X8_isPlayer l D cy  p0 r1 e2) gX8_player_X8_isPlayer rfl hd_X8_isPlayer ⟨Nat.le_of_ble_eq_true rfl, Nat.le_of_ble_eq_true rfl⟩ ⟨rfl, rfl⟩ hK (sp_nil _) (sp_nil _) hP hD hS hA rfl hl.1 rfl (Nat.le_of_ble_eq_true rfl) dX8_player_1 ⟨Nat.zero_le _, Nat.zero_le _⟩ (fun H locs hP hD hS => ?_)
  clear e2
  refine x_if_ne (tgt := 10) hx hb dX8_player_4 (by decide) h (fun _ h => ?_) (fun _ h => ?_)
  · refine lv_bipush (v := -2) hx hb dX8_player_7 (by decide) ?_
    cases h
    exact x_iret hx hb hr hlocks hK hP hD hS dX8_player_9 rfl rfl
  · refine lv_iload_n hx hb dX8_player_10 rfl (lv_at hl 2 rfl) ?_
    refine lv_iconst (v := 1) hx hb dX8_player_11 (by decide) ?_
    refine lv_bipush (v := 20) hx hb dX8_player_12 (by decide) ?_
    obtain ⟨r3, e4, h⟩ := bd_some h
    refine x_callSI (As := [.int p1, .int (1 : Int32), .int (20 : Int32)]) (rest := []) (n := 3) ⟨hx, hb, hml, hown, hts⟩ (c_X8_isWithin l D cy  p1 (1 : Int32) (20 : Int32) r3 e4) gX8_player_X8_isWithin rfl hd_X8_isWithin ⟨Nat.le_of_ble_eq_true rfl, Nat.le_of_ble_eq_true rfl⟩ ⟨rfl, rfl⟩ hK (sp_nil _) (sp_nil _) hP hD hS hA rfl hl.1 rfl (Nat.le_of_ble_eq_true rfl) dX8_player_14 ⟨Nat.zero_le _, Nat.zero_le _⟩ (fun H locs hP hD hS => ?_)
    clear e4
    refine x_if_eq (tgt := 29) hx hb dX8_player_17 (by decide) h (fun _ h => ?_) (fun _ h => ?_)
    · refine lv_bipush (v := -3) hx hb dX8_player_29 (by decide) ?_
      cases h
      exact x_iret hx hb hr hlocks hK hP hD hS dX8_player_31 rfl rfl
    · refine lv_iload_n hx hb dX8_player_20 rfl (lv_at hl 3 rfl) ?_
      refine lv_iconst (v := 0) hx hb dX8_player_21 (by decide) ?_
      refine lv_iconst (v := 2) hx hb dX8_player_22 (by decide) ?_
      obtain ⟨r5, e6, h⟩ := bd_some h
      refine x_callSI (As := [.int p2, .int (0 : Int32), .int (2 : Int32)]) (rest := []) (n := 3) ⟨hx, hb, hml, hown, hts⟩ (c_X8_isWithin l D cy  p2 (0 : Int32) (2 : Int32) r5 e6) gX8_player_X8_isWithin rfl hd_X8_isWithin ⟨Nat.le_of_ble_eq_true rfl, Nat.le_of_ble_eq_true rfl⟩ ⟨rfl, rfl⟩ hK (sp_nil _) (sp_nil _) hP hD hS hA rfl hl.1 rfl (Nat.le_of_ble_eq_true rfl) dX8_player_23 ⟨Nat.zero_le _, Nat.zero_le _⟩ (fun H locs hP hD hS => ?_)
      clear e6
      refine x_if_ne (tgt := 32) hx hb dX8_player_26 (by decide) h (fun _ h => ?_) (fun _ h => ?_)
      · refine lv_bipush (v := -3) hx hb dX8_player_29 (by decide) ?_
        cases h
        exact x_iret hx hb hr hlocks hK hP hD hS dX8_player_31 rfl rfl
      · refine lv_aload_n hx hb dX8_player_32 rfl (lv_at hl 0 rfl) ?_
        refine va_get (D := D) (ci := 7) (v := .ref (g 699)) (C := RX8) (T := TX8) (N := 7) hx hb hts ki_X8_player_X8 hown hK hP 0 rfl rfl 1 (by decide) (hts _ k_X8_player_0) (fun _ h9 => h9) rfl dX8_player_33 ?_
        refine lv_iload_n hx hb dX8_player_36 rfl (lv_at hl 1 rfl) ?_
        refine lv_iload_n hx hb dX8_player_37 rfl (lv_at hl 2 rfl) ?_
        refine lv_iload_n hx hb dX8_player_38 rfl (lv_at hl 3 rfl) ?_
        obtain ⟨us7, e8, h⟩ := bd_some h
        refine x_callVV (As := [.int p0, .int p1, .int p2]) (rest := []) (n := 3) ⟨hx, hb, hml, hown, hts⟩ (c_X6_setPlayer l D cy g us p0 p1 p2 us7 e8) gX8_player_X6_setPlayer rfl hd_X6_setPlayer ⟨Nat.le_of_ble_eq_true rfl, Nat.le_of_ble_eq_true rfl⟩ ⟨rfl, rfl⟩ hK (sp8_X6 cy g ua us ud ut un ub ue) (sp8_X6 cy g ua us7 ud ut un ub ue) hP hD hS hA 0 rfl rfl rfl hl.1 rfl (Nat.le_of_ble_eq_true rfl) dX8_player_39 ⟨Nat.zero_le _, Nat.zero_le _⟩ (fun H locs hP hD hS => ?_)
        clear e8
        refine lv_iconst (v := 1) hx hb dX8_player_42 (by decide) ?_
        cases h
        exact x_iret hx hb hr hlocks hK hP hD hS dX8_player_43 rfl rfl
theorem k_X8_run_0 : Cond.fieldLink RX8 19 "FeatherHall" "squad" "LFeatherHall$Squad;" ∈ wsX8_run := (List.mem_cons_of_mem _ (List.mem_append_left _ (List.mem_append_left _ (List.mem_append_left _ (List.mem_of_getElem? (i := 0) rfl)))))
theorem ki_X8_run_X8 : ∀ w ∈ u_ws RX8 TX8 7, w ∈ wsX8_run := fun _ hh => (List.mem_cons_of_mem _ (List.mem_append_left _ (List.mem_append_right _ hh)))
theorem hd_X8_run : yX8_run.cls = RX8 ∧ yX8_run.cls ≠ "java/lang/invoke/MethodHandle" ∧ yX8_run.cls ≠ "java/lang/invoke/VarHandle" ∧ (parseMethodDescriptor yX8_run.desc).map (fun d => d.parameters.length) = some 2 := by decide +kernel
set_option maxHeartbeats 4000000 in
set_option maxRecDepth 100000 in
theorem c_X8_run (l : Launch) (D : va_G) (cy : Nat → ClassId) (g : Nat → Nat) (ua : St) (us : St) (ud : St) (ut : St) (un : St) (ub : St) (ue : St) (p0 : Int32) (p1 : Int32) (r : Int32) (us' : St) (h : f_X8_run p0 p1 us = some (r, us')) : CtI l yX8_run wsX8_run (rmH 3) [.ref (g 899), .int p0, .int p1] D cy (wX8 cy g ua us ud ut un ub ue) (wX8 cy g ua us' ud ut un ub ue) r := by
  refine ct_enter (D := D) (cy := cy) (cc := cX8_run) (maxL := 3) (ret := (some .int)) (w := wX8 cy g ua us ud ut un ub ue) (Qc := fun sz => va_Qi (fun r' (_ : Unit) => r' = r) (Bw D cy (va_A (wX8 cy g ua us ud ut un ub ue) sz) (wX8 cy g ua us' ud ut un ub ue)) (va_A (wX8 cy g ua us ud ut un ub ue) sz)) (by decide) rfl (Nat.le_of_ble_eq_true rfl) ?_
  intro p e s m below meth c A C0 hAe ls hl hP hD hS
  have e1 : MQ below ((fun sz => va_Qi (fun r' (_ : Unit) => r' = r) (Bw D cy (va_A (wX8 cy g ua us ud ut un ub ue) sz) (wX8 cy g ua us' ud ut un ub ue)) (va_A (wX8 cy g ua us ud ut un ub ue) sz)) s.heap.size) [.ref (g 899), .int p0, .int p1].toArray s 0 0 A = QI below [.ref (g 899), .int p0, .int p1].toArray s A D cy (wX8 cy g ua us' ud ut un ub ue) r := by rw [hAe]; rfl
  rw [e1]
  clear e1 hAe
  obtain ⟨hx, hb, hr, hml, hown, hts, hlocks, hK, hA⟩ := id C0
  have hl : lv_has ls 3 [(0, .ref (g 899)), (1, .int p0), (2, .int p1)] := hl
  rw [f_X8_run] at h
  refine lv_iload_n hx hb dX8_run_0 rfl (lv_at hl 1 rfl) ?_
  obtain ⟨r1, e2, h⟩ := bd_some h
  refine x_callSI (As := [.int p0]) (rest := []) (n := 1) ⟨hx, hb, hml, hown, hts⟩ (c_X8_isPlayer l D cy  p0 r1 e2) gX8_run_X8_isPlayer rfl hd_X8_isPlayer ⟨Nat.le_of_ble_eq_true rfl, Nat.le_of_ble_eq_true rfl⟩ ⟨rfl, rfl⟩ hK (sp_nil _) (sp_nil _) hP hD hS hA rfl hl.1 rfl (Nat.le_of_ble_eq_true rfl) dX8_run_1 ⟨Nat.zero_le _, Nat.zero_le _⟩ (fun H locs hP hD hS => ?_)
  clear e2
  refine x_if_ne (tgt := 10) hx hb dX8_run_4 (by decide) h (fun _ h => ?_) (fun _ h => ?_)
  · refine lv_bipush (v := -2) hx hb dX8_run_7 (by decide) ?_
    cases h
    exact x_iret hx hb hr hlocks hK hP hD hS dX8_run_9 rfl rfl
  · refine lv_iload_n hx hb dX8_run_10 rfl (lv_at hl 2 rfl) ?_
    refine lv_iconst (v := 0) hx hb dX8_run_11 (by decide) ?_
    refine lv_bipush (v := 100) hx hb dX8_run_12 (by decide) ?_
    obtain ⟨r3, e4, h⟩ := bd_some h
    refine x_callSI (As := [.int p1, .int (0 : Int32), .int (100 : Int32)]) (rest := []) (n := 3) ⟨hx, hb, hml, hown, hts⟩ (c_X8_isWithin l D cy  p1 (0 : Int32) (100 : Int32) r3 e4) gX8_run_X8_isWithin rfl hd_X8_isWithin ⟨Nat.le_of_ble_eq_true rfl, Nat.le_of_ble_eq_true rfl⟩ ⟨rfl, rfl⟩ hK (sp_nil _) (sp_nil _) hP hD hS hA rfl hl.1 rfl (Nat.le_of_ble_eq_true rfl) dX8_run_14 ⟨Nat.zero_le _, Nat.zero_le _⟩ (fun H locs hP hD hS => ?_)
    clear e4
    refine x_if_ne (tgt := 23) hx hb dX8_run_17 (by decide) h (fun _ h => ?_) (fun _ h => ?_)
    · refine lv_bipush (v := -3) hx hb dX8_run_20 (by decide) ?_
      cases h
      exact x_iret hx hb hr hlocks hK hP hD hS dX8_run_22 rfl rfl
    · refine lv_aload_n hx hb dX8_run_23 rfl (lv_at hl 0 rfl) ?_
      refine va_get (D := D) (ci := 7) (v := .ref (g 699)) (C := RX8) (T := TX8) (N := 7) hx hb hts ki_X8_run_X8 hown hK hP 0 rfl rfl 1 (by decide) (hts _ k_X8_run_0) (fun _ h9 => h9) rfl dX8_run_24 ?_
      refine lv_iload_n hx hb dX8_run_27 rfl (lv_at hl 1 rfl) ?_
      refine lv_iload_n hx hb dX8_run_28 rfl (lv_at hl 2 rfl) ?_
      obtain ⟨r6, us5, e7, h⟩ := bd2_some h
      refine x_callVI (As := [.int p0, .int p1]) (rest := []) (n := 2) ⟨hx, hb, hml, hown, hts⟩ (c_X6_tire l D cy g us p0 p1 r6 us5 e7) gX8_run_X6_tire rfl hd_X6_tire ⟨Nat.le_of_ble_eq_true rfl, Nat.le_of_ble_eq_true rfl⟩ ⟨rfl, rfl⟩ hK (sp8_X6 cy g ua us ud ut un ub ue) (sp8_X6 cy g ua us5 ud ut un ub ue) hP hD hS hA 0 rfl rfl rfl hl.1 rfl (Nat.le_of_ble_eq_true rfl) dX8_run_29 ⟨Nat.zero_le _, Nat.zero_le _⟩ (fun H locs hP hD hS => ?_)
      clear e7
      cases h
      exact x_iret hx hb hr hlocks hK hP hD hS dX8_run_32 rfl rfl
theorem k_X8_rest_0 : Cond.fieldLink RX8 19 "FeatherHall" "squad" "LFeatherHall$Squad;" ∈ wsX8_rest := (List.mem_cons_of_mem _ (List.mem_append_left _ (List.mem_append_left _ (List.mem_append_left _ (List.mem_of_getElem? (i := 0) rfl)))))
theorem ki_X8_rest_X8 : ∀ w ∈ u_ws RX8 TX8 7, w ∈ wsX8_rest := fun _ hh => (List.mem_cons_of_mem _ (List.mem_append_left _ (List.mem_append_right _ hh)))
theorem hd_X8_rest : yX8_rest.cls = RX8 ∧ yX8_rest.cls ≠ "java/lang/invoke/MethodHandle" ∧ yX8_rest.cls ≠ "java/lang/invoke/VarHandle" ∧ (parseMethodDescriptor yX8_rest.desc).map (fun d => d.parameters.length) = some 2 := by decide +kernel
set_option maxHeartbeats 4000000 in
set_option maxRecDepth 100000 in
theorem c_X8_rest (l : Launch) (D : va_G) (cy : Nat → ClassId) (g : Nat → Nat) (ua : St) (us : St) (ud : St) (ut : St) (un : St) (ub : St) (ue : St) (p0 : Int32) (p1 : Int32) (r : Int32) (us' : St) (h : f_X8_rest p0 p1 us = some (r, us')) : CtI l yX8_rest wsX8_rest (rmH 3) [.ref (g 899), .int p0, .int p1] D cy (wX8 cy g ua us ud ut un ub ue) (wX8 cy g ua us' ud ut un ub ue) r := by
  refine ct_enter (D := D) (cy := cy) (cc := cX8_rest) (maxL := 3) (ret := (some .int)) (w := wX8 cy g ua us ud ut un ub ue) (Qc := fun sz => va_Qi (fun r' (_ : Unit) => r' = r) (Bw D cy (va_A (wX8 cy g ua us ud ut un ub ue) sz) (wX8 cy g ua us' ud ut un ub ue)) (va_A (wX8 cy g ua us ud ut un ub ue) sz)) (by decide) rfl (Nat.le_of_ble_eq_true rfl) ?_
  intro p e s m below meth c A C0 hAe ls hl hP hD hS
  have e1 : MQ below ((fun sz => va_Qi (fun r' (_ : Unit) => r' = r) (Bw D cy (va_A (wX8 cy g ua us ud ut un ub ue) sz) (wX8 cy g ua us' ud ut un ub ue)) (va_A (wX8 cy g ua us ud ut un ub ue) sz)) s.heap.size) [.ref (g 899), .int p0, .int p1].toArray s 0 0 A = QI below [.ref (g 899), .int p0, .int p1].toArray s A D cy (wX8 cy g ua us' ud ut un ub ue) r := by rw [hAe]; rfl
  rw [e1]
  clear e1 hAe
  obtain ⟨hx, hb, hr, hml, hown, hts, hlocks, hK, hA⟩ := id C0
  have hl : lv_has ls 3 [(0, .ref (g 899)), (1, .int p0), (2, .int p1)] := hl
  rw [f_X8_rest] at h
  refine lv_iload_n hx hb dX8_rest_0 rfl (lv_at hl 1 rfl) ?_
  obtain ⟨r1, e2, h⟩ := bd_some h
  refine x_callSI (As := [.int p0]) (rest := []) (n := 1) ⟨hx, hb, hml, hown, hts⟩ (c_X8_isPlayer l D cy  p0 r1 e2) gX8_rest_X8_isPlayer rfl hd_X8_isPlayer ⟨Nat.le_of_ble_eq_true rfl, Nat.le_of_ble_eq_true rfl⟩ ⟨rfl, rfl⟩ hK (sp_nil _) (sp_nil _) hP hD hS hA rfl hl.1 rfl (Nat.le_of_ble_eq_true rfl) dX8_rest_1 ⟨Nat.zero_le _, Nat.zero_le _⟩ (fun H locs hP hD hS => ?_)
  clear e2
  refine x_if_ne (tgt := 10) hx hb dX8_rest_4 (by decide) h (fun _ h => ?_) (fun _ h => ?_)
  · refine lv_bipush (v := -2) hx hb dX8_rest_7 (by decide) ?_
    cases h
    exact x_iret hx hb hr hlocks hK hP hD hS dX8_rest_9 rfl rfl
  · refine lv_iload_n hx hb dX8_rest_10 rfl (lv_at hl 2 rfl) ?_
    refine lv_iconst (v := 0) hx hb dX8_rest_11 (by decide) ?_
    refine lv_bipush (v := 100) hx hb dX8_rest_12 (by decide) ?_
    obtain ⟨r3, e4, h⟩ := bd_some h
    refine x_callSI (As := [.int p1, .int (0 : Int32), .int (100 : Int32)]) (rest := []) (n := 3) ⟨hx, hb, hml, hown, hts⟩ (c_X8_isWithin l D cy  p1 (0 : Int32) (100 : Int32) r3 e4) gX8_rest_X8_isWithin rfl hd_X8_isWithin ⟨Nat.le_of_ble_eq_true rfl, Nat.le_of_ble_eq_true rfl⟩ ⟨rfl, rfl⟩ hK (sp_nil _) (sp_nil _) hP hD hS hA rfl hl.1 rfl (Nat.le_of_ble_eq_true rfl) dX8_rest_14 ⟨Nat.zero_le _, Nat.zero_le _⟩ (fun H locs hP hD hS => ?_)
    clear e4
    refine x_if_ne (tgt := 23) hx hb dX8_rest_17 (by decide) h (fun _ h => ?_) (fun _ h => ?_)
    · refine lv_bipush (v := -3) hx hb dX8_rest_20 (by decide) ?_
      cases h
      exact x_iret hx hb hr hlocks hK hP hD hS dX8_rest_22 rfl rfl
    · refine lv_aload_n hx hb dX8_rest_23 rfl (lv_at hl 0 rfl) ?_
      refine va_get (D := D) (ci := 7) (v := .ref (g 699)) (C := RX8) (T := TX8) (N := 7) hx hb hts ki_X8_rest_X8 hown hK hP 0 rfl rfl 1 (by decide) (hts _ k_X8_rest_0) (fun _ h9 => h9) rfl dX8_rest_24 ?_
      refine lv_iload_n hx hb dX8_rest_27 rfl (lv_at hl 1 rfl) ?_
      refine lv_iload_n hx hb dX8_rest_28 rfl (lv_at hl 2 rfl) ?_
      refine lv_ineg hx hb dX8_rest_29 ?_
      obtain ⟨r6, us5, e7, h⟩ := bd2_some h
      refine x_callVI (As := [.int p0, .int (-p1)]) (rest := []) (n := 2) ⟨hx, hb, hml, hown, hts⟩ (c_X6_tire l D cy g us p0 (-p1) r6 us5 e7) gX8_rest_X6_tire rfl hd_X6_tire ⟨Nat.le_of_ble_eq_true rfl, Nat.le_of_ble_eq_true rfl⟩ ⟨rfl, rfl⟩ hK (sp8_X6 cy g ua us ud ut un ub ue) (sp8_X6 cy g ua us5 ud ut un ub ue) hP hD hS hA 0 rfl rfl rfl hl.1 rfl (Nat.le_of_ble_eq_true rfl) dX8_rest_30 ⟨Nat.zero_le _, Nat.zero_le _⟩ (fun H locs hP hD hS => ?_)
      clear e7
      cases h
      exact x_iret hx hb hr hlocks hK hP hD hS dX8_rest_33 rfl rfl
theorem k_X8_slack_0 : Cond.fieldLink RX8 28 "FeatherHall" "duel" "LFeatherHall$Duel;" ∈ wsX8_slack := (List.mem_cons_of_mem _ (List.mem_append_left _ (List.mem_append_left _ (List.mem_append_left _ (List.mem_append_left _ (List.mem_append_left _ (List.mem_of_getElem? (i := 0) rfl)))))))
theorem ki_X8_slack_X8 : ∀ w ∈ u_ws RX8 TX8 7, w ∈ wsX8_slack := fun _ hh => (List.mem_cons_of_mem _ (List.mem_append_left _ (List.mem_append_left _ (List.mem_append_left _ (List.mem_append_right _ hh)))))
theorem k_X8_slack_1 : Cond.fieldLink RX8 10 "FeatherHall" "air" "LFeatherHall$Air;" ∈ wsX8_slack := (List.mem_cons_of_mem _ (List.mem_append_left _ (List.mem_append_left _ (List.mem_append_left _ (List.mem_append_left _ (List.mem_append_left _ (List.mem_of_getElem? (i := 1) rfl)))))))
theorem hd_X8_slack : yX8_slack.cls = RX8 ∧ yX8_slack.cls ≠ "java/lang/invoke/MethodHandle" ∧ yX8_slack.cls ≠ "java/lang/invoke/VarHandle" ∧ (parseMethodDescriptor yX8_slack.desc).map (fun d => d.parameters.length) = some 5 := by decide +kernel
set_option maxHeartbeats 4000000 in
set_option maxRecDepth 100000 in
theorem c_X8_slack (l : Launch) (D : va_G) (cy : Nat → ClassId) (g : Nat → Nat) (ua : St) (us : St) (ud : St) (ut : St) (un : St) (ub : St) (ue : St) (p0 : Int32) (p1 : Int32) (p2 : Int32) (p3 : Int32) (p4 : Int32) (r : Int32) (ua' : St) (h : f_X8_slack us p0 p1 p2 p3 p4 ua = some (r, ua')) : CtI l yX8_slack wsX8_slack (rmH 4) [.ref (g 899), .int p0, .int p1, .int p2, .int p3, .int p4] D cy (wX8 cy g ua us ud ut un ub ue) (wX8 cy g ua' us ud ut un ub ue) r := by
  refine ct_enter (D := D) (cy := cy) (cc := cX8_slack) (maxL := 6) (ret := (some .int)) (w := wX8 cy g ua us ud ut un ub ue) (Qc := fun sz => va_Qi (fun r' (_ : Unit) => r' = r) (Bw D cy (va_A (wX8 cy g ua us ud ut un ub ue) sz) (wX8 cy g ua' us ud ut un ub ue)) (va_A (wX8 cy g ua us ud ut un ub ue) sz)) (by decide) rfl (Nat.le_of_ble_eq_true rfl) ?_
  intro p e s m below meth c A C0 hAe ls hl hP hD hS
  have e1 : MQ below ((fun sz => va_Qi (fun r' (_ : Unit) => r' = r) (Bw D cy (va_A (wX8 cy g ua us ud ut un ub ue) sz) (wX8 cy g ua' us ud ut un ub ue)) (va_A (wX8 cy g ua us ud ut un ub ue) sz)) s.heap.size) [.ref (g 899), .int p0, .int p1, .int p2, .int p3, .int p4].toArray s 0 0 A = QI below [.ref (g 899), .int p0, .int p1, .int p2, .int p3, .int p4].toArray s A D cy (wX8 cy g ua' us ud ut un ub ue) r := by rw [hAe]; rfl
  rw [e1]
  clear e1 hAe
  obtain ⟨hx, hb, hr, hml, hown, hts, hlocks, hK, hA⟩ := id C0
  have hl : lv_has ls 6 [(0, .ref (g 899)), (1, .int p0), (2, .int p1), (3, .int p2), (4, .int p3), (5, .int p4)] := hl
  rw [f_X8_slack] at h
  refine lv_iload_n hx hb dX8_slack_0 rfl (lv_at hl 1 rfl) ?_
  obtain ⟨r1, e2, h⟩ := bd_some h
  refine x_callSI (As := [.int p0]) (rest := []) (n := 1) ⟨hx, hb, hml, hown, hts⟩ (c_X8_isPlayer l D cy  p0 r1 e2) gX8_slack_X8_isPlayer rfl hd_X8_isPlayer ⟨Nat.le_of_ble_eq_true rfl, Nat.le_of_ble_eq_true rfl⟩ ⟨rfl, rfl⟩ hK (sp_nil _) (sp_nil _) hP hD hS hA rfl hl.1 rfl (Nat.le_of_ble_eq_true rfl) dX8_slack_1 ⟨Nat.zero_le _, Nat.zero_le _⟩ (fun H locs hP hD hS => ?_)
  clear e2
  refine x_if_eq (tgt := 37) hx hb dX8_slack_4 (by decide) h (fun _ h => ?_) (fun _ h => ?_)
  · refine lv_bipush (v := -102) hx hb dX8_slack_37 (by decide) ?_
    cases h
    exact x_iret hx hb hr hlocks hK hP hD hS dX8_slack_39 rfl rfl
  · refine lv_iload_n hx hb dX8_slack_7 rfl (lv_at hl 2 rfl) ?_
    obtain ⟨r3, e4, h⟩ := bd_some h
    refine x_callSI (As := [.int p1]) (rest := []) (n := 1) ⟨hx, hb, hml, hown, hts⟩ (c_X8_isCell l D cy  p1 r3 e4) gX8_slack_X8_isCell rfl hd_X8_isCell ⟨Nat.le_of_ble_eq_true rfl, Nat.le_of_ble_eq_true rfl⟩ ⟨rfl, rfl⟩ hK (sp_nil _) (sp_nil _) hP hD hS hA rfl hl.1 rfl (Nat.le_of_ble_eq_true rfl) dX8_slack_8 ⟨Nat.zero_le _, Nat.zero_le _⟩ (fun H locs hP hD hS => ?_)
    clear e4
    refine x_if_eq (tgt := 37) hx hb dX8_slack_11 (by decide) h (fun _ h => ?_) (fun _ h => ?_)
    · refine lv_bipush (v := -102) hx hb dX8_slack_37 (by decide) ?_
      cases h
      exact x_iret hx hb hr hlocks hK hP hD hS dX8_slack_39 rfl rfl
    · refine lv_iload_n hx hb dX8_slack_14 rfl (lv_at hl 3 rfl) ?_
      obtain ⟨r5, e6, h⟩ := bd_some h
      refine x_callSI (As := [.int p2]) (rest := []) (n := 1) ⟨hx, hb, hml, hown, hts⟩ (c_X8_isKind l D cy  p2 r5 e6) gX8_slack_X8_isKind rfl hd_X8_isKind ⟨Nat.le_of_ble_eq_true rfl, Nat.le_of_ble_eq_true rfl⟩ ⟨rfl, rfl⟩ hK (sp_nil _) (sp_nil _) hP hD hS hA rfl hl.1 rfl (Nat.le_of_ble_eq_true rfl) dX8_slack_15 ⟨Nat.zero_le _, Nat.zero_le _⟩ (fun H locs hP hD hS => ?_)
      clear e6
      refine x_if_eq (tgt := 37) hx hb dX8_slack_18 (by decide) h (fun _ h => ?_) (fun _ h => ?_)
      · refine lv_bipush (v := -102) hx hb dX8_slack_37 (by decide) ?_
        cases h
        exact x_iret hx hb hr hlocks hK hP hD hS dX8_slack_39 rfl rfl
      · refine lv_iload hx hb dX8_slack_21 (lv_at hl 4 rfl) ?_
        obtain ⟨r7, e8, h⟩ := bd_some h
        refine x_callSI (As := [.int p3]) (rest := []) (n := 1) ⟨hx, hb, hml, hown, hts⟩ (c_X8_isCell l D cy  p3 r7 e8) gX8_slack_X8_isCell rfl hd_X8_isCell ⟨Nat.le_of_ble_eq_true rfl, Nat.le_of_ble_eq_true rfl⟩ ⟨rfl, rfl⟩ hK (sp_nil _) (sp_nil _) hP hD hS hA rfl hl.1 rfl (Nat.le_of_ble_eq_true rfl) dX8_slack_23 ⟨Nat.zero_le _, Nat.zero_le _⟩ (fun H locs hP hD hS => ?_)
        clear e8
        refine x_if_eq (tgt := 37) hx hb dX8_slack_26 (by decide) h (fun _ h => ?_) (fun _ h => ?_)
        · refine lv_bipush (v := -102) hx hb dX8_slack_37 (by decide) ?_
          cases h
          exact x_iret hx hb hr hlocks hK hP hD hS dX8_slack_39 rfl rfl
        · refine lv_iload hx hb dX8_slack_29 (lv_at hl 5 rfl) ?_
          obtain ⟨r9, e10, h⟩ := bd_some h
          refine x_callSI (As := [.int p4]) (rest := []) (n := 1) ⟨hx, hb, hml, hown, hts⟩ (c_X8_isCell l D cy  p4 r9 e10) gX8_slack_X8_isCell rfl hd_X8_isCell ⟨Nat.le_of_ble_eq_true rfl, Nat.le_of_ble_eq_true rfl⟩ ⟨rfl, rfl⟩ hK (sp_nil _) (sp_nil _) hP hD hS hA rfl hl.1 rfl (Nat.le_of_ble_eq_true rfl) dX8_slack_31 ⟨Nat.zero_le _, Nat.zero_le _⟩ (fun H locs hP hD hS => ?_)
          clear e10
          refine x_if_ne (tgt := 40) hx hb dX8_slack_34 (by decide) h (fun _ h => ?_) (fun _ h => ?_)
          · refine lv_bipush (v := -102) hx hb dX8_slack_37 (by decide) ?_
            cases h
            exact x_iret hx hb hr hlocks hK hP hD hS dX8_slack_39 rfl rfl
          · refine lv_aload_n hx hb dX8_slack_40 rfl (lv_at hl 0 rfl) ?_
            refine va_get (D := D) (ci := 7) (v := .ref (g 399)) (C := RX8) (T := TX8) (N := 7) hx hb hts ki_X8_slack_X8 hown hK hP 0 rfl rfl 2 (by decide) (hts _ k_X8_slack_0) (fun _ h9 => h9) rfl dX8_slack_41 ?_
            refine lv_iload_n hx hb dX8_slack_44 rfl (lv_at hl 1 rfl) ?_
            refine lv_iload_n hx hb dX8_slack_45 rfl (lv_at hl 2 rfl) ?_
            refine lv_aload_n hx hb dX8_slack_46 rfl (lv_at hl 0 rfl) ?_
            refine va_get (D := D) (ci := 7) (v := .ref (g 99)) (C := RX8) (T := TX8) (N := 7) hx hb hts ki_X8_slack_X8 hown hK hP 0 rfl rfl 0 (by decide) (hts _ k_X8_slack_1) (fun _ h9 => h9) rfl dX8_slack_47 ?_
            refine lv_iload_n hx hb dX8_slack_50 rfl (lv_at hl 3 rfl) ?_
            refine lv_iload hx hb dX8_slack_51 (lv_at hl 4 rfl) ?_
            refine lv_iload hx hb dX8_slack_53 (lv_at hl 5 rfl) ?_
            obtain ⟨r12, ua11, e13, h⟩ := bd2_some h
            refine x_callVL (As := [.int p2, .int p3, .int p4]) (rest := [.int p1, .int p0, .ref (g 399)]) (n := 3) ⟨hx, hb, hml, hown, hts⟩ (c_X0_pathOf l D cy g ua p2 p3 p4 r12 ua11 e13) gX8_slack_X0_pathOf rfl hd_X0_pathOf ⟨Nat.le_of_ble_eq_true rfl, Nat.le_of_ble_eq_true rfl⟩ ⟨rfl, rfl⟩ hK (sp8_X0 cy g ua us ud ut un ub ue) (sp8_X0 cy g ua11 us ud ut un ub ue) hP hD hS hA 0 rfl rfl rfl hl.1 rfl (Nat.le_of_ble_eq_true rfl) dX8_slack_55 ⟨Nat.zero_le _, Nat.zero_le _⟩ (fun H locs hP hD hS => ?_)
            clear e13
            obtain ⟨r14, e15, h⟩ := bd_some h
            refine x_callVI (As := [.int p0, .int p1, .long r12]) (rest := []) (n := 3) ⟨hx, hb, hml, hown, hts⟩ (c_X3_slackFor l D cy g ua11 us ud p0 p1 r12 r14 e15) gX8_slack_X3_slackFor rfl hd_X3_slackFor ⟨Nat.le_of_ble_eq_true rfl, Nat.le_of_ble_eq_true rfl⟩ ⟨rfl, rfl⟩ hK (sp8_X3 cy g ua11 us ud ut un ub ue) (sp8_X3 cy g ua11 us ud ut un ub ue) hP hD hS hA 10 rfl rfl rfl hl.1 rfl (Nat.le_of_ble_eq_true rfl) dX8_slack_58 ⟨Nat.zero_le _, Nat.zero_le _⟩ (fun H locs hP hD hS => ?_)
            clear e15
            cases h
            exact x_iret hx hb hr hlocks hK hP hD hS dX8_slack_61 rfl rfl
theorem k_X8_strike_0 : Cond.fieldLink RX8 10 "FeatherHall" "air" "LFeatherHall$Air;" ∈ wsX8_strike := (List.mem_cons_of_mem _ (List.mem_append_left _ (List.mem_append_left _ (List.mem_append_left _ (List.mem_append_left _ (List.mem_append_left _ (List.mem_of_getElem? (i := 0) rfl)))))))
theorem ki_X8_strike_X8 : ∀ w ∈ u_ws RX8 TX8 7, w ∈ wsX8_strike := fun _ hh => (List.mem_cons_of_mem _ (List.mem_append_left _ (List.mem_append_left _ (List.mem_append_left _ (List.mem_append_right _ hh)))))
theorem k_X8_strike_1 : Cond.fieldLink RX8 28 "FeatherHall" "duel" "LFeatherHall$Duel;" ∈ wsX8_strike := (List.mem_cons_of_mem _ (List.mem_append_left _ (List.mem_append_left _ (List.mem_append_left _ (List.mem_append_left _ (List.mem_append_left _ (List.mem_of_getElem? (i := 1) rfl)))))))
theorem hd_X8_strike : yX8_strike.cls = RX8 ∧ yX8_strike.cls ≠ "java/lang/invoke/MethodHandle" ∧ yX8_strike.cls ≠ "java/lang/invoke/VarHandle" ∧ (parseMethodDescriptor yX8_strike.desc).map (fun d => d.parameters.length) = some 4 := by decide +kernel
set_option maxHeartbeats 4000000 in
set_option maxRecDepth 100000 in
theorem c_X8_strike (l : Launch) (D : va_G) (cy : Nat → ClassId) (g : Nat → Nat) (ua : St) (us : St) (ud : St) (ut : St) (un : St) (ub : St) (ue : St) (p0 : Int32) (p1 : Int32) (p2 : Int32) (p3 : Int32) (r : Int32) (ua' : St) (h : f_X8_strike us p0 p1 p2 p3 ua = some (r, ua')) : CtI l yX8_strike wsX8_strike (rmH 5) [.ref (g 899), .int p0, .int p1, .int p2, .int p3] D cy (wX8 cy g ua us ud ut un ub ue) (wX8 cy g ua' us ud ut un ub ue) r := by
  refine ct_enter (D := D) (cy := cy) (cc := cX8_strike) (maxL := 5) (ret := (some .int)) (w := wX8 cy g ua us ud ut un ub ue) (Qc := fun sz => va_Qi (fun r' (_ : Unit) => r' = r) (Bw D cy (va_A (wX8 cy g ua us ud ut un ub ue) sz) (wX8 cy g ua' us ud ut un ub ue)) (va_A (wX8 cy g ua us ud ut un ub ue) sz)) (by decide) rfl (Nat.le_of_ble_eq_true rfl) ?_
  intro p e s m below meth c A C0 hAe ls hl hP hD hS
  have e1 : MQ below ((fun sz => va_Qi (fun r' (_ : Unit) => r' = r) (Bw D cy (va_A (wX8 cy g ua us ud ut un ub ue) sz) (wX8 cy g ua' us ud ut un ub ue)) (va_A (wX8 cy g ua us ud ut un ub ue) sz)) s.heap.size) [.ref (g 899), .int p0, .int p1, .int p2, .int p3].toArray s 0 0 A = QI below [.ref (g 899), .int p0, .int p1, .int p2, .int p3].toArray s A D cy (wX8 cy g ua' us ud ut un ub ue) r := by rw [hAe]; rfl
  rw [e1]
  clear e1 hAe
  obtain ⟨hx, hb, hr, hml, hown, hts, hlocks, hK, hA⟩ := id C0
  have hl : lv_has ls 5 [(0, .ref (g 899)), (1, .int p0), (2, .int p1), (3, .int p2), (4, .int p3)] := hl
  rw [f_X8_strike] at h
  refine lv_iload_n hx hb dX8_strike_0 rfl (lv_at hl 1 rfl) ?_
  obtain ⟨r1, e2, h⟩ := bd_some h
  refine x_callSI (As := [.int p0]) (rest := []) (n := 1) ⟨hx, hb, hml, hown, hts⟩ (c_X8_isCell l D cy  p0 r1 e2) gX8_strike_X8_isCell rfl hd_X8_isCell ⟨Nat.le_of_ble_eq_true rfl, Nat.le_of_ble_eq_true rfl⟩ ⟨rfl, rfl⟩ hK (sp_nil _) (sp_nil _) hP hD hS hA rfl hl.1 rfl (Nat.le_of_ble_eq_true rfl) dX8_strike_1 ⟨Nat.zero_le _, Nat.zero_le _⟩ (fun H locs hP hD hS => ?_)
  clear e2
  refine x_if_eq (tgt := 21) hx hb dX8_strike_4 (by decide) h (fun _ h => ?_) (fun _ h => ?_)
  · refine lv_bipush (v := -102) hx hb dX8_strike_21 (by decide) ?_
    cases h
    exact x_iret hx hb hr hlocks hK hP hD hS dX8_strike_23 rfl rfl
  · refine lv_iload_n hx hb dX8_strike_7 rfl (lv_at hl 2 rfl) ?_
    obtain ⟨r3, e4, h⟩ := bd_some h
    refine x_callSI (As := [.int p1]) (rest := []) (n := 1) ⟨hx, hb, hml, hown, hts⟩ (c_X8_isPlayer l D cy  p1 r3 e4) gX8_strike_X8_isPlayer rfl hd_X8_isPlayer ⟨Nat.le_of_ble_eq_true rfl, Nat.le_of_ble_eq_true rfl⟩ ⟨rfl, rfl⟩ hK (sp_nil _) (sp_nil _) hP hD hS hA rfl hl.1 rfl (Nat.le_of_ble_eq_true rfl) dX8_strike_8 ⟨Nat.zero_le _, Nat.zero_le _⟩ (fun H locs hP hD hS => ?_)
    clear e4
    refine x_if_eq (tgt := 21) hx hb dX8_strike_11 (by decide) h (fun _ h => ?_) (fun _ h => ?_)
    · refine lv_bipush (v := -102) hx hb dX8_strike_21 (by decide) ?_
      cases h
      exact x_iret hx hb hr hlocks hK hP hD hS dX8_strike_23 rfl rfl
    · refine lv_iload_n hx hb dX8_strike_14 rfl (lv_at hl 3 rfl) ?_
      obtain ⟨r5, e6, h⟩ := bd_some h
      refine x_callSI (As := [.int p2]) (rest := []) (n := 1) ⟨hx, hb, hml, hown, hts⟩ (c_X8_isCell l D cy  p2 r5 e6) gX8_strike_X8_isCell rfl hd_X8_isCell ⟨Nat.le_of_ble_eq_true rfl, Nat.le_of_ble_eq_true rfl⟩ ⟨rfl, rfl⟩ hK (sp_nil _) (sp_nil _) hP hD hS hA rfl hl.1 rfl (Nat.le_of_ble_eq_true rfl) dX8_strike_15 ⟨Nat.zero_le _, Nat.zero_le _⟩ (fun H locs hP hD hS => ?_)
      clear e6
      refine x_if_ne (tgt := 24) hx hb dX8_strike_18 (by decide) h (fun _ h => ?_) (fun _ h => ?_)
      · refine lv_bipush (v := -102) hx hb dX8_strike_21 (by decide) ?_
        cases h
        exact x_iret hx hb hr hlocks hK hP hD hS dX8_strike_23 rfl rfl
      · refine lv_iload hx hb dX8_strike_24 (lv_at hl 4 rfl) ?_
        refine lv_iconst (v := 0) hx hb dX8_strike_26 (by decide) ?_
        refine lv_iconst (v := 1) hx hb dX8_strike_27 (by decide) ?_
        obtain ⟨r7, e8, h⟩ := bd_some h
        refine x_callSI (As := [.int p3, .int (0 : Int32), .int (1 : Int32)]) (rest := []) (n := 3) ⟨hx, hb, hml, hown, hts⟩ (c_X8_isWithin l D cy  p3 (0 : Int32) (1 : Int32) r7 e8) gX8_strike_X8_isWithin rfl hd_X8_isWithin ⟨Nat.le_of_ble_eq_true rfl, Nat.le_of_ble_eq_true rfl⟩ ⟨rfl, rfl⟩ hK (sp_nil _) (sp_nil _) hP hD hS hA rfl hl.1 rfl (Nat.le_of_ble_eq_true rfl) dX8_strike_28 ⟨Nat.zero_le _, Nat.zero_le _⟩ (fun H locs hP hD hS => ?_)
        clear e8
        refine x_if_ne (tgt := 37) hx hb dX8_strike_31 (by decide) h (fun _ h => ?_) (fun _ h => ?_)
        · refine lv_bipush (v := -103) hx hb dX8_strike_34 (by decide) ?_
          cases h
          exact x_iret hx hb hr hlocks hK hP hD hS dX8_strike_36 rfl rfl
        · refine lv_aload_n hx hb dX8_strike_37 rfl (lv_at hl 0 rfl) ?_
          refine va_get (D := D) (ci := 7) (v := .ref (g 99)) (C := RX8) (T := TX8) (N := 7) hx hb hts ki_X8_strike_X8 hown hK hP 0 rfl rfl 0 (by decide) (hts _ k_X8_strike_0) (fun _ h9 => h9) rfl dX8_strike_38 ?_
          refine lv_iload_n hx hb dX8_strike_41 rfl (lv_at hl 1 rfl) ?_
          obtain ⟨ua9, e10, h⟩ := bd_some h
          refine x_callVV (As := [.int p0]) (rest := []) (n := 1) ⟨hx, hb, hml, hown, hts⟩ (c_X0_workOutFrom l D cy g ua p0 ua9 e10) gX8_strike_X0_workOutFrom rfl hd_X0_workOutFrom ⟨Nat.le_of_ble_eq_true rfl, Nat.le_of_ble_eq_true rfl⟩ ⟨rfl, rfl⟩ hK (sp8_X0 cy g ua us ud ut un ub ue) (sp8_X0 cy g ua9 us ud ut un ub ue) hP hD hS hA 0 rfl rfl rfl hl.1 rfl (Nat.le_of_ble_eq_true rfl) dX8_strike_42 ⟨Nat.zero_le _, Nat.zero_le _⟩ (fun H locs hP hD hS => ?_)
          clear e10
          refine lv_iload hx hb dX8_strike_45 (lv_at hl 4 rfl) ?_
          refine x_if_ne (tgt := 63) hx hb dX8_strike_47 (by decide) h (fun _ h => ?_) (fun _ h => ?_)
          · refine lv_aload_n hx hb dX8_strike_50 rfl (lv_at hl 0 rfl) ?_
            refine va_get (D := D) (ci := 7) (v := .ref (g 399)) (C := RX8) (T := TX8) (N := 7) hx hb hts ki_X8_strike_X8 hown hK hP 0 rfl rfl 2 (by decide) (hts _ k_X8_strike_1) (fun _ h9 => h9) rfl dX8_strike_51 ?_
            refine lv_iload_n hx hb dX8_strike_54 rfl (lv_at hl 1 rfl) ?_
            refine lv_iload_n hx hb dX8_strike_55 rfl (lv_at hl 2 rfl) ?_
            refine lv_iload_n hx hb dX8_strike_56 rfl (lv_at hl 3 rfl) ?_
            obtain ⟨r11, e12, h⟩ := bd_some h
            refine x_callVI (As := [.int p0, .int p1, .int p2]) (rest := []) (n := 3) ⟨hx, hb, hml, hown, hts⟩ (c_X3_bestStrike l D cy g ua9 us ud p0 p1 p2 r11 e12) gX8_strike_X3_bestStrike rfl hd_X3_bestStrike ⟨Nat.le_of_ble_eq_true rfl, Nat.le_of_ble_eq_true rfl⟩ ⟨rfl, rfl⟩ hK (sp8_X3 cy g ua9 us ud ut un ub ue) (sp8_X3 cy g ua9 us ud ut un ub ue) hP hD hS hA 10 rfl rfl rfl hl.1 rfl (Nat.le_of_ble_eq_true rfl) dX8_strike_57 ⟨Nat.zero_le _, Nat.zero_le _⟩ (fun H locs hP hD hS => ?_)
            clear e12
            refine lv_goto (tgt := 73) hx hb dX8_strike_60 (by decide) ?_
            cases h
            exact x_iret hx hb hr hlocks hK hP hD hS dX8_strike_73 rfl rfl
          · refine lv_aload_n hx hb dX8_strike_63 rfl (lv_at hl 0 rfl) ?_
            refine va_get (D := D) (ci := 7) (v := .ref (g 399)) (C := RX8) (T := TX8) (N := 7) hx hb hts ki_X8_strike_X8 hown hK hP 0 rfl rfl 2 (by decide) (hts _ k_X8_strike_1) (fun _ h9 => h9) rfl dX8_strike_64 ?_
            refine lv_iload_n hx hb dX8_strike_67 rfl (lv_at hl 1 rfl) ?_
            refine lv_iload_n hx hb dX8_strike_68 rfl (lv_at hl 2 rfl) ?_
            refine lv_iload_n hx hb dX8_strike_69 rfl (lv_at hl 3 rfl) ?_
            obtain ⟨r13, e14, h⟩ := bd_some h
            refine x_callVI (As := [.int p0, .int p1, .int p2]) (rest := []) (n := 3) ⟨hx, hb, hml, hown, hts⟩ (c_X3_leastSlack l D cy g ua9 us ud p0 p1 p2 r13 e14) gX8_strike_X3_leastSlack rfl hd_X3_leastSlack ⟨Nat.le_of_ble_eq_true rfl, Nat.le_of_ble_eq_true rfl⟩ ⟨rfl, rfl⟩ hK (sp8_X3 cy g ua9 us ud ut un ub ue) (sp8_X3 cy g ua9 us ud ut un ub ue) hP hD hS hA 10 rfl rfl rfl hl.1 rfl (Nat.le_of_ble_eq_true rfl) dX8_strike_70 ⟨Nat.zero_le _, Nat.zero_le _⟩ (fun H locs hP hD hS => ?_)
            clear e14
            cases h
            exact x_iret hx hb hr hlocks hK hP hD hS dX8_strike_73 rfl rfl
theorem k_X8_stand_0 : Cond.fieldLink RX8 10 "FeatherHall" "air" "LFeatherHall$Air;" ∈ wsX8_stand := (List.mem_cons_of_mem _ (List.mem_append_left _ (List.mem_append_left _ (List.mem_append_left _ (List.mem_append_left _ (List.mem_append_left _ (List.mem_of_getElem? (i := 0) rfl)))))))
theorem ki_X8_stand_X8 : ∀ w ∈ u_ws RX8 TX8 7, w ∈ wsX8_stand := fun _ hh => (List.mem_cons_of_mem _ (List.mem_append_left _ (List.mem_append_left _ (List.mem_append_left _ (List.mem_append_right _ hh)))))
theorem k_X8_stand_1 : Cond.fieldLink RX8 28 "FeatherHall" "duel" "LFeatherHall$Duel;" ∈ wsX8_stand := (List.mem_cons_of_mem _ (List.mem_append_left _ (List.mem_append_left _ (List.mem_append_left _ (List.mem_append_left _ (List.mem_append_left _ (List.mem_of_getElem? (i := 1) rfl)))))))
theorem hd_X8_stand : yX8_stand.cls = RX8 ∧ yX8_stand.cls ≠ "java/lang/invoke/MethodHandle" ∧ yX8_stand.cls ≠ "java/lang/invoke/VarHandle" ∧ (parseMethodDescriptor yX8_stand.desc).map (fun d => d.parameters.length) = some 3 := by decide +kernel
set_option maxHeartbeats 4000000 in
set_option maxRecDepth 100000 in
theorem c_X8_stand (l : Launch) (D : va_G) (cy : Nat → ClassId) (g : Nat → Nat) (ua : St) (us : St) (ud : St) (ut : St) (un : St) (ub : St) (ue : St) (p0 : Int32) (p1 : Int32) (p2 : Int32) (r : Int32) (ua' : St) (h : f_X8_stand us p0 p1 p2 ua = some (r, ua')) : CtI l yX8_stand wsX8_stand (rmH 6) [.ref (g 899), .int p0, .int p1, .int p2] D cy (wX8 cy g ua us ud ut un ub ue) (wX8 cy g ua' us ud ut un ub ue) r := by
  refine ct_enter (D := D) (cy := cy) (cc := cX8_stand) (maxL := 5) (ret := (some .int)) (w := wX8 cy g ua us ud ut un ub ue) (Qc := fun sz => va_Qi (fun r' (_ : Unit) => r' = r) (Bw D cy (va_A (wX8 cy g ua us ud ut un ub ue) sz) (wX8 cy g ua' us ud ut un ub ue)) (va_A (wX8 cy g ua us ud ut un ub ue) sz)) (by decide) rfl (Nat.le_of_ble_eq_true rfl) ?_
  intro p e s m below meth c A C0 hAe ls hl hP hD hS
  have e1 : MQ below ((fun sz => va_Qi (fun r' (_ : Unit) => r' = r) (Bw D cy (va_A (wX8 cy g ua us ud ut un ub ue) sz) (wX8 cy g ua' us ud ut un ub ue)) (va_A (wX8 cy g ua us ud ut un ub ue) sz)) s.heap.size) [.ref (g 899), .int p0, .int p1, .int p2].toArray s 0 0 A = QI below [.ref (g 899), .int p0, .int p1, .int p2].toArray s A D cy (wX8 cy g ua' us ud ut un ub ue) r := by rw [hAe]; rfl
  rw [e1]
  clear e1 hAe
  obtain ⟨hx, hb, hr, hml, hown, hts, hlocks, hK, hA⟩ := id C0
  have hl : lv_has ls 5 [(0, .ref (g 899)), (1, .int p0), (2, .int p1), (3, .int p2)] := hl
  rw [f_X8_stand] at h
  refine lv_iload_n hx hb dX8_stand_0 rfl (lv_at hl 1 rfl) ?_
  obtain ⟨r1, e2, h⟩ := bd_some h
  refine x_callSI (As := [.int p0]) (rest := []) (n := 1) ⟨hx, hb, hml, hown, hts⟩ (c_X8_isPlayer l D cy  p0 r1 e2) gX8_stand_X8_isPlayer rfl hd_X8_isPlayer ⟨Nat.le_of_ble_eq_true rfl, Nat.le_of_ble_eq_true rfl⟩ ⟨rfl, rfl⟩ hK (sp_nil _) (sp_nil _) hP hD hS hA rfl hl.1 rfl (Nat.le_of_ble_eq_true rfl) dX8_stand_1 ⟨Nat.zero_le _, Nat.zero_le _⟩ (fun H locs hP hD hS => ?_)
  clear e2
  refine x_if_eq (tgt := 14) hx hb dX8_stand_4 (by decide) h (fun _ h => ?_) (fun _ h => ?_)
  · refine lv_bipush (v := -102) hx hb dX8_stand_14 (by decide) ?_
    cases h
    exact x_iret hx hb hr hlocks hK hP hD hS dX8_stand_16 rfl rfl
  · refine lv_iload_n hx hb dX8_stand_7 rfl (lv_at hl 2 rfl) ?_
    obtain ⟨r3, e4, h⟩ := bd_some h
    refine x_callSI (As := [.int p1]) (rest := []) (n := 1) ⟨hx, hb, hml, hown, hts⟩ (c_X8_isCell l D cy  p1 r3 e4) gX8_stand_X8_isCell rfl hd_X8_isCell ⟨Nat.le_of_ble_eq_true rfl, Nat.le_of_ble_eq_true rfl⟩ ⟨rfl, rfl⟩ hK (sp_nil _) (sp_nil _) hP hD hS hA rfl hl.1 rfl (Nat.le_of_ble_eq_true rfl) dX8_stand_8 ⟨Nat.zero_le _, Nat.zero_le _⟩ (fun H locs hP hD hS => ?_)
    clear e4
    refine x_if_ne (tgt := 17) hx hb dX8_stand_11 (by decide) h (fun _ h => ?_) (fun _ h => ?_)
    · refine lv_bipush (v := -102) hx hb dX8_stand_14 (by decide) ?_
      cases h
      exact x_iret hx hb hr hlocks hK hP hD hS dX8_stand_16 rfl rfl
    · refine lv_iload_n hx hb dX8_stand_17 rfl (lv_at hl 3 rfl) ?_
      refine lv_iconst (v := 0) hx hb dX8_stand_18 (by decide) ?_
      refine lv_iconst (v := 1) hx hb dX8_stand_19 (by decide) ?_
      obtain ⟨r5, e6, h⟩ := bd_some h
      refine x_callSI (As := [.int p2, .int (0 : Int32), .int (1 : Int32)]) (rest := []) (n := 3) ⟨hx, hb, hml, hown, hts⟩ (c_X8_isWithin l D cy  p2 (0 : Int32) (1 : Int32) r5 e6) gX8_stand_X8_isWithin rfl hd_X8_isWithin ⟨Nat.le_of_ble_eq_true rfl, Nat.le_of_ble_eq_true rfl⟩ ⟨rfl, rfl⟩ hK (sp_nil _) (sp_nil _) hP hD hS hA rfl hl.1 rfl (Nat.le_of_ble_eq_true rfl) dX8_stand_20 ⟨Nat.zero_le _, Nat.zero_le _⟩ (fun H locs hP hD hS => ?_)
      clear e6
      refine x_if_ne (tgt := 29) hx hb dX8_stand_23 (by decide) h (fun _ h => ?_) (fun _ h => ?_)
      · refine lv_bipush (v := -103) hx hb dX8_stand_26 (by decide) ?_
        cases h
        exact x_iret hx hb hr hlocks hK hP hD hS dX8_stand_28 rfl rfl
      · refine lv_aload_n hx hb dX8_stand_29 rfl (lv_at hl 0 rfl) ?_
        refine va_get (D := D) (ci := 7) (v := .ref (g 99)) (C := RX8) (T := TX8) (N := 7) hx hb hts ki_X8_stand_X8 hown hK hP 0 rfl rfl 0 (by decide) (hts _ k_X8_stand_0) (fun _ h9 => h9) rfl dX8_stand_30 ?_
        refine lv_iload_n hx hb dX8_stand_33 rfl (lv_at hl 2 rfl) ?_
        obtain ⟨ua7, e8, h⟩ := bd_some h
        refine x_callVV (As := [.int p1]) (rest := []) (n := 1) ⟨hx, hb, hml, hown, hts⟩ (c_X0_workOutFrom l D cy g ua p1 ua7 e8) gX8_stand_X0_workOutFrom rfl hd_X0_workOutFrom ⟨Nat.le_of_ble_eq_true rfl, Nat.le_of_ble_eq_true rfl⟩ ⟨rfl, rfl⟩ hK (sp8_X0 cy g ua us ud ut un ub ue) (sp8_X0 cy g ua7 us ud ut un ub ue) hP hD hS hA 0 rfl rfl rfl hl.1 rfl (Nat.le_of_ble_eq_true rfl) dX8_stand_34 ⟨Nat.zero_le _, Nat.zero_le _⟩ (fun H locs hP hD hS => ?_)
        clear e8
        refine lv_aload_n hx hb dX8_stand_37 rfl (lv_at hl 0 rfl) ?_
        refine va_get (D := D) (ci := 7) (v := .ref (g 399)) (C := RX8) (T := TX8) (N := 7) hx hb hts ki_X8_stand_X8 hown hK hP 0 rfl rfl 2 (by decide) (hts _ k_X8_stand_1) (fun _ h9 => h9) rfl dX8_stand_38 ?_
        refine lv_iload_n hx hb dX8_stand_41 rfl (lv_at hl 1 rfl) ?_
        refine lv_iload_n hx hb dX8_stand_42 rfl (lv_at hl 2 rfl) ?_
        obtain ⟨r9, e10, h⟩ := bd_some h
        refine x_callVI (As := [.int p0, .int p1]) (rest := []) (n := 2) ⟨hx, hb, hml, hown, hts⟩ (c_X3_bestStand l D cy g ua7 us ud p0 p1 r9 e10) gX8_stand_X3_bestStand rfl hd_X3_bestStand ⟨Nat.le_of_ble_eq_true rfl, Nat.le_of_ble_eq_true rfl⟩ ⟨rfl, rfl⟩ hK (sp8_X3 cy g ua7 us ud ut un ub ue) (sp8_X3 cy g ua7 us ud ut un ub ue) hP hD hS hA 10 rfl rfl rfl hl.1 rfl (Nat.le_of_ble_eq_true rfl) dX8_stand_43 ⟨Nat.zero_le _, Nat.zero_le _⟩ (fun H locs hP hD hS => ?_)
        clear e10
        refine lv_istore (lv' := [(4, .int r9), (0, .ref (g 899)), (1, .int p0), (2, .int p1), (3, .int p2)]) hx hb dX8_stand_46 hl (by decide) rfl (fun ls hl => ?_)
        refine lv_iload_n hx hb dX8_stand_48 rfl (lv_at hl 4 rfl) ?_
        refine x_if_ne (tgt := 55) hx hb dX8_stand_49 (by decide) h (fun _ h => ?_) (fun _ h => ?_)
        · refine lv_iload hx hb dX8_stand_52 (lv_at hl 0 rfl) ?_
          cases h
          exact x_iret hx hb hr hlocks hK hP hD hS dX8_stand_54 rfl rfl
        · refine lv_iload hx hb dX8_stand_55 (lv_at hl 0 rfl) ?_
          refine lv_iconst (v := -1) hx hb dX8_stand_57 (by decide) ?_
          refine x_icmp_ne (tgt := 66) hx hb dX8_stand_58 (by decide) h (fun _ h => ?_) (fun _ h => ?_)
          · refine lv_bipush (v := -100) hx hb dX8_stand_61 (by decide) ?_
            refine lv_goto (tgt := 77) hx hb dX8_stand_63 (by decide) ?_
            cases h
            exact x_iret hx hb hr hlocks hK hP hD hS dX8_stand_77 rfl rfl
          · refine lv_aload_n hx hb dX8_stand_66 rfl (lv_at hl 1 rfl) ?_
            refine va_get (D := D) (ci := 7) (v := .ref (g 399)) (C := RX8) (T := TX8) (N := 7) hx hb hts ki_X8_stand_X8 hown hK hP 0 rfl rfl 2 (by decide) (hts _ k_X8_stand_1) (fun _ h9 => h9) rfl dX8_stand_67 ?_
            refine lv_iload_n hx hb dX8_stand_70 rfl (lv_at hl 3 rfl) ?_
            refine lv_iload_n hx hb dX8_stand_71 rfl (lv_at hl 2 rfl) ?_
            refine lv_iload hx hb dX8_stand_72 (lv_at hl 0 rfl) ?_
            obtain ⟨r11, e12, h⟩ := bd_some h
            refine x_callVI (As := [.int p1, .int p0, .int r9]) (rest := []) (n := 3) ⟨hx, hb, hml, hown, hts⟩ (c_X3_leastSlack l D cy g ua7 us ud p1 p0 r9 r11 e12) gX8_stand_X3_leastSlack rfl hd_X3_leastSlack ⟨Nat.le_of_ble_eq_true rfl, Nat.le_of_ble_eq_true rfl⟩ ⟨rfl, rfl⟩ hK (sp8_X3 cy g ua7 us ud ut un ub ue) (sp8_X3 cy g ua7 us ud ut un ub ue) hP hD hS hA 10 rfl rfl rfl hl.1 rfl (Nat.le_of_ble_eq_true rfl) dX8_stand_74 ⟨Nat.zero_le _, Nat.zero_le _⟩ (fun H locs hP hD hS => ?_)
            clear e12
            cases h
            exact x_iret hx hb hr hlocks hK hP hD hS dX8_stand_77 rfl rfl
theorem k_X8_wins_0 : Cond.fieldLink RX8 28 "FeatherHall" "duel" "LFeatherHall$Duel;" ∈ wsX8_wins := (List.mem_cons_of_mem _ (List.mem_append_left _ (List.mem_append_left _ (List.mem_append_left _ (List.mem_append_left _ (List.mem_append_left _ (List.mem_of_getElem? (i := 0) rfl)))))))
theorem ki_X8_wins_X8 : ∀ w ∈ u_ws RX8 TX8 7, w ∈ wsX8_wins := fun _ hh => (List.mem_cons_of_mem _ (List.mem_append_left _ (List.mem_append_left _ (List.mem_append_left _ (List.mem_append_right _ hh)))))
theorem hd_X8_wins : yX8_wins.cls = RX8 ∧ yX8_wins.cls ≠ "java/lang/invoke/MethodHandle" ∧ yX8_wins.cls ≠ "java/lang/invoke/VarHandle" ∧ (parseMethodDescriptor yX8_wins.desc).map (fun d => d.parameters.length) = some 5 := by decide +kernel
set_option maxHeartbeats 4000000 in
set_option maxRecDepth 100000 in
theorem c_X8_wins (l : Launch) (D : va_G) (cy : Nat → ClassId) (g : Nat → Nat) (ua : St) (us : St) (ud : St) (ut : St) (un : St) (ub : St) (ue : St) (p0 : Int32) (p1 : Int32) (p2 : Int32) (p3 : Int32) (p4 : Int32) (r : Int32) (ua' : St) (ud' : St) (h : f_X8_wins us p0 p1 p2 p3 p4 ua ud = some (r, ua', ud')) : CtI l yX8_wins wsX8_wins (rmH 6) [.ref (g 899), .int p0, .int p1, .int p2, .int p3, .int p4] D cy (wX8 cy g ua us ud ut un ub ue) (wX8 cy g ua' us ud' ut un ub ue) r := by
  refine ct_enter (D := D) (cy := cy) (cc := cX8_wins) (maxL := 6) (ret := (some .int)) (w := wX8 cy g ua us ud ut un ub ue) (Qc := fun sz => va_Qi (fun r' (_ : Unit) => r' = r) (Bw D cy (va_A (wX8 cy g ua us ud ut un ub ue) sz) (wX8 cy g ua' us ud' ut un ub ue)) (va_A (wX8 cy g ua us ud ut un ub ue) sz)) (by decide) rfl (Nat.le_of_ble_eq_true rfl) ?_
  intro p e s m below meth c A C0 hAe ls hl hP hD hS
  have e1 : MQ below ((fun sz => va_Qi (fun r' (_ : Unit) => r' = r) (Bw D cy (va_A (wX8 cy g ua us ud ut un ub ue) sz) (wX8 cy g ua' us ud' ut un ub ue)) (va_A (wX8 cy g ua us ud ut un ub ue) sz)) s.heap.size) [.ref (g 899), .int p0, .int p1, .int p2, .int p3, .int p4].toArray s 0 0 A = QI below [.ref (g 899), .int p0, .int p1, .int p2, .int p3, .int p4].toArray s A D cy (wX8 cy g ua' us ud' ut un ub ue) r := by rw [hAe]; rfl
  rw [e1]
  clear e1 hAe
  obtain ⟨hx, hb, hr, hml, hown, hts, hlocks, hK, hA⟩ := id C0
  have hl : lv_has ls 6 [(0, .ref (g 899)), (1, .int p0), (2, .int p1), (3, .int p2), (4, .int p3), (5, .int p4)] := hl
  rw [f_X8_wins] at h
  refine lv_iload_n hx hb dX8_wins_0 rfl (lv_at hl 1 rfl) ?_
  obtain ⟨r1, e2, h⟩ := bd_some h
  refine x_callSI (As := [.int p0]) (rest := []) (n := 1) ⟨hx, hb, hml, hown, hts⟩ (c_X8_isPlayer l D cy  p0 r1 e2) gX8_wins_X8_isPlayer rfl hd_X8_isPlayer ⟨Nat.le_of_ble_eq_true rfl, Nat.le_of_ble_eq_true rfl⟩ ⟨rfl, rfl⟩ hK (sp_nil _) (sp_nil _) hP hD hS hA rfl hl.1 rfl (Nat.le_of_ble_eq_true rfl) dX8_wins_1 ⟨Nat.zero_le _, Nat.zero_le _⟩ (fun H locs hP hD hS => ?_)
  clear e2
  refine x_if_eq (tgt := 29) hx hb dX8_wins_4 (by decide) h (fun _ h => ?_) (fun _ h => ?_)
  · refine lv_bipush (v := -2) hx hb dX8_wins_29 (by decide) ?_
    cases h
    exact x_iret hx hb hr hlocks hK hP hD hS dX8_wins_31 rfl rfl
  · refine lv_iload_n hx hb dX8_wins_7 rfl (lv_at hl 2 rfl) ?_
    obtain ⟨r3, e4, h⟩ := bd_some h
    refine x_callSI (As := [.int p1]) (rest := []) (n := 1) ⟨hx, hb, hml, hown, hts⟩ (c_X8_isPlayer l D cy  p1 r3 e4) gX8_wins_X8_isPlayer rfl hd_X8_isPlayer ⟨Nat.le_of_ble_eq_true rfl, Nat.le_of_ble_eq_true rfl⟩ ⟨rfl, rfl⟩ hK (sp_nil _) (sp_nil _) hP hD hS hA rfl hl.1 rfl (Nat.le_of_ble_eq_true rfl) dX8_wins_8 ⟨Nat.zero_le _, Nat.zero_le _⟩ (fun H locs hP hD hS => ?_)
    clear e4
    refine x_if_eq (tgt := 29) hx hb dX8_wins_11 (by decide) h (fun _ h => ?_) (fun _ h => ?_)
    · refine lv_bipush (v := -2) hx hb dX8_wins_29 (by decide) ?_
      cases h
      exact x_iret hx hb hr hlocks hK hP hD hS dX8_wins_31 rfl rfl
    · refine lv_iload_n hx hb dX8_wins_14 rfl (lv_at hl 3 rfl) ?_
      obtain ⟨r5, e6, h⟩ := bd_some h
      refine x_callSI (As := [.int p2]) (rest := []) (n := 1) ⟨hx, hb, hml, hown, hts⟩ (c_X8_isCell l D cy  p2 r5 e6) gX8_wins_X8_isCell rfl hd_X8_isCell ⟨Nat.le_of_ble_eq_true rfl, Nat.le_of_ble_eq_true rfl⟩ ⟨rfl, rfl⟩ hK (sp_nil _) (sp_nil _) hP hD hS hA rfl hl.1 rfl (Nat.le_of_ble_eq_true rfl) dX8_wins_15 ⟨Nat.zero_le _, Nat.zero_le _⟩ (fun H locs hP hD hS => ?_)
      clear e6
      refine x_if_eq (tgt := 29) hx hb dX8_wins_18 (by decide) h (fun _ h => ?_) (fun _ h => ?_)
      · refine lv_bipush (v := -2) hx hb dX8_wins_29 (by decide) ?_
        cases h
        exact x_iret hx hb hr hlocks hK hP hD hS dX8_wins_31 rfl rfl
      · refine lv_iload hx hb dX8_wins_21 (lv_at hl 4 rfl) ?_
        obtain ⟨r7, e8, h⟩ := bd_some h
        refine x_callSI (As := [.int p3]) (rest := []) (n := 1) ⟨hx, hb, hml, hown, hts⟩ (c_X8_isCell l D cy  p3 r7 e8) gX8_wins_X8_isCell rfl hd_X8_isCell ⟨Nat.le_of_ble_eq_true rfl, Nat.le_of_ble_eq_true rfl⟩ ⟨rfl, rfl⟩ hK (sp_nil _) (sp_nil _) hP hD hS hA rfl hl.1 rfl (Nat.le_of_ble_eq_true rfl) dX8_wins_23 ⟨Nat.zero_le _, Nat.zero_le _⟩ (fun H locs hP hD hS => ?_)
        clear e8
        refine x_if_ne (tgt := 32) hx hb dX8_wins_26 (by decide) h (fun _ h => ?_) (fun _ h => ?_)
        · refine lv_bipush (v := -2) hx hb dX8_wins_29 (by decide) ?_
          cases h
          exact x_iret hx hb hr hlocks hK hP hD hS dX8_wins_31 rfl rfl
        · refine lv_iload hx hb dX8_wins_32 (lv_at hl 5 rfl) ?_
          refine lv_iconst (v := 1) hx hb dX8_wins_34 (by decide) ?_
          refine lv_iconst (v := 4) hx hb dX8_wins_35 (by decide) ?_
          obtain ⟨r9, e10, h⟩ := bd_some h
          refine x_callSI (As := [.int p4, .int (1 : Int32), .int (4 : Int32)]) (rest := []) (n := 3) ⟨hx, hb, hml, hown, hts⟩ (c_X8_isWithin l D cy  p4 (1 : Int32) (4 : Int32) r9 e10) gX8_wins_X8_isWithin rfl hd_X8_isWithin ⟨Nat.le_of_ble_eq_true rfl, Nat.le_of_ble_eq_true rfl⟩ ⟨rfl, rfl⟩ hK (sp_nil _) (sp_nil _) hP hD hS hA rfl hl.1 rfl (Nat.le_of_ble_eq_true rfl) dX8_wins_36 ⟨Nat.zero_le _, Nat.zero_le _⟩ (fun H locs hP hD hS => ?_)
          clear e10
          refine x_if_eq (tgt := 47) hx hb dX8_wins_39 (by decide) h (fun _ h => ?_) (fun _ h => ?_)
          · refine lv_bipush (v := -3) hx hb dX8_wins_47 (by decide) ?_
            cases h
            exact x_iret hx hb hr hlocks hK hP hD hS dX8_wins_49 rfl rfl
          · refine lv_iload_n hx hb dX8_wins_42 rfl (lv_at hl 1 rfl) ?_
            refine lv_iload_n hx hb dX8_wins_43 rfl (lv_at hl 2 rfl) ?_
            refine x_icmp_ne (tgt := 50) hx hb dX8_wins_44 (by decide) h (fun _ h => ?_) (fun _ h => ?_)
            · refine lv_bipush (v := -3) hx hb dX8_wins_47 (by decide) ?_
              cases h
              exact x_iret hx hb hr hlocks hK hP hD hS dX8_wins_49 rfl rfl
            · refine lv_aload_n hx hb dX8_wins_50 rfl (lv_at hl 0 rfl) ?_
              refine va_get (D := D) (ci := 7) (v := .ref (g 399)) (C := RX8) (T := TX8) (N := 7) hx hb hts ki_X8_wins_X8 hown hK hP 0 rfl rfl 2 (by decide) (hts _ k_X8_wins_0) (fun _ h9 => h9) rfl dX8_wins_51 ?_
              refine lv_iload_n hx hb dX8_wins_54 rfl (lv_at hl 1 rfl) ?_
              refine lv_iload_n hx hb dX8_wins_55 rfl (lv_at hl 2 rfl) ?_
              refine lv_iload_n hx hb dX8_wins_56 rfl (lv_at hl 3 rfl) ?_
              refine lv_iload hx hb dX8_wins_57 (lv_at hl 4 rfl) ?_
              refine lv_iload hx hb dX8_wins_59 (lv_at hl 5 rfl) ?_
              obtain ⟨r13, ua11, ud12, e14, h⟩ := bd3_some h
              refine x_callVI (As := [.int p0, .int p1, .int p2, .int p3, .int p4]) (rest := []) (n := 5) ⟨hx, hb, hml, hown, hts⟩ (c_X3_canForce l D cy g ua us ud p0 p1 p2 p3 p4 r13 ua11 ud12 e14) gX8_wins_X3_canForce rfl hd_X3_canForce ⟨Nat.le_of_ble_eq_true rfl, Nat.le_of_ble_eq_true rfl⟩ ⟨rfl, rfl⟩ hK (sp8_X3 cy g ua us ud ut un ub ue) (sp8_X3 cy g ua11 us ud12 ut un ub ue) hP hD hS hA 10 rfl rfl rfl hl.1 rfl (Nat.le_of_ble_eq_true rfl) dX8_wins_61 ⟨Nat.zero_le _, Nat.zero_le _⟩ (fun H locs hP hD hS => ?_)
              clear e14
              refine x_if_eq (tgt := 71) hx hb dX8_wins_64 (by decide) h (fun _ h => ?_) (fun _ h => ?_)
              · refine lv_iconst (v := 0) hx hb dX8_wins_71 (by decide) ?_
                cases h
                exact x_iret hx hb hr hlocks hK hP hD hS dX8_wins_72 rfl rfl
              · refine lv_iconst (v := 1) hx hb dX8_wins_67 (by decide) ?_
                refine lv_goto (tgt := 72) hx hb dX8_wins_68 (by decide) ?_
                cases h
                exact x_iret hx hb hr hlocks hK hP hD hS dX8_wins_72 rfl rfl
theorem k_X8_rally_0 : Cond.fieldLink RX8 35 "FeatherHall" "trio" "LFeatherHall$Trio;" ∈ wsX8_rally := (List.mem_cons_of_mem _ (List.mem_append_left _ (List.mem_append_left _ (List.mem_of_getElem? (i := 0) rfl))))
theorem ki_X8_rally_X8 : ∀ w ∈ u_ws RX8 TX8 7, w ∈ wsX8_rally := fun _ hh => (List.mem_cons_of_mem _ (List.mem_append_left _ (List.mem_append_right _ hh)))
theorem hd_X8_rally : yX8_rally.cls = RX8 ∧ yX8_rally.cls ≠ "java/lang/invoke/MethodHandle" ∧ yX8_rally.cls ≠ "java/lang/invoke/VarHandle" ∧ (parseMethodDescriptor yX8_rally.desc).map (fun d => d.parameters.length) = some 1 := by decide +kernel
set_option maxHeartbeats 4000000 in
set_option maxRecDepth 100000 in
theorem c_X8_rally (l : Launch) (D : va_G) (cy : Nat → ClassId) (g : Nat → Nat) (ua : St) (us : St) (ud : St) (ut : St) (un : St) (ub : St) (ue : St) (p0 : Int32) (r : Int32) (ut' : St) (h : f_X8_rally p0 ut = some (r, ut')) : CtI l yX8_rally wsX8_rally (rmH 2) [.ref (g 899), .int p0] D cy (wX8 cy g ua us ud ut un ub ue) (wX8 cy g ua us ud ut' un ub ue) r := by
  refine ct_enter (D := D) (cy := cy) (cc := cX8_rally) (maxL := 2) (ret := (some .int)) (w := wX8 cy g ua us ud ut un ub ue) (Qc := fun sz => va_Qi (fun r' (_ : Unit) => r' = r) (Bw D cy (va_A (wX8 cy g ua us ud ut un ub ue) sz) (wX8 cy g ua us ud ut' un ub ue)) (va_A (wX8 cy g ua us ud ut un ub ue) sz)) (by decide) rfl (Nat.le_of_ble_eq_true rfl) ?_
  intro p e s m below meth c A C0 hAe ls hl hP hD hS
  have e1 : MQ below ((fun sz => va_Qi (fun r' (_ : Unit) => r' = r) (Bw D cy (va_A (wX8 cy g ua us ud ut un ub ue) sz) (wX8 cy g ua us ud ut' un ub ue)) (va_A (wX8 cy g ua us ud ut un ub ue) sz)) s.heap.size) [.ref (g 899), .int p0].toArray s 0 0 A = QI below [.ref (g 899), .int p0].toArray s A D cy (wX8 cy g ua us ud ut' un ub ue) r := by rw [hAe]; rfl
  rw [e1]
  clear e1 hAe
  obtain ⟨hx, hb, hr, hml, hown, hts, hlocks, hK, hA⟩ := id C0
  have hl : lv_has ls 2 [(0, .ref (g 899)), (1, .int p0)] := hl
  rw [f_X8_rally] at h
  refine lv_iload_n hx hb dX8_rally_0 rfl (lv_at hl 1 rfl) ?_
  refine lv_iconst (v := 0) hx hb dX8_rally_1 (by decide) ?_
  refine lv_iconst (v := 2) hx hb dX8_rally_2 (by decide) ?_
  obtain ⟨r1, e2, h⟩ := bd_some h
  refine x_callSI (As := [.int p0, .int (0 : Int32), .int (2 : Int32)]) (rest := []) (n := 3) ⟨hx, hb, hml, hown, hts⟩ (c_X8_isWithin l D cy  p0 (0 : Int32) (2 : Int32) r1 e2) gX8_rally_X8_isWithin rfl hd_X8_isWithin ⟨Nat.le_of_ble_eq_true rfl, Nat.le_of_ble_eq_true rfl⟩ ⟨rfl, rfl⟩ hK (sp_nil _) (sp_nil _) hP hD hS hA rfl hl.1 rfl (Nat.le_of_ble_eq_true rfl) dX8_rally_3 ⟨Nat.zero_le _, Nat.zero_le _⟩ (fun H locs hP hD hS => ?_)
  clear e2
  refine x_if_ne (tgt := 12) hx hb dX8_rally_6 (by decide) h (fun _ h => ?_) (fun _ h => ?_)
  · refine lv_bipush (v := -3) hx hb dX8_rally_9 (by decide) ?_
    cases h
    exact x_iret hx hb hr hlocks hK hP hD hS dX8_rally_11 rfl rfl
  · refine lv_aload_n hx hb dX8_rally_12 rfl (lv_at hl 0 rfl) ?_
    refine va_get (D := D) (ci := 7) (v := .ref (g 799)) (C := RX8) (T := TX8) (N := 7) hx hb hts ki_X8_rally_X8 hown hK hP 0 rfl rfl 3 (by decide) (hts _ k_X8_rally_0) (fun _ h9 => h9) rfl dX8_rally_13 ?_
    obtain ⟨r3, e4, h⟩ := bd_some h
    refine x_callVI (As := []) (rest := []) (n := 0) ⟨hx, hb, hml, hown, hts⟩ (c_X7_isOver l D cy g ut r3 e4) gX8_rally_X7_isOver rfl hd_X7_isOver ⟨Nat.le_of_ble_eq_true rfl, Nat.le_of_ble_eq_true rfl⟩ ⟨rfl, rfl⟩ hK (sp8_X7 cy g ua us ud ut un ub ue) (sp8_X7 cy g ua us ud ut un ub ue) hP hD hS hA 0 rfl rfl rfl hl.1 rfl (Nat.le_of_ble_eq_true rfl) dX8_rally_16 ⟨Nat.zero_le _, Nat.zero_le _⟩ (fun H locs hP hD hS => ?_)
    clear e4
    refine x_if_eq (tgt := 25) hx hb dX8_rally_19 (by decide) h (fun _ h => ?_) (fun _ h => ?_)
    · refine lv_aload_n hx hb dX8_rally_25 rfl (lv_at hl 0 rfl) ?_
      refine va_get (D := D) (ci := 7) (v := .ref (g 799)) (C := RX8) (T := TX8) (N := 7) hx hb hts ki_X8_rally_X8 hown hK hP 0 rfl rfl 3 (by decide) (hts _ k_X8_rally_0) (fun _ h9 => h9) rfl dX8_rally_26 ?_
      refine lv_iload_n hx hb dX8_rally_29 rfl (lv_at hl 1 rfl) ?_
      obtain ⟨r6, ut5, e7, h⟩ := bd2_some h
      refine x_callVI (As := [.int p0]) (rest := []) (n := 1) ⟨hx, hb, hml, hown, hts⟩ (c_X7_tell l D cy g ut p0 r6 ut5 e7) gX8_rally_X7_tell rfl hd_X7_tell ⟨Nat.le_of_ble_eq_true rfl, Nat.le_of_ble_eq_true rfl⟩ ⟨rfl, rfl⟩ hK (sp8_X7 cy g ua us ud ut un ub ue) (sp8_X7 cy g ua us ud ut5 un ub ue) hP hD hS hA 0 rfl rfl rfl hl.1 rfl (Nat.le_of_ble_eq_true rfl) dX8_rally_30 ⟨Nat.zero_le _, Nat.zero_le _⟩ (fun H locs hP hD hS => ?_)
      clear e7
      cases h
      exact x_iret hx hb hr hlocks hK hP hD hS dX8_rally_33 rfl rfl
    · refine lv_bipush (v := -4) hx hb dX8_rally_22 (by decide) ?_
      cases h
      exact x_iret hx hb hr hlocks hK hP hD hS dX8_rally_24 rfl rfl
theorem k_X8_three_0 : Cond.fieldLink RX8 35 "FeatherHall" "trio" "LFeatherHall$Trio;" ∈ wsX8_three := (List.mem_cons_of_mem _ (List.mem_append_left _ (List.mem_append_left _ (List.mem_of_getElem? (i := 0) rfl))))
theorem ki_X8_three_X8 : ∀ w ∈ u_ws RX8 TX8 7, w ∈ wsX8_three := fun _ hh => (List.mem_cons_of_mem _ (List.mem_append_left _ (List.mem_append_right _ hh)))
theorem hd_X8_three : yX8_three.cls = RX8 ∧ yX8_three.cls ≠ "java/lang/invoke/MethodHandle" ∧ yX8_three.cls ≠ "java/lang/invoke/VarHandle" ∧ (parseMethodDescriptor yX8_three.desc).map (fun d => d.parameters.length) = some 1 := by decide +kernel
set_option maxHeartbeats 4000000 in
set_option maxRecDepth 100000 in
theorem c_X8_three (l : Launch) (D : va_G) (cy : Nat → ClassId) (g : Nat → Nat) (ua : St) (us : St) (ud : St) (ut : St) (un : St) (ub : St) (ue : St) (p0 : Int32) (r : Int32) (h : f_X8_three ut p0 = some r) : CtI l yX8_three wsX8_three (rmH 3) [.ref (g 899), .int p0] D cy (wX8 cy g ua us ud ut un ub ue) (wX8 cy g ua us ud ut un ub ue) r := by
  refine ct_enter (D := D) (cy := cy) (cc := cX8_three) (maxL := 2) (ret := (some .int)) (w := wX8 cy g ua us ud ut un ub ue) (Qc := fun sz => va_Qi (fun r' (_ : Unit) => r' = r) (Bw D cy (va_A (wX8 cy g ua us ud ut un ub ue) sz) (wX8 cy g ua us ud ut un ub ue)) (va_A (wX8 cy g ua us ud ut un ub ue) sz)) (by decide) rfl (Nat.le_of_ble_eq_true rfl) ?_
  intro p e s m below meth c A C0 hAe ls hl hP hD hS
  have e1 : MQ below ((fun sz => va_Qi (fun r' (_ : Unit) => r' = r) (Bw D cy (va_A (wX8 cy g ua us ud ut un ub ue) sz) (wX8 cy g ua us ud ut un ub ue)) (va_A (wX8 cy g ua us ud ut un ub ue) sz)) s.heap.size) [.ref (g 899), .int p0].toArray s 0 0 A = QI below [.ref (g 899), .int p0].toArray s A D cy (wX8 cy g ua us ud ut un ub ue) r := by rw [hAe]; rfl
  rw [e1]
  clear e1 hAe
  obtain ⟨hx, hb, hr, hml, hown, hts, hlocks, hK, hA⟩ := id C0
  have hl : lv_has ls 2 [(0, .ref (g 899)), (1, .int p0)] := hl
  rw [f_X8_three] at h
  refine lv_iload_n hx hb dX8_three_0 rfl (lv_at hl 1 rfl) ?_
  refine lv_iconst (v := 0) hx hb dX8_three_1 (by decide) ?_
  refine lv_iconst (v := 5) hx hb dX8_three_2 (by decide) ?_
  obtain ⟨r1, e2, h⟩ := bd_some h
  refine x_callSI (As := [.int p0, .int (0 : Int32), .int (5 : Int32)]) (rest := []) (n := 3) ⟨hx, hb, hml, hown, hts⟩ (c_X8_isWithin l D cy  p0 (0 : Int32) (5 : Int32) r1 e2) gX8_three_X8_isWithin rfl hd_X8_isWithin ⟨Nat.le_of_ble_eq_true rfl, Nat.le_of_ble_eq_true rfl⟩ ⟨rfl, rfl⟩ hK (sp_nil _) (sp_nil _) hP hD hS hA rfl hl.1 rfl (Nat.le_of_ble_eq_true rfl) dX8_three_3 ⟨Nat.zero_le _, Nat.zero_le _⟩ (fun H locs hP hD hS => ?_)
  clear e2
  refine x_if_ne (tgt := 12) hx hb dX8_three_6 (by decide) h (fun _ h => ?_) (fun _ h => ?_)
  · refine lv_bipush (v := -3) hx hb dX8_three_9 (by decide) ?_
    cases h
    exact x_iret hx hb hr hlocks hK hP hD hS dX8_three_11 rfl rfl
  · refine lv_aload_n hx hb dX8_three_12 rfl (lv_at hl 0 rfl) ?_
    refine va_get (D := D) (ci := 7) (v := .ref (g 799)) (C := RX8) (T := TX8) (N := 7) hx hb hts ki_X8_three_X8 hown hK hP 0 rfl rfl 3 (by decide) (hts _ k_X8_three_0) (fun _ h9 => h9) rfl dX8_three_13 ?_
    refine lv_iload_n hx hb dX8_three_16 rfl (lv_at hl 1 rfl) ?_
    obtain ⟨r3, e4, h⟩ := bd_some h
    refine x_callVI (As := [.int p0]) (rest := []) (n := 1) ⟨hx, hb, hml, hown, hts⟩ (c_X7_read l D cy g ut p0 r3 e4) gX8_three_X7_read rfl hd_X7_read ⟨Nat.le_of_ble_eq_true rfl, Nat.le_of_ble_eq_true rfl⟩ ⟨rfl, rfl⟩ hK (sp8_X7 cy g ua us ud ut un ub ue) (sp8_X7 cy g ua us ud ut un ub ue) hP hD hS hA 0 rfl rfl rfl hl.1 rfl (Nat.le_of_ble_eq_true rfl) dX8_three_17 ⟨Nat.zero_le _, Nat.zero_le _⟩ (fun H locs hP hD hS => ?_)
    clear e4
    cases h
    exact x_iret hx hb hr hlocks hK hP hD hS dX8_three_20 rfl rfl
theorem k_X8_again_0 : Cond.fieldLink RX8 35 "FeatherHall" "trio" "LFeatherHall$Trio;" ∈ wsX8_again := (List.mem_cons_of_mem _ (List.mem_append_left _ (List.mem_append_left _ (List.mem_of_getElem? (i := 0) rfl))))
theorem ki_X8_again_X8 : ∀ w ∈ u_ws RX8 TX8 7, w ∈ wsX8_again := fun _ hh => (List.mem_cons_of_mem _ (List.mem_append_left _ (List.mem_append_right _ hh)))
theorem hd_X8_again : yX8_again.cls = RX8 ∧ yX8_again.cls ≠ "java/lang/invoke/MethodHandle" ∧ yX8_again.cls ≠ "java/lang/invoke/VarHandle" ∧ (parseMethodDescriptor yX8_again.desc).map (fun d => d.parameters.length) = some 0 := by decide +kernel
set_option maxHeartbeats 4000000 in
set_option maxRecDepth 100000 in
theorem c_X8_again (l : Launch) (D : va_G) (cy : Nat → ClassId) (g : Nat → Nat) (ua : St) (us : St) (ud : St) (ut : St) (un : St) (ub : St) (ue : St) (r : Int32) (ut' : St) (h : f_X8_again ut = some (r, ut')) : CtI l yX8_again wsX8_again (rmH 1) [.ref (g 899)] D cy (wX8 cy g ua us ud ut un ub ue) (wX8 cy g ua us ud ut' un ub ue) r := by
  refine ct_enter (D := D) (cy := cy) (cc := cX8_again) (maxL := 1) (ret := (some .int)) (w := wX8 cy g ua us ud ut un ub ue) (Qc := fun sz => va_Qi (fun r' (_ : Unit) => r' = r) (Bw D cy (va_A (wX8 cy g ua us ud ut un ub ue) sz) (wX8 cy g ua us ud ut' un ub ue)) (va_A (wX8 cy g ua us ud ut un ub ue) sz)) (by decide) rfl (Nat.le_of_ble_eq_true rfl) ?_
  intro p e s m below meth c A C0 hAe ls hl hP hD hS
  have e1 : MQ below ((fun sz => va_Qi (fun r' (_ : Unit) => r' = r) (Bw D cy (va_A (wX8 cy g ua us ud ut un ub ue) sz) (wX8 cy g ua us ud ut' un ub ue)) (va_A (wX8 cy g ua us ud ut un ub ue) sz)) s.heap.size) [.ref (g 899)].toArray s 0 0 A = QI below [.ref (g 899)].toArray s A D cy (wX8 cy g ua us ud ut' un ub ue) r := by rw [hAe]; rfl
  rw [e1]
  clear e1 hAe
  obtain ⟨hx, hb, hr, hml, hown, hts, hlocks, hK, hA⟩ := id C0
  have hl : lv_has ls 1 [(0, .ref (g 899))] := hl
  rw [f_X8_again] at h
  refine lv_aload_n hx hb dX8_again_0 rfl (lv_at hl 0 rfl) ?_
  refine va_get (D := D) (ci := 7) (v := .ref (g 799)) (C := RX8) (T := TX8) (N := 7) hx hb hts ki_X8_again_X8 hown hK hP 0 rfl rfl 3 (by decide) (hts _ k_X8_again_0) (fun _ h9 => h9) rfl dX8_again_1 ?_
  obtain ⟨r2, ut1, e3, h⟩ := bd2_some h
  refine x_callVI (As := []) (rest := []) (n := 0) ⟨hx, hb, hml, hown, hts⟩ (c_X7_restart l D cy g ut r2 ut1 e3) gX8_again_X7_restart rfl hd_X7_restart ⟨Nat.le_of_ble_eq_true rfl, Nat.le_of_ble_eq_true rfl⟩ ⟨rfl, rfl⟩ hK (sp8_X7 cy g ua us ud ut un ub ue) (sp8_X7 cy g ua us ud ut1 un ub ue) hP hD hS hA 0 rfl rfl rfl hl.1 rfl (Nat.le_of_ble_eq_true rfl) dX8_again_4 ⟨Nat.zero_le _, Nat.zero_le _⟩ (fun H locs hP hD hS => ?_)
  clear e3
  cases h
  exact x_iret hx hb hr hlocks hK hP hD hS dX8_again_7 rfl rfl
theorem k_X8_note_0 : Cond.fieldLink RX8 42 "FeatherHall" "notebook" "LFeatherHall$Notebook;" ∈ wsX8_note := (List.mem_cons_of_mem _ (List.mem_append_left _ (List.mem_append_left _ (List.mem_of_getElem? (i := 0) rfl))))
theorem ki_X8_note_X8 : ∀ w ∈ u_ws RX8 TX8 7, w ∈ wsX8_note := fun _ hh => (List.mem_cons_of_mem _ (List.mem_append_left _ (List.mem_append_right _ hh)))
theorem hd_X8_note : yX8_note.cls = RX8 ∧ yX8_note.cls ≠ "java/lang/invoke/MethodHandle" ∧ yX8_note.cls ≠ "java/lang/invoke/VarHandle" ∧ (parseMethodDescriptor yX8_note.desc).map (fun d => d.parameters.length) = some 3 := by decide +kernel
set_option maxHeartbeats 4000000 in
set_option maxRecDepth 100000 in
theorem c_X8_note (l : Launch) (D : va_G) (cy : Nat → ClassId) (g : Nat → Nat) (ua : St) (us : St) (ud : St) (ut : St) (un : St) (ub : St) (ue : St) (p0 : Int32) (p1 : Int32) (p2 : Int32) (r : Int32) (un' : St) (h : f_X8_note p0 p1 p2 un = some (r, un')) : CtI l yX8_note wsX8_note (rmH 1) [.ref (g 899), .int p0, .int p1, .int p2] D cy (wX8 cy g ua us ud ut un ub ue) (wX8 cy g ua us ud ut un' ub ue) r := by
  refine ct_enter (D := D) (cy := cy) (cc := cX8_note) (maxL := 4) (ret := (some .int)) (w := wX8 cy g ua us ud ut un ub ue) (Qc := fun sz => va_Qi (fun r' (_ : Unit) => r' = r) (Bw D cy (va_A (wX8 cy g ua us ud ut un ub ue) sz) (wX8 cy g ua us ud ut un' ub ue)) (va_A (wX8 cy g ua us ud ut un ub ue) sz)) (by decide) rfl (Nat.le_of_ble_eq_true rfl) ?_
  intro p e s m below meth c A C0 hAe ls hl hP hD hS
  have e1 : MQ below ((fun sz => va_Qi (fun r' (_ : Unit) => r' = r) (Bw D cy (va_A (wX8 cy g ua us ud ut un ub ue) sz) (wX8 cy g ua us ud ut un' ub ue)) (va_A (wX8 cy g ua us ud ut un ub ue) sz)) s.heap.size) [.ref (g 899), .int p0, .int p1, .int p2].toArray s 0 0 A = QI below [.ref (g 899), .int p0, .int p1, .int p2].toArray s A D cy (wX8 cy g ua us ud ut un' ub ue) r := by rw [hAe]; rfl
  rw [e1]
  clear e1 hAe
  obtain ⟨hx, hb, hr, hml, hown, hts, hlocks, hK, hA⟩ := id C0
  have hl : lv_has ls 4 [(0, .ref (g 899)), (1, .int p0), (2, .int p1), (3, .int p2)] := hl
  rw [f_X8_note] at h
  refine lv_iload_n hx hb dX8_note_0 rfl (lv_at hl 1 rfl) ?_
  refine lv_iconst (v := -1) hx hb dX8_note_1 (by decide) ?_
  refine lv_iconst (v := 3) hx hb dX8_note_2 (by decide) ?_
  obtain ⟨r1, e2, h⟩ := bd_some h
  refine x_callSI (As := [.int p0, .int (-1 : Int32), .int (3 : Int32)]) (rest := []) (n := 3) ⟨hx, hb, hml, hown, hts⟩ (c_X8_isWithin l D cy  p0 (-1 : Int32) (3 : Int32) r1 e2) gX8_note_X8_isWithin rfl hd_X8_isWithin ⟨Nat.le_of_ble_eq_true rfl, Nat.le_of_ble_eq_true rfl⟩ ⟨rfl, rfl⟩ hK (sp_nil _) (sp_nil _) hP hD hS hA rfl hl.1 rfl (Nat.le_of_ble_eq_true rfl) dX8_note_3 ⟨Nat.zero_le _, Nat.zero_le _⟩ (fun H locs hP hD hS => ?_)
  clear e2
  refine x_if_eq (tgt := 18) hx hb dX8_note_6 (by decide) h (fun _ h => ?_) (fun _ h => ?_)
  · refine lv_bipush (v := -3) hx hb dX8_note_18 (by decide) ?_
    cases h
    exact x_iret hx hb hr hlocks hK hP hD hS dX8_note_20 rfl rfl
  · refine lv_iload_n hx hb dX8_note_9 rfl (lv_at hl 2 rfl) ?_
    refine lv_iconst (v := -1) hx hb dX8_note_10 (by decide) ?_
    refine lv_iconst (v := 3) hx hb dX8_note_11 (by decide) ?_
    obtain ⟨r3, e4, h⟩ := bd_some h
    refine x_callSI (As := [.int p1, .int (-1 : Int32), .int (3 : Int32)]) (rest := []) (n := 3) ⟨hx, hb, hml, hown, hts⟩ (c_X8_isWithin l D cy  p1 (-1 : Int32) (3 : Int32) r3 e4) gX8_note_X8_isWithin rfl hd_X8_isWithin ⟨Nat.le_of_ble_eq_true rfl, Nat.le_of_ble_eq_true rfl⟩ ⟨rfl, rfl⟩ hK (sp_nil _) (sp_nil _) hP hD hS hA rfl hl.1 rfl (Nat.le_of_ble_eq_true rfl) dX8_note_12 ⟨Nat.zero_le _, Nat.zero_le _⟩ (fun H locs hP hD hS => ?_)
    clear e4
    refine x_if_ne (tgt := 21) hx hb dX8_note_15 (by decide) h (fun _ h => ?_) (fun _ h => ?_)
    · refine lv_bipush (v := -3) hx hb dX8_note_18 (by decide) ?_
      cases h
      exact x_iret hx hb hr hlocks hK hP hD hS dX8_note_20 rfl rfl
    · refine lv_aload_n hx hb dX8_note_21 rfl (lv_at hl 0 rfl) ?_
      refine va_get (D := D) (ci := 7) (v := .ref (g 599)) (C := RX8) (T := TX8) (N := 7) hx hb hts ki_X8_note_X8 hown hK hP 0 rfl rfl 4 (by decide) (hts _ k_X8_note_0) (fun _ h9 => h9) rfl dX8_note_22 ?_
      refine lv_iload_n hx hb dX8_note_25 rfl (lv_at hl 1 rfl) ?_
      refine lv_iload_n hx hb dX8_note_26 rfl (lv_at hl 2 rfl) ?_
      refine lv_iload_n hx hb dX8_note_27 rfl (lv_at hl 3 rfl) ?_
      obtain ⟨r6, un5, e7, h⟩ := bd2_some h
      refine x_callVI (As := [.int p0, .int p1, .int p2]) (rest := []) (n := 3) ⟨hx, hb, hml, hown, hts⟩ (c_X5_add l D cy g un p0 p1 p2 r6 un5 e7) gX8_note_X5_add rfl hd_X5_add ⟨Nat.le_of_ble_eq_true rfl, Nat.le_of_ble_eq_true rfl⟩ ⟨rfl, rfl⟩ hK (sp8_X5 cy g ua us ud ut un ub ue) (sp8_X5 cy g ua us ud ut un5 ub ue) hP hD hS hA 0 rfl rfl rfl hl.1 rfl (Nat.le_of_ble_eq_true rfl) dX8_note_28 ⟨Nat.zero_le _, Nat.zero_le _⟩ (fun H locs hP hD hS => ?_)
      clear e7
      cases h
      exact x_iret hx hb hr hlocks hK hP hD hS dX8_note_31 rfl rfl
theorem hd_X8_isZone : yX8_isZone.cls ≠ "java/lang/invoke/MethodHandle" ∧ yX8_isZone.cls ≠ "java/lang/invoke/VarHandle" ∧ (parseMethodDescriptor yX8_isZone.desc).map (fun d => d.parameters.length) = some 1 := by decide +kernel
set_option maxHeartbeats 4000000 in
set_option maxRecDepth 100000 in
theorem c_X8_isZone (l : Launch) (D : va_G) (cy : Nat → ClassId) (p0 : Int32) (r : Int32) (h : f_X8_isZone p0 = some r) : CtI l yX8_isZone wsX8_isZone (rmH 1) [.int p0] D cy (([] : va_W)) (([] : va_W)) r := by
  refine ct_enter (D := D) (cy := cy) (cc := cX8_isZone) (maxL := 1) (ret := (some .boolean)) (w := ([] : va_W)) (Qc := fun sz => va_Qi (fun r' (_ : Unit) => r' = r) (Bw D cy (va_A (([] : va_W)) sz) (([] : va_W))) (va_A (([] : va_W)) sz)) (by decide) rfl (Nat.le_of_ble_eq_true rfl) ?_
  intro p e s m below meth c A C0 hAe ls hl hP hD hS
  have e1 : MQ below ((fun sz => va_Qi (fun r' (_ : Unit) => r' = r) (Bw D cy (va_A (([] : va_W)) sz) (([] : va_W))) (va_A (([] : va_W)) sz)) s.heap.size) [.int p0].toArray s 0 0 A = QI below [.int p0].toArray s A D cy (([] : va_W)) r := by rw [hAe]; rfl
  rw [e1]
  clear e1 hAe
  obtain ⟨hx, hb, hr, hml, hown, hts, hlocks, hK, hA⟩ := id C0
  have hl : lv_has ls 1 [(0, .int p0)] := hl
  rw [f_X8_isZone] at h
  refine lv_iload_n hx hb dX8_isZone_0 rfl (lv_at hl 0 rfl) ?_
  refine lv_iconst (v := 0) hx hb dX8_isZone_1 (by decide) ?_
  refine lv_iconst (v := 3) hx hb dX8_isZone_2 (by decide) ?_
  obtain ⟨r1, e2, h⟩ := bd_some h
  refine x_callSI (As := [.int p0, .int (0 : Int32), .int (3 : Int32)]) (rest := []) (n := 3) ⟨hx, hb, hml, hown, hts⟩ (c_X8_isWithin l D cy  p0 (0 : Int32) (3 : Int32) r1 e2) gX8_isZone_X8_isWithin rfl hd_X8_isWithin ⟨Nat.le_of_ble_eq_true rfl, Nat.le_of_ble_eq_true rfl⟩ ⟨rfl, rfl⟩ hK (sp_nil _) (sp_nil _) hP hD hS hA rfl hl.1 rfl (Nat.le_of_ble_eq_true rfl) dX8_isZone_3 ⟨Nat.zero_le _, Nat.zero_le _⟩ (fun H locs hP hD hS => ?_)
  clear e2
  obtain ⟨hz, h⟩ := bk_some h
  cases h
  exact x_zret hx hb hr hlocks hK hP hD hS hz dX8_isZone_6 rfl rfl
theorem k_X8_tally_0 : Cond.fieldLink RX8 42 "FeatherHall" "notebook" "LFeatherHall$Notebook;" ∈ wsX8_tally := (List.mem_cons_of_mem _ (List.mem_append_left _ (List.mem_append_left _ (List.mem_of_getElem? (i := 0) rfl))))
theorem ki_X8_tally_X8 : ∀ w ∈ u_ws RX8 TX8 7, w ∈ wsX8_tally := fun _ hh => (List.mem_cons_of_mem _ (List.mem_append_left _ (List.mem_append_right _ hh)))
theorem hd_X8_tally : yX8_tally.cls = RX8 ∧ yX8_tally.cls ≠ "java/lang/invoke/MethodHandle" ∧ yX8_tally.cls ≠ "java/lang/invoke/VarHandle" ∧ (parseMethodDescriptor yX8_tally.desc).map (fun d => d.parameters.length) = some 3 := by decide +kernel
set_option maxHeartbeats 4000000 in
set_option maxRecDepth 100000 in
theorem c_X8_tally (l : Launch) (D : va_G) (cy : Nat → ClassId) (g : Nat → Nat) (ua : St) (us : St) (ud : St) (ut : St) (un : St) (ub : St) (ue : St) (p0 : Int32) (p1 : Int32) (p2 : Int32) (r : Int32) (h : f_X8_tally un p0 p1 p2 = some r) : CtI l yX8_tally wsX8_tally (rmH 2) [.ref (g 899), .int p0, .int p1, .int p2] D cy (wX8 cy g ua us ud ut un ub ue) (wX8 cy g ua us ud ut un ub ue) r := by
  refine ct_enter (D := D) (cy := cy) (cc := cX8_tally) (maxL := 4) (ret := (some .int)) (w := wX8 cy g ua us ud ut un ub ue) (Qc := fun sz => va_Qi (fun r' (_ : Unit) => r' = r) (Bw D cy (va_A (wX8 cy g ua us ud ut un ub ue) sz) (wX8 cy g ua us ud ut un ub ue)) (va_A (wX8 cy g ua us ud ut un ub ue) sz)) (by decide) rfl (Nat.le_of_ble_eq_true rfl) ?_
  intro p e s m below meth c A C0 hAe ls hl hP hD hS
  have e1 : MQ below ((fun sz => va_Qi (fun r' (_ : Unit) => r' = r) (Bw D cy (va_A (wX8 cy g ua us ud ut un ub ue) sz) (wX8 cy g ua us ud ut un ub ue)) (va_A (wX8 cy g ua us ud ut un ub ue) sz)) s.heap.size) [.ref (g 899), .int p0, .int p1, .int p2].toArray s 0 0 A = QI below [.ref (g 899), .int p0, .int p1, .int p2].toArray s A D cy (wX8 cy g ua us ud ut un ub ue) r := by rw [hAe]; rfl
  rw [e1]
  clear e1 hAe
  obtain ⟨hx, hb, hr, hml, hown, hts, hlocks, hK, hA⟩ := id C0
  have hl : lv_has ls 4 [(0, .ref (g 899)), (1, .int p0), (2, .int p1), (3, .int p2)] := hl
  rw [f_X8_tally] at h
  refine lv_iload_n hx hb dX8_tally_0 rfl (lv_at hl 1 rfl) ?_
  obtain ⟨r1, e2, h⟩ := bd_some h
  refine x_callSI (As := [.int p0]) (rest := []) (n := 1) ⟨hx, hb, hml, hown, hts⟩ (c_X8_isZone l D cy  p0 r1 e2) gX8_tally_X8_isZone rfl hd_X8_isZone ⟨Nat.le_of_ble_eq_true rfl, Nat.le_of_ble_eq_true rfl⟩ ⟨rfl, rfl⟩ hK (sp_nil _) (sp_nil _) hP hD hS hA rfl hl.1 rfl (Nat.le_of_ble_eq_true rfl) dX8_tally_1 ⟨Nat.zero_le _, Nat.zero_le _⟩ (fun H locs hP hD hS => ?_)
  clear e2
  refine x_if_eq (tgt := 14) hx hb dX8_tally_4 (by decide) h (fun _ h => ?_) (fun _ h => ?_)
  · refine lv_bipush (v := -2) hx hb dX8_tally_14 (by decide) ?_
    cases h
    exact x_iret hx hb hr hlocks hK hP hD hS dX8_tally_16 rfl rfl
  · refine lv_iload_n hx hb dX8_tally_7 rfl (lv_at hl 2 rfl) ?_
    obtain ⟨r3, e4, h⟩ := bd_some h
    refine x_callSI (As := [.int p1]) (rest := []) (n := 1) ⟨hx, hb, hml, hown, hts⟩ (c_X8_isKind l D cy  p1 r3 e4) gX8_tally_X8_isKind rfl hd_X8_isKind ⟨Nat.le_of_ble_eq_true rfl, Nat.le_of_ble_eq_true rfl⟩ ⟨rfl, rfl⟩ hK (sp_nil _) (sp_nil _) hP hD hS hA rfl hl.1 rfl (Nat.le_of_ble_eq_true rfl) dX8_tally_8 ⟨Nat.zero_le _, Nat.zero_le _⟩ (fun H locs hP hD hS => ?_)
    clear e4
    refine x_if_ne (tgt := 17) hx hb dX8_tally_11 (by decide) h (fun _ h => ?_) (fun _ h => ?_)
    · refine lv_bipush (v := -2) hx hb dX8_tally_14 (by decide) ?_
      cases h
      exact x_iret hx hb hr hlocks hK hP hD hS dX8_tally_16 rfl rfl
    · refine lv_iload_n hx hb dX8_tally_17 rfl (lv_at hl 3 rfl) ?_
      refine lv_iconst (v := 0) hx hb dX8_tally_18 (by decide) ?_
      refine lv_iconst (v := 3) hx hb dX8_tally_19 (by decide) ?_
      obtain ⟨r5, e6, h⟩ := bd_some h
      refine x_callSI (As := [.int p2, .int (0 : Int32), .int (3 : Int32)]) (rest := []) (n := 3) ⟨hx, hb, hml, hown, hts⟩ (c_X8_isWithin l D cy  p2 (0 : Int32) (3 : Int32) r5 e6) gX8_tally_X8_isWithin rfl hd_X8_isWithin ⟨Nat.le_of_ble_eq_true rfl, Nat.le_of_ble_eq_true rfl⟩ ⟨rfl, rfl⟩ hK (sp_nil _) (sp_nil _) hP hD hS hA rfl hl.1 rfl (Nat.le_of_ble_eq_true rfl) dX8_tally_20 ⟨Nat.zero_le _, Nat.zero_le _⟩ (fun H locs hP hD hS => ?_)
      clear e6
      refine x_if_ne (tgt := 29) hx hb dX8_tally_23 (by decide) h (fun _ h => ?_) (fun _ h => ?_)
      · refine lv_bipush (v := -3) hx hb dX8_tally_26 (by decide) ?_
        cases h
        exact x_iret hx hb hr hlocks hK hP hD hS dX8_tally_28 rfl rfl
      · refine lv_aload_n hx hb dX8_tally_29 rfl (lv_at hl 0 rfl) ?_
        refine va_get (D := D) (ci := 7) (v := .ref (g 599)) (C := RX8) (T := TX8) (N := 7) hx hb hts ki_X8_tally_X8 hown hK hP 0 rfl rfl 4 (by decide) (hts _ k_X8_tally_0) (fun _ h9 => h9) rfl dX8_tally_30 ?_
        refine lv_iload_n hx hb dX8_tally_33 rfl (lv_at hl 1 rfl) ?_
        refine lv_iload_n hx hb dX8_tally_34 rfl (lv_at hl 2 rfl) ?_
        refine lv_iload_n hx hb dX8_tally_35 rfl (lv_at hl 3 rfl) ?_
        obtain ⟨r7, e8, h⟩ := bd_some h
        refine x_callVI (As := [.int p0, .int p1, .int p2]) (rest := []) (n := 3) ⟨hx, hb, hml, hown, hts⟩ (c_X5_read l D cy g un p0 p1 p2 r7 e8) gX8_tally_X5_read rfl hd_X5_read ⟨Nat.le_of_ble_eq_true rfl, Nat.le_of_ble_eq_true rfl⟩ ⟨rfl, rfl⟩ hK (sp8_X5 cy g ua us ud ut un ub ue) (sp8_X5 cy g ua us ud ut un ub ue) hP hD hS hA 0 rfl rfl rfl hl.1 rfl (Nat.le_of_ble_eq_true rfl) dX8_tally_36 ⟨Nat.zero_le _, Nat.zero_le _⟩ (fun H locs hP hD hS => ?_)
        clear e8
        cases h
        exact x_iret hx hb hr hlocks hK hP hD hS dX8_tally_39 rfl rfl
theorem k_X8_habit_0 : Cond.fieldLink RX8 42 "FeatherHall" "notebook" "LFeatherHall$Notebook;" ∈ wsX8_habit := (List.mem_cons_of_mem _ (List.mem_append_left _ (List.mem_append_left _ (List.mem_append_left _ (List.mem_of_getElem? (i := 0) rfl)))))
theorem ki_X8_habit_X8 : ∀ w ∈ u_ws RX8 TX8 7, w ∈ wsX8_habit := fun _ hh => (List.mem_cons_of_mem _ (List.mem_append_left _ (List.mem_append_right _ hh)))
theorem hd_X8_habit : yX8_habit.cls = RX8 ∧ yX8_habit.cls ≠ "java/lang/invoke/MethodHandle" ∧ yX8_habit.cls ≠ "java/lang/invoke/VarHandle" ∧ (parseMethodDescriptor yX8_habit.desc).map (fun d => d.parameters.length) = some 2 := by decide +kernel
set_option maxHeartbeats 4000000 in
set_option maxRecDepth 100000 in
theorem c_X8_habit (l : Launch) (D : va_G) (cy : Nat → ClassId) (g : Nat → Nat) (ua : St) (us : St) (ud : St) (ut : St) (un : St) (ub : St) (ue : St) (p0 : Int32) (p1 : Int32) (r : Int32) (h : f_X8_habit un p0 p1 = some r) : CtI l yX8_habit wsX8_habit (rmH 3) [.ref (g 899), .int p0, .int p1] D cy (wX8 cy g ua us ud ut un ub ue) (wX8 cy g ua us ud ut un ub ue) r := by
  refine ct_enter (D := D) (cy := cy) (cc := cX8_habit) (maxL := 3) (ret := (some .int)) (w := wX8 cy g ua us ud ut un ub ue) (Qc := fun sz => va_Qi (fun r' (_ : Unit) => r' = r) (Bw D cy (va_A (wX8 cy g ua us ud ut un ub ue) sz) (wX8 cy g ua us ud ut un ub ue)) (va_A (wX8 cy g ua us ud ut un ub ue) sz)) (by decide) rfl (Nat.le_of_ble_eq_true rfl) ?_
  intro p e s m below meth c A C0 hAe ls hl hP hD hS
  have e1 : MQ below ((fun sz => va_Qi (fun r' (_ : Unit) => r' = r) (Bw D cy (va_A (wX8 cy g ua us ud ut un ub ue) sz) (wX8 cy g ua us ud ut un ub ue)) (va_A (wX8 cy g ua us ud ut un ub ue) sz)) s.heap.size) [.ref (g 899), .int p0, .int p1].toArray s 0 0 A = QI below [.ref (g 899), .int p0, .int p1].toArray s A D cy (wX8 cy g ua us ud ut un ub ue) r := by rw [hAe]; rfl
  rw [e1]
  clear e1 hAe
  obtain ⟨hx, hb, hr, hml, hown, hts, hlocks, hK, hA⟩ := id C0
  have hl : lv_has ls 3 [(0, .ref (g 899)), (1, .int p0), (2, .int p1)] := hl
  rw [f_X8_habit] at h
  refine lv_iload_n hx hb dX8_habit_0 rfl (lv_at hl 1 rfl) ?_
  obtain ⟨r1, e2, h⟩ := bd_some h
  refine x_callSI (As := [.int p0]) (rest := []) (n := 1) ⟨hx, hb, hml, hown, hts⟩ (c_X8_isZone l D cy  p0 r1 e2) gX8_habit_X8_isZone rfl hd_X8_isZone ⟨Nat.le_of_ble_eq_true rfl, Nat.le_of_ble_eq_true rfl⟩ ⟨rfl, rfl⟩ hK (sp_nil _) (sp_nil _) hP hD hS hA rfl hl.1 rfl (Nat.le_of_ble_eq_true rfl) dX8_habit_1 ⟨Nat.zero_le _, Nat.zero_le _⟩ (fun H locs hP hD hS => ?_)
  clear e2
  refine x_if_eq (tgt := 14) hx hb dX8_habit_4 (by decide) h (fun _ h => ?_) (fun _ h => ?_)
  · refine lv_bipush (v := -2) hx hb dX8_habit_14 (by decide) ?_
    cases h
    exact x_iret hx hb hr hlocks hK hP hD hS dX8_habit_16 rfl rfl
  · refine lv_iload_n hx hb dX8_habit_7 rfl (lv_at hl 2 rfl) ?_
    obtain ⟨r3, e4, h⟩ := bd_some h
    refine x_callSI (As := [.int p1]) (rest := []) (n := 1) ⟨hx, hb, hml, hown, hts⟩ (c_X8_isKind l D cy  p1 r3 e4) gX8_habit_X8_isKind rfl hd_X8_isKind ⟨Nat.le_of_ble_eq_true rfl, Nat.le_of_ble_eq_true rfl⟩ ⟨rfl, rfl⟩ hK (sp_nil _) (sp_nil _) hP hD hS hA rfl hl.1 rfl (Nat.le_of_ble_eq_true rfl) dX8_habit_8 ⟨Nat.zero_le _, Nat.zero_le _⟩ (fun H locs hP hD hS => ?_)
    clear e4
    refine x_if_ne (tgt := 17) hx hb dX8_habit_11 (by decide) h (fun _ h => ?_) (fun _ h => ?_)
    · refine lv_bipush (v := -2) hx hb dX8_habit_14 (by decide) ?_
      cases h
      exact x_iret hx hb hr hlocks hK hP hD hS dX8_habit_16 rfl rfl
    · refine lv_aload_n hx hb dX8_habit_17 rfl (lv_at hl 0 rfl) ?_
      refine va_get (D := D) (ci := 7) (v := .ref (g 599)) (C := RX8) (T := TX8) (N := 7) hx hb hts ki_X8_habit_X8 hown hK hP 0 rfl rfl 4 (by decide) (hts _ k_X8_habit_0) (fun _ h9 => h9) rfl dX8_habit_18 ?_
      refine lv_iload_n hx hb dX8_habit_21 rfl (lv_at hl 1 rfl) ?_
      refine lv_iload_n hx hb dX8_habit_22 rfl (lv_at hl 2 rfl) ?_
      obtain ⟨r5, e6, h⟩ := bd_some h
      refine x_callVI (As := [.int p0, .int p1]) (rest := []) (n := 2) ⟨hx, hb, hml, hown, hts⟩ (c_X5_isPastChance l D cy g un p0 p1 r5 e6) gX8_habit_X5_isPastChance rfl hd_X5_isPastChance ⟨Nat.le_of_ble_eq_true rfl, Nat.le_of_ble_eq_true rfl⟩ ⟨rfl, rfl⟩ hK (sp8_X5 cy g ua us ud ut un ub ue) (sp8_X5 cy g ua us ud ut un ub ue) hP hD hS hA 0 rfl rfl rfl hl.1 rfl (Nat.le_of_ble_eq_true rfl) dX8_habit_23 ⟨Nat.zero_le _, Nat.zero_le _⟩ (fun H locs hP hD hS => ?_)
      clear e6
      refine x_if_eq (tgt := 33) hx hb dX8_habit_26 (by decide) h (fun _ h => ?_) (fun _ h => ?_)
      · refine lv_iconst (v := 0) hx hb dX8_habit_33 (by decide) ?_
        cases h
        exact x_iret hx hb hr hlocks hK hP hD hS dX8_habit_34 rfl rfl
      · refine lv_iconst (v := 1) hx hb dX8_habit_29 (by decide) ?_
        refine lv_goto (tgt := 34) hx hb dX8_habit_30 (by decide) ?_
        cases h
        exact x_iret hx hb hr hlocks hK hP hD hS dX8_habit_34 rfl rfl
theorem k_X8_strongest_0 : Cond.fieldLink RX8 42 "FeatherHall" "notebook" "LFeatherHall$Notebook;" ∈ wsX8_strongest := (List.mem_cons_of_mem _ (List.mem_append_left _ (List.mem_append_left _ (List.mem_append_left _ (List.mem_of_getElem? (i := 0) rfl)))))
theorem ki_X8_strongest_X8 : ∀ w ∈ u_ws RX8 TX8 7, w ∈ wsX8_strongest := fun _ hh => (List.mem_cons_of_mem _ (List.mem_append_left _ (List.mem_append_right _ hh)))
theorem hd_X8_strongest : yX8_strongest.cls = RX8 ∧ yX8_strongest.cls ≠ "java/lang/invoke/MethodHandle" ∧ yX8_strongest.cls ≠ "java/lang/invoke/VarHandle" ∧ (parseMethodDescriptor yX8_strongest.desc).map (fun d => d.parameters.length) = some 0 := by decide +kernel
set_option maxHeartbeats 4000000 in
set_option maxRecDepth 100000 in
theorem c_X8_strongest (l : Launch) (D : va_G) (cy : Nat → ClassId) (g : Nat → Nat) (ua : St) (us : St) (ud : St) (ut : St) (un : St) (ub : St) (ue : St) (r : Int32) (h : f_X8_strongest un = some r) : CtI l yX8_strongest wsX8_strongest (rmH 4) [.ref (g 899)] D cy (wX8 cy g ua us ud ut un ub ue) (wX8 cy g ua us ud ut un ub ue) r := by
  refine ct_enter (D := D) (cy := cy) (cc := cX8_strongest) (maxL := 1) (ret := (some .int)) (w := wX8 cy g ua us ud ut un ub ue) (Qc := fun sz => va_Qi (fun r' (_ : Unit) => r' = r) (Bw D cy (va_A (wX8 cy g ua us ud ut un ub ue) sz) (wX8 cy g ua us ud ut un ub ue)) (va_A (wX8 cy g ua us ud ut un ub ue) sz)) (by decide) rfl (Nat.le_of_ble_eq_true rfl) ?_
  intro p e s m below meth c A C0 hAe ls hl hP hD hS
  have e1 : MQ below ((fun sz => va_Qi (fun r' (_ : Unit) => r' = r) (Bw D cy (va_A (wX8 cy g ua us ud ut un ub ue) sz) (wX8 cy g ua us ud ut un ub ue)) (va_A (wX8 cy g ua us ud ut un ub ue) sz)) s.heap.size) [.ref (g 899)].toArray s 0 0 A = QI below [.ref (g 899)].toArray s A D cy (wX8 cy g ua us ud ut un ub ue) r := by rw [hAe]; rfl
  rw [e1]
  clear e1 hAe
  obtain ⟨hx, hb, hr, hml, hown, hts, hlocks, hK, hA⟩ := id C0
  have hl : lv_has ls 1 [(0, .ref (g 899))] := hl
  rw [f_X8_strongest] at h
  refine lv_aload_n hx hb dX8_strongest_0 rfl (lv_at hl 0 rfl) ?_
  refine va_get (D := D) (ci := 7) (v := .ref (g 599)) (C := RX8) (T := TX8) (N := 7) hx hb hts ki_X8_strongest_X8 hown hK hP 0 rfl rfl 4 (by decide) (hts _ k_X8_strongest_0) (fun _ h9 => h9) rfl dX8_strongest_1 ?_
  obtain ⟨r1, e2, h⟩ := bd_some h
  refine x_callVI (As := []) (rest := []) (n := 0) ⟨hx, hb, hml, hown, hts⟩ (c_X5_strongestHabit l D cy g un r1 e2) gX8_strongest_X5_strongestHabit rfl hd_X5_strongestHabit ⟨Nat.le_of_ble_eq_true rfl, Nat.le_of_ble_eq_true rfl⟩ ⟨rfl, rfl⟩ hK (sp8_X5 cy g ua us ud ut un ub ue) (sp8_X5 cy g ua us ud ut un ub ue) hP hD hS hA 0 rfl rfl rfl hl.1 rfl (Nat.le_of_ble_eq_true rfl) dX8_strongest_4 ⟨Nat.zero_le _, Nat.zero_le _⟩ (fun H locs hP hD hS => ?_)
  clear e2
  cases h
  exact x_iret hx hb hr hlocks hK hP hD hS dX8_strongest_7 rfl rfl
theorem k_X8_cost_0 : Cond.fieldLink RX8 49 "FeatherHall" "basket" "LFeatherHall$Basket;" ∈ wsX8_cost := (List.mem_cons_of_mem _ (List.mem_append_left _ (List.mem_append_left _ (List.mem_of_getElem? (i := 0) rfl))))
theorem ki_X8_cost_X8 : ∀ w ∈ u_ws RX8 TX8 7, w ∈ wsX8_cost := fun _ hh => (List.mem_cons_of_mem _ (List.mem_append_left _ (List.mem_append_right _ hh)))
theorem hd_X8_cost : yX8_cost.cls = RX8 ∧ yX8_cost.cls ≠ "java/lang/invoke/MethodHandle" ∧ yX8_cost.cls ≠ "java/lang/invoke/VarHandle" ∧ (parseMethodDescriptor yX8_cost.desc).map (fun d => d.parameters.length) = some 2 := by decide +kernel
set_option maxHeartbeats 4000000 in
set_option maxRecDepth 100000 in
theorem c_X8_cost (l : Launch) (D : va_G) (cy : Nat → ClassId) (g : Nat → Nat) (ua : St) (us : St) (ud : St) (ut : St) (un : St) (ub : St) (ue : St) (p0 : Int32) (p1 : Int32) (r : Int32) (ub' : St) (h : f_X8_cost p0 p1 ub = some (r, ub')) : CtI l yX8_cost wsX8_cost (rmH 1) [.ref (g 899), .int p0, .int p1] D cy (wX8 cy g ua us ud ut un ub ue) (wX8 cy g ua us ud ut un ub' ue) r := by
  refine ct_enter (D := D) (cy := cy) (cc := cX8_cost) (maxL := 3) (ret := (some .int)) (w := wX8 cy g ua us ud ut un ub ue) (Qc := fun sz => va_Qi (fun r' (_ : Unit) => r' = r) (Bw D cy (va_A (wX8 cy g ua us ud ut un ub ue) sz) (wX8 cy g ua us ud ut un ub' ue)) (va_A (wX8 cy g ua us ud ut un ub ue) sz)) (by decide) rfl (Nat.le_of_ble_eq_true rfl) ?_
  intro p e s m below meth c A C0 hAe ls hl hP hD hS
  have e1 : MQ below ((fun sz => va_Qi (fun r' (_ : Unit) => r' = r) (Bw D cy (va_A (wX8 cy g ua us ud ut un ub ue) sz) (wX8 cy g ua us ud ut un ub' ue)) (va_A (wX8 cy g ua us ud ut un ub ue) sz)) s.heap.size) [.ref (g 899), .int p0, .int p1].toArray s 0 0 A = QI below [.ref (g 899), .int p0, .int p1].toArray s A D cy (wX8 cy g ua us ud ut un ub' ue) r := by rw [hAe]; rfl
  rw [e1]
  clear e1 hAe
  obtain ⟨hx, hb, hr, hml, hown, hts, hlocks, hK, hA⟩ := id C0
  have hl : lv_has ls 3 [(0, .ref (g 899)), (1, .int p0), (2, .int p1)] := hl
  rw [f_X8_cost] at h
  refine lv_iload_n hx hb dX8_cost_0 rfl (lv_at hl 1 rfl) ?_
  refine lv_iconst (v := 0) hx hb dX8_cost_1 (by decide) ?_
  refine lv_iconst (v := 1) hx hb dX8_cost_2 (by decide) ?_
  obtain ⟨r1, e2, h⟩ := bd_some h
  refine x_callSI (As := [.int p0, .int (0 : Int32), .int (1 : Int32)]) (rest := []) (n := 3) ⟨hx, hb, hml, hown, hts⟩ (c_X8_isWithin l D cy  p0 (0 : Int32) (1 : Int32) r1 e2) gX8_cost_X8_isWithin rfl hd_X8_isWithin ⟨Nat.le_of_ble_eq_true rfl, Nat.le_of_ble_eq_true rfl⟩ ⟨rfl, rfl⟩ hK (sp_nil _) (sp_nil _) hP hD hS hA rfl hl.1 rfl (Nat.le_of_ble_eq_true rfl) dX8_cost_3 ⟨Nat.zero_le _, Nat.zero_le _⟩ (fun H locs hP hD hS => ?_)
  clear e2
  refine x_if_ne (tgt := 12) hx hb dX8_cost_6 (by decide) h (fun _ h => ?_) (fun _ h => ?_)
  · refine lv_bipush (v := -3) hx hb dX8_cost_9 (by decide) ?_
    cases h
    exact x_iret hx hb hr hlocks hK hP hD hS dX8_cost_11 rfl rfl
  · refine lv_iload_n hx hb dX8_cost_12 rfl (lv_at hl 1 rfl) ?_
    refine x_if_ne (tgt := 41) hx hb dX8_cost_13 (by decide) h (fun _ h => ?_) (fun _ h => ?_)
    · refine lv_iload_n hx hb dX8_cost_16 rfl (lv_at hl 2 rfl) ?_
      refine lv_iconst (v := 1) hx hb dX8_cost_17 (by decide) ?_
      refine lv_sipush (v := 999) hx hb dX8_cost_18 (by decide) ?_
      obtain ⟨r3, e4, h⟩ := bd_some h
      refine x_callSI (As := [.int p1, .int (1 : Int32), .int (999 : Int32)]) (rest := []) (n := 3) ⟨hx, hb, hml, hown, hts⟩ (c_X8_isWithin l D cy  p1 (1 : Int32) (999 : Int32) r3 e4) gX8_cost_X8_isWithin rfl hd_X8_isWithin ⟨Nat.le_of_ble_eq_true rfl, Nat.le_of_ble_eq_true rfl⟩ ⟨rfl, rfl⟩ hK (sp_nil _) (sp_nil _) hP hD hS hA rfl hl.1 rfl (Nat.le_of_ble_eq_true rfl) dX8_cost_21 ⟨Nat.zero_le _, Nat.zero_le _⟩ (fun H locs hP hD hS => ?_)
      clear e4
      refine x_if_eq (tgt := 38) hx hb dX8_cost_24 (by decide) h (fun _ h => ?_) (fun _ h => ?_)
      · refine lv_bipush (v := -3) hx hb dX8_cost_38 (by decide) ?_
        cases h
        exact x_iret hx hb hr hlocks hK hP hD hS dX8_cost_40 rfl rfl
      · refine lv_aload_n hx hb dX8_cost_27 rfl (lv_at hl 0 rfl) ?_
        refine va_get (D := D) (ci := 7) (v := .ref (g 199)) (C := RX8) (T := TX8) (N := 7) hx hb hts ki_X8_cost_X8 hown hK hP 0 rfl rfl 5 (by decide) (hts _ k_X8_cost_0) (fun _ h9 => h9) rfl dX8_cost_28 ?_
        refine lv_iload_n hx hb dX8_cost_31 rfl (lv_at hl 2 rfl) ?_
        obtain ⟨r6, ub5, e7, h⟩ := bd2_some h
        refine x_callVI (As := [.int p1]) (rest := []) (n := 1) ⟨hx, hb, hml, hown, hts⟩ (c_X1_setPrice l D cy g ub p1 r6 ub5 e7) gX8_cost_X1_setPrice rfl hd_X1_setPrice ⟨Nat.le_of_ble_eq_true rfl, Nat.le_of_ble_eq_true rfl⟩ ⟨rfl, rfl⟩ hK (sp8_X1 cy g ua us ud ut un ub ue) (sp8_X1 cy g ua us ud ut un ub5 ue) hP hD hS hA 0 rfl rfl rfl hl.1 rfl (Nat.le_of_ble_eq_true rfl) dX8_cost_32 ⟨Nat.zero_le _, Nat.zero_le _⟩ (fun H locs hP hD hS => ?_)
        clear e7
        refine lv_goto (tgt := 40) hx hb dX8_cost_35 (by decide) ?_
        cases h
        exact x_iret hx hb hr hlocks hK hP hD hS dX8_cost_40 rfl rfl
    · refine lv_iload_n hx hb dX8_cost_41 rfl (lv_at hl 2 rfl) ?_
      refine lv_iconst (v := 0) hx hb dX8_cost_42 (by decide) ?_
      refine lv_bipush (v := 99) hx hb dX8_cost_43 (by decide) ?_
      obtain ⟨r8, e9, h⟩ := bd_some h
      refine x_callSI (As := [.int p1, .int (0 : Int32), .int (99 : Int32)]) (rest := []) (n := 3) ⟨hx, hb, hml, hown, hts⟩ (c_X8_isWithin l D cy  p1 (0 : Int32) (99 : Int32) r8 e9) gX8_cost_X8_isWithin rfl hd_X8_isWithin ⟨Nat.le_of_ble_eq_true rfl, Nat.le_of_ble_eq_true rfl⟩ ⟨rfl, rfl⟩ hK (sp_nil _) (sp_nil _) hP hD hS hA rfl hl.1 rfl (Nat.le_of_ble_eq_true rfl) dX8_cost_45 ⟨Nat.zero_le _, Nat.zero_le _⟩ (fun H locs hP hD hS => ?_)
      clear e9
      refine x_if_eq (tgt := 62) hx hb dX8_cost_48 (by decide) h (fun _ h => ?_) (fun _ h => ?_)
      · refine lv_bipush (v := -3) hx hb dX8_cost_62 (by decide) ?_
        cases h
        exact x_iret hx hb hr hlocks hK hP hD hS dX8_cost_64 rfl rfl
      · refine lv_aload_n hx hb dX8_cost_51 rfl (lv_at hl 0 rfl) ?_
        refine va_get (D := D) (ci := 7) (v := .ref (g 199)) (C := RX8) (T := TX8) (N := 7) hx hb hts ki_X8_cost_X8 hown hK hP 0 rfl rfl 5 (by decide) (hts _ k_X8_cost_0) (fun _ h9 => h9) rfl dX8_cost_52 ?_
        refine lv_iload_n hx hb dX8_cost_55 rfl (lv_at hl 2 rfl) ?_
        obtain ⟨r11, ub10, e12, h⟩ := bd2_some h
        refine x_callVI (As := [.int p1]) (rest := []) (n := 1) ⟨hx, hb, hml, hown, hts⟩ (c_X1_setLoss l D cy g ub p1 r11 ub10 e12) gX8_cost_X1_setLoss rfl hd_X1_setLoss ⟨Nat.le_of_ble_eq_true rfl, Nat.le_of_ble_eq_true rfl⟩ ⟨rfl, rfl⟩ hK (sp8_X1 cy g ua us ud ut un ub ue) (sp8_X1 cy g ua us ud ut un ub10 ue) hP hD hS hA 0 rfl rfl rfl hl.1 rfl (Nat.le_of_ble_eq_true rfl) dX8_cost_56 ⟨Nat.zero_le _, Nat.zero_le _⟩ (fun H locs hP hD hS => ?_)
        clear e12
        refine lv_goto (tgt := 64) hx hb dX8_cost_59 (by decide) ?_
        cases h
        exact x_iret hx hb hr hlocks hK hP hD hS dX8_cost_64 rfl rfl
theorem k_X8_wear_0 : Cond.fieldLink RX8 49 "FeatherHall" "basket" "LFeatherHall$Basket;" ∈ wsX8_wear := (List.mem_cons_of_mem _ (List.mem_append_left _ (List.mem_append_left _ (List.mem_of_getElem? (i := 0) rfl))))
theorem ki_X8_wear_X8 : ∀ w ∈ u_ws RX8 TX8 7, w ∈ wsX8_wear := fun _ hh => (List.mem_cons_of_mem _ (List.mem_append_left _ (List.mem_append_right _ hh)))
theorem hd_X8_wear : yX8_wear.cls = RX8 ∧ yX8_wear.cls ≠ "java/lang/invoke/MethodHandle" ∧ yX8_wear.cls ≠ "java/lang/invoke/VarHandle" ∧ (parseMethodDescriptor yX8_wear.desc).map (fun d => d.parameters.length) = some 2 := by decide +kernel
set_option maxHeartbeats 4000000 in
set_option maxRecDepth 100000 in
theorem c_X8_wear (l : Launch) (D : va_G) (cy : Nat → ClassId) (g : Nat → Nat) (ua : St) (us : St) (ud : St) (ut : St) (un : St) (ub : St) (ue : St) (p0 : Int32) (p1 : Int32) (r : Int32) (ub' : St) (h : f_X8_wear p0 p1 ub = some (r, ub')) : CtI l yX8_wear wsX8_wear (rmH 2) [.ref (g 899), .int p0, .int p1] D cy (wX8 cy g ua us ud ut un ub ue) (wX8 cy g ua us ud ut un ub' ue) r := by
  refine ct_enter (D := D) (cy := cy) (cc := cX8_wear) (maxL := 3) (ret := (some .int)) (w := wX8 cy g ua us ud ut un ub ue) (Qc := fun sz => va_Qi (fun r' (_ : Unit) => r' = r) (Bw D cy (va_A (wX8 cy g ua us ud ut un ub ue) sz) (wX8 cy g ua us ud ut un ub' ue)) (va_A (wX8 cy g ua us ud ut un ub ue) sz)) (by decide) rfl (Nat.le_of_ble_eq_true rfl) ?_
  intro p e s m below meth c A C0 hAe ls hl hP hD hS
  have e1 : MQ below ((fun sz => va_Qi (fun r' (_ : Unit) => r' = r) (Bw D cy (va_A (wX8 cy g ua us ud ut un ub ue) sz) (wX8 cy g ua us ud ut un ub' ue)) (va_A (wX8 cy g ua us ud ut un ub ue) sz)) s.heap.size) [.ref (g 899), .int p0, .int p1].toArray s 0 0 A = QI below [.ref (g 899), .int p0, .int p1].toArray s A D cy (wX8 cy g ua us ud ut un ub' ue) r := by rw [hAe]; rfl
  rw [e1]
  clear e1 hAe
  obtain ⟨hx, hb, hr, hml, hown, hts, hlocks, hK, hA⟩ := id C0
  have hl : lv_has ls 3 [(0, .ref (g 899)), (1, .int p0), (2, .int p1)] := hl
  rw [f_X8_wear] at h
  refine lv_iload_n hx hb dX8_wear_0 rfl (lv_at hl 1 rfl) ?_
  obtain ⟨r1, e2, h⟩ := bd_some h
  refine x_callSI (As := [.int p0]) (rest := []) (n := 1) ⟨hx, hb, hml, hown, hts⟩ (c_X8_isKind l D cy  p0 r1 e2) gX8_wear_X8_isKind rfl hd_X8_isKind ⟨Nat.le_of_ble_eq_true rfl, Nat.le_of_ble_eq_true rfl⟩ ⟨rfl, rfl⟩ hK (sp_nil _) (sp_nil _) hP hD hS hA rfl hl.1 rfl (Nat.le_of_ble_eq_true rfl) dX8_wear_1 ⟨Nat.zero_le _, Nat.zero_le _⟩ (fun H locs hP hD hS => ?_)
  clear e2
  refine x_if_ne (tgt := 10) hx hb dX8_wear_4 (by decide) h (fun _ h => ?_) (fun _ h => ?_)
  · refine lv_bipush (v := -2) hx hb dX8_wear_7 (by decide) ?_
    cases h
    exact x_iret hx hb hr hlocks hK hP hD hS dX8_wear_9 rfl rfl
  · refine lv_iload_n hx hb dX8_wear_10 rfl (lv_at hl 2 rfl) ?_
    refine lv_iconst (v := 0) hx hb dX8_wear_11 (by decide) ?_
    refine lv_bipush (v := 9) hx hb dX8_wear_12 (by decide) ?_
    obtain ⟨r3, e4, h⟩ := bd_some h
    refine x_callSI (As := [.int p1, .int (0 : Int32), .int (9 : Int32)]) (rest := []) (n := 3) ⟨hx, hb, hml, hown, hts⟩ (c_X8_isWithin l D cy  p1 (0 : Int32) (9 : Int32) r3 e4) gX8_wear_X8_isWithin rfl hd_X8_isWithin ⟨Nat.le_of_ble_eq_true rfl, Nat.le_of_ble_eq_true rfl⟩ ⟨rfl, rfl⟩ hK (sp_nil _) (sp_nil _) hP hD hS hA rfl hl.1 rfl (Nat.le_of_ble_eq_true rfl) dX8_wear_14 ⟨Nat.zero_le _, Nat.zero_le _⟩ (fun H locs hP hD hS => ?_)
    clear e4
    refine x_if_ne (tgt := 23) hx hb dX8_wear_17 (by decide) h (fun _ h => ?_) (fun _ h => ?_)
    · refine lv_bipush (v := -3) hx hb dX8_wear_20 (by decide) ?_
      cases h
      exact x_iret hx hb hr hlocks hK hP hD hS dX8_wear_22 rfl rfl
    · refine lv_aload_n hx hb dX8_wear_23 rfl (lv_at hl 0 rfl) ?_
      refine va_get (D := D) (ci := 7) (v := .ref (g 199)) (C := RX8) (T := TX8) (N := 7) hx hb hts ki_X8_wear_X8 hown hK hP 0 rfl rfl 5 (by decide) (hts _ k_X8_wear_0) (fun _ h9 => h9) rfl dX8_wear_24 ?_
      refine lv_iload_n hx hb dX8_wear_27 rfl (lv_at hl 1 rfl) ?_
      refine lv_iload_n hx hb dX8_wear_28 rfl (lv_at hl 2 rfl) ?_
      obtain ⟨r6, ub5, e7, h⟩ := bd2_some h
      refine x_callVI (As := [.int p0, .int p1]) (rest := []) (n := 2) ⟨hx, hb, hml, hown, hts⟩ (c_X1_setWear l D cy g ub p0 p1 r6 ub5 e7) gX8_wear_X1_setWear rfl hd_X1_setWear ⟨Nat.le_of_ble_eq_true rfl, Nat.le_of_ble_eq_true rfl⟩ ⟨rfl, rfl⟩ hK (sp8_X1 cy g ua us ud ut un ub ue) (sp8_X1 cy g ua us ud ut un ub5 ue) hP hD hS hA 0 rfl rfl rfl hl.1 rfl (Nat.le_of_ble_eq_true rfl) dX8_wear_29 ⟨Nat.zero_le _, Nat.zero_le _⟩ (fun H locs hP hD hS => ?_)
      clear e7
      cases h
      exact x_iret hx hb hr hlocks hK hP hD hS dX8_wear_32 rfl rfl
theorem k_X8_plan_0 : Cond.fieldLink RX8 49 "FeatherHall" "basket" "LFeatherHall$Basket;" ∈ wsX8_plan := (List.mem_cons_of_mem _ (List.mem_append_left _ (List.mem_append_left _ (List.mem_of_getElem? (i := 0) rfl))))
theorem ki_X8_plan_X8 : ∀ w ∈ u_ws RX8 TX8 7, w ∈ wsX8_plan := fun _ hh => (List.mem_cons_of_mem _ (List.mem_append_left _ (List.mem_append_right _ hh)))
theorem hd_X8_plan : yX8_plan.cls = RX8 ∧ yX8_plan.cls ≠ "java/lang/invoke/MethodHandle" ∧ yX8_plan.cls ≠ "java/lang/invoke/VarHandle" ∧ (parseMethodDescriptor yX8_plan.desc).map (fun d => d.parameters.length) = some 1 := by decide +kernel
set_option maxHeartbeats 4000000 in
set_option maxRecDepth 100000 in
theorem c_X8_plan (l : Launch) (D : va_G) (cy : Nat → ClassId) (g : Nat → Nat) (ua : St) (us : St) (ud : St) (ut : St) (un : St) (ub : St) (ue : St) (p0 : Int32) (r : Int32) (ub' : St) (h : f_X8_plan p0 ub = some (r, ub')) : CtI l yX8_plan wsX8_plan (rmH 2) [.ref (g 899), .int p0] D cy (wX8 cy g ua us ud ut un ub ue) (wX8 cy g ua us ud ut un ub' ue) r := by
  refine ct_enter (D := D) (cy := cy) (cc := cX8_plan) (maxL := 2) (ret := (some .int)) (w := wX8 cy g ua us ud ut un ub ue) (Qc := fun sz => va_Qi (fun r' (_ : Unit) => r' = r) (Bw D cy (va_A (wX8 cy g ua us ud ut un ub ue) sz) (wX8 cy g ua us ud ut un ub' ue)) (va_A (wX8 cy g ua us ud ut un ub ue) sz)) (by decide) rfl (Nat.le_of_ble_eq_true rfl) ?_
  intro p e s m below meth c A C0 hAe ls hl hP hD hS
  have e1 : MQ below ((fun sz => va_Qi (fun r' (_ : Unit) => r' = r) (Bw D cy (va_A (wX8 cy g ua us ud ut un ub ue) sz) (wX8 cy g ua us ud ut un ub' ue)) (va_A (wX8 cy g ua us ud ut un ub ue) sz)) s.heap.size) [.ref (g 899), .int p0].toArray s 0 0 A = QI below [.ref (g 899), .int p0].toArray s A D cy (wX8 cy g ua us ud ut un ub' ue) r := by rw [hAe]; rfl
  rw [e1]
  clear e1 hAe
  obtain ⟨hx, hb, hr, hml, hown, hts, hlocks, hK, hA⟩ := id C0
  have hl : lv_has ls 2 [(0, .ref (g 899)), (1, .int p0)] := hl
  rw [f_X8_plan] at h
  refine lv_iload_n hx hb dX8_plan_0 rfl (lv_at hl 1 rfl) ?_
  obtain ⟨r1, e2, h⟩ := bd_some h
  refine x_callSI (As := [.int p0]) (rest := []) (n := 1) ⟨hx, hb, hml, hown, hts⟩ (c_X8_isKind l D cy  p0 r1 e2) gX8_plan_X8_isKind rfl hd_X8_isKind ⟨Nat.le_of_ble_eq_true rfl, Nat.le_of_ble_eq_true rfl⟩ ⟨rfl, rfl⟩ hK (sp_nil _) (sp_nil _) hP hD hS hA rfl hl.1 rfl (Nat.le_of_ble_eq_true rfl) dX8_plan_1 ⟨Nat.zero_le _, Nat.zero_le _⟩ (fun H locs hP hD hS => ?_)
  clear e2
  refine x_if_ne (tgt := 10) hx hb dX8_plan_4 (by decide) h (fun _ h => ?_) (fun _ h => ?_)
  · refine lv_bipush (v := -2) hx hb dX8_plan_7 (by decide) ?_
    cases h
    exact x_iret hx hb hr hlocks hK hP hD hS dX8_plan_9 rfl rfl
  · refine lv_aload_n hx hb dX8_plan_10 rfl (lv_at hl 0 rfl) ?_
    refine va_get (D := D) (ci := 7) (v := .ref (g 199)) (C := RX8) (T := TX8) (N := 7) hx hb hts ki_X8_plan_X8 hown hK hP 0 rfl rfl 5 (by decide) (hts _ k_X8_plan_0) (fun _ h9 => h9) rfl dX8_plan_11 ?_
    refine lv_iload_n hx hb dX8_plan_14 rfl (lv_at hl 1 rfl) ?_
    obtain ⟨r4, ub3, e5, h⟩ := bd2_some h
    refine x_callVI (As := [.int p0]) (rest := []) (n := 1) ⟨hx, hb, hml, hown, hts⟩ (c_X1_add l D cy g ub p0 r4 ub3 e5) gX8_plan_X1_add rfl hd_X1_add ⟨Nat.le_of_ble_eq_true rfl, Nat.le_of_ble_eq_true rfl⟩ ⟨rfl, rfl⟩ hK (sp8_X1 cy g ua us ud ut un ub ue) (sp8_X1 cy g ua us ud ut un ub3 ue) hP hD hS hA 0 rfl rfl rfl hl.1 rfl (Nat.le_of_ble_eq_true rfl) dX8_plan_15 ⟨Nat.zero_le _, Nat.zero_le _⟩ (fun H locs hP hD hS => ?_)
    clear e5
    cases h
    exact x_iret hx hb hr hlocks hK hP hD hS dX8_plan_18 rfl rfl
theorem k_X8_unplan_0 : Cond.fieldLink RX8 49 "FeatherHall" "basket" "LFeatherHall$Basket;" ∈ wsX8_unplan := (List.mem_cons_of_mem _ (List.mem_append_left _ (List.mem_append_left _ (List.mem_of_getElem? (i := 0) rfl))))
theorem ki_X8_unplan_X8 : ∀ w ∈ u_ws RX8 TX8 7, w ∈ wsX8_unplan := fun _ hh => (List.mem_cons_of_mem _ (List.mem_append_left _ (List.mem_append_right _ hh)))
theorem hd_X8_unplan : yX8_unplan.cls = RX8 ∧ yX8_unplan.cls ≠ "java/lang/invoke/MethodHandle" ∧ yX8_unplan.cls ≠ "java/lang/invoke/VarHandle" ∧ (parseMethodDescriptor yX8_unplan.desc).map (fun d => d.parameters.length) = some 0 := by decide +kernel
set_option maxHeartbeats 4000000 in
set_option maxRecDepth 100000 in
theorem c_X8_unplan (l : Launch) (D : va_G) (cy : Nat → ClassId) (g : Nat → Nat) (ua : St) (us : St) (ud : St) (ut : St) (un : St) (ub : St) (ue : St) (r : Int32) (ub' : St) (h : f_X8_unplan ub = some (r, ub')) : CtI l yX8_unplan wsX8_unplan (rmH 1) [.ref (g 899)] D cy (wX8 cy g ua us ud ut un ub ue) (wX8 cy g ua us ud ut un ub' ue) r := by
  refine ct_enter (D := D) (cy := cy) (cc := cX8_unplan) (maxL := 1) (ret := (some .int)) (w := wX8 cy g ua us ud ut un ub ue) (Qc := fun sz => va_Qi (fun r' (_ : Unit) => r' = r) (Bw D cy (va_A (wX8 cy g ua us ud ut un ub ue) sz) (wX8 cy g ua us ud ut un ub' ue)) (va_A (wX8 cy g ua us ud ut un ub ue) sz)) (by decide) rfl (Nat.le_of_ble_eq_true rfl) ?_
  intro p e s m below meth c A C0 hAe ls hl hP hD hS
  have e1 : MQ below ((fun sz => va_Qi (fun r' (_ : Unit) => r' = r) (Bw D cy (va_A (wX8 cy g ua us ud ut un ub ue) sz) (wX8 cy g ua us ud ut un ub' ue)) (va_A (wX8 cy g ua us ud ut un ub ue) sz)) s.heap.size) [.ref (g 899)].toArray s 0 0 A = QI below [.ref (g 899)].toArray s A D cy (wX8 cy g ua us ud ut un ub' ue) r := by rw [hAe]; rfl
  rw [e1]
  clear e1 hAe
  obtain ⟨hx, hb, hr, hml, hown, hts, hlocks, hK, hA⟩ := id C0
  have hl : lv_has ls 1 [(0, .ref (g 899))] := hl
  rw [f_X8_unplan] at h
  refine lv_aload_n hx hb dX8_unplan_0 rfl (lv_at hl 0 rfl) ?_
  refine va_get (D := D) (ci := 7) (v := .ref (g 199)) (C := RX8) (T := TX8) (N := 7) hx hb hts ki_X8_unplan_X8 hown hK hP 0 rfl rfl 5 (by decide) (hts _ k_X8_unplan_0) (fun _ h9 => h9) rfl dX8_unplan_1 ?_
  obtain ⟨r2, ub1, e3, h⟩ := bd2_some h
  refine x_callVI (As := []) (rest := []) (n := 0) ⟨hx, hb, hml, hown, hts⟩ (c_X1_clear l D cy g ub r2 ub1 e3) gX8_unplan_X1_clear rfl hd_X1_clear ⟨Nat.le_of_ble_eq_true rfl, Nat.le_of_ble_eq_true rfl⟩ ⟨rfl, rfl⟩ hK (sp8_X1 cy g ua us ud ut un ub ue) (sp8_X1 cy g ua us ud ut un ub1 ue) hP hD hS hA 0 rfl rfl rfl hl.1 rfl (Nat.le_of_ble_eq_true rfl) dX8_unplan_4 ⟨Nat.zero_le _, Nat.zero_le _⟩ (fun H locs hP hD hS => ?_)
  clear e3
  cases h
  exact x_iret hx hb hr hlocks hK hP hD hS dX8_unplan_7 rfl rfl
theorem k_X8_costs_0 : Cond.fieldLink RX8 49 "FeatherHall" "basket" "LFeatherHall$Basket;" ∈ wsX8_costs := (List.mem_cons_of_mem _ (List.mem_append_left _ (List.mem_append_left _ (List.mem_append_left _ (List.mem_of_getElem? (i := 0) rfl)))))
theorem ki_X8_costs_X8 : ∀ w ∈ u_ws RX8 TX8 7, w ∈ wsX8_costs := fun _ hh => (List.mem_cons_of_mem _ (List.mem_append_left _ (List.mem_append_right _ hh)))
theorem hd_X8_costs : yX8_costs.cls = RX8 ∧ yX8_costs.cls ≠ "java/lang/invoke/MethodHandle" ∧ yX8_costs.cls ≠ "java/lang/invoke/VarHandle" ∧ (parseMethodDescriptor yX8_costs.desc).map (fun d => d.parameters.length) = some 1 := by decide +kernel
set_option maxHeartbeats 4000000 in
set_option maxRecDepth 100000 in
theorem c_X8_costs (l : Launch) (D : va_G) (cy : Nat → ClassId) (g : Nat → Nat) (ua : St) (us : St) (ud : St) (ut : St) (un : St) (ub : St) (ue : St) (p0 : Int32) (r : Int32) (ub' : St) (h : f_X8_costs p0 ub = some (r, ub')) : CtI l yX8_costs wsX8_costs (rmH 3) [.ref (g 899), .int p0] D cy (wX8 cy g ua us ud ut un ub ue) (wX8 cy g ua us ud ut un ub' ue) r := by
  refine ct_enter (D := D) (cy := cy) (cc := cX8_costs) (maxL := 2) (ret := (some .int)) (w := wX8 cy g ua us ud ut un ub ue) (Qc := fun sz => va_Qi (fun r' (_ : Unit) => r' = r) (Bw D cy (va_A (wX8 cy g ua us ud ut un ub ue) sz) (wX8 cy g ua us ud ut un ub' ue)) (va_A (wX8 cy g ua us ud ut un ub ue) sz)) (by decide) rfl (Nat.le_of_ble_eq_true rfl) ?_
  intro p e s m below meth c A C0 hAe ls hl hP hD hS
  have e1 : MQ below ((fun sz => va_Qi (fun r' (_ : Unit) => r' = r) (Bw D cy (va_A (wX8 cy g ua us ud ut un ub ue) sz) (wX8 cy g ua us ud ut un ub' ue)) (va_A (wX8 cy g ua us ud ut un ub ue) sz)) s.heap.size) [.ref (g 899), .int p0].toArray s 0 0 A = QI below [.ref (g 899), .int p0].toArray s A D cy (wX8 cy g ua us ud ut un ub' ue) r := by rw [hAe]; rfl
  rw [e1]
  clear e1 hAe
  obtain ⟨hx, hb, hr, hml, hown, hts, hlocks, hK, hA⟩ := id C0
  have hl : lv_has ls 2 [(0, .ref (g 899)), (1, .int p0)] := hl
  rw [f_X8_costs] at h
  refine lv_iload_n hx hb dX8_costs_0 rfl (lv_at hl 1 rfl) ?_
  refine lv_iconst (v := 1) hx hb dX8_costs_1 (by decide) ?_
  refine lv_bipush (v := 120) hx hb dX8_costs_2 (by decide) ?_
  obtain ⟨r1, e2, h⟩ := bd_some h
  refine x_callSI (As := [.int p0, .int (1 : Int32), .int (120 : Int32)]) (rest := []) (n := 3) ⟨hx, hb, hml, hown, hts⟩ (c_X8_isWithin l D cy  p0 (1 : Int32) (120 : Int32) r1 e2) gX8_costs_X8_isWithin rfl hd_X8_isWithin ⟨Nat.le_of_ble_eq_true rfl, Nat.le_of_ble_eq_true rfl⟩ ⟨rfl, rfl⟩ hK (sp_nil _) (sp_nil _) hP hD hS hA rfl hl.1 rfl (Nat.le_of_ble_eq_true rfl) dX8_costs_4 ⟨Nat.zero_le _, Nat.zero_le _⟩ (fun H locs hP hD hS => ?_)
  clear e2
  refine x_if_ne (tgt := 13) hx hb dX8_costs_7 (by decide) h (fun _ h => ?_) (fun _ h => ?_)
  · refine lv_bipush (v := -3) hx hb dX8_costs_10 (by decide) ?_
    cases h
    exact x_iret hx hb hr hlocks hK hP hD hS dX8_costs_12 rfl rfl
  · refine lv_aload_n hx hb dX8_costs_13 rfl (lv_at hl 0 rfl) ?_
    refine va_get (D := D) (ci := 7) (v := .ref (g 199)) (C := RX8) (T := TX8) (N := 7) hx hb hts ki_X8_costs_X8 hown hK hP 0 rfl rfl 5 (by decide) (hts _ k_X8_costs_0) (fun _ h9 => h9) rfl dX8_costs_14 ?_
    obtain ⟨r3, e4, h⟩ := bd_some h
    refine x_callVI (As := []) (rest := []) (n := 0) ⟨hx, hb, hml, hown, hts⟩ (c_X1_isEmpty l D cy g ub r3 e4) gX8_costs_X1_isEmpty rfl hd_X1_isEmpty ⟨Nat.le_of_ble_eq_true rfl, Nat.le_of_ble_eq_true rfl⟩ ⟨rfl, rfl⟩ hK (sp8_X1 cy g ua us ud ut un ub ue) (sp8_X1 cy g ua us ud ut un ub ue) hP hD hS hA 0 rfl rfl rfl hl.1 rfl (Nat.le_of_ble_eq_true rfl) dX8_costs_17 ⟨Nat.zero_le _, Nat.zero_le _⟩ (fun H locs hP hD hS => ?_)
    clear e4
    refine x_if_eq (tgt := 26) hx hb dX8_costs_20 (by decide) h (fun _ h => ?_) (fun _ h => ?_)
    · refine lv_aload_n hx hb dX8_costs_26 rfl (lv_at hl 0 rfl) ?_
      refine va_get (D := D) (ci := 7) (v := .ref (g 199)) (C := RX8) (T := TX8) (N := 7) hx hb hts ki_X8_costs_X8 hown hK hP 0 rfl rfl 5 (by decide) (hts _ k_X8_costs_0) (fun _ h9 => h9) rfl dX8_costs_27 ?_
      refine lv_iload_n hx hb dX8_costs_30 rfl (lv_at hl 1 rfl) ?_
      obtain ⟨r6, ub5, e7, h⟩ := bd2_some h
      refine x_callVI (As := [.int p0]) (rest := []) (n := 1) ⟨hx, hb, hml, hown, hts⟩ (c_X1_wholeCost l D cy g ub p0 r6 ub5 e7) gX8_costs_X1_wholeCost rfl hd_X1_wholeCost ⟨Nat.le_of_ble_eq_true rfl, Nat.le_of_ble_eq_true rfl⟩ ⟨rfl, rfl⟩ hK (sp8_X1 cy g ua us ud ut un ub ue) (sp8_X1 cy g ua us ud ut un ub5 ue) hP hD hS hA 0 rfl rfl rfl hl.1 rfl (Nat.le_of_ble_eq_true rfl) dX8_costs_31 ⟨Nat.zero_le _, Nat.zero_le _⟩ (fun H locs hP hD hS => ?_)
      clear e7
      cases h
      exact x_iret hx hb hr hlocks hK hP hD hS dX8_costs_34 rfl rfl
    · refine lv_bipush (v := -4) hx hb dX8_costs_23 (by decide) ?_
      cases h
      exact x_iret hx hb hr hlocks hK hP hD hS dX8_costs_25 rfl rfl
theorem k_X8_change_0 : Cond.fieldLink RX8 49 "FeatherHall" "basket" "LFeatherHall$Basket;" ∈ wsX8_change := (List.mem_cons_of_mem _ (List.mem_append_left _ (List.mem_append_left _ (List.mem_of_getElem? (i := 0) rfl))))
theorem ki_X8_change_X8 : ∀ w ∈ u_ws RX8 TX8 7, w ∈ wsX8_change := fun _ hh => (List.mem_cons_of_mem _ (List.mem_append_left _ (List.mem_append_right _ hh)))
theorem hd_X8_change : yX8_change.cls = RX8 ∧ yX8_change.cls ≠ "java/lang/invoke/MethodHandle" ∧ yX8_change.cls ≠ "java/lang/invoke/VarHandle" ∧ (parseMethodDescriptor yX8_change.desc).map (fun d => d.parameters.length) = some 0 := by decide +kernel
set_option maxHeartbeats 4000000 in
set_option maxRecDepth 100000 in
theorem c_X8_change (l : Launch) (D : va_G) (cy : Nat → ClassId) (g : Nat → Nat) (ua : St) (us : St) (ud : St) (ut : St) (un : St) (ub : St) (ue : St) (r : Int32) (ub' : St) (h : f_X8_change ub = some (r, ub')) : CtI l yX8_change wsX8_change (rmH 3) [.ref (g 899)] D cy (wX8 cy g ua us ud ut un ub ue) (wX8 cy g ua us ud ut un ub' ue) r := by
  refine ct_enter (D := D) (cy := cy) (cc := cX8_change) (maxL := 1) (ret := (some .int)) (w := wX8 cy g ua us ud ut un ub ue) (Qc := fun sz => va_Qi (fun r' (_ : Unit) => r' = r) (Bw D cy (va_A (wX8 cy g ua us ud ut un ub ue) sz) (wX8 cy g ua us ud ut un ub' ue)) (va_A (wX8 cy g ua us ud ut un ub ue) sz)) (by decide) rfl (Nat.le_of_ble_eq_true rfl) ?_
  intro p e s m below meth c A C0 hAe ls hl hP hD hS
  have e1 : MQ below ((fun sz => va_Qi (fun r' (_ : Unit) => r' = r) (Bw D cy (va_A (wX8 cy g ua us ud ut un ub ue) sz) (wX8 cy g ua us ud ut un ub' ue)) (va_A (wX8 cy g ua us ud ut un ub ue) sz)) s.heap.size) [.ref (g 899)].toArray s 0 0 A = QI below [.ref (g 899)].toArray s A D cy (wX8 cy g ua us ud ut un ub' ue) r := by rw [hAe]; rfl
  rw [e1]
  clear e1 hAe
  obtain ⟨hx, hb, hr, hml, hown, hts, hlocks, hK, hA⟩ := id C0
  have hl : lv_has ls 1 [(0, .ref (g 899))] := hl
  rw [f_X8_change] at h
  refine lv_aload_n hx hb dX8_change_0 rfl (lv_at hl 0 rfl) ?_
  refine va_get (D := D) (ci := 7) (v := .ref (g 199)) (C := RX8) (T := TX8) (N := 7) hx hb hts ki_X8_change_X8 hown hK hP 0 rfl rfl 5 (by decide) (hts _ k_X8_change_0) (fun _ h9 => h9) rfl dX8_change_1 ?_
  obtain ⟨r1, e2, h⟩ := bd_some h
  refine x_callVI (As := []) (rest := []) (n := 0) ⟨hx, hb, hml, hown, hts⟩ (c_X1_isEmpty l D cy g ub r1 e2) gX8_change_X1_isEmpty rfl hd_X1_isEmpty ⟨Nat.le_of_ble_eq_true rfl, Nat.le_of_ble_eq_true rfl⟩ ⟨rfl, rfl⟩ hK (sp8_X1 cy g ua us ud ut un ub ue) (sp8_X1 cy g ua us ud ut un ub ue) hP hD hS hA 0 rfl rfl rfl hl.1 rfl (Nat.le_of_ble_eq_true rfl) dX8_change_4 ⟨Nat.zero_le _, Nat.zero_le _⟩ (fun H locs hP hD hS => ?_)
  clear e2
  refine x_if_eq (tgt := 13) hx hb dX8_change_7 (by decide) h (fun _ h => ?_) (fun _ h => ?_)
  · refine lv_aload_n hx hb dX8_change_13 rfl (lv_at hl 0 rfl) ?_
    refine va_get (D := D) (ci := 7) (v := .ref (g 199)) (C := RX8) (T := TX8) (N := 7) hx hb hts ki_X8_change_X8 hown hK hP 0 rfl rfl 5 (by decide) (hts _ k_X8_change_0) (fun _ h9 => h9) rfl dX8_change_14 ?_
    obtain ⟨r4, ub3, e5, h⟩ := bd2_some h
    refine x_callVI (As := []) (rest := []) (n := 0) ⟨hx, hb, hml, hown, hts⟩ (c_X1_bestChange l D cy g ub r4 ub3 e5) gX8_change_X1_bestChange rfl hd_X1_bestChange ⟨Nat.le_of_ble_eq_true rfl, Nat.le_of_ble_eq_true rfl⟩ ⟨rfl, rfl⟩ hK (sp8_X1 cy g ua us ud ut un ub ue) (sp8_X1 cy g ua us ud ut un ub3 ue) hP hD hS hA 0 rfl rfl rfl hl.1 rfl (Nat.le_of_ble_eq_true rfl) dX8_change_17 ⟨Nat.zero_le _, Nat.zero_le _⟩ (fun H locs hP hD hS => ?_)
    clear e5
    cases h
    exact x_iret hx hb hr hlocks hK hP hD hS dX8_change_20 rfl rfl
  · refine lv_bipush (v := -4) hx hb dX8_change_10 (by decide) ?_
    cases h
    exact x_iret hx hb hr hlocks hK hP hD hS dX8_change_12 rfl rfl
theorem k_X8_courts_0 : Cond.fieldLink RX8 56 "FeatherHall" "evening" "LFeatherHall$Evening;" ∈ wsX8_courts := (List.mem_cons_of_mem _ (List.mem_append_left _ (List.mem_append_left _ (List.mem_of_getElem? (i := 0) rfl))))
theorem ki_X8_courts_X8 : ∀ w ∈ u_ws RX8 TX8 7, w ∈ wsX8_courts := fun _ hh => (List.mem_cons_of_mem _ (List.mem_append_left _ (List.mem_append_right _ hh)))
theorem hd_X8_courts : yX8_courts.cls = RX8 ∧ yX8_courts.cls ≠ "java/lang/invoke/MethodHandle" ∧ yX8_courts.cls ≠ "java/lang/invoke/VarHandle" ∧ (parseMethodDescriptor yX8_courts.desc).map (fun d => d.parameters.length) = some 1 := by decide +kernel
set_option maxHeartbeats 4000000 in
set_option maxRecDepth 100000 in
theorem c_X8_courts (l : Launch) (D : va_G) (cy : Nat → ClassId) (g : Nat → Nat) (ua : St) (us : St) (ud : St) (ut : St) (un : St) (ub : St) (ue : St) (p0 : Int32) (r : Int32) (ue' : St) (h : f_X8_courts p0 ue = some (r, ue')) : CtI l yX8_courts wsX8_courts (rmH 1) [.ref (g 899), .int p0] D cy (wX8 cy g ua us ud ut un ub ue) (wX8 cy g ua us ud ut un ub ue') r := by
  refine ct_enter (D := D) (cy := cy) (cc := cX8_courts) (maxL := 2) (ret := (some .int)) (w := wX8 cy g ua us ud ut un ub ue) (Qc := fun sz => va_Qi (fun r' (_ : Unit) => r' = r) (Bw D cy (va_A (wX8 cy g ua us ud ut un ub ue) sz) (wX8 cy g ua us ud ut un ub ue')) (va_A (wX8 cy g ua us ud ut un ub ue) sz)) (by decide) rfl (Nat.le_of_ble_eq_true rfl) ?_
  intro p e s m below meth c A C0 hAe ls hl hP hD hS
  have e1 : MQ below ((fun sz => va_Qi (fun r' (_ : Unit) => r' = r) (Bw D cy (va_A (wX8 cy g ua us ud ut un ub ue) sz) (wX8 cy g ua us ud ut un ub ue')) (va_A (wX8 cy g ua us ud ut un ub ue) sz)) s.heap.size) [.ref (g 899), .int p0].toArray s 0 0 A = QI below [.ref (g 899), .int p0].toArray s A D cy (wX8 cy g ua us ud ut un ub ue') r := by rw [hAe]; rfl
  rw [e1]
  clear e1 hAe
  obtain ⟨hx, hb, hr, hml, hown, hts, hlocks, hK, hA⟩ := id C0
  have hl : lv_has ls 2 [(0, .ref (g 899)), (1, .int p0)] := hl
  rw [f_X8_courts] at h
  refine lv_iload_n hx hb dX8_courts_0 rfl (lv_at hl 1 rfl) ?_
  refine lv_iconst (v := 1) hx hb dX8_courts_1 (by decide) ?_
  refine lv_iconst (v := 4) hx hb dX8_courts_2 (by decide) ?_
  obtain ⟨r1, e2, h⟩ := bd_some h
  refine x_callSI (As := [.int p0, .int (1 : Int32), .int (4 : Int32)]) (rest := []) (n := 3) ⟨hx, hb, hml, hown, hts⟩ (c_X8_isWithin l D cy  p0 (1 : Int32) (4 : Int32) r1 e2) gX8_courts_X8_isWithin rfl hd_X8_isWithin ⟨Nat.le_of_ble_eq_true rfl, Nat.le_of_ble_eq_true rfl⟩ ⟨rfl, rfl⟩ hK (sp_nil _) (sp_nil _) hP hD hS hA rfl hl.1 rfl (Nat.le_of_ble_eq_true rfl) dX8_courts_3 ⟨Nat.zero_le _, Nat.zero_le _⟩ (fun H locs hP hD hS => ?_)
  clear e2
  refine x_if_ne (tgt := 12) hx hb dX8_courts_6 (by decide) h (fun _ h => ?_) (fun _ h => ?_)
  · refine lv_bipush (v := -3) hx hb dX8_courts_9 (by decide) ?_
    cases h
    exact x_iret hx hb hr hlocks hK hP hD hS dX8_courts_11 rfl rfl
  · refine lv_aload_n hx hb dX8_courts_12 rfl (lv_at hl 0 rfl) ?_
    refine va_get (D := D) (ci := 7) (v := .ref (g 499)) (C := RX8) (T := TX8) (N := 7) hx hb hts ki_X8_courts_X8 hown hK hP 0 rfl rfl 6 (by decide) (hts _ k_X8_courts_0) (fun _ h9 => h9) rfl dX8_courts_13 ?_
    refine lv_iload_n hx hb dX8_courts_16 rfl (lv_at hl 1 rfl) ?_
    obtain ⟨r4, ue3, e5, h⟩ := bd2_some h
    refine x_callVI (As := [.int p0]) (rest := []) (n := 1) ⟨hx, hb, hml, hown, hts⟩ (c_X4_setCourts l D cy g ue p0 r4 ue3 e5) gX8_courts_X4_setCourts rfl hd_X4_setCourts ⟨Nat.le_of_ble_eq_true rfl, Nat.le_of_ble_eq_true rfl⟩ ⟨rfl, rfl⟩ hK (sp8_X4 cy g ua us ud ut un ub ue) (sp8_X4 cy g ua us ud ut un ub ue3) hP hD hS hA 0 rfl rfl rfl hl.1 rfl (Nat.le_of_ble_eq_true rfl) dX8_courts_17 ⟨Nat.zero_le _, Nat.zero_le _⟩ (fun H locs hP hD hS => ?_)
    clear e5
    cases h
    exact x_iret hx hb hr hlocks hK hP hD hS dX8_courts_20 rfl rfl
theorem k_X8_come_0 : Cond.fieldLink RX8 56 "FeatherHall" "evening" "LFeatherHall$Evening;" ∈ wsX8_come := (List.mem_cons_of_mem _ (List.mem_append_left _ (List.mem_append_left _ (List.mem_of_getElem? (i := 0) rfl))))
theorem ki_X8_come_X8 : ∀ w ∈ u_ws RX8 TX8 7, w ∈ wsX8_come := fun _ hh => (List.mem_cons_of_mem _ (List.mem_append_left _ (List.mem_append_right _ hh)))
theorem hd_X8_come : yX8_come.cls = RX8 ∧ yX8_come.cls ≠ "java/lang/invoke/MethodHandle" ∧ yX8_come.cls ≠ "java/lang/invoke/VarHandle" ∧ (parseMethodDescriptor yX8_come.desc).map (fun d => d.parameters.length) = some 2 := by decide +kernel
set_option maxHeartbeats 4000000 in
set_option maxRecDepth 100000 in
theorem c_X8_come (l : Launch) (D : va_G) (cy : Nat → ClassId) (g : Nat → Nat) (ua : St) (us : St) (ud : St) (ut : St) (un : St) (ub : St) (ue : St) (p0 : Int32) (p1 : Int32) (r : Int32) (ue' : St) (h : f_X8_come p0 p1 ue = some (r, ue')) : CtI l yX8_come wsX8_come (rmH 2) [.ref (g 899), .int p0, .int p1] D cy (wX8 cy g ua us ud ut un ub ue) (wX8 cy g ua us ud ut un ub ue') r := by
  refine ct_enter (D := D) (cy := cy) (cc := cX8_come) (maxL := 3) (ret := (some .int)) (w := wX8 cy g ua us ud ut un ub ue) (Qc := fun sz => va_Qi (fun r' (_ : Unit) => r' = r) (Bw D cy (va_A (wX8 cy g ua us ud ut un ub ue) sz) (wX8 cy g ua us ud ut un ub ue')) (va_A (wX8 cy g ua us ud ut un ub ue) sz)) (by decide) rfl (Nat.le_of_ble_eq_true rfl) ?_
  intro p e s m below meth c A C0 hAe ls hl hP hD hS
  have e1 : MQ below ((fun sz => va_Qi (fun r' (_ : Unit) => r' = r) (Bw D cy (va_A (wX8 cy g ua us ud ut un ub ue) sz) (wX8 cy g ua us ud ut un ub ue')) (va_A (wX8 cy g ua us ud ut un ub ue) sz)) s.heap.size) [.ref (g 899), .int p0, .int p1].toArray s 0 0 A = QI below [.ref (g 899), .int p0, .int p1].toArray s A D cy (wX8 cy g ua us ud ut un ub ue') r := by rw [hAe]; rfl
  rw [e1]
  clear e1 hAe
  obtain ⟨hx, hb, hr, hml, hown, hts, hlocks, hK, hA⟩ := id C0
  have hl : lv_has ls 3 [(0, .ref (g 899)), (1, .int p0), (2, .int p1)] := hl
  rw [f_X8_come] at h
  refine lv_iload_n hx hb dX8_come_0 rfl (lv_at hl 1 rfl) ?_
  obtain ⟨r1, e2, h⟩ := bd_some h
  refine x_callSI (As := [.int p0]) (rest := []) (n := 1) ⟨hx, hb, hml, hown, hts⟩ (c_X8_isPlayer l D cy  p0 r1 e2) gX8_come_X8_isPlayer rfl hd_X8_isPlayer ⟨Nat.le_of_ble_eq_true rfl, Nat.le_of_ble_eq_true rfl⟩ ⟨rfl, rfl⟩ hK (sp_nil _) (sp_nil _) hP hD hS hA rfl hl.1 rfl (Nat.le_of_ble_eq_true rfl) dX8_come_1 ⟨Nat.zero_le _, Nat.zero_le _⟩ (fun H locs hP hD hS => ?_)
  clear e2
  refine x_if_ne (tgt := 10) hx hb dX8_come_4 (by decide) h (fun _ h => ?_) (fun _ h => ?_)
  · refine lv_bipush (v := -2) hx hb dX8_come_7 (by decide) ?_
    cases h
    exact x_iret hx hb hr hlocks hK hP hD hS dX8_come_9 rfl rfl
  · refine lv_iload_n hx hb dX8_come_10 rfl (lv_at hl 2 rfl) ?_
    refine lv_iconst (v := 0) hx hb dX8_come_11 (by decide) ?_
    refine lv_bipush (v := 99) hx hb dX8_come_12 (by decide) ?_
    obtain ⟨r3, e4, h⟩ := bd_some h
    refine x_callSI (As := [.int p1, .int (0 : Int32), .int (99 : Int32)]) (rest := []) (n := 3) ⟨hx, hb, hml, hown, hts⟩ (c_X8_isWithin l D cy  p1 (0 : Int32) (99 : Int32) r3 e4) gX8_come_X8_isWithin rfl hd_X8_isWithin ⟨Nat.le_of_ble_eq_true rfl, Nat.le_of_ble_eq_true rfl⟩ ⟨rfl, rfl⟩ hK (sp_nil _) (sp_nil _) hP hD hS hA rfl hl.1 rfl (Nat.le_of_ble_eq_true rfl) dX8_come_14 ⟨Nat.zero_le _, Nat.zero_le _⟩ (fun H locs hP hD hS => ?_)
    clear e4
    refine x_if_ne (tgt := 23) hx hb dX8_come_17 (by decide) h (fun _ h => ?_) (fun _ h => ?_)
    · refine lv_bipush (v := -3) hx hb dX8_come_20 (by decide) ?_
      cases h
      exact x_iret hx hb hr hlocks hK hP hD hS dX8_come_22 rfl rfl
    · refine lv_aload_n hx hb dX8_come_23 rfl (lv_at hl 0 rfl) ?_
      refine va_get (D := D) (ci := 7) (v := .ref (g 499)) (C := RX8) (T := TX8) (N := 7) hx hb hts ki_X8_come_X8 hown hK hP 0 rfl rfl 6 (by decide) (hts _ k_X8_come_0) (fun _ h9 => h9) rfl dX8_come_24 ?_
      refine lv_iload_n hx hb dX8_come_27 rfl (lv_at hl 1 rfl) ?_
      obtain ⟨r5, e6, h⟩ := bd_some h
      refine x_callVI (As := [.int p0]) (rest := []) (n := 1) ⟨hx, hb, hml, hown, hts⟩ (c_X4_isThere l D cy g ue p0 r5 e6) gX8_come_X4_isThere rfl hd_X4_isThere ⟨Nat.le_of_ble_eq_true rfl, Nat.le_of_ble_eq_true rfl⟩ ⟨rfl, rfl⟩ hK (sp8_X4 cy g ua us ud ut un ub ue) (sp8_X4 cy g ua us ud ut un ub ue) hP hD hS hA 0 rfl rfl rfl hl.1 rfl (Nat.le_of_ble_eq_true rfl) dX8_come_28 ⟨Nat.zero_le _, Nat.zero_le _⟩ (fun H locs hP hD hS => ?_)
      clear e6
      refine x_if_eq (tgt := 37) hx hb dX8_come_31 (by decide) h (fun _ h => ?_) (fun _ h => ?_)
      · refine lv_aload_n hx hb dX8_come_37 rfl (lv_at hl 0 rfl) ?_
        refine va_get (D := D) (ci := 7) (v := .ref (g 499)) (C := RX8) (T := TX8) (N := 7) hx hb hts ki_X8_come_X8 hown hK hP 0 rfl rfl 6 (by decide) (hts _ k_X8_come_0) (fun _ h9 => h9) rfl dX8_come_38 ?_
        refine lv_iload_n hx hb dX8_come_41 rfl (lv_at hl 1 rfl) ?_
        refine lv_iload_n hx hb dX8_come_42 rfl (lv_at hl 2 rfl) ?_
        obtain ⟨r8, ue7, e9, h⟩ := bd2_some h
        refine x_callVI (As := [.int p0, .int p1]) (rest := []) (n := 2) ⟨hx, hb, hml, hown, hts⟩ (c_X4_enter l D cy g ue p0 p1 r8 ue7 e9) gX8_come_X4_enter rfl hd_X4_enter ⟨Nat.le_of_ble_eq_true rfl, Nat.le_of_ble_eq_true rfl⟩ ⟨rfl, rfl⟩ hK (sp8_X4 cy g ua us ud ut un ub ue) (sp8_X4 cy g ua us ud ut un ub ue7) hP hD hS hA 0 rfl rfl rfl hl.1 rfl (Nat.le_of_ble_eq_true rfl) dX8_come_43 ⟨Nat.zero_le _, Nat.zero_le _⟩ (fun H locs hP hD hS => ?_)
        clear e9
        cases h
        exact x_iret hx hb hr hlocks hK hP hD hS dX8_come_46 rfl rfl
      · refine lv_bipush (v := -4) hx hb dX8_come_34 (by decide) ?_
        cases h
        exact x_iret hx hb hr hlocks hK hP hD hS dX8_come_36 rfl rfl
theorem k_X8_leave_0 : Cond.fieldLink RX8 56 "FeatherHall" "evening" "LFeatherHall$Evening;" ∈ wsX8_leave := (List.mem_cons_of_mem _ (List.mem_append_left _ (List.mem_append_left _ (List.mem_of_getElem? (i := 0) rfl))))
theorem ki_X8_leave_X8 : ∀ w ∈ u_ws RX8 TX8 7, w ∈ wsX8_leave := fun _ hh => (List.mem_cons_of_mem _ (List.mem_append_left _ (List.mem_append_right _ hh)))
theorem hd_X8_leave : yX8_leave.cls = RX8 ∧ yX8_leave.cls ≠ "java/lang/invoke/MethodHandle" ∧ yX8_leave.cls ≠ "java/lang/invoke/VarHandle" ∧ (parseMethodDescriptor yX8_leave.desc).map (fun d => d.parameters.length) = some 1 := by decide +kernel
set_option maxHeartbeats 4000000 in
set_option maxRecDepth 100000 in
theorem c_X8_leave (l : Launch) (D : va_G) (cy : Nat → ClassId) (g : Nat → Nat) (ua : St) (us : St) (ud : St) (ut : St) (un : St) (ub : St) (ue : St) (p0 : Int32) (r : Int32) (ue' : St) (h : f_X8_leave p0 ue = some (r, ue')) : CtI l yX8_leave wsX8_leave (rmH 2) [.ref (g 899), .int p0] D cy (wX8 cy g ua us ud ut un ub ue) (wX8 cy g ua us ud ut un ub ue') r := by
  refine ct_enter (D := D) (cy := cy) (cc := cX8_leave) (maxL := 2) (ret := (some .int)) (w := wX8 cy g ua us ud ut un ub ue) (Qc := fun sz => va_Qi (fun r' (_ : Unit) => r' = r) (Bw D cy (va_A (wX8 cy g ua us ud ut un ub ue) sz) (wX8 cy g ua us ud ut un ub ue')) (va_A (wX8 cy g ua us ud ut un ub ue) sz)) (by decide) rfl (Nat.le_of_ble_eq_true rfl) ?_
  intro p e s m below meth c A C0 hAe ls hl hP hD hS
  have e1 : MQ below ((fun sz => va_Qi (fun r' (_ : Unit) => r' = r) (Bw D cy (va_A (wX8 cy g ua us ud ut un ub ue) sz) (wX8 cy g ua us ud ut un ub ue')) (va_A (wX8 cy g ua us ud ut un ub ue) sz)) s.heap.size) [.ref (g 899), .int p0].toArray s 0 0 A = QI below [.ref (g 899), .int p0].toArray s A D cy (wX8 cy g ua us ud ut un ub ue') r := by rw [hAe]; rfl
  rw [e1]
  clear e1 hAe
  obtain ⟨hx, hb, hr, hml, hown, hts, hlocks, hK, hA⟩ := id C0
  have hl : lv_has ls 2 [(0, .ref (g 899)), (1, .int p0)] := hl
  rw [f_X8_leave] at h
  refine lv_iload_n hx hb dX8_leave_0 rfl (lv_at hl 1 rfl) ?_
  obtain ⟨r1, e2, h⟩ := bd_some h
  refine x_callSI (As := [.int p0]) (rest := []) (n := 1) ⟨hx, hb, hml, hown, hts⟩ (c_X8_isPlayer l D cy  p0 r1 e2) gX8_leave_X8_isPlayer rfl hd_X8_isPlayer ⟨Nat.le_of_ble_eq_true rfl, Nat.le_of_ble_eq_true rfl⟩ ⟨rfl, rfl⟩ hK (sp_nil _) (sp_nil _) hP hD hS hA rfl hl.1 rfl (Nat.le_of_ble_eq_true rfl) dX8_leave_1 ⟨Nat.zero_le _, Nat.zero_le _⟩ (fun H locs hP hD hS => ?_)
  clear e2
  refine x_if_ne (tgt := 10) hx hb dX8_leave_4 (by decide) h (fun _ h => ?_) (fun _ h => ?_)
  · refine lv_bipush (v := -2) hx hb dX8_leave_7 (by decide) ?_
    cases h
    exact x_iret hx hb hr hlocks hK hP hD hS dX8_leave_9 rfl rfl
  · refine lv_aload_n hx hb dX8_leave_10 rfl (lv_at hl 0 rfl) ?_
    refine va_get (D := D) (ci := 7) (v := .ref (g 499)) (C := RX8) (T := TX8) (N := 7) hx hb hts ki_X8_leave_X8 hown hK hP 0 rfl rfl 6 (by decide) (hts _ k_X8_leave_0) (fun _ h9 => h9) rfl dX8_leave_11 ?_
    refine lv_iload_n hx hb dX8_leave_14 rfl (lv_at hl 1 rfl) ?_
    obtain ⟨r3, e4, h⟩ := bd_some h
    refine x_callVI (As := [.int p0]) (rest := []) (n := 1) ⟨hx, hb, hml, hown, hts⟩ (c_X4_isThere l D cy g ue p0 r3 e4) gX8_leave_X4_isThere rfl hd_X4_isThere ⟨Nat.le_of_ble_eq_true rfl, Nat.le_of_ble_eq_true rfl⟩ ⟨rfl, rfl⟩ hK (sp8_X4 cy g ua us ud ut un ub ue) (sp8_X4 cy g ua us ud ut un ub ue) hP hD hS hA 0 rfl rfl rfl hl.1 rfl (Nat.le_of_ble_eq_true rfl) dX8_leave_15 ⟨Nat.zero_le _, Nat.zero_le _⟩ (fun H locs hP hD hS => ?_)
    clear e4
    refine x_if_ne (tgt := 24) hx hb dX8_leave_18 (by decide) h (fun _ h => ?_) (fun _ h => ?_)
    · refine lv_bipush (v := -4) hx hb dX8_leave_21 (by decide) ?_
      cases h
      exact x_iret hx hb hr hlocks hK hP hD hS dX8_leave_23 rfl rfl
    · refine lv_aload_n hx hb dX8_leave_24 rfl (lv_at hl 0 rfl) ?_
      refine va_get (D := D) (ci := 7) (v := .ref (g 499)) (C := RX8) (T := TX8) (N := 7) hx hb hts ki_X8_leave_X8 hown hK hP 0 rfl rfl 6 (by decide) (hts _ k_X8_leave_0) (fun _ h9 => h9) rfl dX8_leave_25 ?_
      refine lv_iload_n hx hb dX8_leave_28 rfl (lv_at hl 1 rfl) ?_
      obtain ⟨r6, ue5, e7, h⟩ := bd2_some h
      refine x_callVI (As := [.int p0]) (rest := []) (n := 1) ⟨hx, hb, hml, hown, hts⟩ (c_X4_exit l D cy g ue p0 r6 ue5 e7) gX8_leave_X4_exit rfl hd_X4_exit ⟨Nat.le_of_ble_eq_true rfl, Nat.le_of_ble_eq_true rfl⟩ ⟨rfl, rfl⟩ hK (sp8_X4 cy g ua us ud ut un ub ue) (sp8_X4 cy g ua us ud ut un ub ue5) hP hD hS hA 0 rfl rfl rfl hl.1 rfl (Nat.le_of_ble_eq_true rfl) dX8_leave_29 ⟨Nat.zero_le _, Nat.zero_le _⟩ (fun H locs hP hD hS => ?_)
      clear e7
      cases h
      exact x_iret hx hb hr hlocks hK hP hD hS dX8_leave_32 rfl rfl
theorem k_X8_against_0 : Cond.fieldLink RX8 56 "FeatherHall" "evening" "LFeatherHall$Evening;" ∈ wsX8_against := (List.mem_cons_of_mem _ (List.mem_append_left _ (List.mem_append_left _ (List.mem_append_left _ (List.mem_of_getElem? (i := 0) rfl)))))
theorem ki_X8_against_X8 : ∀ w ∈ u_ws RX8 TX8 7, w ∈ wsX8_against := fun _ hh => (List.mem_cons_of_mem _ (List.mem_append_left _ (List.mem_append_right _ hh)))
theorem hd_X8_against : yX8_against.cls = RX8 ∧ yX8_against.cls ≠ "java/lang/invoke/MethodHandle" ∧ yX8_against.cls ≠ "java/lang/invoke/VarHandle" ∧ (parseMethodDescriptor yX8_against.desc).map (fun d => d.parameters.length) = some 1 := by decide +kernel
set_option maxHeartbeats 4000000 in
set_option maxRecDepth 100000 in
theorem c_X8_against (l : Launch) (D : va_G) (cy : Nat → ClassId) (g : Nat → Nat) (ua : St) (us : St) (ud : St) (ut : St) (un : St) (ub : St) (ue : St) (p0 : Int32) (r : Int32) (ue' : St) (h : f_X8_against p0 ue = some (r, ue')) : CtI l yX8_against wsX8_against (rmH 15) [.ref (g 899), .int p0] D cy (wX8 cy g ua us ud ut un ub ue) (wX8 cy g ua us ud ut un ub ue') r := by
  refine ct_enter (D := D) (cy := cy) (cc := cX8_against) (maxL := 2) (ret := (some .int)) (w := wX8 cy g ua us ud ut un ub ue) (Qc := fun sz => va_Qi (fun r' (_ : Unit) => r' = r) (Bw D cy (va_A (wX8 cy g ua us ud ut un ub ue) sz) (wX8 cy g ua us ud ut un ub ue')) (va_A (wX8 cy g ua us ud ut un ub ue) sz)) (by decide) rfl (Nat.le_of_ble_eq_true rfl) ?_
  intro p e s m below meth c A C0 hAe ls hl hP hD hS
  have e1 : MQ below ((fun sz => va_Qi (fun r' (_ : Unit) => r' = r) (Bw D cy (va_A (wX8 cy g ua us ud ut un ub ue) sz) (wX8 cy g ua us ud ut un ub ue')) (va_A (wX8 cy g ua us ud ut un ub ue) sz)) s.heap.size) [.ref (g 899), .int p0].toArray s 0 0 A = QI below [.ref (g 899), .int p0].toArray s A D cy (wX8 cy g ua us ud ut un ub ue') r := by rw [hAe]; rfl
  rw [e1]
  clear e1 hAe
  obtain ⟨hx, hb, hr, hml, hown, hts, hlocks, hK, hA⟩ := id C0
  have hl : lv_has ls 2 [(0, .ref (g 899)), (1, .int p0)] := hl
  rw [f_X8_against] at h
  refine lv_iload_n hx hb dX8_against_0 rfl (lv_at hl 1 rfl) ?_
  obtain ⟨r1, e2, h⟩ := bd_some h
  refine x_callSI (As := [.int p0]) (rest := []) (n := 1) ⟨hx, hb, hml, hown, hts⟩ (c_X8_isPlayer l D cy  p0 r1 e2) gX8_against_X8_isPlayer rfl hd_X8_isPlayer ⟨Nat.le_of_ble_eq_true rfl, Nat.le_of_ble_eq_true rfl⟩ ⟨rfl, rfl⟩ hK (sp_nil _) (sp_nil _) hP hD hS hA rfl hl.1 rfl (Nat.le_of_ble_eq_true rfl) dX8_against_1 ⟨Nat.zero_le _, Nat.zero_le _⟩ (fun H locs hP hD hS => ?_)
  clear e2
  refine x_if_ne (tgt := 10) hx hb dX8_against_4 (by decide) h (fun _ h => ?_) (fun _ h => ?_)
  · refine lv_bipush (v := -2) hx hb dX8_against_7 (by decide) ?_
    cases h
    exact x_iret hx hb hr hlocks hK hP hD hS dX8_against_9 rfl rfl
  · refine lv_aload_n hx hb dX8_against_10 rfl (lv_at hl 0 rfl) ?_
    refine va_get (D := D) (ci := 7) (v := .ref (g 499)) (C := RX8) (T := TX8) (N := 7) hx hb hts ki_X8_against_X8 hown hK hP 0 rfl rfl 6 (by decide) (hts _ k_X8_against_0) (fun _ h9 => h9) rfl dX8_against_11 ?_
    refine lv_iload_n hx hb dX8_against_14 rfl (lv_at hl 1 rfl) ?_
    obtain ⟨r4, ue3, e5, h⟩ := bd2_some h
    refine x_callVI (As := [.int p0]) (rest := []) (n := 1) ⟨hx, hb, hml, hown, hts⟩ (c_X4_mateOf l D cy g ue p0 r4 ue3 e5) gX8_against_X4_mateOf rfl hd_X4_mateOf ⟨Nat.le_of_ble_eq_true rfl, Nat.le_of_ble_eq_true rfl⟩ ⟨rfl, rfl⟩ hK (sp8_X4 cy g ua us ud ut un ub ue) (sp8_X4 cy g ua us ud ut un ub ue3) hP hD hS hA 0 rfl rfl rfl hl.1 rfl (Nat.le_of_ble_eq_true rfl) dX8_against_15 ⟨Nat.zero_le _, Nat.zero_le _⟩ (fun H locs hP hD hS => ?_)
    clear e5
    cases h
    exact x_iret hx hb hr hlocks hK hP hD hS dX8_against_18 rfl rfl
theorem k_X8_round_0 : Cond.fieldLink RX8 56 "FeatherHall" "evening" "LFeatherHall$Evening;" ∈ wsX8_round := (List.mem_cons_of_mem _ (List.mem_append_left _ (List.mem_append_left _ (List.mem_append_left _ (List.mem_of_getElem? (i := 0) rfl)))))
theorem ki_X8_round_X8 : ∀ w ∈ u_ws RX8 TX8 7, w ∈ wsX8_round := fun _ hh => (List.mem_cons_of_mem _ (List.mem_append_left _ (List.mem_append_right _ hh)))
theorem hd_X8_round : yX8_round.cls = RX8 ∧ yX8_round.cls ≠ "java/lang/invoke/MethodHandle" ∧ yX8_round.cls ≠ "java/lang/invoke/VarHandle" ∧ (parseMethodDescriptor yX8_round.desc).map (fun d => d.parameters.length) = some 1 := by decide +kernel
set_option maxHeartbeats 4000000 in
set_option maxRecDepth 100000 in
theorem c_X8_round (l : Launch) (D : va_G) (cy : Nat → ClassId) (g : Nat → Nat) (ua : St) (us : St) (ud : St) (ut : St) (un : St) (ub : St) (ue : St) (p0 : Int32) (r : Int32) (ue' : St) (h : f_X8_round p0 ue = some (r, ue')) : CtI l yX8_round wsX8_round (rmH 15) [.ref (g 899), .int p0] D cy (wX8 cy g ua us ud ut un ub ue) (wX8 cy g ua us ud ut un ub ue') r := by
  refine ct_enter (D := D) (cy := cy) (cc := cX8_round) (maxL := 2) (ret := (some .int)) (w := wX8 cy g ua us ud ut un ub ue) (Qc := fun sz => va_Qi (fun r' (_ : Unit) => r' = r) (Bw D cy (va_A (wX8 cy g ua us ud ut un ub ue) sz) (wX8 cy g ua us ud ut un ub ue')) (va_A (wX8 cy g ua us ud ut un ub ue) sz)) (by decide) rfl (Nat.le_of_ble_eq_true rfl) ?_
  intro p e s m below meth c A C0 hAe ls hl hP hD hS
  have e1 : MQ below ((fun sz => va_Qi (fun r' (_ : Unit) => r' = r) (Bw D cy (va_A (wX8 cy g ua us ud ut un ub ue) sz) (wX8 cy g ua us ud ut un ub ue')) (va_A (wX8 cy g ua us ud ut un ub ue) sz)) s.heap.size) [.ref (g 899), .int p0].toArray s 0 0 A = QI below [.ref (g 899), .int p0].toArray s A D cy (wX8 cy g ua us ud ut un ub ue') r := by rw [hAe]; rfl
  rw [e1]
  clear e1 hAe
  obtain ⟨hx, hb, hr, hml, hown, hts, hlocks, hK, hA⟩ := id C0
  have hl : lv_has ls 2 [(0, .ref (g 899)), (1, .int p0)] := hl
  rw [f_X8_round] at h
  refine lv_iload_n hx hb dX8_round_0 rfl (lv_at hl 1 rfl) ?_
  refine lv_iconst (v := 0) hx hb dX8_round_1 (by decide) ?_
  refine lv_iconst (v := 3) hx hb dX8_round_2 (by decide) ?_
  obtain ⟨r1, e2, h⟩ := bd_some h
  refine x_callSI (As := [.int p0, .int (0 : Int32), .int (3 : Int32)]) (rest := []) (n := 3) ⟨hx, hb, hml, hown, hts⟩ (c_X8_isWithin l D cy  p0 (0 : Int32) (3 : Int32) r1 e2) gX8_round_X8_isWithin rfl hd_X8_isWithin ⟨Nat.le_of_ble_eq_true rfl, Nat.le_of_ble_eq_true rfl⟩ ⟨rfl, rfl⟩ hK (sp_nil _) (sp_nil _) hP hD hS hA rfl hl.1 rfl (Nat.le_of_ble_eq_true rfl) dX8_round_3 ⟨Nat.zero_le _, Nat.zero_le _⟩ (fun H locs hP hD hS => ?_)
  clear e2
  refine x_if_ne (tgt := 12) hx hb dX8_round_6 (by decide) h (fun _ h => ?_) (fun _ h => ?_)
  · refine lv_bipush (v := -3) hx hb dX8_round_9 (by decide) ?_
    cases h
    exact x_iret hx hb hr hlocks hK hP hD hS dX8_round_11 rfl rfl
  · refine lv_aload_n hx hb dX8_round_12 rfl (lv_at hl 0 rfl) ?_
    refine va_get (D := D) (ci := 7) (v := .ref (g 499)) (C := RX8) (T := TX8) (N := 7) hx hb hts ki_X8_round_X8 hown hK hP 0 rfl rfl 6 (by decide) (hts _ k_X8_round_0) (fun _ h9 => h9) rfl dX8_round_13 ?_
    refine lv_iload_n hx hb dX8_round_16 rfl (lv_at hl 1 rfl) ?_
    obtain ⟨r4, ue3, e5, h⟩ := bd2_some h
    refine x_callVI (As := [.int p0]) (rest := []) (n := 1) ⟨hx, hb, hml, hown, hts⟩ (c_X4_readRound l D cy g ue p0 r4 ue3 e5) gX8_round_X4_readRound rfl hd_X4_readRound ⟨Nat.le_of_ble_eq_true rfl, Nat.le_of_ble_eq_true rfl⟩ ⟨rfl, rfl⟩ hK (sp8_X4 cy g ua us ud ut un ub ue) (sp8_X4 cy g ua us ud ut un ub ue3) hP hD hS hA 0 rfl rfl rfl hl.1 rfl (Nat.le_of_ble_eq_true rfl) dX8_round_17 ⟨Nat.zero_le _, Nat.zero_le _⟩ (fun H locs hP hD hS => ?_)
    clear e5
    cases h
    exact x_iret hx hb hr hlocks hK hP hD hS dX8_round_20 rfl rfl
theorem k_X8_played_0 : Cond.fieldLink RX8 56 "FeatherHall" "evening" "LFeatherHall$Evening;" ∈ wsX8_played := (List.mem_cons_of_mem _ (List.mem_append_left _ (List.mem_append_left _ (List.mem_append_left _ (List.mem_of_getElem? (i := 0) rfl)))))
theorem ki_X8_played_X8 : ∀ w ∈ u_ws RX8 TX8 7, w ∈ wsX8_played := fun _ hh => (List.mem_cons_of_mem _ (List.mem_append_left _ (List.mem_append_right _ hh)))
theorem hd_X8_played : yX8_played.cls = RX8 ∧ yX8_played.cls ≠ "java/lang/invoke/MethodHandle" ∧ yX8_played.cls ≠ "java/lang/invoke/VarHandle" ∧ (parseMethodDescriptor yX8_played.desc).map (fun d => d.parameters.length) = some 0 := by decide +kernel
set_option maxHeartbeats 4000000 in
set_option maxRecDepth 100000 in
theorem c_X8_played (l : Launch) (D : va_G) (cy : Nat → ClassId) (g : Nat → Nat) (ua : St) (us : St) (ud : St) (ut : St) (un : St) (ub : St) (ue : St) (r : Int32) (ue' : St) (h : f_X8_played ue = some (r, ue')) : CtI l yX8_played wsX8_played (rmH 15) [.ref (g 899)] D cy (wX8 cy g ua us ud ut un ub ue) (wX8 cy g ua us ud ut un ub ue') r := by
  refine ct_enter (D := D) (cy := cy) (cc := cX8_played) (maxL := 1) (ret := (some .int)) (w := wX8 cy g ua us ud ut un ub ue) (Qc := fun sz => va_Qi (fun r' (_ : Unit) => r' = r) (Bw D cy (va_A (wX8 cy g ua us ud ut un ub ue) sz) (wX8 cy g ua us ud ut un ub ue')) (va_A (wX8 cy g ua us ud ut un ub ue) sz)) (by decide) rfl (Nat.le_of_ble_eq_true rfl) ?_
  intro p e s m below meth c A C0 hAe ls hl hP hD hS
  have e1 : MQ below ((fun sz => va_Qi (fun r' (_ : Unit) => r' = r) (Bw D cy (va_A (wX8 cy g ua us ud ut un ub ue) sz) (wX8 cy g ua us ud ut un ub ue')) (va_A (wX8 cy g ua us ud ut un ub ue) sz)) s.heap.size) [.ref (g 899)].toArray s 0 0 A = QI below [.ref (g 899)].toArray s A D cy (wX8 cy g ua us ud ut un ub ue') r := by rw [hAe]; rfl
  rw [e1]
  clear e1 hAe
  obtain ⟨hx, hb, hr, hml, hown, hts, hlocks, hK, hA⟩ := id C0
  have hl : lv_has ls 1 [(0, .ref (g 899))] := hl
  rw [f_X8_played] at h
  refine lv_aload_n hx hb dX8_played_0 rfl (lv_at hl 0 rfl) ?_
  refine va_get (D := D) (ci := 7) (v := .ref (g 499)) (C := RX8) (T := TX8) (N := 7) hx hb hts ki_X8_played_X8 hown hK hP 0 rfl rfl 6 (by decide) (hts _ k_X8_played_0) (fun _ h9 => h9) rfl dX8_played_1 ?_
  obtain ⟨r2, ue1, e3, h⟩ := bd2_some h
  refine x_callVI (As := []) (rest := []) (n := 0) ⟨hx, hb, hml, hown, hts⟩ (c_X4_playRound l D cy g ue r2 ue1 e3) gX8_played_X4_playRound rfl hd_X4_playRound ⟨Nat.le_of_ble_eq_true rfl, Nat.le_of_ble_eq_true rfl⟩ ⟨rfl, rfl⟩ hK (sp8_X4 cy g ua us ud ut un ub ue) (sp8_X4 cy g ua us ud ut un ub ue1) hP hD hS hA 0 rfl rfl rfl hl.1 rfl (Nat.le_of_ble_eq_true rfl) dX8_played_4 ⟨Nat.zero_le _, Nat.zero_le _⟩ (fun H locs hP hD hS => ?_)
  clear e3
  cases h
  exact x_iret hx hb hr hlocks hK hP hD hS dX8_played_7 rfl rfl
theorem k_X8_had_0 : Cond.fieldLink RX8 56 "FeatherHall" "evening" "LFeatherHall$Evening;" ∈ wsX8_had := (List.mem_cons_of_mem _ (List.mem_append_left _ (List.mem_append_left _ (List.mem_of_getElem? (i := 0) rfl))))
theorem ki_X8_had_X8 : ∀ w ∈ u_ws RX8 TX8 7, w ∈ wsX8_had := fun _ hh => (List.mem_cons_of_mem _ (List.mem_append_left _ (List.mem_append_right _ hh)))
theorem hd_X8_had : yX8_had.cls = RX8 ∧ yX8_had.cls ≠ "java/lang/invoke/MethodHandle" ∧ yX8_had.cls ≠ "java/lang/invoke/VarHandle" ∧ (parseMethodDescriptor yX8_had.desc).map (fun d => d.parameters.length) = some 2 := by decide +kernel
set_option maxHeartbeats 4000000 in
set_option maxRecDepth 100000 in
theorem c_X8_had (l : Launch) (D : va_G) (cy : Nat → ClassId) (g : Nat → Nat) (ua : St) (us : St) (ud : St) (ut : St) (un : St) (ub : St) (ue : St) (p0 : Int32) (p1 : Int32) (r : Int32) (h : f_X8_had ue p0 p1 = some r) : CtI l yX8_had wsX8_had (rmH 2) [.ref (g 899), .int p0, .int p1] D cy (wX8 cy g ua us ud ut un ub ue) (wX8 cy g ua us ud ut un ub ue) r := by
  refine ct_enter (D := D) (cy := cy) (cc := cX8_had) (maxL := 3) (ret := (some .int)) (w := wX8 cy g ua us ud ut un ub ue) (Qc := fun sz => va_Qi (fun r' (_ : Unit) => r' = r) (Bw D cy (va_A (wX8 cy g ua us ud ut un ub ue) sz) (wX8 cy g ua us ud ut un ub ue)) (va_A (wX8 cy g ua us ud ut un ub ue) sz)) (by decide) rfl (Nat.le_of_ble_eq_true rfl) ?_
  intro p e s m below meth c A C0 hAe ls hl hP hD hS
  have e1 : MQ below ((fun sz => va_Qi (fun r' (_ : Unit) => r' = r) (Bw D cy (va_A (wX8 cy g ua us ud ut un ub ue) sz) (wX8 cy g ua us ud ut un ub ue)) (va_A (wX8 cy g ua us ud ut un ub ue) sz)) s.heap.size) [.ref (g 899), .int p0, .int p1].toArray s 0 0 A = QI below [.ref (g 899), .int p0, .int p1].toArray s A D cy (wX8 cy g ua us ud ut un ub ue) r := by rw [hAe]; rfl
  rw [e1]
  clear e1 hAe
  obtain ⟨hx, hb, hr, hml, hown, hts, hlocks, hK, hA⟩ := id C0
  have hl : lv_has ls 3 [(0, .ref (g 899)), (1, .int p0), (2, .int p1)] := hl
  rw [f_X8_had] at h
  refine lv_iload_n hx hb dX8_had_0 rfl (lv_at hl 1 rfl) ?_
  obtain ⟨r1, e2, h⟩ := bd_some h
  refine x_callSI (As := [.int p0]) (rest := []) (n := 1) ⟨hx, hb, hml, hown, hts⟩ (c_X8_isPlayer l D cy  p0 r1 e2) gX8_had_X8_isPlayer rfl hd_X8_isPlayer ⟨Nat.le_of_ble_eq_true rfl, Nat.le_of_ble_eq_true rfl⟩ ⟨rfl, rfl⟩ hK (sp_nil _) (sp_nil _) hP hD hS hA rfl hl.1 rfl (Nat.le_of_ble_eq_true rfl) dX8_had_1 ⟨Nat.zero_le _, Nat.zero_le _⟩ (fun H locs hP hD hS => ?_)
  clear e2
  refine x_if_eq (tgt := 19) hx hb dX8_had_4 (by decide) h (fun _ h => ?_) (fun _ h => ?_)
  · refine lv_bipush (v := -2) hx hb dX8_had_19 (by decide) ?_
    cases h
    exact x_iret hx hb hr hlocks hK hP hD hS dX8_had_21 rfl rfl
  · refine lv_iload_n hx hb dX8_had_7 rfl (lv_at hl 2 rfl) ?_
    obtain ⟨r3, e4, h⟩ := bd_some h
    refine x_callSI (As := [.int p1]) (rest := []) (n := 1) ⟨hx, hb, hml, hown, hts⟩ (c_X8_isPlayer l D cy  p1 r3 e4) gX8_had_X8_isPlayer rfl hd_X8_isPlayer ⟨Nat.le_of_ble_eq_true rfl, Nat.le_of_ble_eq_true rfl⟩ ⟨rfl, rfl⟩ hK (sp_nil _) (sp_nil _) hP hD hS hA rfl hl.1 rfl (Nat.le_of_ble_eq_true rfl) dX8_had_8 ⟨Nat.zero_le _, Nat.zero_le _⟩ (fun H locs hP hD hS => ?_)
    clear e4
    refine x_if_eq (tgt := 19) hx hb dX8_had_11 (by decide) h (fun _ h => ?_) (fun _ h => ?_)
    · refine lv_bipush (v := -2) hx hb dX8_had_19 (by decide) ?_
      cases h
      exact x_iret hx hb hr hlocks hK hP hD hS dX8_had_21 rfl rfl
    · refine lv_iload_n hx hb dX8_had_14 rfl (lv_at hl 1 rfl) ?_
      refine lv_iload_n hx hb dX8_had_15 rfl (lv_at hl 2 rfl) ?_
      refine x_icmp_ne (tgt := 22) hx hb dX8_had_16 (by decide) h (fun _ h => ?_) (fun _ h => ?_)
      · refine lv_bipush (v := -2) hx hb dX8_had_19 (by decide) ?_
        cases h
        exact x_iret hx hb hr hlocks hK hP hD hS dX8_had_21 rfl rfl
      · refine lv_aload_n hx hb dX8_had_22 rfl (lv_at hl 0 rfl) ?_
        refine va_get (D := D) (ci := 7) (v := .ref (g 499)) (C := RX8) (T := TX8) (N := 7) hx hb hts ki_X8_had_X8 hown hK hP 0 rfl rfl 6 (by decide) (hts _ k_X8_had_0) (fun _ h9 => h9) rfl dX8_had_23 ?_
        refine lv_iload_n hx hb dX8_had_26 rfl (lv_at hl 1 rfl) ?_
        refine lv_iload_n hx hb dX8_had_27 rfl (lv_at hl 2 rfl) ?_
        obtain ⟨r5, e6, h⟩ := bd_some h
        refine x_callVI (As := [.int p0, .int p1]) (rest := []) (n := 2) ⟨hx, hb, hml, hown, hts⟩ (c_X4_gamesOfBoth l D cy g ue p0 p1 r5 e6) gX8_had_X4_gamesOfBoth rfl hd_X4_gamesOfBoth ⟨Nat.le_of_ble_eq_true rfl, Nat.le_of_ble_eq_true rfl⟩ ⟨rfl, rfl⟩ hK (sp8_X4 cy g ua us ud ut un ub ue) (sp8_X4 cy g ua us ud ut un ub ue) hP hD hS hA 0 rfl rfl rfl hl.1 rfl (Nat.le_of_ble_eq_true rfl) dX8_had_28 ⟨Nat.zero_le _, Nat.zero_le _⟩ (fun H locs hP hD hS => ?_)
        clear e6
        cases h
        exact x_iret hx hb hr hlocks hK hP hD hS dX8_had_31 rfl rfl
theorem k_X8_of_0 : Cond.fieldLink RX8 19 "FeatherHall" "squad" "LFeatherHall$Squad;" ∈ wsX8_of := (List.mem_cons_of_mem _ (List.mem_append_left _ (List.mem_append_left _ (List.mem_append_left _ (List.mem_append_left _ (List.mem_of_getElem? (i := 0) rfl))))))
theorem ki_X8_of_X8 : ∀ w ∈ u_ws RX8 TX8 7, w ∈ wsX8_of := fun _ hh => (List.mem_cons_of_mem _ (List.mem_append_left _ (List.mem_append_left _ (List.mem_append_right _ hh))))
theorem k_X8_of_1 : Cond.fieldLink RX8 56 "FeatherHall" "evening" "LFeatherHall$Evening;" ∈ wsX8_of := (List.mem_cons_of_mem _ (List.mem_append_left _ (List.mem_append_left _ (List.mem_append_left _ (List.mem_append_left _ (List.mem_of_getElem? (i := 1) rfl))))))
theorem hd_X8_of : yX8_of.cls = RX8 ∧ yX8_of.cls ≠ "java/lang/invoke/MethodHandle" ∧ yX8_of.cls ≠ "java/lang/invoke/VarHandle" ∧ (parseMethodDescriptor yX8_of.desc).map (fun d => d.parameters.length) = some 2 := by decide +kernel
set_option maxHeartbeats 4000000 in
set_option maxRecDepth 100000 in
theorem c_X8_of (l : Launch) (D : va_G) (cy : Nat → ClassId) (g : Nat → Nat) (ua : St) (us : St) (ud : St) (ut : St) (un : St) (ub : St) (ue : St) (p0 : Int32) (p1 : Int32) (r : Int32) (h : f_X8_of us ue p0 p1 = some r) : CtI l yX8_of wsX8_of (rmH 2) [.ref (g 899), .int p0, .int p1] D cy (wX8 cy g ua us ud ut un ub ue) (wX8 cy g ua us ud ut un ub ue) r := by
  refine ct_enter (D := D) (cy := cy) (cc := cX8_of) (maxL := 3) (ret := (some .int)) (w := wX8 cy g ua us ud ut un ub ue) (Qc := fun sz => va_Qi (fun r' (_ : Unit) => r' = r) (Bw D cy (va_A (wX8 cy g ua us ud ut un ub ue) sz) (wX8 cy g ua us ud ut un ub ue)) (va_A (wX8 cy g ua us ud ut un ub ue) sz)) (by decide) rfl (Nat.le_of_ble_eq_true rfl) ?_
  intro p e s m below meth c A C0 hAe ls hl hP hD hS
  have e1 : MQ below ((fun sz => va_Qi (fun r' (_ : Unit) => r' = r) (Bw D cy (va_A (wX8 cy g ua us ud ut un ub ue) sz) (wX8 cy g ua us ud ut un ub ue)) (va_A (wX8 cy g ua us ud ut un ub ue) sz)) s.heap.size) [.ref (g 899), .int p0, .int p1].toArray s 0 0 A = QI below [.ref (g 899), .int p0, .int p1].toArray s A D cy (wX8 cy g ua us ud ut un ub ue) r := by rw [hAe]; rfl
  rw [e1]
  clear e1 hAe
  obtain ⟨hx, hb, hr, hml, hown, hts, hlocks, hK, hA⟩ := id C0
  have hl : lv_has ls 3 [(0, .ref (g 899)), (1, .int p0), (2, .int p1)] := hl
  rw [f_X8_of] at h
  refine lv_iload_n hx hb dX8_of_0 rfl (lv_at hl 1 rfl) ?_
  obtain ⟨r1, e2, h⟩ := bd_some h
  refine x_callSI (As := [.int p0]) (rest := []) (n := 1) ⟨hx, hb, hml, hown, hts⟩ (c_X8_isPlayer l D cy  p0 r1 e2) gX8_of_X8_isPlayer rfl hd_X8_isPlayer ⟨Nat.le_of_ble_eq_true rfl, Nat.le_of_ble_eq_true rfl⟩ ⟨rfl, rfl⟩ hK (sp_nil _) (sp_nil _) hP hD hS hA rfl hl.1 rfl (Nat.le_of_ble_eq_true rfl) dX8_of_1 ⟨Nat.zero_le _, Nat.zero_le _⟩ (fun H locs hP hD hS => ?_)
  clear e2
  refine x_if_ne (tgt := 10) hx hb dX8_of_4 (by decide) h (fun _ h => ?_) (fun _ h => ?_)
  · refine lv_bipush (v := -2) hx hb dX8_of_7 (by decide) ?_
    cases h
    exact x_iret hx hb hr hlocks hK hP hD hS dX8_of_9 rfl rfl
  · refine lv_iload_n hx hb dX8_of_10 rfl (lv_at hl 2 rfl) ?_
    by_cases q0 : p1 = (0 : Int32)
    · subst q0
      rw [if_pos rfl] at h
      refine lv_tableIn (tgt := 44) (off := 33) hx hb dX8_of_11 (by decide) (by decide) rfl (by decide) ?_
      refine lv_aload_n hx hb dX8_of_44 rfl (lv_at hl 0 rfl) ?_
      refine va_get (D := D) (ci := 7) (v := .ref (g 699)) (C := RX8) (T := TX8) (N := 7) hx hb hts ki_X8_of_X8 hown hK hP 0 rfl rfl 1 (by decide) (hts _ k_X8_of_0) (fun _ h9 => h9) rfl dX8_of_45 ?_
      refine lv_iload_n hx hb dX8_of_48 rfl (lv_at hl 1 rfl) ?_
      obtain ⟨r3, e4, h⟩ := bd_some h
      refine x_callVI (As := [.int p0]) (rest := []) (n := 1) ⟨hx, hb, hml, hown, hts⟩ (c_X6_strideOf l D cy g us p0 r3 e4) gX8_of_X6_strideOf rfl hd_X6_strideOf ⟨Nat.le_of_ble_eq_true rfl, Nat.le_of_ble_eq_true rfl⟩ ⟨rfl, rfl⟩ hK (sp8_X6 cy g ua us ud ut un ub ue) (sp8_X6 cy g ua us ud ut un ub ue) hP hD hS hA 0 rfl rfl rfl hl.1 rfl (Nat.le_of_ble_eq_true rfl) dX8_of_49 ⟨Nat.zero_le _, Nat.zero_le _⟩ (fun H locs hP hD hS => ?_)
      clear e4
      cases h
      exact x_iret hx hb hr hlocks hK hP hD hS dX8_of_52 rfl rfl
    rw [if_neg q0] at h
    by_cases q1 : p1 = (1 : Int32)
    · subst q1
      rw [if_pos rfl] at h
      refine lv_tableIn (tgt := 53) (off := 42) hx hb dX8_of_11 (by decide) (by decide) rfl (by decide) ?_
      refine lv_aload_n hx hb dX8_of_53 rfl (lv_at hl 0 rfl) ?_
      refine va_get (D := D) (ci := 7) (v := .ref (g 699)) (C := RX8) (T := TX8) (N := 7) hx hb hts ki_X8_of_X8 hown hK hP 0 rfl rfl 1 (by decide) (hts _ k_X8_of_0) (fun _ h9 => h9) rfl dX8_of_54 ?_
      refine lv_iload_n hx hb dX8_of_57 rfl (lv_at hl 1 rfl) ?_
      obtain ⟨r5, e6, h⟩ := bd_some h
      refine x_callVI (As := [.int p0]) (rest := []) (n := 1) ⟨hx, hb, hml, hown, hts⟩ (c_X6_tiredOf l D cy g us p0 r5 e6) gX8_of_X6_tiredOf rfl hd_X6_tiredOf ⟨Nat.le_of_ble_eq_true rfl, Nat.le_of_ble_eq_true rfl⟩ ⟨rfl, rfl⟩ hK (sp8_X6 cy g ua us ud ut un ub ue) (sp8_X6 cy g ua us ud ut un ub ue) hP hD hS hA 0 rfl rfl rfl hl.1 rfl (Nat.le_of_ble_eq_true rfl) dX8_of_58 ⟨Nat.zero_le _, Nat.zero_le _⟩ (fun H locs hP hD hS => ?_)
      clear e6
      cases h
      exact x_iret hx hb hr hlocks hK hP hD hS dX8_of_61 rfl rfl
    rw [if_neg q1] at h
    by_cases q2 : p1 = (2 : Int32)
    · subst q2
      rw [if_pos rfl] at h
      refine lv_tableIn (tgt := 62) (off := 51) hx hb dX8_of_11 (by decide) (by decide) rfl (by decide) ?_
      refine lv_aload_n hx hb dX8_of_62 rfl (lv_at hl 0 rfl) ?_
      refine va_get (D := D) (ci := 7) (v := .ref (g 499)) (C := RX8) (T := TX8) (N := 7) hx hb hts ki_X8_of_X8 hown hK hP 0 rfl rfl 6 (by decide) (hts _ k_X8_of_1) (fun _ h9 => h9) rfl dX8_of_63 ?_
      refine lv_iload_n hx hb dX8_of_66 rfl (lv_at hl 1 rfl) ?_
      obtain ⟨r7, e8, h⟩ := bd_some h
      refine x_callVI (As := [.int p0]) (rest := []) (n := 1) ⟨hx, hb, hml, hown, hts⟩ (c_X4_waitedOf l D cy g ue p0 r7 e8) gX8_of_X4_waitedOf rfl hd_X4_waitedOf ⟨Nat.le_of_ble_eq_true rfl, Nat.le_of_ble_eq_true rfl⟩ ⟨rfl, rfl⟩ hK (sp8_X4 cy g ua us ud ut un ub ue) (sp8_X4 cy g ua us ud ut un ub ue) hP hD hS hA 0 rfl rfl rfl hl.1 rfl (Nat.le_of_ble_eq_true rfl) dX8_of_67 ⟨Nat.zero_le _, Nat.zero_le _⟩ (fun H locs hP hD hS => ?_)
      clear e8
      cases h
      exact x_iret hx hb hr hlocks hK hP hD hS dX8_of_70 rfl rfl
    rw [if_neg q2] at h
    by_cases q3 : p1 = (3 : Int32)
    · subst q3
      rw [if_pos rfl] at h
      refine lv_tableIn (tgt := 71) (off := 60) hx hb dX8_of_11 (by decide) (by decide) rfl (by decide) ?_
      refine lv_aload_n hx hb dX8_of_71 rfl (lv_at hl 0 rfl) ?_
      refine va_get (D := D) (ci := 7) (v := .ref (g 499)) (C := RX8) (T := TX8) (N := 7) hx hb hts ki_X8_of_X8 hown hK hP 0 rfl rfl 6 (by decide) (hts _ k_X8_of_1) (fun _ h9 => h9) rfl dX8_of_72 ?_
      refine lv_iload_n hx hb dX8_of_75 rfl (lv_at hl 1 rfl) ?_
      obtain ⟨r9, e10, h⟩ := bd_some h
      refine x_callVI (As := [.int p0]) (rest := []) (n := 1) ⟨hx, hb, hml, hown, hts⟩ (c_X4_gradeOf l D cy g ue p0 r9 e10) gX8_of_X4_gradeOf rfl hd_X4_gradeOf ⟨Nat.le_of_ble_eq_true rfl, Nat.le_of_ble_eq_true rfl⟩ ⟨rfl, rfl⟩ hK (sp8_X4 cy g ua us ud ut un ub ue) (sp8_X4 cy g ua us ud ut un ub ue) hP hD hS hA 0 rfl rfl rfl hl.1 rfl (Nat.le_of_ble_eq_true rfl) dX8_of_76 ⟨Nat.zero_le _, Nat.zero_le _⟩ (fun H locs hP hD hS => ?_)
      clear e10
      cases h
      exact x_iret hx hb hr hlocks hK hP hD hS dX8_of_79 rfl rfl
    rw [if_neg q3] at h
    by_cases q4 : p1 = (4 : Int32)
    · subst q4
      rw [if_pos rfl] at h
      refine lv_tableIn (tgt := 80) (off := 69) hx hb dX8_of_11 (by decide) (by decide) rfl (by decide) ?_
      refine lv_aload_n hx hb dX8_of_80 rfl (lv_at hl 0 rfl) ?_
      refine va_get (D := D) (ci := 7) (v := .ref (g 499)) (C := RX8) (T := TX8) (N := 7) hx hb hts ki_X8_of_X8 hown hK hP 0 rfl rfl 6 (by decide) (hts _ k_X8_of_1) (fun _ h9 => h9) rfl dX8_of_81 ?_
      refine lv_iload_n hx hb dX8_of_84 rfl (lv_at hl 1 rfl) ?_
      obtain ⟨r11, e12, h⟩ := bd_some h
      refine x_callVI (As := [.int p0]) (rest := []) (n := 1) ⟨hx, hb, hml, hown, hts⟩ (c_X4_gamesOf l D cy g ue p0 r11 e12) gX8_of_X4_gamesOf rfl hd_X4_gamesOf ⟨Nat.le_of_ble_eq_true rfl, Nat.le_of_ble_eq_true rfl⟩ ⟨rfl, rfl⟩ hK (sp8_X4 cy g ua us ud ut un ub ue) (sp8_X4 cy g ua us ud ut un ub ue) hP hD hS hA 0 rfl rfl rfl hl.1 rfl (Nat.le_of_ble_eq_true rfl) dX8_of_85 ⟨Nat.zero_le _, Nat.zero_le _⟩ (fun H locs hP hD hS => ?_)
      clear e12
      cases h
      exact x_iret hx hb hr hlocks hK hP hD hS dX8_of_88 rfl rfl
    rw [if_neg q4] at h
    refine lv_tableOut (tgt := 89) hx hb dX8_of_11 (sw_out5 q0 q1 q2 q3 q4) (by decide) ?_
    refine lv_bipush (v := -3) hx hb dX8_of_89 (by decide) ?_
    cases h
    exact x_iret hx hb hr hlocks hK hP hD hS dX8_of_91 rfl rfl
theorem k_X8_count_0 : Cond.fieldLink RX8 42 "FeatherHall" "notebook" "LFeatherHall$Notebook;" ∈ wsX8_count := (List.mem_cons_of_mem _ (List.mem_append_left _ (List.mem_append_left _ (List.mem_append_left _ (List.mem_append_left _ (List.mem_append_left _ (List.mem_of_getElem? (i := 0) rfl)))))))
theorem ki_X8_count_X8 : ∀ w ∈ u_ws RX8 TX8 7, w ∈ wsX8_count := fun _ hh => (List.mem_cons_of_mem _ (List.mem_append_left _ (List.mem_append_left _ (List.mem_append_left _ (List.mem_append_right _ hh)))))
theorem k_X8_count_1 : Cond.fieldLink RX8 56 "FeatherHall" "evening" "LFeatherHall$Evening;" ∈ wsX8_count := (List.mem_cons_of_mem _ (List.mem_append_left _ (List.mem_append_left _ (List.mem_append_left _ (List.mem_append_left _ (List.mem_append_left _ (List.mem_of_getElem? (i := 1) rfl)))))))
theorem k_X8_count_2 : Cond.fieldLink RX8 49 "FeatherHall" "basket" "LFeatherHall$Basket;" ∈ wsX8_count := (List.mem_cons_of_mem _ (List.mem_append_left _ (List.mem_append_left _ (List.mem_append_left _ (List.mem_append_left _ (List.mem_append_left _ (List.mem_of_getElem? (i := 2) rfl)))))))
theorem hd_X8_count : yX8_count.cls = RX8 ∧ yX8_count.cls ≠ "java/lang/invoke/MethodHandle" ∧ yX8_count.cls ≠ "java/lang/invoke/VarHandle" ∧ (parseMethodDescriptor yX8_count.desc).map (fun d => d.parameters.length) = some 1 := by decide +kernel
set_option maxHeartbeats 4000000 in
set_option maxRecDepth 100000 in
theorem c_X8_count (l : Launch) (D : va_G) (cy : Nat → ClassId) (g : Nat → Nat) (ua : St) (us : St) (ud : St) (ut : St) (un : St) (ub : St) (ue : St) (p0 : Int32) (r : Int32) (h : f_X8_count un ub ue p0 = some r) : CtI l yX8_count wsX8_count (rmH 2) [.ref (g 899), .int p0] D cy (wX8 cy g ua us ud ut un ub ue) (wX8 cy g ua us ud ut un ub ue) r := by
  refine ct_enter (D := D) (cy := cy) (cc := cX8_count) (maxL := 2) (ret := (some .int)) (w := wX8 cy g ua us ud ut un ub ue) (Qc := fun sz => va_Qi (fun r' (_ : Unit) => r' = r) (Bw D cy (va_A (wX8 cy g ua us ud ut un ub ue) sz) (wX8 cy g ua us ud ut un ub ue)) (va_A (wX8 cy g ua us ud ut un ub ue) sz)) (by decide) rfl (Nat.le_of_ble_eq_true rfl) ?_
  intro p e s m below meth c A C0 hAe ls hl hP hD hS
  have e1 : MQ below ((fun sz => va_Qi (fun r' (_ : Unit) => r' = r) (Bw D cy (va_A (wX8 cy g ua us ud ut un ub ue) sz) (wX8 cy g ua us ud ut un ub ue)) (va_A (wX8 cy g ua us ud ut un ub ue) sz)) s.heap.size) [.ref (g 899), .int p0].toArray s 0 0 A = QI below [.ref (g 899), .int p0].toArray s A D cy (wX8 cy g ua us ud ut un ub ue) r := by rw [hAe]; rfl
  rw [e1]
  clear e1 hAe
  obtain ⟨hx, hb, hr, hml, hown, hts, hlocks, hK, hA⟩ := id C0
  have hl : lv_has ls 2 [(0, .ref (g 899)), (1, .int p0)] := hl
  rw [f_X8_count] at h
  refine lv_iload_n hx hb dX8_count_0 rfl (lv_at hl 1 rfl) ?_
  by_cases q0 : p0 = (0 : Int32)
  · subst q0
    rw [if_pos rfl] at h
    refine lv_tableIn (tgt := 36) (off := 35) hx hb dX8_count_1 (by decide) (by decide) rfl (by decide) ?_
    refine lv_aload_n hx hb dX8_count_36 rfl (lv_at hl 0 rfl) ?_
    refine va_get (D := D) (ci := 7) (v := .ref (g 599)) (C := RX8) (T := TX8) (N := 7) hx hb hts ki_X8_count_X8 hown hK hP 0 rfl rfl 4 (by decide) (hts _ k_X8_count_0) (fun _ h9 => h9) rfl dX8_count_37 ?_
    obtain ⟨r1, e2, h⟩ := bd_some h
    refine x_callVI (As := []) (rest := []) (n := 0) ⟨hx, hb, hml, hown, hts⟩ (c_X5_size l D cy g un r1 e2) gX8_count_X5_size rfl hd_X5_size ⟨Nat.le_of_ble_eq_true rfl, Nat.le_of_ble_eq_true rfl⟩ ⟨rfl, rfl⟩ hK (sp8_X5 cy g ua us ud ut un ub ue) (sp8_X5 cy g ua us ud ut un ub ue) hP hD hS hA 0 rfl rfl rfl hl.1 rfl (Nat.le_of_ble_eq_true rfl) dX8_count_40 ⟨Nat.zero_le _, Nat.zero_le _⟩ (fun H locs hP hD hS => ?_)
    clear e2
    cases h
    exact x_iret hx hb hr hlocks hK hP hD hS dX8_count_43 rfl rfl
  rw [if_neg q0] at h
  by_cases q1 : p0 = (1 : Int32)
  · subst q1
    rw [if_pos rfl] at h
    refine lv_tableIn (tgt := 44) (off := 43) hx hb dX8_count_1 (by decide) (by decide) rfl (by decide) ?_
    refine lv_aload_n hx hb dX8_count_44 rfl (lv_at hl 0 rfl) ?_
    refine va_get (D := D) (ci := 7) (v := .ref (g 599)) (C := RX8) (T := TX8) (N := 7) hx hb hts ki_X8_count_X8 hown hK hP 0 rfl rfl 4 (by decide) (hts _ k_X8_count_0) (fun _ h9 => h9) rfl dX8_count_45 ?_
    obtain ⟨r3, e4, h⟩ := bd_some h
    refine x_callVI (As := []) (rest := []) (n := 0) ⟨hx, hb, hml, hown, hts⟩ (c_X5_triedHabits l D cy g un r3 e4) gX8_count_X5_triedHabits rfl hd_X5_triedHabits ⟨Nat.le_of_ble_eq_true rfl, Nat.le_of_ble_eq_true rfl⟩ ⟨rfl, rfl⟩ hK (sp8_X5 cy g ua us ud ut un ub ue) (sp8_X5 cy g ua us ud ut un ub ue) hP hD hS hA 0 rfl rfl rfl hl.1 rfl (Nat.le_of_ble_eq_true rfl) dX8_count_48 ⟨Nat.zero_le _, Nat.zero_le _⟩ (fun H locs hP hD hS => ?_)
    clear e4
    cases h
    exact x_iret hx hb hr hlocks hK hP hD hS dX8_count_51 rfl rfl
  rw [if_neg q1] at h
  by_cases q2 : p0 = (2 : Int32)
  · subst q2
    rw [if_pos rfl] at h
    refine lv_tableIn (tgt := 52) (off := 51) hx hb dX8_count_1 (by decide) (by decide) rfl (by decide) ?_
    refine lv_aload_n hx hb dX8_count_52 rfl (lv_at hl 0 rfl) ?_
    refine va_get (D := D) (ci := 7) (v := .ref (g 499)) (C := RX8) (T := TX8) (N := 7) hx hb hts ki_X8_count_X8 hown hK hP 0 rfl rfl 6 (by decide) (hts _ k_X8_count_1) (fun _ h9 => h9) rfl dX8_count_53 ?_
    obtain ⟨r5, e6, h⟩ := bd_some h
    refine x_callVI (As := []) (rest := []) (n := 0) ⟨hx, hb, hml, hown, hts⟩ (c_X4_thereNow l D cy g ue r5 e6) gX8_count_X4_thereNow rfl hd_X4_thereNow ⟨Nat.le_of_ble_eq_true rfl, Nat.le_of_ble_eq_true rfl⟩ ⟨rfl, rfl⟩ hK (sp8_X4 cy g ua us ud ut un ub ue) (sp8_X4 cy g ua us ud ut un ub ue) hP hD hS hA 0 rfl rfl rfl hl.1 rfl (Nat.le_of_ble_eq_true rfl) dX8_count_56 ⟨Nat.zero_le _, Nat.zero_le _⟩ (fun H locs hP hD hS => ?_)
    clear e6
    cases h
    exact x_iret hx hb hr hlocks hK hP hD hS dX8_count_59 rfl rfl
  rw [if_neg q2] at h
  by_cases q3 : p0 = (3 : Int32)
  · subst q3
    rw [if_pos rfl] at h
    refine lv_tableIn (tgt := 60) (off := 59) hx hb dX8_count_1 (by decide) (by decide) rfl (by decide) ?_
    refine lv_aload_n hx hb dX8_count_60 rfl (lv_at hl 0 rfl) ?_
    refine va_get (D := D) (ci := 7) (v := .ref (g 499)) (C := RX8) (T := TX8) (N := 7) hx hb hts ki_X8_count_X8 hown hK hP 0 rfl rfl 6 (by decide) (hts _ k_X8_count_1) (fun _ h9 => h9) rfl dX8_count_61 ?_
    obtain ⟨r7, e8, h⟩ := bd_some h
    refine x_callVI (As := []) (rest := []) (n := 0) ⟨hx, hb, hml, hown, hts⟩ (c_X4_roundsPlayed l D cy g ue r7 e8) gX8_count_X4_roundsPlayed rfl hd_X4_roundsPlayed ⟨Nat.le_of_ble_eq_true rfl, Nat.le_of_ble_eq_true rfl⟩ ⟨rfl, rfl⟩ hK (sp8_X4 cy g ua us ud ut un ub ue) (sp8_X4 cy g ua us ud ut un ub ue) hP hD hS hA 0 rfl rfl rfl hl.1 rfl (Nat.le_of_ble_eq_true rfl) dX8_count_64 ⟨Nat.zero_le _, Nat.zero_le _⟩ (fun H locs hP hD hS => ?_)
    clear e8
    cases h
    exact x_iret hx hb hr hlocks hK hP hD hS dX8_count_67 rfl rfl
  rw [if_neg q3] at h
  by_cases q4 : p0 = (4 : Int32)
  · subst q4
    rw [if_pos rfl] at h
    refine lv_tableIn (tgt := 68) (off := 67) hx hb dX8_count_1 (by decide) (by decide) rfl (by decide) ?_
    refine lv_aload_n hx hb dX8_count_68 rfl (lv_at hl 0 rfl) ?_
    refine va_get (D := D) (ci := 7) (v := .ref (g 199)) (C := RX8) (T := TX8) (N := 7) hx hb hts ki_X8_count_X8 hown hK hP 0 rfl rfl 5 (by decide) (hts _ k_X8_count_2) (fun _ h9 => h9) rfl dX8_count_69 ?_
    obtain ⟨r9, e10, h⟩ := bd_some h
    refine x_callVI (As := []) (rest := []) (n := 0) ⟨hx, hb, hml, hown, hts⟩ (c_X1_size l D cy g ub r9 e10) gX8_count_X1_size rfl hd_X1_size ⟨Nat.le_of_ble_eq_true rfl, Nat.le_of_ble_eq_true rfl⟩ ⟨rfl, rfl⟩ hK (sp8_X1 cy g ua us ud ut un ub ue) (sp8_X1 cy g ua us ud ut un ub ue) hP hD hS hA 0 rfl rfl rfl hl.1 rfl (Nat.le_of_ble_eq_true rfl) dX8_count_72 ⟨Nat.zero_le _, Nat.zero_le _⟩ (fun H locs hP hD hS => ?_)
    clear e10
    cases h
    exact x_iret hx hb hr hlocks hK hP hD hS dX8_count_75 rfl rfl
  rw [if_neg q4] at h
  refine lv_tableOut (tgt := 76) hx hb dX8_count_1 (sw_out5 q0 q1 q2 q3 q4) (by decide) ?_
  refine lv_bipush (v := -3) hx hb dX8_count_76 (by decide) ?_
  cases h
  exact x_iret hx hb hr hlocks hK hP hD hS dX8_count_78 rfl rfl
