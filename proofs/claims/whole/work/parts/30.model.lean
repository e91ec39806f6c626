theorem hd_X9_in : yX9_in.cls ≠ "java/lang/invoke/MethodHandle" ∧ yX9_in.cls ≠ "java/lang/invoke/VarHandle" ∧ (parseMethodDescriptor yX9_in.desc).map (fun d => d.parameters.length) = some 3 := by decide +kernel
set_option maxHeartbeats 4000000 in
set_option maxRecDepth 100000 in
theorem c_X9_in (l : Launch) (D : va_G) (cy : Nat → ClassId) (p0 : Int32) (p1 : Int32) (p2 : Int32) (r : Int32) (h : f_X9_in p0 p1 p2 = some r) : CtI l yX9_in wsX9_in (rmH 0) [.int p0, .int p1, .int p2] D cy (([] : va_W)) (([] : va_W)) r := by
  refine ct_enter (D := D) (cy := cy) (cc := cX9_in) (maxL := 3) (ret := (some .boolean)) (w := ([] : va_W)) (Qc := fun sz => va_Qi (fun r' (_ : Unit) => r' = r) (Bw D cy (va_A (([] : va_W)) sz) (([] : va_W))) (va_A (([] : va_W)) sz)) (by decide) rfl (Nat.le_of_ble_eq_true rfl) ?_
  intro p e s m below meth c A C0 hAe ls hl hP hD hS
  have e1 : MQ below ((fun sz => va_Qi (fun r' (_ : Unit) => r' = r) (Bw D cy (va_A (([] : va_W)) sz) (([] : va_W))) (va_A (([] : va_W)) sz)) s.heap.size) [.int p0, .int p1, .int p2].toArray s 0 0 A = QI below [.int p0, .int p1, .int p2].toArray s A D cy (([] : va_W)) r := by rw [hAe]; rfl
  rw [e1]
  clear e1 hAe
  obtain ⟨hx, hb, hr, hml, hown, hts, hlocks, hK, hA⟩ := id C0
  have hl : lv_has ls 3 [(0, .int p0), (1, .int p1), (2, .int p2)] := hl
  rw [f_X9_in] at h
  refine lv_iload_n hx hb dX9_in_0 rfl (lv_at hl 0 rfl) ?_
  refine lv_iload_n hx hb dX9_in_1 rfl (lv_at hl 1 rfl) ?_
  refine x_icmp_lt (tgt := 14) hx hb dX9_in_2 (by decide) h (fun _ h => ?_) (fun _ h => ?_)
  · refine lv_iconst (v := 0) hx hb dX9_in_14 (by decide) ?_
    cases h
    exact x_zret hx hb hr hlocks hK hP hD hS (Or.inl rfl) dX9_in_15 rfl rfl
  · refine lv_iload_n hx hb dX9_in_5 rfl (lv_at hl 0 rfl) ?_
    refine lv_iload_n hx hb dX9_in_6 rfl (lv_at hl 2 rfl) ?_
    refine x_icmp_gt (tgt := 14) hx hb dX9_in_7 (by decide) h (fun _ h => ?_) (fun _ h => ?_)
    · refine lv_iconst (v := 0) hx hb dX9_in_14 (by decide) ?_
      cases h
      exact x_zret hx hb hr hlocks hK hP hD hS (Or.inl rfl) dX9_in_15 rfl rfl
    · refine lv_iconst (v := 1) hx hb dX9_in_10 (by decide) ?_
      refine lv_goto (tgt := 15) hx hb dX9_in_11 (by decide) ?_
      cases h
      exact x_zret hx hb hr hlocks hK hP hD hS (Or.inr rfl) dX9_in_15 rfl rfl
theorem hd_X9_isCell : yX9_isCell.cls ≠ "java/lang/invoke/MethodHandle" ∧ yX9_isCell.cls ≠ "java/lang/invoke/VarHandle" ∧ (parseMethodDescriptor yX9_isCell.desc).map (fun d => d.parameters.length) = some 1 := by decide +kernel
set_option maxHeartbeats 4000000 in
set_option maxRecDepth 100000 in
theorem c_X9_isCell (l : Launch) (D : va_G) (cy : Nat → ClassId) (p0 : Int32) (r : Int32) (h : f_X9_isCell p0 = some r) : CtI l yX9_isCell wsX9_isCell (rmH 1) [.int p0] D cy (([] : va_W)) (([] : va_W)) r := by
  refine ct_enter (D := D) (cy := cy) (cc := cX9_isCell) (maxL := 1) (ret := (some .boolean)) (w := ([] : va_W)) (Qc := fun sz => va_Qi (fun r' (_ : Unit) => r' = r) (Bw D cy (va_A (([] : va_W)) sz) (([] : va_W))) (va_A (([] : va_W)) sz)) (by decide) rfl (Nat.le_of_ble_eq_true rfl) ?_
  intro p e s m below meth c A C0 hAe ls hl hP hD hS
  have e1 : MQ below ((fun sz => va_Qi (fun r' (_ : Unit) => r' = r) (Bw D cy (va_A (([] : va_W)) sz) (([] : va_W))) (va_A (([] : va_W)) sz)) s.heap.size) [.int p0].toArray s 0 0 A = QI below [.int p0].toArray s A D cy (([] : va_W)) r := by rw [hAe]; rfl
  rw [e1]
  clear e1 hAe
  obtain ⟨hx, hb, hr, hml, hown, hts, hlocks, hK, hA⟩ := id C0
  have hl : lv_has ls 1 [(0, .int p0)] := hl
  rw [f_X9_isCell] at h
  refine lv_iload_n hx hb dX9_isCell_0 rfl (lv_at hl 0 rfl) ?_
  refine lv_iconst (v := 0) hx hb dX9_isCell_1 (by decide) ?_
  refine lv_bipush (v := 15) hx hb dX9_isCell_2 (by decide) ?_
  obtain ⟨r1, e2, h⟩ := bd_some h
  refine x_callSI (As := [.int p0, .int (0 : Int32), .int (15 : Int32)]) (rest := []) (n := 3) ⟨hx, hb, hml, hown, hts⟩ (c_X9_in l D cy  p0 (0 : Int32) (15 : Int32) r1 e2) gX9_isCell_X9_in rfl hd_X9_in ⟨Nat.le_of_ble_eq_true rfl, Nat.le_of_ble_eq_true rfl⟩ ⟨rfl, rfl⟩ hK (sp_nil _) (sp_nil _) hP hD hS hA rfl hl.1 rfl (Nat.le_of_ble_eq_true rfl) dX9_isCell_4 ⟨Nat.zero_le _, Nat.zero_le _⟩ (fun H locs hP hD hS => ?_)
  clear e2
  obtain ⟨hz, h⟩ := bk_some h
  cases h
  exact x_zret hx hb hr hlocks hK hP hD hS hz dX9_isCell_7 rfl rfl
theorem hd_X9_isKind : yX9_isKind.cls ≠ "java/lang/invoke/MethodHandle" ∧ yX9_isKind.cls ≠ "java/lang/invoke/VarHandle" ∧ (parseMethodDescriptor yX9_isKind.desc).map (fun d => d.parameters.length) = some 1 := by decide +kernel
set_option maxHeartbeats 4000000 in
set_option maxRecDepth 100000 in
theorem c_X9_isKind (l : Launch) (D : va_G) (cy : Nat → ClassId) (p0 : Int32) (r : Int32) (h : f_X9_isKind p0 = some r) : CtI l yX9_isKind wsX9_isKind (rmH 1) [.int p0] D cy (([] : va_W)) (([] : va_W)) r := by
  refine ct_enter (D := D) (cy := cy) (cc := cX9_isKind) (maxL := 1) (ret := (some .boolean)) (w := ([] : va_W)) (Qc := fun sz => va_Qi (fun r' (_ : Unit) => r' = r) (Bw D cy (va_A (([] : va_W)) sz) (([] : va_W))) (va_A (([] : va_W)) sz)) (by decide) rfl (Nat.le_of_ble_eq_true rfl) ?_
  intro p e s m below meth c A C0 hAe ls hl hP hD hS
  have e1 : MQ below ((fun sz => va_Qi (fun r' (_ : Unit) => r' = r) (Bw D cy (va_A (([] : va_W)) sz) (([] : va_W))) (va_A (([] : va_W)) sz)) s.heap.size) [.int p0].toArray s 0 0 A = QI below [.int p0].toArray s A D cy (([] : va_W)) r := by rw [hAe]; rfl
  rw [e1]
  clear e1 hAe
  obtain ⟨hx, hb, hr, hml, hown, hts, hlocks, hK, hA⟩ := id C0
  have hl : lv_has ls 1 [(0, .int p0)] := hl
  rw [f_X9_isKind] at h
  refine lv_iload_n hx hb dX9_isKind_0 rfl (lv_at hl 0 rfl) ?_
  refine lv_iconst (v := 0) hx hb dX9_isKind_1 (by decide) ?_
  refine lv_iconst (v := 3) hx hb dX9_isKind_2 (by decide) ?_
  obtain ⟨r1, e2, h⟩ := bd_some h
  refine x_callSI (As := [.int p0, .int (0 : Int32), .int (3 : Int32)]) (rest := []) (n := 3) ⟨hx, hb, hml, hown, hts⟩ (c_X9_in l D cy  p0 (0 : Int32) (3 : Int32) r1 e2) gX9_isKind_X9_in rfl hd_X9_in ⟨Nat.le_of_ble_eq_true rfl, Nat.le_of_ble_eq_true rfl⟩ ⟨rfl, rfl⟩ hK (sp_nil _) (sp_nil _) hP hD hS hA rfl hl.1 rfl (Nat.le_of_ble_eq_true rfl) dX9_isKind_3 ⟨Nat.zero_le _, Nat.zero_le _⟩ (fun H locs hP hD hS => ?_)
  clear e2
  obtain ⟨hz, h⟩ := bk_some h
  cases h
  exact x_zret hx hb hr hlocks hK hP hD hS hz dX9_isKind_6 rfl rfl
theorem hd_X9_isPlayer : yX9_isPlayer.cls ≠ "java/lang/invoke/MethodHandle" ∧ yX9_isPlayer.cls ≠ "java/lang/invoke/VarHandle" ∧ (parseMethodDescriptor yX9_isPlayer.desc).map (fun d => d.parameters.length) = some 1 := by decide +kernel
set_option maxHeartbeats 4000000 in
set_option maxRecDepth 100000 in
theorem c_X9_isPlayer (l : Launch) (D : va_G) (cy : Nat → ClassId) (p0 : Int32) (r : Int32) (h : f_X9_isPlayer p0 = some r) : CtI l yX9_isPlayer wsX9_isPlayer (rmH 1) [.int p0] D cy (([] : va_W)) (([] : va_W)) r := by
  refine ct_enter (D := D) (cy := cy) (cc := cX9_isPlayer) (maxL := 1) (ret := (some .boolean)) (w := ([] : va_W)) (Qc := fun sz => va_Qi (fun r' (_ : Unit) => r' = r) (Bw D cy (va_A (([] : va_W)) sz) (([] : va_W))) (va_A (([] : va_W)) sz)) (by decide) rfl (Nat.le_of_ble_eq_true rfl) ?_
  intro p e s m below meth c A C0 hAe ls hl hP hD hS
  have e1 : MQ below ((fun sz => va_Qi (fun r' (_ : Unit) => r' = r) (Bw D cy (va_A (([] : va_W)) sz) (([] : va_W))) (va_A (([] : va_W)) sz)) s.heap.size) [.int p0].toArray s 0 0 A = QI below [.int p0].toArray s A D cy (([] : va_W)) r := by rw [hAe]; rfl
  rw [e1]
  clear e1 hAe
  obtain ⟨hx, hb, hr, hml, hown, hts, hlocks, hK, hA⟩ := id C0
  have hl : lv_has ls 1 [(0, .int p0)] := hl
  rw [f_X9_isPlayer] at h
  refine lv_iload_n hx hb dX9_isPlayer_0 rfl (lv_at hl 0 rfl) ?_
  refine lv_iconst (v := 0) hx hb dX9_isPlayer_1 (by decide) ?_
  refine lv_bipush (v := 7) hx hb dX9_isPlayer_2 (by decide) ?_
  obtain ⟨r1, e2, h⟩ := bd_some h
  refine x_callSI (As := [.int p0, .int (0 : Int32), .int (7 : Int32)]) (rest := []) (n := 3) ⟨hx, hb, hml, hown, hts⟩ (c_X9_in l D cy  p0 (0 : Int32) (7 : Int32) r1 e2) gX9_isPlayer_X9_in rfl hd_X9_in ⟨Nat.le_of_ble_eq_true rfl, Nat.le_of_ble_eq_true rfl⟩ ⟨rfl, rfl⟩ hK (sp_nil _) (sp_nil _) hP hD hS hA rfl hl.1 rfl (Nat.le_of_ble_eq_true rfl) dX9_isPlayer_4 ⟨Nat.zero_le _, Nat.zero_le _⟩ (fun H locs hP hD hS => ?_)
  clear e2
  obtain ⟨hz, h⟩ := bk_some h
  cases h
  exact x_zret hx hb hr hlocks hK hP hD hS hz dX9_isPlayer_7 rfl rfl
theorem hd_X9_size : yX9_size.cls ≠ "java/lang/invoke/MethodHandle" ∧ yX9_size.cls ≠ "java/lang/invoke/VarHandle" ∧ (parseMethodDescriptor yX9_size.desc).map (fun d => d.parameters.length) = some 1 := by decide +kernel
set_option maxHeartbeats 4000000 in
set_option maxRecDepth 100000 in
theorem c_X9_size (l : Launch) (D : va_G) (cy : Nat → ClassId) (p0 : Int32) (r : Int32) (h : f_X9_size p0 = some r) : CtI l yX9_size wsX9_size (rmH 0) [.int p0] D cy (([] : va_W)) (([] : va_W)) r := by
  refine ct_enter (D := D) (cy := cy) (cc := cX9_size) (maxL := 1) (ret := (some .int)) (w := ([] : va_W)) (Qc := fun sz => va_Qi (fun r' (_ : Unit) => r' = r) (Bw D cy (va_A (([] : va_W)) sz) (([] : va_W))) (va_A (([] : va_W)) sz)) (by decide) rfl (Nat.le_of_ble_eq_true rfl) ?_
  intro p e s m below meth c A C0 hAe ls hl hP hD hS
  have e1 : MQ below ((fun sz => va_Qi (fun r' (_ : Unit) => r' = r) (Bw D cy (va_A (([] : va_W)) sz) (([] : va_W))) (va_A (([] : va_W)) sz)) s.heap.size) [.int p0].toArray s 0 0 A = QI below [.int p0].toArray s A D cy (([] : va_W)) r := by rw [hAe]; rfl
  rw [e1]
  clear e1 hAe
  obtain ⟨hx, hb, hr, hml, hown, hts, hlocks, hK, hA⟩ := id C0
  have hl : lv_has ls 1 [(0, .int p0)] := hl
  rw [f_X9_size] at h
  refine lv_iload_n hx hb dX9_size_0 rfl (lv_at hl 0 rfl) ?_
  refine x_if_ge (tgt := 9) hx hb dX9_size_1 (by decide) h (fun _ h => ?_) (fun _ h => ?_)
  · refine lv_iload_n hx hb dX9_size_9 rfl (lv_at hl 0 rfl) ?_
    cases h
    exact x_iret hx hb hr hlocks hK hP hD hS dX9_size_10 rfl rfl
  · refine lv_iload_n hx hb dX9_size_4 rfl (lv_at hl 0 rfl) ?_
    refine lv_ineg hx hb dX9_size_5 ?_
    refine lv_goto (tgt := 10) hx hb dX9_size_6 (by decide) ?_
    cases h
    exact x_iret hx hb hr hlocks hK hP hD hS dX9_size_10 rfl rfl
theorem hd_X9_far : yX9_far.cls ≠ "java/lang/invoke/MethodHandle" ∧ yX9_far.cls ≠ "java/lang/invoke/VarHandle" ∧ (parseMethodDescriptor yX9_far.desc).map (fun d => d.parameters.length) = some 2 := by decide +kernel
set_option maxHeartbeats 4000000 in
set_option maxRecDepth 100000 in
theorem c_X9_far (l : Launch) (D : va_G) (cy : Nat → ClassId) (p0 : Int32) (p1 : Int32) (r : Int32) (h : f_X9_far p0 p1 = some r) : CtI l yX9_far wsX9_far (rmH 1) [.int p0, .int p1] D cy (([] : va_W)) (([] : va_W)) r := by
  refine ct_enter (D := D) (cy := cy) (cc := cX9_far) (maxL := 4) (ret := (some .int)) (w := ([] : va_W)) (Qc := fun sz => va_Qi (fun r' (_ : Unit) => r' = r) (Bw D cy (va_A (([] : va_W)) sz) (([] : va_W))) (va_A (([] : va_W)) sz)) (by decide) rfl (Nat.le_of_ble_eq_true rfl) ?_
  intro p e s m below meth c A C0 hAe ls hl hP hD hS
  have e1 : MQ below ((fun sz => va_Qi (fun r' (_ : Unit) => r' = r) (Bw D cy (va_A (([] : va_W)) sz) (([] : va_W))) (va_A (([] : va_W)) sz)) s.heap.size) [.int p0, .int p1].toArray s 0 0 A = QI below [.int p0, .int p1].toArray s A D cy (([] : va_W)) r := by rw [hAe]; rfl
  rw [e1]
  clear e1 hAe
  obtain ⟨hx, hb, hr, hml, hown, hts, hlocks, hK, hA⟩ := id C0
  have hl : lv_has ls 4 [(0, .int p0), (1, .int p1)] := hl
  rw [f_X9_far] at h
  refine lv_iload_n hx hb dX9_far_0 rfl (lv_at hl 0 rfl) ?_
  refine lv_iconst (v := 4) hx hb dX9_far_1 (by decide) ?_
  refine lv_idiv hx hb dX9_far_2 (by decide) ?_
  refine lv_iload_n hx hb dX9_far_3 rfl (lv_at hl 1 rfl) ?_
  refine lv_iconst (v := 4) hx hb dX9_far_4 (by decide) ?_
  refine lv_idiv hx hb dX9_far_5 (by decide) ?_
  refine lv_isub hx hb dX9_far_6 ?_
  obtain ⟨r1, e2, h⟩ := bd_some h
  refine x_callSI (As := [.int ((p0 / (4 : Int32)) - (p1 / (4 : Int32)))]) (rest := []) (n := 1) ⟨hx, hb, hml, hown, hts⟩ (c_X9_size l D cy  ((p0 / (4 : Int32)) - (p1 / (4 : Int32))) r1 e2) gX9_far_X9_size rfl hd_X9_size ⟨Nat.le_of_ble_eq_true rfl, Nat.le_of_ble_eq_true rfl⟩ ⟨rfl, rfl⟩ hK (sp_nil _) (sp_nil _) hP hD hS hA rfl hl.1 rfl (Nat.le_of_ble_eq_true rfl) dX9_far_7 ⟨Nat.zero_le _, Nat.zero_le _⟩ (fun H locs hP hD hS => ?_)
  clear e2
  refine lv_istore_n (lv' := [(2, .int r1), (0, .int p0), (1, .int p1)]) hx hb dX9_far_10 rfl hl (by decide) rfl (fun ls hl => ?_)
  refine lv_iload_n hx hb dX9_far_11 rfl (lv_at hl 1 rfl) ?_
  refine lv_iconst (v := 4) hx hb dX9_far_12 (by decide) ?_
  refine lv_irem hx hb dX9_far_13 (by decide) ?_
  refine lv_iload_n hx hb dX9_far_14 rfl (lv_at hl 2 rfl) ?_
  refine lv_iconst (v := 4) hx hb dX9_far_15 (by decide) ?_
  refine lv_irem hx hb dX9_far_16 (by decide) ?_
  refine lv_isub hx hb dX9_far_17 ?_
  obtain ⟨r3, e4, h⟩ := bd_some h
  refine x_callSI (As := [.int ((p0 - p0 / (4 : Int32) * (4 : Int32)) - (p1 - p1 / (4 : Int32) * (4 : Int32)))]) (rest := []) (n := 1) ⟨hx, hb, hml, hown, hts⟩ (c_X9_size l D cy  ((p0 - p0 / (4 : Int32) * (4 : Int32)) - (p1 - p1 / (4 : Int32) * (4 : Int32))) r3 e4) gX9_far_X9_size rfl hd_X9_size ⟨Nat.le_of_ble_eq_true rfl, Nat.le_of_ble_eq_true rfl⟩ ⟨rfl, rfl⟩ hK (sp_nil _) (sp_nil _) hP hD hS hA rfl hl.1 rfl (Nat.le_of_ble_eq_true rfl) dX9_far_18 ⟨Nat.zero_le _, Nat.zero_le _⟩ (fun H locs hP hD hS => ?_)
  clear e4
  refine lv_istore_n (lv' := [(3, .int r3), (2, .int r1), (0, .int p0), (1, .int p1)]) hx hb dX9_far_21 rfl hl (by decide) rfl (fun ls hl => ?_)
  refine lv_iload_n hx hb dX9_far_22 rfl (lv_at hl 1 rfl) ?_
  refine lv_iload_n hx hb dX9_far_23 rfl (lv_at hl 0 rfl) ?_
  refine x_icmp_le (tgt := 31) hx hb dX9_far_24 (by decide) h (fun _ h => ?_) (fun _ h => ?_)
  · refine lv_iload_n hx hb dX9_far_31 rfl (lv_at hl 0 rfl) ?_
    cases h
    exact x_iret hx hb hr hlocks hK hP hD hS dX9_far_32 rfl rfl
  · refine lv_iload_n hx hb dX9_far_27 rfl (lv_at hl 1 rfl) ?_
    refine lv_goto (tgt := 32) hx hb dX9_far_28 (by decide) ?_
    cases h
    exact x_iret hx hb hr hlocks hK hP hD hS dX9_far_32 rfl rfl
theorem k_X9_kind_0 : Cond.fieldLink RX9 7 "FeatherHallModel" "speed" "[I" ∈ wsX9_kind := (List.mem_cons_of_mem _ (List.mem_append_left _ (List.mem_of_getElem? (i := 0) rfl)))
theorem ki_X9_kind_X9 : ∀ w ∈ u_ws RX9 TX9 38, w ∈ wsX9_kind := fun _ hh => (List.mem_cons_of_mem _ (List.mem_append_right _ hh))
theorem k_X9_kind_1 : Cond.fieldLink RX9 13 "FeatherHallModel" "drag" "[I" ∈ wsX9_kind := (List.mem_cons_of_mem _ (List.mem_append_left _ (List.mem_of_getElem? (i := 1) rfl)))
theorem k_X9_kind_2 : Cond.fieldLink RX9 16 "FeatherHallModel" "meet" "[I" ∈ wsX9_kind := (List.mem_cons_of_mem _ (List.mem_append_left _ (List.mem_of_getElem? (i := 2) rfl)))
theorem hd_X9_kind : yX9_kind.cls = RX9 ∧ yX9_kind.cls ≠ "java/lang/invoke/MethodHandle" ∧ yX9_kind.cls ≠ "java/lang/invoke/VarHandle" ∧ (parseMethodDescriptor yX9_kind.desc).map (fun d => d.parameters.length) = some 4 := by decide +kernel
set_option maxHeartbeats 4000000 in
set_option maxRecDepth 100000 in
theorem c_X9_kind (l : Launch) (D : va_G) (cy : Nat → ClassId) (g : Nat → Nat) (um : St) (p0 : Int32) (p1 : Int32) (p2 : Int32) (p3 : Int32) (r : Int32) (um' : St) (h : f_X9_kind p0 p1 p2 p3 um = some (r, um')) : CtI l yX9_kind wsX9_kind (rmH 2) [.ref (g 999), .int p0, .int p1, .int p2, .int p3] D cy (wX9 cy g um) (wX9 cy g um') r := by
  refine ct_enter (D := D) (cy := cy) (cc := cX9_kind) (maxL := 5) (ret := (some .int)) (w := wX9 cy g um) (Qc := fun sz => va_Qi (fun r' (_ : Unit) => r' = r) (Bw D cy (va_A (wX9 cy g um) sz) (wX9 cy g um')) (va_A (wX9 cy g um) sz)) (by decide) rfl (Nat.le_of_ble_eq_true rfl) ?_
  intro p e s m below meth c A C0 hAe ls hl hP hD hS
  have e1 : MQ below ((fun sz => va_Qi (fun r' (_ : Unit) => r' = r) (Bw D cy (va_A (wX9 cy g um) sz) (wX9 cy g um')) (va_A (wX9 cy g um) sz)) s.heap.size) [.ref (g 999), .int p0, .int p1, .int p2, .int p3].toArray s 0 0 A = QI below [.ref (g 999), .int p0, .int p1, .int p2, .int p3].toArray s A D cy (wX9 cy g um') r := by rw [hAe]; rfl
  rw [e1]
  clear e1 hAe
  obtain ⟨hx, hb, hr, hml, hown, hts, hlocks, hK, hA⟩ := id C0
  have hl : lv_has ls 5 [(0, .ref (g 999)), (1, .int p0), (2, .int p1), (3, .int p2), (4, .int p3)] := hl
  rw [f_X9_kind] at h
  refine lv_iload_n hx hb dX9_kind_0 rfl (lv_at hl 1 rfl) ?_
  obtain ⟨r1, e2, h⟩ := bd_some h
  refine x_callSI (As := [.int p0]) (rest := []) (n := 1) ⟨hx, hb, hml, hown, hts⟩ (c_X9_isKind l D cy  p0 r1 e2) gX9_kind_X9_isKind rfl hd_X9_isKind ⟨Nat.le_of_ble_eq_true rfl, Nat.le_of_ble_eq_true rfl⟩ ⟨rfl, rfl⟩ hK (sp_nil _) (sp_nil _) hP hD hS hA rfl hl.1 rfl (Nat.le_of_ble_eq_true rfl) dX9_kind_1 ⟨Nat.zero_le _, Nat.zero_le _⟩ (fun H locs hP hD hS => ?_)
  clear e2
  refine x_if_ne (tgt := 10) hx hb dX9_kind_4 (by decide) h (fun _ h => ?_) (fun _ h => ?_)
  · refine lv_bipush (v := -2) hx hb dX9_kind_7 (by decide) ?_
    cases h
    exact x_iret hx hb hr hlocks hK hP hD hS dX9_kind_9 rfl rfl
  · refine lv_iload_n hx hb dX9_kind_10 rfl (lv_at hl 2 rfl) ?_
    refine lv_bipush (v := 10) hx hb dX9_kind_11 (by decide) ?_
    refine lv_bipush (v := 60) hx hb dX9_kind_13 (by decide) ?_
    obtain ⟨r3, e4, h⟩ := bd_some h
    refine x_callSI (As := [.int p1, .int (10 : Int32), .int (60 : Int32)]) (rest := []) (n := 3) ⟨hx, hb, hml, hown, hts⟩ (c_X9_in l D cy  p1 (10 : Int32) (60 : Int32) r3 e4) gX9_kind_X9_in rfl hd_X9_in ⟨Nat.le_of_ble_eq_true rfl, Nat.le_of_ble_eq_true rfl⟩ ⟨rfl, rfl⟩ hK (sp_nil _) (sp_nil _) hP hD hS hA rfl hl.1 rfl (Nat.le_of_ble_eq_true rfl) dX9_kind_15 ⟨Nat.zero_le _, Nat.zero_le _⟩ (fun H locs hP hD hS => ?_)
    clear e4
    refine x_if_eq (tgt := 42) hx hb dX9_kind_18 (by decide) h (fun _ h => ?_) (fun _ h => ?_)
    · refine lv_bipush (v := -3) hx hb dX9_kind_42 (by decide) ?_
      cases h
      exact x_iret hx hb hr hlocks hK hP hD hS dX9_kind_44 rfl rfl
    · refine lv_iload_n hx hb dX9_kind_21 rfl (lv_at hl 3 rfl) ?_
      refine lv_iconst (v := 0) hx hb dX9_kind_22 (by decide) ?_
      refine lv_bipush (v := 60) hx hb dX9_kind_23 (by decide) ?_
      obtain ⟨r5, e6, h⟩ := bd_some h
      refine x_callSI (As := [.int p2, .int (0 : Int32), .int (60 : Int32)]) (rest := []) (n := 3) ⟨hx, hb, hml, hown, hts⟩ (c_X9_in l D cy  p2 (0 : Int32) (60 : Int32) r5 e6) gX9_kind_X9_in rfl hd_X9_in ⟨Nat.le_of_ble_eq_true rfl, Nat.le_of_ble_eq_true rfl⟩ ⟨rfl, rfl⟩ hK (sp_nil _) (sp_nil _) hP hD hS hA rfl hl.1 rfl (Nat.le_of_ble_eq_true rfl) dX9_kind_25 ⟨Nat.zero_le _, Nat.zero_le _⟩ (fun H locs hP hD hS => ?_)
      clear e6
      refine x_if_eq (tgt := 42) hx hb dX9_kind_28 (by decide) h (fun _ h => ?_) (fun _ h => ?_)
      · refine lv_bipush (v := -3) hx hb dX9_kind_42 (by decide) ?_
        cases h
        exact x_iret hx hb hr hlocks hK hP hD hS dX9_kind_44 rfl rfl
      · refine lv_iload hx hb dX9_kind_31 (lv_at hl 4 rfl) ?_
        refine lv_iconst (v := 1) hx hb dX9_kind_33 (by decide) ?_
        refine lv_bipush (v := 6) hx hb dX9_kind_34 (by decide) ?_
        obtain ⟨r7, e8, h⟩ := bd_some h
        refine x_callSI (As := [.int p3, .int (1 : Int32), .int (6 : Int32)]) (rest := []) (n := 3) ⟨hx, hb, hml, hown, hts⟩ (c_X9_in l D cy  p3 (1 : Int32) (6 : Int32) r7 e8) gX9_kind_X9_in rfl hd_X9_in ⟨Nat.le_of_ble_eq_true rfl, Nat.le_of_ble_eq_true rfl⟩ ⟨rfl, rfl⟩ hK (sp_nil _) (sp_nil _) hP hD hS hA rfl hl.1 rfl (Nat.le_of_ble_eq_true rfl) dX9_kind_36 ⟨Nat.zero_le _, Nat.zero_le _⟩ (fun H locs hP hD hS => ?_)
        clear e8
        refine x_if_ne (tgt := 45) hx hb dX9_kind_39 (by decide) h (fun _ h => ?_) (fun _ h => ?_)
        · refine lv_bipush (v := -3) hx hb dX9_kind_42 (by decide) ?_
          cases h
          exact x_iret hx hb hr hlocks hK hP hD hS dX9_kind_44 rfl rfl
        · refine lv_aload_n hx hb dX9_kind_45 rfl (lv_at hl 0 rfl) ?_
          refine va_get (D := D) (ci := 8) (v := .ref (g 900)) (C := RX9) (T := TX9) (N := 38) hx hb hts ki_X9_kind_X9 hown hK hP 0 rfl rfl 0 (by decide) (hts _ k_X9_kind_0) (fun _ h9 => h9) rfl dX9_kind_46 ?_
          refine lv_iload_n hx hb dX9_kind_49 rfl (lv_at hl 1 rfl) ?_
          refine lv_iload_n hx hb dX9_kind_50 rfl (lv_at hl 2 rfl) ?_
          refine x_iast (Wd := (fun uz => wX9 cy g uz)) (u := um) (k := 0) hx hb hK hP hD hS 1 rfl rfl (fun _ => rfl) h dX9_kind_51 (fun um9 H locs h hP hD hS => ?_)
          refine lv_aload_n hx hb dX9_kind_52 rfl (lv_at hl 0 rfl) ?_
          refine va_get (D := D) (ci := 8) (v := .ref (g 901)) (C := RX9) (T := TX9) (N := 38) hx hb hts ki_X9_kind_X9 hown hK hP 0 rfl rfl 1 (by decide) (hts _ k_X9_kind_1) (fun _ h9 => h9) rfl dX9_kind_53 ?_
          refine lv_iload_n hx hb dX9_kind_56 rfl (lv_at hl 1 rfl) ?_
          refine lv_iload_n hx hb dX9_kind_57 rfl (lv_at hl 3 rfl) ?_
          refine x_iast (Wd := (fun uz => wX9 cy g uz)) (u := um9) (k := 1) hx hb hK hP hD hS 2 rfl rfl (fun _ => rfl) h dX9_kind_58 (fun um10 H locs h hP hD hS => ?_)
          refine lv_aload_n hx hb dX9_kind_59 rfl (lv_at hl 0 rfl) ?_
          refine va_get (D := D) (ci := 8) (v := .ref (g 902)) (C := RX9) (T := TX9) (N := 38) hx hb hts ki_X9_kind_X9 hown hK hP 0 rfl rfl 2 (by decide) (hts _ k_X9_kind_2) (fun _ h9 => h9) rfl dX9_kind_60 ?_
          refine lv_iload_n hx hb dX9_kind_63 rfl (lv_at hl 1 rfl) ?_
          refine lv_iload hx hb dX9_kind_64 (lv_at hl 4 rfl) ?_
          refine x_iast (Wd := (fun uz => wX9 cy g uz)) (u := um10) (k := 2) hx hb hK hP hD hS 3 rfl rfl (fun _ => rfl) h dX9_kind_66 (fun um11 H locs h hP hD hS => ?_)
          refine lv_iconst (v := 1) hx hb dX9_kind_67 (by decide) ?_
          cases h
          exact x_iret hx hb hr hlocks hK hP hD hS dX9_kind_68 rfl rfl
theorem k_X9_broken_0 : Cond.fieldLink RX9 109 "FeatherHallModel" "broken" "I" ∈ wsX9_broken := (List.mem_cons_of_mem _ (List.mem_append_left _ (List.mem_of_getElem? (i := 0) rfl)))
theorem ki_X9_broken_X9 : ∀ w ∈ u_ws RX9 TX9 38, w ∈ wsX9_broken := fun _ hh => (List.mem_cons_of_mem _ (List.mem_append_right _ hh))
theorem hd_X9_broken : yX9_broken.cls = RX9 ∧ yX9_broken.cls ≠ "java/lang/invoke/MethodHandle" ∧ yX9_broken.cls ≠ "java/lang/invoke/VarHandle" ∧ (parseMethodDescriptor yX9_broken.desc).map (fun d => d.parameters.length) = some 1 := by decide +kernel
set_option maxHeartbeats 4000000 in
set_option maxRecDepth 100000 in
theorem c_X9_broken (l : Launch) (D : va_G) (cy : Nat → ClassId) (g : Nat → Nat) (um : St) (p0 : Int32) (r : Int32) (um' : St) (h : f_X9_broken p0 um = some (r, um')) : CtI l yX9_broken wsX9_broken (rmH 1) [.ref (g 999), .int p0] D cy (wX9 cy g um) (wX9 cy g um') r := by
  refine ct_enter (D := D) (cy := cy) (cc := cX9_broken) (maxL := 3) (ret := (some .int)) (w := wX9 cy g um) (Qc := fun sz => va_Qi (fun r' (_ : Unit) => r' = r) (Bw D cy (va_A (wX9 cy g um) sz) (wX9 cy g um')) (va_A (wX9 cy g um) sz)) (by decide) rfl (Nat.le_of_ble_eq_true rfl) ?_
  intro p e s m below meth c A C0 hAe ls hl hP hD hS
  have e1 : MQ below ((fun sz => va_Qi (fun r' (_ : Unit) => r' = r) (Bw D cy (va_A (wX9 cy g um) sz) (wX9 cy g um')) (va_A (wX9 cy g um) sz)) s.heap.size) [.ref (g 999), .int p0].toArray s 0 0 A = QI below [.ref (g 999), .int p0].toArray s A D cy (wX9 cy g um') r := by rw [hAe]; rfl
  rw [e1]
  clear e1 hAe
  obtain ⟨hx, hb, hr, hml, hown, hts, hlocks, hK, hA⟩ := id C0
  have hl : lv_has ls 3 [(0, .ref (g 999)), (1, .int p0)] := hl
  rw [f_X9_broken] at h
  refine lv_iload_n hx hb dX9_broken_0 rfl (lv_at hl 1 rfl) ?_
  refine lv_iconst (v := 0) hx hb dX9_broken_1 (by decide) ?_
  refine lv_bipush (v := 8) hx hb dX9_broken_2 (by decide) ?_
  obtain ⟨r1, e2, h⟩ := bd_some h
  refine x_callSI (As := [.int p0, .int (0 : Int32), .int (8 : Int32)]) (rest := []) (n := 3) ⟨hx, hb, hml, hown, hts⟩ (c_X9_in l D cy  p0 (0 : Int32) (8 : Int32) r1 e2) gX9_broken_X9_in rfl hd_X9_in ⟨Nat.le_of_ble_eq_true rfl, Nat.le_of_ble_eq_true rfl⟩ ⟨rfl, rfl⟩ hK (sp_nil _) (sp_nil _) hP hD hS hA rfl hl.1 rfl (Nat.le_of_ble_eq_true rfl) dX9_broken_4 ⟨Nat.zero_le _, Nat.zero_le _⟩ (fun H locs hP hD hS => ?_)
  clear e2
  refine x_if_ne (tgt := 13) hx hb dX9_broken_7 (by decide) h (fun _ h => ?_) (fun _ h => ?_)
  · refine lv_bipush (v := -3) hx hb dX9_broken_10 (by decide) ?_
    cases h
    exact x_iret hx hb hr hlocks hK hP hD hS dX9_broken_12 rfl rfl
  · refine lv_aload_n hx hb dX9_broken_13 rfl (lv_at hl 0 rfl) ?_
    refine va_get (D := D) (ci := 8) (v := .int (um.1 3)) (C := RX9) (T := TX9) (N := 38) hx hb hts ki_X9_broken_X9 hown hK hP 0 rfl rfl 3 (by decide) (hts _ k_X9_broken_0) (fun _ h9 => h9) rfl dX9_broken_14 ?_
    refine lv_istore_n (lv' := [(2, .int (um.1 3)), (0, .ref (g 999)), (1, .int p0)]) hx hb dX9_broken_17 rfl hl (by decide) rfl (fun ls hl => ?_)
    refine lv_aload_n hx hb dX9_broken_18 rfl (lv_at hl 1 rfl) ?_
    refine lv_iload_n hx hb dX9_broken_19 rfl (lv_at hl 2 rfl) ?_
    refine x_put (D := D) (ci := 8) (Wd := (fun uz => wX9 cy g uz)) (u := um) (C := RX9) (T := TX9) (N := 38) hx hb hts ki_X9_broken_X9 tyX9 tyX9_ok nmX9 hown hK hP hD hS 0 rfl rfl 3 (by decide) (hts _ k_X9_broken_0) (fun _ h9 => h9) rfl (tyX9_ok 3 (by decide)) rfl rfl (Nat.le_of_ble_eq_true rfl) (fun _ => rfl) h dX9_broken_20 (fun um3 H locs h hP hD hS => ?_)
    refine lv_iload_n hx hb dX9_broken_23 rfl (lv_at hl 0 rfl) ?_
    cases h
    exact x_iret hx hb hr hlocks hK hP hD hS dX9_broken_24 rfl rfl
theorem k_X9_fly_0 : Cond.fieldLink RX9 109 "FeatherHallModel" "broken" "I" ∈ wsX9_fly := (List.mem_cons_of_mem _ (List.mem_append_left _ (List.mem_of_getElem? (i := 0) rfl)))
theorem ki_X9_fly_X9 : ∀ w ∈ u_ws RX9 TX9 38, w ∈ wsX9_fly := fun _ hh => (List.mem_cons_of_mem _ (List.mem_append_right _ hh))
theorem k_X9_fly_1 : Cond.fieldLink RX9 7 "FeatherHallModel" "speed" "[I" ∈ wsX9_fly := (List.mem_cons_of_mem _ (List.mem_append_left _ (List.mem_of_getElem? (i := 1) rfl)))
theorem k_X9_fly_2 : Cond.fieldLink RX9 112 "FeatherHallModel" "lands" "I" ∈ wsX9_fly := (List.mem_cons_of_mem _ (List.mem_append_left _ (List.mem_of_getElem? (i := 2) rfl)))
theorem k_X9_fly_3 : Cond.fieldLink RX9 13 "FeatherHallModel" "drag" "[I" ∈ wsX9_fly := (List.mem_cons_of_mem _ (List.mem_append_left _ (List.mem_of_getElem? (i := 3) rfl)))
theorem k_X9_fly_4 : Cond.fieldLink RX9 28 "FeatherHallModel" "overCell" "[I" ∈ wsX9_fly := (List.mem_cons_of_mem _ (List.mem_append_left _ (List.mem_of_getElem? (i := 4) rfl)))
theorem hd_X9_fly : yX9_fly.cls = RX9 ∧ yX9_fly.cls ≠ "java/lang/invoke/MethodHandle" ∧ yX9_fly.cls ≠ "java/lang/invoke/VarHandle" ∧ (parseMethodDescriptor yX9_fly.desc).map (fun d => d.parameters.length) = some 3 := by decide +kernel
set_option maxHeartbeats 4000000 in
set_option maxRecDepth 100000 in
theorem w_X9_fly_200 {p : Program} {l : Launch} {e : Env} {s : State} {m : MethodId} {below : List Frame} {meth : Method} {c : Code} {args : Array Value} {D : va_G} {cy : Nat → ClassId} {g : Nat → Nat} {A : Nat → Prop} {um' : St} (C0 : Cx p s m meth c args cX9_fly 11 none wsX9_fly RX9 D cy A) {k_64 : Int32 → Int32 → Int32 → Int32 → Int32 → Int32 → Int32 → Int32 → St → Option (St)} (hk_64 : ∀ (l1 : Int32) (l2 : Int32) (l3 : Int32) (l4 : Int32) (l5 : Int32) (l6 : Int32) (l7 : Int32) (l8 : Int32) (um : St), k_64 l1 l2 l3 l4 l5 l6 l7 l8 um = some um' → ∀ (H : Heap) (locs : List Loc) (ls : Array Slot), va_P D vwCl (wX9 cy g um) H → va_D A (wX9 cy g um) → va_S A s.heap H locs → lv_has ls 11 [(0, .ref (g 999)), (1, .int l1), (2, .int l2), (3, .int l3), (4, .int l4), (5, .int l5), (6, .int l6), (7, .int l7), (8, .int l8)] → W p l e (rmH 1) s m args below meth c H locs 0 0 (QV below args s A D cy (wX9 cy g um')) (F0 m 64 ls [])) : ∀ (l1 : Int32) (l2 : Int32) (l3 : Int32) (l4 : Int32) (l5 : Int32) (l6 : Int32) (l7 : Int32) (l8 : Int32) (s0 : Int32) (s1 : Int32) (um : St), f_X9_fly_200 k_64 l1 l2 l3 l4 l5 l6 l7 l8 s0 s1 um = some um' → ∀ (H : Heap) (locs : List Loc) (ls : Array Slot), va_P D vwCl (wX9 cy g um) H → va_D A (wX9 cy g um) → va_S A s.heap H locs → lv_has ls 11 [(0, .ref (g 999)), (1, .int l1), (2, .int l2), (3, .int l3), (4, .int l4), (5, .int l5), (6, .int l6), (7, .int l7), (8, .int l8)] → W p l e (rmH 1) s m args below meth c H locs 0 0 (QV below args s A D cy (wX9 cy g um')) (F0 m 200 ls [.int s0, .int s1, .ref (g 907)]) := by
  obtain ⟨hx, hb, hr, hml, hown, hts, hlocks, hK, hA⟩ := id C0
  intro l1 l2 l3 l4 l5 l6 l7 l8 s0 s1 um h H locs ls hP hD hS hl
  rw [f_X9_fly_200] at h
  refine x_iast (Wd := (fun uz => wX9 cy g uz)) (u := um) (k := 7) hx hb hK hP hD hS 7 rfl rfl (fun _ => rfl) h dX9_fly_200 (fun um13 H locs h hP hD hS => ?_)
  refine lv_goto (tgt := 64) hx hb dX9_fly_201 (by decide) ?_
  exact hk_64 l1 l2 l3 l4 l5 l6 l7 l8 um13 h _ _ ls hP hD hS (lv_sub hl [0, 1, 2, 3, 4, 5, 6, 7, 8] rfl)
set_option maxHeartbeats 4000000 in
set_option maxRecDepth 100000 in
theorem w_X9_fly_115 {p : Program} {l : Launch} {e : Env} {s : State} {m : MethodId} {below : List Frame} {meth : Method} {c : Code} {args : Array Value} {D : va_G} {cy : Nat → ClassId} {g : Nat → Nat} {A : Nat → Prop} {um' : St} (C0 : Cx p s m meth c args cX9_fly 11 none wsX9_fly RX9 D cy A) {k_64 : Int32 → Int32 → Int32 → Int32 → Int32 → Int32 → Int32 → Int32 → St → Option (St)} (hk_64 : ∀ (l1 : Int32) (l2 : Int32) (l3 : Int32) (l4 : Int32) (l5 : Int32) (l6 : Int32) (l7 : Int32) (l8 : Int32) (um : St), k_64 l1 l2 l3 l4 l5 l6 l7 l8 um = some um' → ∀ (H : Heap) (locs : List Loc) (ls : Array Slot), va_P D vwCl (wX9 cy g um) H → va_D A (wX9 cy g um) → va_S A s.heap H locs → lv_has ls 11 [(0, .ref (g 999)), (1, .int l1), (2, .int l2), (3, .int l3), (4, .int l4), (5, .int l5), (6, .int l6), (7, .int l7), (8, .int l8)] → W p l e (rmH 1) s m args below meth c H locs 0 0 (QV below args s A D cy (wX9 cy g um')) (F0 m 64 ls [])) : ∀ (l1 : Int32) (l2 : Int32) (l3 : Int32) (l4 : Int32) (l5 : Int32) (l6 : Int32) (l8 : Int32) (s0 : Int32) (um : St), f_X9_fly_115 k_64 l1 l2 l3 l4 l5 l6 l8 s0 um = some um' → ∀ (H : Heap) (locs : List Loc) (ls : Array Slot), va_P D vwCl (wX9 cy g um) H → va_D A (wX9 cy g um) → va_S A s.heap H locs → lv_has ls 11 [(0, .ref (g 999)), (1, .int l1), (2, .int l2), (3, .int l3), (4, .int l4), (5, .int l5), (6, .int l6), (8, .int l8)] → W p l e (rmH 1) s m args below meth c H locs 0 0 (QV below args s A D cy (wX9 cy g um')) (F0 m 115 ls [.int s0]) := by
  obtain ⟨hx, hb, hr, hml, hown, hts, hlocks, hK, hA⟩ := id C0
  intro l1 l2 l3 l4 l5 l6 l8 s0 um h H locs ls hP hD hS hl
  rw [f_X9_fly_115] at h
  refine lv_istore (lv' := [(7, .int s0), (0, .ref (g 999)), (1, .int l1), (2, .int l2), (3, .int l3), (4, .int l4), (5, .int l5), (6, .int l6), (8, .int l8)]) hx hb dX9_fly_115 hl (by decide) rfl (fun ls hl => ?_)
  refine lv_iload hx hb dX9_fly_117 (lv_at hl 8 rfl) ?_
  refine lv_bipush (v := 100) hx hb dX9_fly_119 (by decide) ?_
  refine lv_aload_n hx hb dX9_fly_121 rfl (lv_at hl 1 rfl) ?_
  refine va_get (D := D) (ci := 8) (v := .ref (g 901)) (C := RX9) (T := TX9) (N := 38) hx hb hts ki_X9_fly_X9 hown hK hP 0 rfl rfl 1 (by decide) (hts _ k_X9_fly_3) (fun _ h9 => h9) rfl dX9_fly_122 ?_
  refine lv_iload_n hx hb dX9_fly_125 rfl (lv_at hl 2 rfl) ?_
  refine x_iald hx hb hK hP 2 rfl rfl h dX9_fly_126 (fun v9 h => ?_)
  refine lv_isub hx hb dX9_fly_127 ?_
  refine lv_iconst (v := 2) hx hb dX9_fly_128 (by decide) ?_
  refine lv_aload_n hx hb dX9_fly_129 rfl (lv_at hl 1 rfl) ?_
  refine va_get (D := D) (ci := 8) (v := .int (um.1 3)) (C := RX9) (T := TX9) (N := 38) hx hb hts ki_X9_fly_X9 hown hK hP 0 rfl rfl 3 (by decide) (hts _ k_X9_fly_0) (fun _ h9 => h9) rfl dX9_fly_130 ?_
  refine lv_imul hx hb dX9_fly_133 ?_
  refine lv_isub hx hb dX9_fly_134 ?_
  refine lv_imul hx hb dX9_fly_135 ?_
  refine lv_bipush (v := 100) hx hb dX9_fly_136 (by decide) ?_
  refine lv_idiv hx hb dX9_fly_138 (by decide) ?_
  refine x_nm h (fun v10 h => ?_)
  refine lv_istore (lv' := [(8, .int v10), (7, .int s0), (0, .ref (g 999)), (1, .int l1), (2, .int l2), (3, .int l3), (4, .int l4), (5, .int l5), (6, .int l6)]) hx hb dX9_fly_139 hl (by decide) rfl (fun ls hl => ?_)
  refine lv_iload hx hb dX9_fly_141 (lv_at hl 6 rfl) ?_
  refine lv_iload hx hb dX9_fly_143 (lv_at hl 1 rfl) ?_
  refine lv_imul hx hb dX9_fly_145 ?_
  refine lv_iload hx hb dX9_fly_146 (lv_at hl 7 rfl) ?_
  refine x_idiv hx hb dX9_fly_148 h (fun h => ?_)
  refine lv_iload_n hx hb dX9_fly_149 rfl (lv_at hl 4 rfl) ?_
  refine lv_iconst (v := 4) hx hb dX9_fly_150 (by decide) ?_
  refine lv_idiv hx hb dX9_fly_151 (by decide) ?_
  refine lv_isub hx hb dX9_fly_152 ?_
  refine lv_iconst (v := 1) hx hb dX9_fly_153 (by decide) ?_
  refine lv_isub hx hb dX9_fly_154 ?_
  refine x_nm h (fun v11 h => ?_)
  refine lv_istore (lv' := [(9, .int v11), (8, .int v10), (7, .int s0), (0, .ref (g 999)), (1, .int l1), (2, .int l2), (3, .int l3), (4, .int l4), (5, .int l5), (6, .int l6)]) hx hb dX9_fly_155 hl (by decide) rfl (fun ls hl => ?_)
  refine lv_iload_n hx hb dX9_fly_157 rfl (lv_at hl 5 rfl) ?_
  refine lv_iconst (v := 4) hx hb dX9_fly_158 (by decide) ?_
  refine lv_irem hx hb dX9_fly_159 (by decide) ?_
  refine lv_iload_n hx hb dX9_fly_160 rfl (lv_at hl 6 rfl) ?_
  refine lv_iconst (v := 4) hx hb dX9_fly_161 (by decide) ?_
  refine lv_irem hx hb dX9_fly_162 (by decide) ?_
  refine lv_iload_n hx hb dX9_fly_163 rfl (lv_at hl 5 rfl) ?_
  refine lv_iconst (v := 4) hx hb dX9_fly_164 (by decide) ?_
  refine lv_irem hx hb dX9_fly_165 (by decide) ?_
  refine lv_isub hx hb dX9_fly_166 ?_
  refine lv_iload hx hb dX9_fly_167 (lv_at hl 2 rfl) ?_
  refine lv_imul hx hb dX9_fly_169 ?_
  refine lv_iload hx hb dX9_fly_170 (lv_at hl 8 rfl) ?_
  refine x_idiv hx hb dX9_fly_172 h (fun h => ?_)
  refine lv_iadd hx hb dX9_fly_173 ?_
  refine x_nm h (fun v12 h => ?_)
  refine lv_istore (lv' := [(10, .int v12), (9, .int v11), (8, .int v10), (7, .int s0), (0, .ref (g 999)), (1, .int l1), (2, .int l2), (3, .int l3), (4, .int l4), (5, .int l5), (6, .int l6)]) hx hb dX9_fly_174 hl (by decide) rfl (fun ls hl => ?_)
  refine lv_aload_n hx hb dX9_fly_176 rfl (lv_at hl 4 rfl) ?_
  refine va_get (D := D) (ci := 8) (v := .ref (g 907)) (C := RX9) (T := TX9) (N := 38) hx hb hts ki_X9_fly_X9 hown hK hP 0 rfl rfl 7 (by decide) (hts _ k_X9_fly_4) (fun _ h9 => h9) rfl dX9_fly_177 ?_
  refine lv_aload_n hx hb dX9_fly_180 rfl (lv_at hl 4 rfl) ?_
  refine va_get (D := D) (ci := 8) (v := .int (um.1 8)) (C := RX9) (T := TX9) (N := 38) hx hb hts ki_X9_fly_X9 hown hK hP 0 rfl rfl 8 (by decide) (hts _ k_X9_fly_2) (fun _ h9 => h9) rfl dX9_fly_181 ?_
  refine lv_iload hx hb dX9_fly_184 (lv_at hl 1 rfl) ?_
  refine x_if_lt (tgt := 199) hx hb dX9_fly_186 (by decide) h (fun _ h => ?_) (fun _ h => ?_)
  · refine lv_iconst (v := -1) hx hb dX9_fly_199 (by decide) ?_
    exact w_X9_fly_200 C0 hk_64 l1 l2 l3 l4 l5 l6 s0 v10 (-1 : Int32) (um.1 8) um h _ _ ls hP hD hS (lv_sub hl [4, 5, 6, 7, 8, 9, 10, 3, 2] rfl)
  · refine lv_iconst (v := 4) hx hb dX9_fly_189 (by decide) ?_
    refine lv_iload hx hb dX9_fly_190 (lv_at hl 1 rfl) ?_
    refine lv_imul hx hb dX9_fly_192 ?_
    refine lv_iload hx hb dX9_fly_193 (lv_at hl 0 rfl) ?_
    refine lv_iadd hx hb dX9_fly_195 ?_
    refine lv_goto (tgt := 200) hx hb dX9_fly_196 (by decide) ?_
    exact w_X9_fly_200 C0 hk_64 l1 l2 l3 l4 l5 l6 s0 v10 (((4 : Int32) * v11) + v12) (um.1 8) um h _ _ ls hP hD hS (lv_sub hl [4, 5, 6, 7, 8, 9, 10, 3, 2] rfl)
set_option maxHeartbeats 4000000 in
set_option maxRecDepth 100000 in
theorem w_X9_fly_93 {p : Program} {l : Launch} {e : Env} {s : State} {m : MethodId} {below : List Frame} {meth : Method} {c : Code} {args : Array Value} {D : va_G} {cy : Nat → ClassId} {g : Nat → Nat} {A : Nat → Prop} {um' : St} (C0 : Cx p s m meth c args cX9_fly 11 none wsX9_fly RX9 D cy A) {k_64 : Int32 → Int32 → Int32 → Int32 → Int32 → Int32 → Int32 → Int32 → St → Option (St)} (hk_64 : ∀ (l1 : Int32) (l2 : Int32) (l3 : Int32) (l4 : Int32) (l5 : Int32) (l6 : Int32) (l7 : Int32) (l8 : Int32) (um : St), k_64 l1 l2 l3 l4 l5 l6 l7 l8 um = some um' → ∀ (H : Heap) (locs : List Loc) (ls : Array Slot), va_P D vwCl (wX9 cy g um) H → va_D A (wX9 cy g um) → va_S A s.heap H locs → lv_has ls 11 [(0, .ref (g 999)), (1, .int l1), (2, .int l2), (3, .int l3), (4, .int l4), (5, .int l5), (6, .int l6), (7, .int l7), (8, .int l8)] → W p l e (rmH 1) s m args below meth c H locs 0 0 (QV below args s A D cy (wX9 cy g um')) (F0 m 64 ls [])) : ∀ (l1 : Int32) (l2 : Int32) (l3 : Int32) (l4 : Int32) (l5 : Int32) (l6 : Int32) (l7 : Int32) (s0 : Int32) (um : St), f_X9_fly_93 k_64 l1 l2 l3 l4 l5 l6 l7 s0 um = some um' → ∀ (H : Heap) (locs : List Loc) (ls : Array Slot), va_P D vwCl (wX9 cy g um) H → va_D A (wX9 cy g um) → va_S A s.heap H locs → lv_has ls 11 [(0, .ref (g 999)), (1, .int l1), (2, .int l2), (3, .int l3), (4, .int l4), (5, .int l5), (6, .int l6), (7, .int l7)] → W p l e (rmH 1) s m args below meth c H locs 0 0 (QV below args s A D cy (wX9 cy g um')) (F0 m 93 ls [.int s0]) := by
  obtain ⟨hx, hb, hr, hml, hown, hts, hlocks, hK, hA⟩ := id C0
  intro l1 l2 l3 l4 l5 l6 l7 s0 um h H locs ls hP hD hS hl
  rw [f_X9_fly_93] at h
  refine lv_istore (lv' := [(8, .int s0), (0, .ref (g 999)), (1, .int l1), (2, .int l2), (3, .int l3), (4, .int l4), (5, .int l5), (6, .int l6), (7, .int l7)]) hx hb dX9_fly_93 hl (by decide) rfl (fun ls hl => ?_)
  refine lv_iload hx hb dX9_fly_95 (lv_at hl 8 rfl) ?_
  refine lv_iload hx hb dX9_fly_97 (lv_at hl 0 rfl) ?_
  refine lv_iadd hx hb dX9_fly_99 ?_
  refine lv_iload hx hb dX9_fly_100 (lv_at hl 7 rfl) ?_
  refine x_icmp_le (tgt := 110) hx hb dX9_fly_102 (by decide) h (fun _ h => ?_) (fun _ h => ?_)
  · refine lv_iload hx hb dX9_fly_110 (lv_at hl 8 rfl) ?_
    refine lv_iload hx hb dX9_fly_112 (lv_at hl 0 rfl) ?_
    refine lv_iadd hx hb dX9_fly_114 ?_
    exact w_X9_fly_115 C0 hk_64 l1 l2 l3 l4 l5 l6 s0 (l7 + s0) um h _ _ ls hP hD hS (lv_sub hl [1, 2, 3, 4, 5, 6, 7, 0] rfl)
  · refine lv_iload hx hb dX9_fly_105 (lv_at hl 7 rfl) ?_
    refine lv_goto (tgt := 115) hx hb dX9_fly_107 (by decide) ?_
    exact w_X9_fly_115 C0 hk_64 l1 l2 l3 l4 l5 l6 s0 l6 um h _ _ ls hP hD hS (lv_sub hl [1, 2, 3, 4, 5, 6, 7, 0] rfl)
set_option maxHeartbeats 4000000 in
set_option maxRecDepth 100000 in
theorem w_X9_fly_64 {p : Program} {l : Launch} {e : Env} {s : State} {m : MethodId} {below : List Frame} {meth : Method} {c : Code} {args : Array Value} {D : va_G} {cy : Nat → ClassId} {g : Nat → Nat} {A : Nat → Prop} {um' : St} (C0 : Cx p s m meth c args cX9_fly 11 none wsX9_fly RX9 D cy A) : ∀ (nn : Nat) (l1 : Int32) (l2 : Int32) (l3 : Int32) (l4 : Int32) (l5 : Int32) (l6 : Int32) (l7 : Int32) (l8 : Int32) (um : St), f_X9_fly_64 nn l1 l2 l3 l4 l5 l6 l7 l8 um = some um' → ∀ (H : Heap) (locs : List Loc) (ls : Array Slot), va_P D vwCl (wX9 cy g um) H → va_D A (wX9 cy g um) → va_S A s.heap H locs → lv_has ls 11 [(0, .ref (g 999)), (1, .int l1), (2, .int l2), (3, .int l3), (4, .int l4), (5, .int l5), (6, .int l6), (7, .int l7), (8, .int l8)] → W p l e (rmH 1) s m args below meth c H locs 0 0 (QV below args s A D cy (wX9 cy g um')) (F0 m 64 ls []) := by
  obtain ⟨hx, hb, hr, hml, hown, hts, hlocks, hK, hA⟩ := id C0
  intro nn
  induction nn with
  | zero => intro l1 l2 l3 l4 l5 l6 l7 l8 um h; rw [f_X9_fly_64] at h; cases h
  | succ nn ih =>
    intro l1 l2 l3 l4 l5 l6 l7 l8 um h H locs ls hP hD hS hl
    rw [f_X9_fly_64] at h
    refine lv_iload hx hb dX9_fly_64 (lv_at hl 7 rfl) ?_
    refine lv_iload hx hb dX9_fly_66 (lv_at hl 6 rfl) ?_
    refine x_icmp_ge (tgt := 204) hx hb dX9_fly_68 (by decide) h (fun _ h => ?_) (fun _ h => ?_)
    · cases h
      exact x_vret hx hb hr hlocks hK hP hD hS dX9_fly_204 rfl
    · refine lv_aload_n hx hb dX9_fly_71 rfl (lv_at hl 0 rfl) ?_
      refine lv_dup hx hb dX9_fly_72 rfl ?_
      refine va_get (D := D) (ci := 8) (v := .int (um.1 8)) (C := RX9) (T := TX9) (N := 38) hx hb hts ki_X9_fly_X9 hown hK hP 0 rfl rfl 8 (by decide) (hts _ k_X9_fly_2) (fun _ h9 => h9) rfl dX9_fly_73 ?_
      refine lv_iconst (v := 1) hx hb dX9_fly_76 (by decide) ?_
      refine lv_iadd hx hb dX9_fly_77 ?_
      refine x_put (D := D) (ci := 8) (Wd := (fun uz => wX9 cy g uz)) (u := um) (C := RX9) (T := TX9) (N := 38) hx hb hts ki_X9_fly_X9 tyX9 tyX9_ok nmX9 hown hK hP hD hS 0 rfl rfl 8 (by decide) (hts _ k_X9_fly_2) (fun _ h9 => h9) rfl (tyX9_ok 8 (by decide)) rfl rfl (Nat.le_of_ble_eq_true rfl) (fun _ => rfl) h dX9_fly_78 (fun um8 H locs h hP hD hS => ?_)
      refine lv_iload hx hb dX9_fly_81 (lv_at hl 8 rfl) ?_
      refine lv_iconst (v := 2) hx hb dX9_fly_83 (by decide) ?_
      refine x_icmp_ge (tgt := 91) hx hb dX9_fly_84 (by decide) h (fun _ h => ?_) (fun _ h => ?_)
      · refine lv_iload hx hb dX9_fly_91 (lv_at hl 8 rfl) ?_
        exact w_X9_fly_93 C0 ih l1 l2 l3 l4 l5 l6 l7 l8 um8 h _ _ ls hP hD hS (lv_sub hl [0, 1, 2, 3, 4, 5, 6, 7] rfl)
      · refine lv_iconst (v := 2) hx hb dX9_fly_87 (by decide) ?_
        refine lv_goto (tgt := 93) hx hb dX9_fly_88 (by decide) ?_
        exact w_X9_fly_93 C0 ih l1 l2 l3 l4 l5 l6 l7 (2 : Int32) um8 h _ _ ls hP hD hS (lv_sub hl [0, 1, 2, 3, 4, 5, 6, 7] rfl)
set_option maxHeartbeats 4000000 in
set_option maxRecDepth 100000 in
theorem c_X9_fly (l : Launch) (D : va_G) (cy : Nat → ClassId) (g : Nat → Nat) (um : St) (p0 : Int32) (p1 : Int32) (p2 : Int32) (um' : St) (h : f_X9_fly p0 p1 p2 um = some um') : CtV l yX9_fly wsX9_fly (rmH 1) [.ref (g 999), .int p0, .int p1, .int p2] D cy (wX9 cy g um) (wX9 cy g um') := by
  refine ct_enter (D := D) (cy := cy) (cc := cX9_fly) (maxL := 11) (ret := none) (w := wX9 cy g um) (Qc := fun sz => va_Qv (fun (_ : Unit) => True) (Bw D cy (va_A (wX9 cy g um) sz) (wX9 cy g um')) (va_A (wX9 cy g um) sz)) (by decide) rfl (Nat.le_of_ble_eq_true rfl) ?_
  intro p e s m below meth c A C0 hAe ls hl hP hD hS
  have e1 : MQ below ((fun sz => va_Qv (fun (_ : Unit) => True) (Bw D cy (va_A (wX9 cy g um) sz) (wX9 cy g um')) (va_A (wX9 cy g um) sz)) s.heap.size) [.ref (g 999), .int p0, .int p1, .int p2].toArray s 0 0 A = QV below [.ref (g 999), .int p0, .int p1, .int p2].toArray s A D cy (wX9 cy g um') := by rw [hAe]; rfl
  rw [e1]
  clear e1 hAe
  obtain ⟨hx, hb, hr, hml, hown, hts, hlocks, hK, hA⟩ := id C0
  have hl : lv_has ls 11 [(0, .ref (g 999)), (1, .int p0), (2, .int p1), (3, .int p2)] := hl
  rw [f_X9_fly] at h
  refine lv_iload_n hx hb dX9_fly_0 rfl (lv_at hl 2 rfl) ?_
  refine lv_iconst (v := 4) hx hb dX9_fly_1 (by decide) ?_
  refine lv_idiv hx hb dX9_fly_2 (by decide) ?_
  refine lv_iload_n hx hb dX9_fly_3 rfl (lv_at hl 3 rfl) ?_
  refine lv_iconst (v := 4) hx hb dX9_fly_4 (by decide) ?_
  refine lv_idiv hx hb dX9_fly_5 (by decide) ?_
  refine lv_iadd hx hb dX9_fly_6 ?_
  refine lv_iconst (v := 1) hx hb dX9_fly_7 (by decide) ?_
  refine lv_iadd hx hb dX9_fly_8 ?_
  refine x_nm h (fun v1 h => ?_)
  refine lv_istore (lv' := [(4, .int v1), (0, .ref (g 999)), (1, .int p0), (2, .int p1), (3, .int p2)]) hx hb dX9_fly_9 hl (by decide) rfl (fun ls hl => ?_)
  refine lv_bipush (v := 10) hx hb dX9_fly_11 (by decide) ?_
  refine lv_iload hx hb dX9_fly_13 (lv_at hl 0 rfl) ?_
  refine lv_imul hx hb dX9_fly_15 ?_
  refine lv_iconst (v := 5) hx hb dX9_fly_16 (by decide) ?_
  refine lv_iload_n hx hb dX9_fly_17 rfl (lv_at hl 4 rfl) ?_
  refine lv_iconst (v := 4) hx hb dX9_fly_18 (by decide) ?_
  refine lv_irem hx hb dX9_fly_19 (by decide) ?_
  refine lv_iload_n hx hb dX9_fly_20 rfl (lv_at hl 3 rfl) ?_
  refine lv_iconst (v := 4) hx hb dX9_fly_21 (by decide) ?_
  refine lv_irem hx hb dX9_fly_22 (by decide) ?_
  refine lv_isub hx hb dX9_fly_23 ?_
  obtain ⟨r2, e3, h⟩ := bd_some h
  refine x_callSI (As := [.int ((p2 - p2 / (4 : Int32) * (4 : Int32)) - (p1 - p1 / (4 : Int32) * (4 : Int32)))]) (rest := [.int (5 : Int32), .int ((10 : Int32) * v1)]) (n := 1) ⟨hx, hb, hml, hown, hts⟩ (c_X9_size l D cy  ((p2 - p2 / (4 : Int32) * (4 : Int32)) - (p1 - p1 / (4 : Int32) * (4 : Int32))) r2 e3) gX9_fly_X9_size rfl hd_X9_size ⟨Nat.le_of_ble_eq_true rfl, Nat.le_of_ble_eq_true rfl⟩ ⟨rfl, rfl⟩ hK (sp_nil _) (sp_nil _) hP hD hS hA rfl hl.1 rfl (Nat.le_of_ble_eq_true rfl) dX9_fly_24 ⟨Nat.zero_le _, Nat.zero_le _⟩ (fun H locs hP hD hS => ?_)
  clear e3
  refine lv_imul hx hb dX9_fly_27 ?_
  refine lv_iadd hx hb dX9_fly_28 ?_
  refine x_nm h (fun v4 h => ?_)
  refine lv_istore (lv' := [(5, .int v4), (4, .int v1), (0, .ref (g 999)), (1, .int p0), (2, .int p1), (3, .int p2)]) hx hb dX9_fly_29 hl (by decide) rfl (fun ls hl => ?_)
  refine lv_iload hx hb dX9_fly_31 (lv_at hl 0 rfl) ?_
  refine lv_bipush (v := 100) hx hb dX9_fly_33 (by decide) ?_
  refine lv_iconst (v := 4) hx hb dX9_fly_35 (by decide) ?_
  refine lv_aload_n hx hb dX9_fly_36 rfl (lv_at hl 2 rfl) ?_
  refine va_get (D := D) (ci := 8) (v := .int (um.1 3)) (C := RX9) (T := TX9) (N := 38) hx hb hts ki_X9_fly_X9 hown hK hP 0 rfl rfl 3 (by decide) (hts _ k_X9_fly_0) (fun _ h9 => h9) rfl dX9_fly_37 ?_
  refine lv_imul hx hb dX9_fly_40 ?_
  refine lv_isub hx hb dX9_fly_41 ?_
  refine lv_imul hx hb dX9_fly_42 ?_
  refine lv_bipush (v := 100) hx hb dX9_fly_43 (by decide) ?_
  refine lv_idiv hx hb dX9_fly_45 (by decide) ?_
  refine x_nm h (fun v5 h => ?_)
  refine lv_istore (lv' := [(6, .int v5), (5, .int v4), (4, .int v1), (0, .ref (g 999)), (1, .int p0), (2, .int p1), (3, .int p2)]) hx hb dX9_fly_46 hl (by decide) rfl (fun ls hl => ?_)
  refine lv_iconst (v := 0) hx hb dX9_fly_48 (by decide) ?_
  refine lv_istore (lv' := [(7, .int (0 : Int32)), (6, .int v5), (5, .int v4), (4, .int v1), (0, .ref (g 999)), (1, .int p0), (2, .int p1), (3, .int p2)]) hx hb dX9_fly_49 hl (by decide) rfl (fun ls hl => ?_)
  refine lv_aload_n hx hb dX9_fly_51 rfl (lv_at hl 4 rfl) ?_
  refine va_get (D := D) (ci := 8) (v := .ref (g 900)) (C := RX9) (T := TX9) (N := 38) hx hb hts ki_X9_fly_X9 hown hK hP 0 rfl rfl 0 (by decide) (hts _ k_X9_fly_1) (fun _ h9 => h9) rfl dX9_fly_52 ?_
  refine lv_iload_n hx hb dX9_fly_55 rfl (lv_at hl 5 rfl) ?_
  refine x_iald hx hb hK hP 1 rfl rfl h dX9_fly_56 (fun v6 h => ?_)
  refine lv_istore (lv' := [(8, .int v6), (7, .int (0 : Int32)), (6, .int v5), (5, .int v4), (4, .int v1), (0, .ref (g 999)), (1, .int p0), (2, .int p1), (3, .int p2)]) hx hb dX9_fly_57 hl (by decide) rfl (fun ls hl => ?_)
  refine lv_aload_n hx hb dX9_fly_59 rfl (lv_at hl 5 rfl) ?_
  refine lv_iconst (v := 0) hx hb dX9_fly_60 (by decide) ?_
  refine x_put (D := D) (ci := 8) (Wd := (fun uz => wX9 cy g uz)) (u := um) (C := RX9) (T := TX9) (N := 38) hx hb hts ki_X9_fly_X9 tyX9 tyX9_ok nmX9 hown hK hP hD hS 0 rfl rfl 8 (by decide) (hts _ k_X9_fly_2) (fun _ h9 => h9) rfl (tyX9_ok 8 (by decide)) rfl rfl (Nat.le_of_ble_eq_true rfl) (fun _ => rfl) h dX9_fly_61 (fun um7 H locs h hP hD hS => ?_)
  exact w_X9_fly_64 C0 FU p0 p1 p2 v1 v4 v5 (0 : Int32) v6 um7 h _ _ ls hP hD hS (lv_sub hl [5, 6, 7, 8, 4, 3, 2, 1, 0] rfl)
theorem k_X9_firstMet_0 : Cond.fieldLink RX9 112 "FeatherHallModel" "lands" "I" ∈ wsX9_firstMet := (List.mem_cons_of_mem _ (List.mem_append_left _ (List.mem_of_getElem? (i := 0) rfl)))
theorem ki_X9_firstMet_X9 : ∀ w ∈ u_ws RX9 TX9 38, w ∈ wsX9_firstMet := fun _ hh => (List.mem_cons_of_mem _ (List.mem_append_right _ hh))
theorem k_X9_firstMet_1 : Cond.fieldLink RX9 16 "FeatherHallModel" "meet" "[I" ∈ wsX9_firstMet := (List.mem_cons_of_mem _ (List.mem_append_left _ (List.mem_of_getElem? (i := 1) rfl)))
theorem k_X9_firstMet_2 : Cond.fieldLink RX9 28 "FeatherHallModel" "overCell" "[I" ∈ wsX9_firstMet := (List.mem_cons_of_mem _ (List.mem_append_left _ (List.mem_of_getElem? (i := 2) rfl)))
theorem hd_X9_firstMet : yX9_firstMet.cls = RX9 ∧ yX9_firstMet.cls ≠ "java/lang/invoke/MethodHandle" ∧ yX9_firstMet.cls ≠ "java/lang/invoke/VarHandle" ∧ (parseMethodDescriptor yX9_firstMet.desc).map (fun d => d.parameters.length) = some 1 := by decide +kernel
set_option maxHeartbeats 4000000 in
set_option maxRecDepth 100000 in
theorem w_X9_firstMet_49 {p : Program} {l : Launch} {e : Env} {s : State} {m : MethodId} {below : List Frame} {meth : Method} {c : Code} {args : Array Value} {D : va_G} {cy : Nat → ClassId} {g : Nat → Nat} {A : Nat → Prop} {um : St} {r : Int32} (C0 : Cx p s m meth c args cX9_firstMet 3 (some .int) wsX9_firstMet RX9 D cy A) : ∀ (l2 : Int32), f_X9_firstMet_49 um l2 = some r → ∀ (H : Heap) (locs : List Loc) (ls : Array Slot), va_P D vwCl (wX9 cy g um) H → va_D A (wX9 cy g um) → va_S A s.heap H locs → lv_has ls 3 [(0, .ref (g 999)), (2, .int l2)] → W p l e (rmH 0) s m args below meth c H locs 0 0 (QI below args s A D cy (wX9 cy g um) r) (F0 m 49 ls []) := by
  obtain ⟨hx, hb, hr, hml, hown, hts, hlocks, hK, hA⟩ := id C0
  intro l2 h H locs ls hP hD hS hl
  rw [f_X9_firstMet_49] at h
  refine lv_iload_n hx hb dX9_firstMet_49 rfl (lv_at hl 1 rfl) ?_
  refine lv_aload_n hx hb dX9_firstMet_50 rfl (lv_at hl 0 rfl) ?_
  refine va_get (D := D) (ci := 8) (v := .int (um.1 8)) (C := RX9) (T := TX9) (N := 38) hx hb hts ki_X9_firstMet_X9 hown hK hP 0 rfl rfl 8 (by decide) (hts _ k_X9_firstMet_0) (fun _ h9 => h9) rfl dX9_firstMet_51 ?_
  refine x_icmp_le (tgt := 61) hx hb dX9_firstMet_54 (by decide) h (fun _ h => ?_) (fun _ h => ?_)
  · refine lv_iload_n hx hb dX9_firstMet_61 rfl (lv_at hl 1 rfl) ?_
    cases h
    exact x_iret hx hb hr hlocks hK hP hD hS dX9_firstMet_62 rfl rfl
  · refine lv_iconst (v := -1) hx hb dX9_firstMet_57 (by decide) ?_
    refine lv_goto (tgt := 62) hx hb dX9_firstMet_58 (by decide) ?_
    cases h
    exact x_iret hx hb hr hlocks hK hP hD hS dX9_firstMet_62 rfl rfl
set_option maxHeartbeats 4000000 in
set_option maxRecDepth 100000 in
theorem w_X9_firstMet_25 {p : Program} {l : Launch} {e : Env} {s : State} {m : MethodId} {below : List Frame} {meth : Method} {c : Code} {args : Array Value} {D : va_G} {cy : Nat → ClassId} {g : Nat → Nat} {A : Nat → Prop} {um : St} {r : Int32} (C0 : Cx p s m meth c args cX9_firstMet 3 (some .int) wsX9_firstMet RX9 D cy A) : ∀ (nn : Nat) (l2 : Int32), f_X9_firstMet_25 um nn l2 = some r → ∀ (H : Heap) (locs : List Loc) (ls : Array Slot), va_P D vwCl (wX9 cy g um) H → va_D A (wX9 cy g um) → va_S A s.heap H locs → lv_has ls 3 [(0, .ref (g 999)), (2, .int l2)] → W p l e (rmH 0) s m args below meth c H locs 0 0 (QI below args s A D cy (wX9 cy g um) r) (F0 m 25 ls []) := by
  obtain ⟨hx, hb, hr, hml, hown, hts, hlocks, hK, hA⟩ := id C0
  intro nn
  induction nn with
  | zero => intro l2 h; rw [f_X9_firstMet_25] at h; cases h
  | succ nn ih =>
    intro l2 h H locs ls hP hD hS hl
    rw [f_X9_firstMet_25] at h
    refine lv_iload_n hx hb dX9_firstMet_25 rfl (lv_at hl 1 rfl) ?_
    refine lv_aload_n hx hb dX9_firstMet_26 rfl (lv_at hl 0 rfl) ?_
    refine va_get (D := D) (ci := 8) (v := .int (um.1 8)) (C := RX9) (T := TX9) (N := 38) hx hb hts ki_X9_firstMet_X9 hown hK hP 0 rfl rfl 8 (by decide) (hts _ k_X9_firstMet_0) (fun _ h9 => h9) rfl dX9_firstMet_27 ?_
    refine x_icmp_gt (tgt := 49) hx hb dX9_firstMet_30 (by decide) h (fun _ h => ?_) (fun _ h => ?_)
    · exact w_X9_firstMet_49 C0 l2 h _ _ ls hP hD hS (lv_sub hl [0, 1] rfl)
    · refine lv_aload_n hx hb dX9_firstMet_33 rfl (lv_at hl 0 rfl) ?_
      refine va_get (D := D) (ci := 8) (v := .ref (g 907)) (C := RX9) (T := TX9) (N := 38) hx hb hts ki_X9_firstMet_X9 hown hK hP 0 rfl rfl 7 (by decide) (hts _ k_X9_firstMet_2) (fun _ h9 => h9) rfl dX9_firstMet_34 ?_
      refine lv_iload_n hx hb dX9_firstMet_37 rfl (lv_at hl 1 rfl) ?_
      refine x_iald hx hb hK hP 7 rfl rfl h dX9_firstMet_38 (fun v3 h => ?_)
      refine lv_iconst (v := -1) hx hb dX9_firstMet_39 (by decide) ?_
      refine x_icmp_ne (tgt := 49) hx hb dX9_firstMet_40 (by decide) h (fun _ h => ?_) (fun _ h => ?_)
      · obtain ⟨v4, ev4, h⟩ := nm_ex h
        refine lv_iinc (v := v4) (lv' := [(2, .int v4), (0, .ref (g 999))]) hx hb dX9_firstMet_43 hl (k := 1) rfl (by rw [ev4]; rfl) (by decide) rfl (fun ls hl => ?_)
        clear ev4
        refine lv_goto (tgt := 25) hx hb dX9_firstMet_46 (by decide) ?_
        exact ih v4 h _ _ ls hP hD hS (lv_sub hl [1, 0] rfl)
      · exact w_X9_firstMet_49 C0 l2 h _ _ ls hP hD hS (lv_sub hl [0, 1] rfl)
set_option maxHeartbeats 4000000 in
set_option maxRecDepth 100000 in
theorem w_X9_firstMet_24 {p : Program} {l : Launch} {e : Env} {s : State} {m : MethodId} {below : List Frame} {meth : Method} {c : Code} {args : Array Value} {D : va_G} {cy : Nat → ClassId} {g : Nat → Nat} {A : Nat → Prop} {um : St} {r : Int32} (C0 : Cx p s m meth c args cX9_firstMet 3 (some .int) wsX9_firstMet RX9 D cy A) : ∀ (s0 : Int32), f_X9_firstMet_24 um s0 = some r → ∀ (H : Heap) (locs : List Loc) (ls : Array Slot), va_P D vwCl (wX9 cy g um) H → va_D A (wX9 cy g um) → va_S A s.heap H locs → lv_has ls 3 [(0, .ref (g 999))] → W p l e (rmH 0) s m args below meth c H locs 0 0 (QI below args s A D cy (wX9 cy g um) r) (F0 m 24 ls [.int s0]) := by
  obtain ⟨hx, hb, hr, hml, hown, hts, hlocks, hK, hA⟩ := id C0
  intro s0 h H locs ls hP hD hS hl
  rw [f_X9_firstMet_24] at h
  refine lv_istore_n (lv' := [(2, .int s0), (0, .ref (g 999))]) hx hb dX9_firstMet_24 rfl hl (by decide) rfl (fun ls hl => ?_)
  exact w_X9_firstMet_25 C0 FU s0 h _ _ ls hP hD hS (lv_sub hl [1, 0] rfl)
set_option maxHeartbeats 4000000 in
set_option maxRecDepth 100000 in
theorem c_X9_firstMet (l : Launch) (D : va_G) (cy : Nat → ClassId) (g : Nat → Nat) (um : St) (p0 : Int32) (r : Int32) (h : f_X9_firstMet um p0 = some r) : CtI l yX9_firstMet wsX9_firstMet (rmH 0) [.ref (g 999), .int p0] D cy (wX9 cy g um) (wX9 cy g um) r := by
  refine ct_enter (D := D) (cy := cy) (cc := cX9_firstMet) (maxL := 3) (ret := (some .int)) (w := wX9 cy g um) (Qc := fun sz => va_Qi (fun r' (_ : Unit) => r' = r) (Bw D cy (va_A (wX9 cy g um) sz) (wX9 cy g um)) (va_A (wX9 cy g um) sz)) (by decide) rfl (Nat.le_of_ble_eq_true rfl) ?_
  intro p e s m below meth c A C0 hAe ls hl hP hD hS
  have e1 : MQ below ((fun sz => va_Qi (fun r' (_ : Unit) => r' = r) (Bw D cy (va_A (wX9 cy g um) sz) (wX9 cy g um)) (va_A (wX9 cy g um) sz)) s.heap.size) [.ref (g 999), .int p0].toArray s 0 0 A = QI below [.ref (g 999), .int p0].toArray s A D cy (wX9 cy g um) r := by rw [hAe]; rfl
  rw [e1]
  clear e1 hAe
  obtain ⟨hx, hb, hr, hml, hown, hts, hlocks, hK, hA⟩ := id C0
  have hl : lv_has ls 3 [(0, .ref (g 999)), (1, .int p0)] := hl
  rw [f_X9_firstMet] at h
  refine lv_aload_n hx hb dX9_firstMet_0 rfl (lv_at hl 0 rfl) ?_
  refine va_get (D := D) (ci := 8) (v := .int (um.1 8)) (C := RX9) (T := TX9) (N := 38) hx hb hts ki_X9_firstMet_X9 hown hK hP 0 rfl rfl 8 (by decide) (hts _ k_X9_firstMet_0) (fun _ h9 => h9) rfl dX9_firstMet_1 ?_
  refine lv_aload_n hx hb dX9_firstMet_4 rfl (lv_at hl 0 rfl) ?_
  refine va_get (D := D) (ci := 8) (v := .ref (g 902)) (C := RX9) (T := TX9) (N := 38) hx hb hts ki_X9_firstMet_X9 hown hK hP 0 rfl rfl 2 (by decide) (hts _ k_X9_firstMet_1) (fun _ h9 => h9) rfl dX9_firstMet_5 ?_
  refine lv_iload_n hx hb dX9_firstMet_8 rfl (lv_at hl 1 rfl) ?_
  refine x_iald hx hb hK hP 3 rfl rfl h dX9_firstMet_9 (fun v1 h => ?_)
  refine lv_isub hx hb dX9_firstMet_10 ?_
  refine lv_iconst (v := 1) hx hb dX9_firstMet_11 (by decide) ?_
  refine lv_iadd hx hb dX9_firstMet_12 ?_
  refine x_nm h (fun v2 h => ?_)
  refine lv_istore_n (lv' := [(2, .int v2), (0, .ref (g 999)), (1, .int p0)]) hx hb dX9_firstMet_13 rfl hl (by decide) rfl (fun ls hl => ?_)
  refine lv_iload_n hx hb dX9_firstMet_14 rfl (lv_at hl 0 rfl) ?_
  refine lv_iconst (v := 1) hx hb dX9_firstMet_15 (by decide) ?_
  refine x_icmp_ge (tgt := 23) hx hb dX9_firstMet_16 (by decide) h (fun _ h => ?_) (fun _ h => ?_)
  · refine lv_iload_n hx hb dX9_firstMet_23 rfl (lv_at hl 0 rfl) ?_
    exact w_X9_firstMet_24 C0 v2 h _ _ ls hP hD hS (lv_sub hl [1] rfl)
  · refine lv_iconst (v := 1) hx hb dX9_firstMet_19 (by decide) ?_
    refine lv_goto (tgt := 24) hx hb dX9_firstMet_20 (by decide) ?_
    exact w_X9_firstMet_24 C0 (1 : Int32) h _ _ ls hP hD hS (lv_sub hl [1] rfl)
theorem k_X9_flight_0 : Cond.fieldLink RX9 112 "FeatherHallModel" "lands" "I" ∈ wsX9_flight := (List.mem_cons_of_mem _ (List.mem_append_left _ (List.mem_append_left _ (List.mem_of_getElem? (i := 0) rfl))))
theorem ki_X9_flight_X9 : ∀ w ∈ u_ws RX9 TX9 38, w ∈ wsX9_flight := fun _ hh => (List.mem_cons_of_mem _ (List.mem_append_right _ hh))
theorem k_X9_flight_1 : Cond.fieldLink RX9 28 "FeatherHallModel" "overCell" "[I" ∈ wsX9_flight := (List.mem_cons_of_mem _ (List.mem_append_left _ (List.mem_append_left _ (List.mem_of_getElem? (i := 1) rfl))))
theorem hd_X9_flight : yX9_flight.cls = RX9 ∧ yX9_flight.cls ≠ "java/lang/invoke/MethodHandle" ∧ yX9_flight.cls ≠ "java/lang/invoke/VarHandle" ∧ (parseMethodDescriptor yX9_flight.desc).map (fun d => d.parameters.length) = some 4 := by decide +kernel
set_option maxHeartbeats 4000000 in
set_option maxRecDepth 100000 in
theorem c_X9_flight (l : Launch) (D : va_G) (cy : Nat → ClassId) (g : Nat → Nat) (um : St) (p0 : Int32) (p1 : Int32) (p2 : Int32) (p3 : Int32) (r : Int32) (um' : St) (h : f_X9_flight p0 p1 p2 p3 um = some (r, um')) : CtI l yX9_flight wsX9_flight (rmH 2) [.ref (g 999), .int p0, .int p1, .int p2, .int p3] D cy (wX9 cy g um) (wX9 cy g um') r := by
  refine ct_enter (D := D) (cy := cy) (cc := cX9_flight) (maxL := 5) (ret := (some .int)) (w := wX9 cy g um) (Qc := fun sz => va_Qi (fun r' (_ : Unit) => r' = r) (Bw D cy (va_A (wX9 cy g um) sz) (wX9 cy g um')) (va_A (wX9 cy g um) sz)) (by decide) rfl (Nat.le_of_ble_eq_true rfl) ?_
  intro p e s m below meth c A C0 hAe ls hl hP hD hS
  have e1 : MQ below ((fun sz => va_Qi (fun r' (_ : Unit) => r' = r) (Bw D cy (va_A (wX9 cy g um) sz) (wX9 cy g um')) (va_A (wX9 cy g um) sz)) s.heap.size) [.ref (g 999), .int p0, .int p1, .int p2, .int p3].toArray s 0 0 A = QI below [.ref (g 999), .int p0, .int p1, .int p2, .int p3].toArray s A D cy (wX9 cy g um') r := by rw [hAe]; rfl
  rw [e1]
  clear e1 hAe
  obtain ⟨hx, hb, hr, hml, hown, hts, hlocks, hK, hA⟩ := id C0
  have hl : lv_has ls 5 [(0, .ref (g 999)), (1, .int p0), (2, .int p1), (3, .int p2), (4, .int p3)] := hl
  rw [f_X9_flight] at h
  refine lv_iload_n hx hb dX9_flight_0 rfl (lv_at hl 1 rfl) ?_
  obtain ⟨r1, e2, h⟩ := bd_some h
  refine x_callSI (As := [.int p0]) (rest := []) (n := 1) ⟨hx, hb, hml, hown, hts⟩ (c_X9_isKind l D cy  p0 r1 e2) gX9_flight_X9_isKind rfl hd_X9_isKind ⟨Nat.le_of_ble_eq_true rfl, Nat.le_of_ble_eq_true rfl⟩ ⟨rfl, rfl⟩ hK (sp_nil _) (sp_nil _) hP hD hS hA rfl hl.1 rfl (Nat.le_of_ble_eq_true rfl) dX9_flight_1 ⟨Nat.zero_le _, Nat.zero_le _⟩ (fun H locs hP hD hS => ?_)
  clear e2
  refine x_if_eq (tgt := 21) hx hb dX9_flight_4 (by decide) h (fun _ h => ?_) (fun _ h => ?_)
  · refine lv_bipush (v := -2) hx hb dX9_flight_21 (by decide) ?_
    cases h
    exact x_iret hx hb hr hlocks hK hP hD hS dX9_flight_23 rfl rfl
  · refine lv_iload_n hx hb dX9_flight_7 rfl (lv_at hl 2 rfl) ?_
    obtain ⟨r3, e4, h⟩ := bd_some h
    refine x_callSI (As := [.int p1]) (rest := []) (n := 1) ⟨hx, hb, hml, hown, hts⟩ (c_X9_isCell l D cy  p1 r3 e4) gX9_flight_X9_isCell rfl hd_X9_isCell ⟨Nat.le_of_ble_eq_true rfl, Nat.le_of_ble_eq_true rfl⟩ ⟨rfl, rfl⟩ hK (sp_nil _) (sp_nil _) hP hD hS hA rfl hl.1 rfl (Nat.le_of_ble_eq_true rfl) dX9_flight_8 ⟨Nat.zero_le _, Nat.zero_le _⟩ (fun H locs hP hD hS => ?_)
    clear e4
    refine x_if_eq (tgt := 21) hx hb dX9_flight_11 (by decide) h (fun _ h => ?_) (fun _ h => ?_)
    · refine lv_bipush (v := -2) hx hb dX9_flight_21 (by decide) ?_
      cases h
      exact x_iret hx hb hr hlocks hK hP hD hS dX9_flight_23 rfl rfl
    · refine lv_iload_n hx hb dX9_flight_14 rfl (lv_at hl 3 rfl) ?_
      obtain ⟨r5, e6, h⟩ := bd_some h
      refine x_callSI (As := [.int p2]) (rest := []) (n := 1) ⟨hx, hb, hml, hown, hts⟩ (c_X9_isCell l D cy  p2 r5 e6) gX9_flight_X9_isCell rfl hd_X9_isCell ⟨Nat.le_of_ble_eq_true rfl, Nat.le_of_ble_eq_true rfl⟩ ⟨rfl, rfl⟩ hK (sp_nil _) (sp_nil _) hP hD hS hA rfl hl.1 rfl (Nat.le_of_ble_eq_true rfl) dX9_flight_15 ⟨Nat.zero_le _, Nat.zero_le _⟩ (fun H locs hP hD hS => ?_)
      clear e6
      refine x_if_ne (tgt := 24) hx hb dX9_flight_18 (by decide) h (fun _ h => ?_) (fun _ h => ?_)
      · refine lv_bipush (v := -2) hx hb dX9_flight_21 (by decide) ?_
        cases h
        exact x_iret hx hb hr hlocks hK hP hD hS dX9_flight_23 rfl rfl
      · refine lv_aload_n hx hb dX9_flight_24 rfl (lv_at hl 0 rfl) ?_
        refine lv_iload_n hx hb dX9_flight_25 rfl (lv_at hl 1 rfl) ?_
        refine lv_iload_n hx hb dX9_flight_26 rfl (lv_at hl 2 rfl) ?_
        refine lv_iload_n hx hb dX9_flight_27 rfl (lv_at hl 3 rfl) ?_
        obtain ⟨um7, e8, h⟩ := bd_some h
        refine x_callVV (As := [.int p0, .int p1, .int p2]) (rest := []) (n := 3) ⟨hx, hb, hml, hown, hts⟩ (c_X9_fly l D cy g um p0 p1 p2 um7 e8) gX9_flight_X9_fly rfl hd_X9_fly ⟨Nat.le_of_ble_eq_true rfl, Nat.le_of_ble_eq_true rfl⟩ ⟨rfl, rfl⟩ hK (sp_all _) (sp_all _) hP hD hS hA 0 rfl rfl rfl hl.1 rfl (Nat.le_of_ble_eq_true rfl) dX9_flight_28 ⟨Nat.zero_le _, Nat.zero_le _⟩ (fun H locs hP hD hS => ?_)
        clear e8
        refine lv_iload hx hb dX9_flight_31 (lv_at hl 4 rfl) ?_
        refine x_if_ne (tgt := 43) hx hb dX9_flight_33 (by decide) h (fun _ h => ?_) (fun _ h => ?_)
        · refine lv_aload_n hx hb dX9_flight_36 rfl (lv_at hl 0 rfl) ?_
          refine va_get (D := D) (ci := 8) (v := .int (um7.1 8)) (C := RX9) (T := TX9) (N := 38) hx hb hts ki_X9_flight_X9 hown hK hP 0 rfl rfl 8 (by decide) (hts _ k_X9_flight_0) (fun _ h9 => h9) rfl dX9_flight_37 ?_
          refine lv_goto (tgt := 77) hx hb dX9_flight_40 (by decide) ?_
          cases h
          exact x_iret hx hb hr hlocks hK hP hD hS dX9_flight_77 rfl rfl
        · refine lv_iload hx hb dX9_flight_43 (lv_at hl 4 rfl) ?_
          refine lv_iconst (v := 1) hx hb dX9_flight_45 (by decide) ?_
          refine x_icmp_ne (tgt := 61) hx hb dX9_flight_46 (by decide) h (fun _ h => ?_) (fun _ h => ?_)
          · refine lv_aload_n hx hb dX9_flight_49 rfl (lv_at hl 0 rfl) ?_
            refine va_get (D := D) (ci := 8) (v := .ref (g 907)) (C := RX9) (T := TX9) (N := 38) hx hb hts ki_X9_flight_X9 hown hK hP 0 rfl rfl 7 (by decide) (hts _ k_X9_flight_1) (fun _ h9 => h9) rfl dX9_flight_50 ?_
            refine lv_aload_n hx hb dX9_flight_53 rfl (lv_at hl 0 rfl) ?_
            refine va_get (D := D) (ci := 8) (v := .int (um7.1 8)) (C := RX9) (T := TX9) (N := 38) hx hb hts ki_X9_flight_X9 hown hK hP 0 rfl rfl 8 (by decide) (hts _ k_X9_flight_0) (fun _ h9 => h9) rfl dX9_flight_54 ?_
            refine x_iald hx hb hK hP 7 rfl rfl h dX9_flight_57 (fun v9 h => ?_)
            refine lv_goto (tgt := 77) hx hb dX9_flight_58 (by decide) ?_
            cases h
            exact x_iret hx hb hr hlocks hK hP hD hS dX9_flight_77 rfl rfl
          · refine lv_iload hx hb dX9_flight_61 (lv_at hl 4 rfl) ?_
            refine lv_iconst (v := 2) hx hb dX9_flight_63 (by decide) ?_
            refine x_icmp_ne (tgt := 75) hx hb dX9_flight_64 (by decide) h (fun _ h => ?_) (fun _ h => ?_)
            · refine lv_aload_n hx hb dX9_flight_67 rfl (lv_at hl 0 rfl) ?_
              refine lv_iload_n hx hb dX9_flight_68 rfl (lv_at hl 1 rfl) ?_
              obtain ⟨r10, e11, h⟩ := bd_some h
              refine x_callVI (As := [.int p0]) (rest := []) (n := 1) ⟨hx, hb, hml, hown, hts⟩ (c_X9_firstMet l D cy g um7 p0 r10 e11) gX9_flight_X9_firstMet rfl hd_X9_firstMet ⟨Nat.le_of_ble_eq_true rfl, Nat.le_of_ble_eq_true rfl⟩ ⟨rfl, rfl⟩ hK (sp_all _) (sp_all _) hP hD hS hA 0 rfl rfl rfl hl.1 rfl (Nat.le_of_ble_eq_true rfl) dX9_flight_69 ⟨Nat.zero_le _, Nat.zero_le _⟩ (fun H locs hP hD hS => ?_)
              clear e11
              refine lv_goto (tgt := 77) hx hb dX9_flight_72 (by decide) ?_
              cases h
              exact x_iret hx hb hr hlocks hK hP hD hS dX9_flight_77 rfl rfl
            · refine lv_bipush (v := -3) hx hb dX9_flight_75 (by decide) ?_
              cases h
              exact x_iret hx hb hr hlocks hK hP hD hS dX9_flight_77 rfl rfl
theorem k_X9_over_0 : Cond.fieldLink RX9 28 "FeatherHallModel" "overCell" "[I" ∈ wsX9_over := (List.mem_cons_of_mem _ (List.mem_append_left _ (List.mem_of_getElem? (i := 0) rfl)))
theorem ki_X9_over_X9 : ∀ w ∈ u_ws RX9 TX9 38, w ∈ wsX9_over := fun _ hh => (List.mem_cons_of_mem _ (List.mem_append_right _ hh))
theorem k_X9_over_1 : Cond.fieldLink RX9 112 "FeatherHallModel" "lands" "I" ∈ wsX9_over := (List.mem_cons_of_mem _ (List.mem_append_left _ (List.mem_of_getElem? (i := 1) rfl)))
theorem hd_X9_over : yX9_over.cls = RX9 ∧ yX9_over.cls ≠ "java/lang/invoke/MethodHandle" ∧ yX9_over.cls ≠ "java/lang/invoke/VarHandle" ∧ (parseMethodDescriptor yX9_over.desc).map (fun d => d.parameters.length) = some 4 := by decide +kernel
set_option maxHeartbeats 4000000 in
set_option maxRecDepth 100000 in
theorem c_X9_over (l : Launch) (D : va_G) (cy : Nat → ClassId) (g : Nat → Nat) (um : St) (p0 : Int32) (p1 : Int32) (p2 : Int32) (p3 : Int32) (r : Int32) (um' : St) (h : f_X9_over p0 p1 p2 p3 um = some (r, um')) : CtI l yX9_over wsX9_over (rmH 2) [.ref (g 999), .int p0, .int p1, .int p2, .int p3] D cy (wX9 cy g um) (wX9 cy g um') r := by
  refine ct_enter (D := D) (cy := cy) (cc := cX9_over) (maxL := 5) (ret := (some .int)) (w := wX9 cy g um) (Qc := fun sz => va_Qi (fun r' (_ : Unit) => r' = r) (Bw D cy (va_A (wX9 cy g um) sz) (wX9 cy g um')) (va_A (wX9 cy g um) sz)) (by decide) rfl (Nat.le_of_ble_eq_true rfl) ?_
  intro p e s m below meth c A C0 hAe ls hl hP hD hS
  have e1 : MQ below ((fun sz => va_Qi (fun r' (_ : Unit) => r' = r) (Bw D cy (va_A (wX9 cy g um) sz) (wX9 cy g um')) (va_A (wX9 cy g um) sz)) s.heap.size) [.ref (g 999), .int p0, .int p1, .int p2, .int p3].toArray s 0 0 A = QI below [.ref (g 999), .int p0, .int p1, .int p2, .int p3].toArray s A D cy (wX9 cy g um') r := by rw [hAe]; rfl
  rw [e1]
  clear e1 hAe
  obtain ⟨hx, hb, hr, hml, hown, hts, hlocks, hK, hA⟩ := id C0
  have hl : lv_has ls 5 [(0, .ref (g 999)), (1, .int p0), (2, .int p1), (3, .int p2), (4, .int p3)] := hl
  rw [f_X9_over] at h
  refine lv_iload_n hx hb dX9_over_0 rfl (lv_at hl 1 rfl) ?_
  obtain ⟨r1, e2, h⟩ := bd_some h
  refine x_callSI (As := [.int p0]) (rest := []) (n := 1) ⟨hx, hb, hml, hown, hts⟩ (c_X9_isKind l D cy  p0 r1 e2) gX9_over_X9_isKind rfl hd_X9_isKind ⟨Nat.le_of_ble_eq_true rfl, Nat.le_of_ble_eq_true rfl⟩ ⟨rfl, rfl⟩ hK (sp_nil _) (sp_nil _) hP hD hS hA rfl hl.1 rfl (Nat.le_of_ble_eq_true rfl) dX9_over_1 ⟨Nat.zero_le _, Nat.zero_le _⟩ (fun H locs hP hD hS => ?_)
  clear e2
  refine x_if_eq (tgt := 21) hx hb dX9_over_4 (by decide) h (fun _ h => ?_) (fun _ h => ?_)
  · refine lv_bipush (v := -2) hx hb dX9_over_21 (by decide) ?_
    cases h
    exact x_iret hx hb hr hlocks hK hP hD hS dX9_over_23 rfl rfl
  · refine lv_iload_n hx hb dX9_over_7 rfl (lv_at hl 2 rfl) ?_
    obtain ⟨r3, e4, h⟩ := bd_some h
    refine x_callSI (As := [.int p1]) (rest := []) (n := 1) ⟨hx, hb, hml, hown, hts⟩ (c_X9_isCell l D cy  p1 r3 e4) gX9_over_X9_isCell rfl hd_X9_isCell ⟨Nat.le_of_ble_eq_true rfl, Nat.le_of_ble_eq_true rfl⟩ ⟨rfl, rfl⟩ hK (sp_nil _) (sp_nil _) hP hD hS hA rfl hl.1 rfl (Nat.le_of_ble_eq_true rfl) dX9_over_8 ⟨Nat.zero_le _, Nat.zero_le _⟩ (fun H locs hP hD hS => ?_)
    clear e4
    refine x_if_eq (tgt := 21) hx hb dX9_over_11 (by decide) h (fun _ h => ?_) (fun _ h => ?_)
    · refine lv_bipush (v := -2) hx hb dX9_over_21 (by decide) ?_
      cases h
      exact x_iret hx hb hr hlocks hK hP hD hS dX9_over_23 rfl rfl
    · refine lv_iload_n hx hb dX9_over_14 rfl (lv_at hl 3 rfl) ?_
      obtain ⟨r5, e6, h⟩ := bd_some h
      refine x_callSI (As := [.int p2]) (rest := []) (n := 1) ⟨hx, hb, hml, hown, hts⟩ (c_X9_isCell l D cy  p2 r5 e6) gX9_over_X9_isCell rfl hd_X9_isCell ⟨Nat.le_of_ble_eq_true rfl, Nat.le_of_ble_eq_true rfl⟩ ⟨rfl, rfl⟩ hK (sp_nil _) (sp_nil _) hP hD hS hA rfl hl.1 rfl (Nat.le_of_ble_eq_true rfl) dX9_over_15 ⟨Nat.zero_le _, Nat.zero_le _⟩ (fun H locs hP hD hS => ?_)
      clear e6
      refine x_if_ne (tgt := 24) hx hb dX9_over_18 (by decide) h (fun _ h => ?_) (fun _ h => ?_)
      · refine lv_bipush (v := -2) hx hb dX9_over_21 (by decide) ?_
        cases h
        exact x_iret hx hb hr hlocks hK hP hD hS dX9_over_23 rfl rfl
      · refine lv_iload hx hb dX9_over_24 (lv_at hl 4 rfl) ?_
        refine lv_iconst (v := 1) hx hb dX9_over_26 (by decide) ?_
        refine lv_bipush (v := 60) hx hb dX9_over_27 (by decide) ?_
        obtain ⟨r7, e8, h⟩ := bd_some h
        refine x_callSI (As := [.int p3, .int (1 : Int32), .int (60 : Int32)]) (rest := []) (n := 3) ⟨hx, hb, hml, hown, hts⟩ (c_X9_in l D cy  p3 (1 : Int32) (60 : Int32) r7 e8) gX9_over_X9_in rfl hd_X9_in ⟨Nat.le_of_ble_eq_true rfl, Nat.le_of_ble_eq_true rfl⟩ ⟨rfl, rfl⟩ hK (sp_nil _) (sp_nil _) hP hD hS hA rfl hl.1 rfl (Nat.le_of_ble_eq_true rfl) dX9_over_29 ⟨Nat.zero_le _, Nat.zero_le _⟩ (fun H locs hP hD hS => ?_)
        clear e8
        refine x_if_ne (tgt := 38) hx hb dX9_over_32 (by decide) h (fun _ h => ?_) (fun _ h => ?_)
        · refine lv_bipush (v := -3) hx hb dX9_over_35 (by decide) ?_
          cases h
          exact x_iret hx hb hr hlocks hK hP hD hS dX9_over_37 rfl rfl
        · refine lv_aload_n hx hb dX9_over_38 rfl (lv_at hl 0 rfl) ?_
          refine lv_iload_n hx hb dX9_over_39 rfl (lv_at hl 1 rfl) ?_
          refine lv_iload_n hx hb dX9_over_40 rfl (lv_at hl 2 rfl) ?_
          refine lv_iload_n hx hb dX9_over_41 rfl (lv_at hl 3 rfl) ?_
          obtain ⟨um9, e10, h⟩ := bd_some h
          refine x_callVV (As := [.int p0, .int p1, .int p2]) (rest := []) (n := 3) ⟨hx, hb, hml, hown, hts⟩ (c_X9_fly l D cy g um p0 p1 p2 um9 e10) gX9_over_X9_fly rfl hd_X9_fly ⟨Nat.le_of_ble_eq_true rfl, Nat.le_of_ble_eq_true rfl⟩ ⟨rfl, rfl⟩ hK (sp_all _) (sp_all _) hP hD hS hA 0 rfl rfl rfl hl.1 rfl (Nat.le_of_ble_eq_true rfl) dX9_over_42 ⟨Nat.zero_le _, Nat.zero_le _⟩ (fun H locs hP hD hS => ?_)
          clear e10
          refine lv_aload_n hx hb dX9_over_45 rfl (lv_at hl 0 rfl) ?_
          refine va_get (D := D) (ci := 8) (v := .ref (g 907)) (C := RX9) (T := TX9) (N := 38) hx hb hts ki_X9_over_X9 hown hK hP 0 rfl rfl 7 (by decide) (hts _ k_X9_over_0) (fun _ h9 => h9) rfl dX9_over_46 ?_
          refine lv_iload hx hb dX9_over_49 (lv_at hl 4 rfl) ?_
          refine lv_aload_n hx hb dX9_over_51 rfl (lv_at hl 0 rfl) ?_
          refine va_get (D := D) (ci := 8) (v := .int (um9.1 8)) (C := RX9) (T := TX9) (N := 38) hx hb hts ki_X9_over_X9 hown hK hP 0 rfl rfl 8 (by decide) (hts _ k_X9_over_1) (fun _ h9 => h9) rfl dX9_over_52 ?_
          refine x_icmp_ge (tgt := 63) hx hb dX9_over_55 (by decide) h (fun _ h => ?_) (fun _ h => ?_)
          · refine lv_aload_n hx hb dX9_over_63 rfl (lv_at hl 0 rfl) ?_
            refine va_get (D := D) (ci := 8) (v := .int (um9.1 8)) (C := RX9) (T := TX9) (N := 38) hx hb hts ki_X9_over_X9 hown hK hP 0 rfl rfl 8 (by decide) (hts _ k_X9_over_1) (fun _ h9 => h9) rfl dX9_over_64 ?_
            refine x_iald hx hb hK hP 7 rfl rfl h dX9_over_67 (fun v11 h => ?_)
            cases h
            exact x_iret hx hb hr hlocks hK hP hD hS dX9_over_68 rfl rfl
          · refine lv_iload hx hb dX9_over_58 (lv_at hl 4 rfl) ?_
            refine lv_goto (tgt := 67) hx hb dX9_over_60 (by decide) ?_
            refine x_iald hx hb hK hP 7 rfl rfl h dX9_over_67 (fun v12 h => ?_)
            cases h
            exact x_iret hx hb hr hlocks hK hP hD hS dX9_over_68 rfl rfl
theorem k_X9_player_0 : Cond.fieldLink RX9 19 "FeatherHallModel" "pace" "[I" ∈ wsX9_player := (List.mem_cons_of_mem _ (List.mem_append_left _ (List.mem_of_getElem? (i := 0) rfl)))
theorem ki_X9_player_X9 : ∀ w ∈ u_ws RX9 TX9 38, w ∈ wsX9_player := fun _ hh => (List.mem_cons_of_mem _ (List.mem_append_right _ hh))
theorem k_X9_player_1 : Cond.fieldLink RX9 22 "FeatherHallModel" "reach" "[I" ∈ wsX9_player := (List.mem_cons_of_mem _ (List.mem_append_left _ (List.mem_of_getElem? (i := 1) rfl)))
theorem hd_X9_player : yX9_player.cls = RX9 ∧ yX9_player.cls ≠ "java/lang/invoke/MethodHandle" ∧ yX9_player.cls ≠ "java/lang/invoke/VarHandle" ∧ (parseMethodDescriptor yX9_player.desc).map (fun d => d.parameters.length) = some 3 := by decide +kernel
set_option maxHeartbeats 4000000 in
set_option maxRecDepth 100000 in
theorem c_X9_player (l : Launch) (D : va_G) (cy : Nat → ClassId) (g : Nat → Nat) (um : St) (p0 : Int32) (p1 : Int32) (p2 : Int32) (r : Int32) (um' : St) (h : f_X9_player p0 p1 p2 um = some (r, um')) : CtI l yX9_player wsX9_player (rmH 2) [.ref (g 999), .int p0, .int p1, .int p2] D cy (wX9 cy g um) (wX9 cy g um') r := by
  refine ct_enter (D := D) (cy := cy) (cc := cX9_player) (maxL := 4) (ret := (some .int)) (w := wX9 cy g um) (Qc := fun sz => va_Qi (fun r' (_ : Unit) => r' = r) (Bw D cy (va_A (wX9 cy g um) sz) (wX9 cy g um')) (va_A (wX9 cy g um) sz)) (by decide) rfl (Nat.le_of_ble_eq_true rfl) ?_
  intro p e s m below meth c A C0 hAe ls hl hP hD hS
  have e1 : MQ below ((fun sz => va_Qi (fun r' (_ : Unit) => r' = r) (Bw D cy (va_A (wX9 cy g um) sz) (wX9 cy g um')) (va_A (wX9 cy g um) sz)) s.heap.size) [.ref (g 999), .int p0, .int p1, .int p2].toArray s 0 0 A = QI below [.ref (g 999), .int p0, .int p1, .int p2].toArray s A D cy (wX9 cy g um') r := by rw [hAe]; rfl
  rw [e1]
  clear e1 hAe
  obtain ⟨hx, hb, hr, hml, hown, hts, hlocks, hK, hA⟩ := id C0
  have hl : lv_has ls 4 [(0, .ref (g 999)), (1, .int p0), (2, .int p1), (3, .int p2)] := hl
  rw [f_X9_player] at h
  refine lv_iload_n hx hb dX9_player_0 rfl (lv_at hl 1 rfl) ?_
  obtain ⟨r1, e2, h⟩ := bd_some h
  refine x_callSI (As := [.int p0]) (rest := []) (n := 1) ⟨hx, hb, hml, hown, hts⟩ (c_X9_isPlayer l D cy  p0 r1 e2) gX9_player_X9_isPlayer rfl hd_X9_isPlayer ⟨Nat.le_of_ble_eq_true rfl, Nat.le_of_ble_eq_true rfl⟩ ⟨rfl, rfl⟩ hK (sp_nil _) (sp_nil _) hP hD hS hA rfl hl.1 rfl (Nat.le_of_ble_eq_true rfl) dX9_player_1 ⟨Nat.zero_le _, Nat.zero_le _⟩ (fun H locs hP hD hS => ?_)
  clear e2
  refine x_if_ne (tgt := 10) hx hb dX9_player_4 (by decide) h (fun _ h => ?_) (fun _ h => ?_)
  · refine lv_bipush (v := -2) hx hb dX9_player_7 (by decide) ?_
    cases h
    exact x_iret hx hb hr hlocks hK hP hD hS dX9_player_9 rfl rfl
  · refine lv_iload_n hx hb dX9_player_10 rfl (lv_at hl 2 rfl) ?_
    refine lv_iconst (v := 1) hx hb dX9_player_11 (by decide) ?_
    refine lv_bipush (v := 20) hx hb dX9_player_12 (by decide) ?_
    obtain ⟨r3, e4, h⟩ := bd_some h
    refine x_callSI (As := [.int p1, .int (1 : Int32), .int (20 : Int32)]) (rest := []) (n := 3) ⟨hx, hb, hml, hown, hts⟩ (c_X9_in l D cy  p1 (1 : Int32) (20 : Int32) r3 e4) gX9_player_X9_in rfl hd_X9_in ⟨Nat.le_of_ble_eq_true rfl, Nat.le_of_ble_eq_true rfl⟩ ⟨rfl, rfl⟩ hK (sp_nil _) (sp_nil _) hP hD hS hA rfl hl.1 rfl (Nat.le_of_ble_eq_true rfl) dX9_player_14 ⟨Nat.zero_le _, Nat.zero_le _⟩ (fun H locs hP hD hS => ?_)
    clear e4
    refine x_if_eq (tgt := 29) hx hb dX9_player_17 (by decide) h (fun _ h => ?_) (fun _ h => ?_)
    · refine lv_bipush (v := -3) hx hb dX9_player_29 (by decide) ?_
      cases h
      exact x_iret hx hb hr hlocks hK hP hD hS dX9_player_31 rfl rfl
    · refine lv_iload_n hx hb dX9_player_20 rfl (lv_at hl 3 rfl) ?_
      refine lv_iconst (v := 0) hx hb dX9_player_21 (by decide) ?_
      refine lv_iconst (v := 2) hx hb dX9_player_22 (by decide) ?_
      obtain ⟨r5, e6, h⟩ := bd_some h
      refine x_callSI (As := [.int p2, .int (0 : Int32), .int (2 : Int32)]) (rest := []) (n := 3) ⟨hx, hb, hml, hown, hts⟩ (c_X9_in l D cy  p2 (0 : Int32) (2 : Int32) r5 e6) gX9_player_X9_in rfl hd_X9_in ⟨Nat.le_of_ble_eq_true rfl, Nat.le_of_ble_eq_true rfl⟩ ⟨rfl, rfl⟩ hK (sp_nil _) (sp_nil _) hP hD hS hA rfl hl.1 rfl (Nat.le_of_ble_eq_true rfl) dX9_player_23 ⟨Nat.zero_le _, Nat.zero_le _⟩ (fun H locs hP hD hS => ?_)
      clear e6
      refine x_if_ne (tgt := 32) hx hb dX9_player_26 (by decide) h (fun _ h => ?_) (fun _ h => ?_)
      · refine lv_bipush (v := -3) hx hb dX9_player_29 (by decide) ?_
        cases h
        exact x_iret hx hb hr hlocks hK hP hD hS dX9_player_31 rfl rfl
      · refine lv_aload_n hx hb dX9_player_32 rfl (lv_at hl 0 rfl) ?_
        refine va_get (D := D) (ci := 8) (v := .ref (g 904)) (C := RX9) (T := TX9) (N := 38) hx hb hts ki_X9_player_X9 hown hK hP 0 rfl rfl 4 (by decide) (hts _ k_X9_player_0) (fun _ h9 => h9) rfl dX9_player_33 ?_
        refine lv_iload_n hx hb dX9_player_36 rfl (lv_at hl 1 rfl) ?_
        refine lv_iload_n hx hb dX9_player_37 rfl (lv_at hl 2 rfl) ?_
        refine x_iast (Wd := (fun uz => wX9 cy g uz)) (u := um) (k := 4) hx hb hK hP hD hS 4 rfl rfl (fun _ => rfl) h dX9_player_38 (fun um7 H locs h hP hD hS => ?_)
        refine lv_aload_n hx hb dX9_player_39 rfl (lv_at hl 0 rfl) ?_
        refine va_get (D := D) (ci := 8) (v := .ref (g 905)) (C := RX9) (T := TX9) (N := 38) hx hb hts ki_X9_player_X9 hown hK hP 0 rfl rfl 5 (by decide) (hts _ k_X9_player_1) (fun _ h9 => h9) rfl dX9_player_40 ?_
        refine lv_iload_n hx hb dX9_player_43 rfl (lv_at hl 1 rfl) ?_
        refine lv_iload_n hx hb dX9_player_44 rfl (lv_at hl 3 rfl) ?_
        refine x_iast (Wd := (fun uz => wX9 cy g uz)) (u := um7) (k := 5) hx hb hK hP hD hS 5 rfl rfl (fun _ => rfl) h dX9_player_45 (fun um8 H locs h hP hD hS => ?_)
        refine lv_iconst (v := 1) hx hb dX9_player_46 (by decide) ?_
        cases h
        exact x_iret hx hb hr hlocks hK hP hD hS dX9_player_47 rfl rfl
theorem k_X9_run_0 : Cond.fieldLink RX9 25 "FeatherHallModel" "tired" "[I" ∈ wsX9_run := (List.mem_cons_of_mem _ (List.mem_append_left _ (List.mem_of_getElem? (i := 0) rfl)))
theorem ki_X9_run_X9 : ∀ w ∈ u_ws RX9 TX9 38, w ∈ wsX9_run := fun _ hh => (List.mem_cons_of_mem _ (List.mem_append_right _ hh))
theorem hd_X9_run : yX9_run.cls = RX9 ∧ yX9_run.cls ≠ "java/lang/invoke/MethodHandle" ∧ yX9_run.cls ≠ "java/lang/invoke/VarHandle" ∧ (parseMethodDescriptor yX9_run.desc).map (fun d => d.parameters.length) = some 2 := by decide +kernel
set_option maxHeartbeats 4000000 in
set_option maxRecDepth 100000 in
theorem w_X9_run_54 {p : Program} {l : Launch} {e : Env} {s : State} {m : MethodId} {below : List Frame} {meth : Method} {c : Code} {args : Array Value} {D : va_G} {cy : Nat → ClassId} {g : Nat → Nat} {A : Nat → Prop} {r : Int32} {um' : St} (C0 : Cx p s m meth c args cX9_run 3 (some .int) wsX9_run RX9 D cy A) : ∀ (l1 : Int32) (s0 : Int32) (s1 : Int32) (um : St), f_X9_run_54 l1 s0 s1 um = some (r, um') → ∀ (H : Heap) (locs : List Loc) (ls : Array Slot), va_P D vwCl (wX9 cy g um) H → va_D A (wX9 cy g um) → va_S A s.heap H locs → lv_has ls 3 [(0, .ref (g 999)), (1, .int l1)] → W p l e (rmH 2) s m args below meth c H locs 0 0 (QI below args s A D cy (wX9 cy g um') r) (F0 m 54 ls [.int s0, .int s1, .ref (g 906)]) := by
  obtain ⟨hx, hb, hr, hml, hown, hts, hlocks, hK, hA⟩ := id C0
  intro l1 s0 s1 um h H locs ls hP hD hS hl
  rw [f_X9_run_54] at h
  refine x_iast (Wd := (fun uz => wX9 cy g uz)) (u := um) (k := 6) hx hb hK hP hD hS 6 rfl rfl (fun _ => rfl) h dX9_run_54 (fun um7 H locs h hP hD hS => ?_)
  refine lv_aload_n hx hb dX9_run_55 rfl (lv_at hl 0 rfl) ?_
  refine va_get (D := D) (ci := 8) (v := .ref (g 906)) (C := RX9) (T := TX9) (N := 38) hx hb hts ki_X9_run_X9 hown hK hP 0 rfl rfl 6 (by decide) (hts _ k_X9_run_0) (fun _ h9 => h9) rfl dX9_run_56 ?_
  refine lv_iload_n hx hb dX9_run_59 rfl (lv_at hl 1 rfl) ?_
  refine x_iald hx hb hK hP 6 rfl rfl h dX9_run_60 (fun v8 h => ?_)
  cases h
  exact x_iret hx hb hr hlocks hK hP hD hS dX9_run_61 rfl rfl
set_option maxHeartbeats 4000000 in
set_option maxRecDepth 100000 in
theorem c_X9_run (l : Launch) (D : va_G) (cy : Nat → ClassId) (g : Nat → Nat) (um : St) (p0 : Int32) (p1 : Int32) (r : Int32) (um' : St) (h : f_X9_run p0 p1 um = some (r, um')) : CtI l yX9_run wsX9_run (rmH 2) [.ref (g 999), .int p0, .int p1] D cy (wX9 cy g um) (wX9 cy g um') r := by
  refine ct_enter (D := D) (cy := cy) (cc := cX9_run) (maxL := 3) (ret := (some .int)) (w := wX9 cy g um) (Qc := fun sz => va_Qi (fun r' (_ : Unit) => r' = r) (Bw D cy (va_A (wX9 cy g um) sz) (wX9 cy g um')) (va_A (wX9 cy g um) sz)) (by decide) rfl (Nat.le_of_ble_eq_true rfl) ?_
  intro p e s m below meth c A C0 hAe ls hl hP hD hS
  have e1 : MQ below ((fun sz => va_Qi (fun r' (_ : Unit) => r' = r) (Bw D cy (va_A (wX9 cy g um) sz) (wX9 cy g um')) (va_A (wX9 cy g um) sz)) s.heap.size) [.ref (g 999), .int p0, .int p1].toArray s 0 0 A = QI below [.ref (g 999), .int p0, .int p1].toArray s A D cy (wX9 cy g um') r := by rw [hAe]; rfl
  rw [e1]
  clear e1 hAe
  obtain ⟨hx, hb, hr, hml, hown, hts, hlocks, hK, hA⟩ := id C0
  have hl : lv_has ls 3 [(0, .ref (g 999)), (1, .int p0), (2, .int p1)] := hl
  rw [f_X9_run] at h
  refine lv_iload_n hx hb dX9_run_0 rfl (lv_at hl 1 rfl) ?_
  obtain ⟨r1, e2, h⟩ := bd_some h
  refine x_callSI (As := [.int p0]) (rest := []) (n := 1) ⟨hx, hb, hml, hown, hts⟩ (c_X9_isPlayer l D cy  p0 r1 e2) gX9_run_X9_isPlayer rfl hd_X9_isPlayer ⟨Nat.le_of_ble_eq_true rfl, Nat.le_of_ble_eq_true rfl⟩ ⟨rfl, rfl⟩ hK (sp_nil _) (sp_nil _) hP hD hS hA rfl hl.1 rfl (Nat.le_of_ble_eq_true rfl) dX9_run_1 ⟨Nat.zero_le _, Nat.zero_le _⟩ (fun H locs hP hD hS => ?_)
  clear e2
  refine x_if_ne (tgt := 10) hx hb dX9_run_4 (by decide) h (fun _ h => ?_) (fun _ h => ?_)
  · refine lv_bipush (v := -2) hx hb dX9_run_7 (by decide) ?_
    cases h
    exact x_iret hx hb hr hlocks hK hP hD hS dX9_run_9 rfl rfl
  · refine lv_iload_n hx hb dX9_run_10 rfl (lv_at hl 2 rfl) ?_
    refine lv_iconst (v := 0) hx hb dX9_run_11 (by decide) ?_
    refine lv_bipush (v := 100) hx hb dX9_run_12 (by decide) ?_
    obtain ⟨r3, e4, h⟩ := bd_some h
    refine x_callSI (As := [.int p1, .int (0 : Int32), .int (100 : Int32)]) (rest := []) (n := 3) ⟨hx, hb, hml, hown, hts⟩ (c_X9_in l D cy  p1 (0 : Int32) (100 : Int32) r3 e4) gX9_run_X9_in rfl hd_X9_in ⟨Nat.le_of_ble_eq_true rfl, Nat.le_of_ble_eq_true rfl⟩ ⟨rfl, rfl⟩ hK (sp_nil _) (sp_nil _) hP hD hS hA rfl hl.1 rfl (Nat.le_of_ble_eq_true rfl) dX9_run_14 ⟨Nat.zero_le _, Nat.zero_le _⟩ (fun H locs hP hD hS => ?_)
    clear e4
    refine x_if_ne (tgt := 23) hx hb dX9_run_17 (by decide) h (fun _ h => ?_) (fun _ h => ?_)
    · refine lv_bipush (v := -3) hx hb dX9_run_20 (by decide) ?_
      cases h
      exact x_iret hx hb hr hlocks hK hP hD hS dX9_run_22 rfl rfl
    · refine lv_aload_n hx hb dX9_run_23 rfl (lv_at hl 0 rfl) ?_
      refine va_get (D := D) (ci := 8) (v := .ref (g 906)) (C := RX9) (T := TX9) (N := 38) hx hb hts ki_X9_run_X9 hown hK hP 0 rfl rfl 6 (by decide) (hts _ k_X9_run_0) (fun _ h9 => h9) rfl dX9_run_24 ?_
      refine lv_iload_n hx hb dX9_run_27 rfl (lv_at hl 1 rfl) ?_
      refine lv_aload_n hx hb dX9_run_28 rfl (lv_at hl 0 rfl) ?_
      refine va_get (D := D) (ci := 8) (v := .ref (g 906)) (C := RX9) (T := TX9) (N := 38) hx hb hts ki_X9_run_X9 hown hK hP 0 rfl rfl 6 (by decide) (hts _ k_X9_run_0) (fun _ h9 => h9) rfl dX9_run_29 ?_
      refine lv_iload_n hx hb dX9_run_32 rfl (lv_at hl 1 rfl) ?_
      refine x_iald hx hb hK hP 6 rfl rfl h dX9_run_33 (fun v5 h => ?_)
      refine lv_iload_n hx hb dX9_run_34 rfl (lv_at hl 2 rfl) ?_
      refine lv_iadd hx hb dX9_run_35 ?_
      refine lv_bipush (v := 100) hx hb dX9_run_36 (by decide) ?_
      refine x_icmp_le (tgt := 46) hx hb dX9_run_38 (by decide) h (fun _ h => ?_) (fun _ h => ?_)
      · refine lv_aload_n hx hb dX9_run_46 rfl (lv_at hl 0 rfl) ?_
        refine va_get (D := D) (ci := 8) (v := .ref (g 906)) (C := RX9) (T := TX9) (N := 38) hx hb hts ki_X9_run_X9 hown hK hP 0 rfl rfl 6 (by decide) (hts _ k_X9_run_0) (fun _ h9 => h9) rfl dX9_run_47 ?_
        refine lv_iload_n hx hb dX9_run_50 rfl (lv_at hl 1 rfl) ?_
        refine x_iald hx hb hK hP 6 rfl rfl h dX9_run_51 (fun v6 h => ?_)
        refine lv_iload_n hx hb dX9_run_52 rfl (lv_at hl 2 rfl) ?_
        refine lv_iadd hx hb dX9_run_53 ?_
        exact w_X9_run_54 C0 p0 (v6 + p1) p0 um h _ _ ls hP hD hS (lv_sub hl [0, 1] rfl)
      · refine lv_bipush (v := 100) hx hb dX9_run_41 (by decide) ?_
        refine lv_goto (tgt := 54) hx hb dX9_run_43 (by decide) ?_
        exact w_X9_run_54 C0 p0 (100 : Int32) p0 um h _ _ ls hP hD hS (lv_sub hl [0, 1] rfl)
theorem k_X9_rest_0 : Cond.fieldLink RX9 25 "FeatherHallModel" "tired" "[I" ∈ wsX9_rest := (List.mem_cons_of_mem _ (List.mem_append_left _ (List.mem_of_getElem? (i := 0) rfl)))
theorem ki_X9_rest_X9 : ∀ w ∈ u_ws RX9 TX9 38, w ∈ wsX9_rest := fun _ hh => (List.mem_cons_of_mem _ (List.mem_append_right _ hh))
theorem hd_X9_rest : yX9_rest.cls = RX9 ∧ yX9_rest.cls ≠ "java/lang/invoke/MethodHandle" ∧ yX9_rest.cls ≠ "java/lang/invoke/VarHandle" ∧ (parseMethodDescriptor yX9_rest.desc).map (fun d => d.parameters.length) = some 2 := by decide +kernel
set_option maxHeartbeats 4000000 in
set_option maxRecDepth 100000 in
theorem w_X9_rest_50 {p : Program} {l : Launch} {e : Env} {s : State} {m : MethodId} {below : List Frame} {meth : Method} {c : Code} {args : Array Value} {D : va_G} {cy : Nat → ClassId} {g : Nat → Nat} {A : Nat → Prop} {r : Int32} {um' : St} (C0 : Cx p s m meth c args cX9_rest 3 (some .int) wsX9_rest RX9 D cy A) : ∀ (l1 : Int32) (s0 : Int32) (s1 : Int32) (um : St), f_X9_rest_50 l1 s0 s1 um = some (r, um') → ∀ (H : Heap) (locs : List Loc) (ls : Array Slot), va_P D vwCl (wX9 cy g um) H → va_D A (wX9 cy g um) → va_S A s.heap H locs → lv_has ls 3 [(0, .ref (g 999)), (1, .int l1)] → W p l e (rmH 2) s m args below meth c H locs 0 0 (QI below args s A D cy (wX9 cy g um') r) (F0 m 50 ls [.int s0, .int s1, .ref (g 906)]) := by
  obtain ⟨hx, hb, hr, hml, hown, hts, hlocks, hK, hA⟩ := id C0
  intro l1 s0 s1 um h H locs ls hP hD hS hl
  rw [f_X9_rest_50] at h
  refine x_iast (Wd := (fun uz => wX9 cy g uz)) (u := um) (k := 6) hx hb hK hP hD hS 6 rfl rfl (fun _ => rfl) h dX9_rest_50 (fun um7 H locs h hP hD hS => ?_)
  refine lv_aload_n hx hb dX9_rest_51 rfl (lv_at hl 0 rfl) ?_
  refine va_get (D := D) (ci := 8) (v := .ref (g 906)) (C := RX9) (T := TX9) (N := 38) hx hb hts ki_X9_rest_X9 hown hK hP 0 rfl rfl 6 (by decide) (hts _ k_X9_rest_0) (fun _ h9 => h9) rfl dX9_rest_52 ?_
  refine lv_iload_n hx hb dX9_rest_55 rfl (lv_at hl 1 rfl) ?_
  refine x_iald hx hb hK hP 6 rfl rfl h dX9_rest_56 (fun v8 h => ?_)
  cases h
  exact x_iret hx hb hr hlocks hK hP hD hS dX9_rest_57 rfl rfl
set_option maxHeartbeats 4000000 in
set_option maxRecDepth 100000 in
theorem c_X9_rest (l : Launch) (D : va_G) (cy : Nat → ClassId) (g : Nat → Nat) (um : St) (p0 : Int32) (p1 : Int32) (r : Int32) (um' : St) (h : f_X9_rest p0 p1 um = some (r, um')) : CtI l yX9_rest wsX9_rest (rmH 2) [.ref (g 999), .int p0, .int p1] D cy (wX9 cy g um) (wX9 cy g um') r := by
  refine ct_enter (D := D) (cy := cy) (cc := cX9_rest) (maxL := 3) (ret := (some .int)) (w := wX9 cy g um) (Qc := fun sz => va_Qi (fun r' (_ : Unit) => r' = r) (Bw D cy (va_A (wX9 cy g um) sz) (wX9 cy g um')) (va_A (wX9 cy g um) sz)) (by decide) rfl (Nat.le_of_ble_eq_true rfl) ?_
  intro p e s m below meth c A C0 hAe ls hl hP hD hS
  have e1 : MQ below ((fun sz => va_Qi (fun r' (_ : Unit) => r' = r) (Bw D cy (va_A (wX9 cy g um) sz) (wX9 cy g um')) (va_A (wX9 cy g um) sz)) s.heap.size) [.ref (g 999), .int p0, .int p1].toArray s 0 0 A = QI below [.ref (g 999), .int p0, .int p1].toArray s A D cy (wX9 cy g um') r := by rw [hAe]; rfl
  rw [e1]
  clear e1 hAe
  obtain ⟨hx, hb, hr, hml, hown, hts, hlocks, hK, hA⟩ := id C0
  have hl : lv_has ls 3 [(0, .ref (g 999)), (1, .int p0), (2, .int p1)] := hl
  rw [f_X9_rest] at h
  refine lv_iload_n hx hb dX9_rest_0 rfl (lv_at hl 1 rfl) ?_
  obtain ⟨r1, e2, h⟩ := bd_some h
  refine x_callSI (As := [.int p0]) (rest := []) (n := 1) ⟨hx, hb, hml, hown, hts⟩ (c_X9_isPlayer l D cy  p0 r1 e2) gX9_rest_X9_isPlayer rfl hd_X9_isPlayer ⟨Nat.le_of_ble_eq_true rfl, Nat.le_of_ble_eq_true rfl⟩ ⟨rfl, rfl⟩ hK (sp_nil _) (sp_nil _) hP hD hS hA rfl hl.1 rfl (Nat.le_of_ble_eq_true rfl) dX9_rest_1 ⟨Nat.zero_le _, Nat.zero_le _⟩ (fun H locs hP hD hS => ?_)
  clear e2
  refine x_if_ne (tgt := 10) hx hb dX9_rest_4 (by decide) h (fun _ h => ?_) (fun _ h => ?_)
  · refine lv_bipush (v := -2) hx hb dX9_rest_7 (by decide) ?_
    cases h
    exact x_iret hx hb hr hlocks hK hP hD hS dX9_rest_9 rfl rfl
  · refine lv_iload_n hx hb dX9_rest_10 rfl (lv_at hl 2 rfl) ?_
    refine lv_iconst (v := 0) hx hb dX9_rest_11 (by decide) ?_
    refine lv_bipush (v := 100) hx hb dX9_rest_12 (by decide) ?_
    obtain ⟨r3, e4, h⟩ := bd_some h
    refine x_callSI (As := [.int p1, .int (0 : Int32), .int (100 : Int32)]) (rest := []) (n := 3) ⟨hx, hb, hml, hown, hts⟩ (c_X9_in l D cy  p1 (0 : Int32) (100 : Int32) r3 e4) gX9_rest_X9_in rfl hd_X9_in ⟨Nat.le_of_ble_eq_true rfl, Nat.le_of_ble_eq_true rfl⟩ ⟨rfl, rfl⟩ hK (sp_nil _) (sp_nil _) hP hD hS hA rfl hl.1 rfl (Nat.le_of_ble_eq_true rfl) dX9_rest_14 ⟨Nat.zero_le _, Nat.zero_le _⟩ (fun H locs hP hD hS => ?_)
    clear e4
    refine x_if_ne (tgt := 23) hx hb dX9_rest_17 (by decide) h (fun _ h => ?_) (fun _ h => ?_)
    · refine lv_bipush (v := -3) hx hb dX9_rest_20 (by decide) ?_
      cases h
      exact x_iret hx hb hr hlocks hK hP hD hS dX9_rest_22 rfl rfl
    · refine lv_aload_n hx hb dX9_rest_23 rfl (lv_at hl 0 rfl) ?_
      refine va_get (D := D) (ci := 8) (v := .ref (g 906)) (C := RX9) (T := TX9) (N := 38) hx hb hts ki_X9_rest_X9 hown hK hP 0 rfl rfl 6 (by decide) (hts _ k_X9_rest_0) (fun _ h9 => h9) rfl dX9_rest_24 ?_
      refine lv_iload_n hx hb dX9_rest_27 rfl (lv_at hl 1 rfl) ?_
      refine lv_aload_n hx hb dX9_rest_28 rfl (lv_at hl 0 rfl) ?_
      refine va_get (D := D) (ci := 8) (v := .ref (g 906)) (C := RX9) (T := TX9) (N := 38) hx hb hts ki_X9_rest_X9 hown hK hP 0 rfl rfl 6 (by decide) (hts _ k_X9_rest_0) (fun _ h9 => h9) rfl dX9_rest_29 ?_
      refine lv_iload_n hx hb dX9_rest_32 rfl (lv_at hl 1 rfl) ?_
      refine x_iald hx hb hK hP 6 rfl rfl h dX9_rest_33 (fun v5 h => ?_)
      refine lv_iload_n hx hb dX9_rest_34 rfl (lv_at hl 2 rfl) ?_
      refine x_icmp_ge (tgt := 42) hx hb dX9_rest_35 (by decide) h (fun _ h => ?_) (fun _ h => ?_)
      · refine lv_aload_n hx hb dX9_rest_42 rfl (lv_at hl 0 rfl) ?_
        refine va_get (D := D) (ci := 8) (v := .ref (g 906)) (C := RX9) (T := TX9) (N := 38) hx hb hts ki_X9_rest_X9 hown hK hP 0 rfl rfl 6 (by decide) (hts _ k_X9_rest_0) (fun _ h9 => h9) rfl dX9_rest_43 ?_
        refine lv_iload_n hx hb dX9_rest_46 rfl (lv_at hl 1 rfl) ?_
        refine x_iald hx hb hK hP 6 rfl rfl h dX9_rest_47 (fun v6 h => ?_)
        refine lv_iload_n hx hb dX9_rest_48 rfl (lv_at hl 2 rfl) ?_
        refine lv_isub hx hb dX9_rest_49 ?_
        exact w_X9_rest_50 C0 p0 (v6 - p1) p0 um h _ _ ls hP hD hS (lv_sub hl [0, 1] rfl)
      · refine lv_iconst (v := 0) hx hb dX9_rest_38 (by decide) ?_
        refine lv_goto (tgt := 50) hx hb dX9_rest_39 (by decide) ?_
        exact w_X9_rest_50 C0 p0 (0 : Int32) p0 um h _ _ ls hP hD hS (lv_sub hl [0, 1] rfl)
theorem k_X9_stride_0 : Cond.fieldLink RX9 19 "FeatherHallModel" "pace" "[I" ∈ wsX9_stride := (List.mem_cons_of_mem _ (List.mem_append_left _ (List.mem_of_getElem? (i := 0) rfl)))
theorem ki_X9_stride_X9 : ∀ w ∈ u_ws RX9 TX9 38, w ∈ wsX9_stride := fun _ hh => (List.mem_cons_of_mem _ (List.mem_append_right _ hh))
theorem k_X9_stride_1 : Cond.fieldLink RX9 25 "FeatherHallModel" "tired" "[I" ∈ wsX9_stride := (List.mem_cons_of_mem _ (List.mem_append_left _ (List.mem_of_getElem? (i := 1) rfl)))
theorem hd_X9_stride : yX9_stride.cls = RX9 ∧ yX9_stride.cls ≠ "java/lang/invoke/MethodHandle" ∧ yX9_stride.cls ≠ "java/lang/invoke/VarHandle" ∧ (parseMethodDescriptor yX9_stride.desc).map (fun d => d.parameters.length) = some 1 := by decide +kernel
set_option maxHeartbeats 4000000 in
set_option maxRecDepth 100000 in
theorem c_X9_stride (l : Launch) (D : va_G) (cy : Nat → ClassId) (g : Nat → Nat) (um : St) (p0 : Int32) (r : Int32) (h : f_X9_stride um p0 = some r) : CtI l yX9_stride wsX9_stride (rmH 0) [.ref (g 999), .int p0] D cy (wX9 cy g um) (wX9 cy g um) r := by
  refine ct_enter (D := D) (cy := cy) (cc := cX9_stride) (maxL := 3) (ret := (some .int)) (w := wX9 cy g um) (Qc := fun sz => va_Qi (fun r' (_ : Unit) => r' = r) (Bw D cy (va_A (wX9 cy g um) sz) (wX9 cy g um)) (va_A (wX9 cy g um) sz)) (by decide) rfl (Nat.le_of_ble_eq_true rfl) ?_
  intro p e s m below meth c A C0 hAe ls hl hP hD hS
  have e1 : MQ below ((fun sz => va_Qi (fun r' (_ : Unit) => r' = r) (Bw D cy (va_A (wX9 cy g um) sz) (wX9 cy g um)) (va_A (wX9 cy g um) sz)) s.heap.size) [.ref (g 999), .int p0].toArray s 0 0 A = QI below [.ref (g 999), .int p0].toArray s A D cy (wX9 cy g um) r := by rw [hAe]; rfl
  rw [e1]
  clear e1 hAe
  obtain ⟨hx, hb, hr, hml, hown, hts, hlocks, hK, hA⟩ := id C0
  have hl : lv_has ls 3 [(0, .ref (g 999)), (1, .int p0)] := hl
  rw [f_X9_stride] at h
  refine lv_aload_n hx hb dX9_stride_0 rfl (lv_at hl 0 rfl) ?_
  refine va_get (D := D) (ci := 8) (v := .ref (g 904)) (C := RX9) (T := TX9) (N := 38) hx hb hts ki_X9_stride_X9 hown hK hP 0 rfl rfl 4 (by decide) (hts _ k_X9_stride_0) (fun _ h9 => h9) rfl dX9_stride_1 ?_
  refine lv_iload_n hx hb dX9_stride_4 rfl (lv_at hl 1 rfl) ?_
  refine x_iald hx hb hK hP 4 rfl rfl h dX9_stride_5 (fun v1 h => ?_)
  refine lv_sipush (v := 200) hx hb dX9_stride_6 (by decide) ?_
  refine lv_aload_n hx hb dX9_stride_9 rfl (lv_at hl 0 rfl) ?_
  refine va_get (D := D) (ci := 8) (v := .ref (g 906)) (C := RX9) (T := TX9) (N := 38) hx hb hts ki_X9_stride_X9 hown hK hP 0 rfl rfl 6 (by decide) (hts _ k_X9_stride_1) (fun _ h9 => h9) rfl dX9_stride_10 ?_
  refine lv_iload_n hx hb dX9_stride_13 rfl (lv_at hl 1 rfl) ?_
  refine x_iald hx hb hK hP 6 rfl rfl h dX9_stride_14 (fun v2 h => ?_)
  refine lv_isub hx hb dX9_stride_15 ?_
  refine lv_imul hx hb dX9_stride_16 ?_
  refine lv_sipush (v := 200) hx hb dX9_stride_17 (by decide) ?_
  refine lv_idiv hx hb dX9_stride_20 (by decide) ?_
  refine x_nm h (fun v3 h => ?_)
  refine lv_istore_n (lv' := [(2, .int v3), (0, .ref (g 999)), (1, .int p0)]) hx hb dX9_stride_21 rfl hl (by decide) rfl (fun ls hl => ?_)
  refine lv_iload_n hx hb dX9_stride_22 rfl (lv_at hl 0 rfl) ?_
  refine lv_iconst (v := 1) hx hb dX9_stride_23 (by decide) ?_
  refine x_icmp_ge (tgt := 31) hx hb dX9_stride_24 (by decide) h (fun _ h => ?_) (fun _ h => ?_)
  · refine lv_iload_n hx hb dX9_stride_31 rfl (lv_at hl 0 rfl) ?_
    cases h
    exact x_iret hx hb hr hlocks hK hP hD hS dX9_stride_32 rfl rfl
  · refine lv_iconst (v := 1) hx hb dX9_stride_27 (by decide) ?_
    refine lv_goto (tgt := 32) hx hb dX9_stride_28 (by decide) ?_
    cases h
    exact x_iret hx hb hr hlocks hK hP hD hS dX9_stride_32 rfl rfl
theorem k_X9_over0_0 : Cond.fieldLink RX9 28 "FeatherHallModel" "overCell" "[I" ∈ wsX9_over0 := (List.mem_cons_of_mem _ (List.mem_append_left _ (List.mem_of_getElem? (i := 0) rfl)))
theorem ki_X9_over0_X9 : ∀ w ∈ u_ws RX9 TX9 38, w ∈ wsX9_over0 := fun _ hh => (List.mem_cons_of_mem _ (List.mem_append_right _ hh))
theorem k_X9_over0_1 : Cond.fieldLink RX9 22 "FeatherHallModel" "reach" "[I" ∈ wsX9_over0 := (List.mem_cons_of_mem _ (List.mem_append_left _ (List.mem_of_getElem? (i := 1) rfl)))
theorem hd_X9_over0 : yX9_over0.cls = RX9 ∧ yX9_over0.cls ≠ "java/lang/invoke/MethodHandle" ∧ yX9_over0.cls ≠ "java/lang/invoke/VarHandle" ∧ (parseMethodDescriptor yX9_over0.desc).map (fun d => d.parameters.length) = some 3 := by decide +kernel
set_option maxHeartbeats 4000000 in
set_option maxRecDepth 100000 in
theorem c_X9_over0 (l : Launch) (D : va_G) (cy : Nat → ClassId) (g : Nat → Nat) (um : St) (p0 : Int32) (p1 : Int32) (p2 : Int32) (r : Int32) (h : f_X9_over0 um p0 p1 p2 = some r) : CtI l yX9_over0 wsX9_over0 (rmH 2) [.ref (g 999), .int p0, .int p1, .int p2] D cy (wX9 cy g um) (wX9 cy g um) r := by
  refine ct_enter (D := D) (cy := cy) (cc := cX9_over0) (maxL := 5) (ret := (some .int)) (w := wX9 cy g um) (Qc := fun sz => va_Qi (fun r' (_ : Unit) => r' = r) (Bw D cy (va_A (wX9 cy g um) sz) (wX9 cy g um)) (va_A (wX9 cy g um) sz)) (by decide) rfl (Nat.le_of_ble_eq_true rfl) ?_
  intro p e s m below meth c A C0 hAe ls hl hP hD hS
  have e1 : MQ below ((fun sz => va_Qi (fun r' (_ : Unit) => r' = r) (Bw D cy (va_A (wX9 cy g um) sz) (wX9 cy g um)) (va_A (wX9 cy g um) sz)) s.heap.size) [.ref (g 999), .int p0, .int p1, .int p2].toArray s 0 0 A = QI below [.ref (g 999), .int p0, .int p1, .int p2].toArray s A D cy (wX9 cy g um) r := by rw [hAe]; rfl
  rw [e1]
  clear e1 hAe
  obtain ⟨hx, hb, hr, hml, hown, hts, hlocks, hK, hA⟩ := id C0
  have hl : lv_has ls 5 [(0, .ref (g 999)), (1, .int p0), (2, .int p1), (3, .int p2)] := hl
  rw [f_X9_over0] at h
  refine lv_iload_n hx hb dX9_over0_0 rfl (lv_at hl 2 rfl) ?_
  refine lv_aload_n hx hb dX9_over0_1 rfl (lv_at hl 0 rfl) ?_
  refine va_get (D := D) (ci := 8) (v := .ref (g 907)) (C := RX9) (T := TX9) (N := 38) hx hb hts ki_X9_over0_X9 hown hK hP 0 rfl rfl 7 (by decide) (hts _ k_X9_over0_0) (fun _ h9 => h9) rfl dX9_over0_2 ?_
  refine lv_iload_n hx hb dX9_over0_5 rfl (lv_at hl 3 rfl) ?_
  refine x_iald hx hb hK hP 7 rfl rfl h dX9_over0_6 (fun v1 h => ?_)
  obtain ⟨r2, e3, h⟩ := bd_some h
  refine x_callSI (As := [.int p1, .int v1]) (rest := []) (n := 2) ⟨hx, hb, hml, hown, hts⟩ (c_X9_far l D cy  p1 v1 r2 e3) gX9_over0_X9_far rfl hd_X9_far ⟨Nat.le_of_ble_eq_true rfl, Nat.le_of_ble_eq_true rfl⟩ ⟨rfl, rfl⟩ hK (sp_nil _) (sp_nil _) hP hD hS hA rfl hl.1 rfl (Nat.le_of_ble_eq_true rfl) dX9_over0_7 ⟨Nat.zero_le _, Nat.zero_le _⟩ (fun H locs hP hD hS => ?_)
  clear e3
  refine lv_aload_n hx hb dX9_over0_10 rfl (lv_at hl 0 rfl) ?_
  refine va_get (D := D) (ci := 8) (v := .ref (g 905)) (C := RX9) (T := TX9) (N := 38) hx hb hts ki_X9_over0_X9 hown hK hP 0 rfl rfl 5 (by decide) (hts _ k_X9_over0_1) (fun _ h9 => h9) rfl dX9_over0_11 ?_
  refine lv_iload_n hx hb dX9_over0_14 rfl (lv_at hl 1 rfl) ?_
  refine x_iald hx hb hK hP 5 rfl rfl h dX9_over0_15 (fun v4 h => ?_)
  refine lv_isub hx hb dX9_over0_16 ?_
  refine x_nm h (fun v5 h => ?_)
  refine lv_istore (lv' := [(4, .int v5), (0, .ref (g 999)), (1, .int p0), (2, .int p1), (3, .int p2)]) hx hb dX9_over0_17 hl (by decide) rfl (fun ls hl => ?_)
  refine lv_iload_n hx hb dX9_over0_19 rfl (lv_at hl 4 rfl) ?_
  refine lv_aload_n hx hb dX9_over0_20 rfl (lv_at hl 1 rfl) ?_
  refine lv_iload_n hx hb dX9_over0_21 rfl (lv_at hl 2 rfl) ?_
  obtain ⟨r6, e7, h⟩ := bd_some h
  refine x_callVI (As := [.int p0]) (rest := [.int p2]) (n := 1) ⟨hx, hb, hml, hown, hts⟩ (c_X9_stride l D cy g um p0 r6 e7) gX9_over0_X9_stride rfl hd_X9_stride ⟨Nat.le_of_ble_eq_true rfl, Nat.le_of_ble_eq_true rfl⟩ ⟨rfl, rfl⟩ hK (sp_all _) (sp_all _) hP hD hS hA 0 rfl rfl rfl hl.1 rfl (Nat.le_of_ble_eq_true rfl) dX9_over0_22 ⟨Nat.zero_le _, Nat.zero_le _⟩ (fun H locs hP hD hS => ?_)
  clear e7
  refine lv_imul hx hb dX9_over0_25 ?_
  refine lv_bipush (v := 10) hx hb dX9_over0_26 (by decide) ?_
  refine lv_idiv hx hb dX9_over0_28 (by decide) ?_
  refine lv_iload hx hb dX9_over0_29 (lv_at hl 0 rfl) ?_
  refine x_if_ge (tgt := 38) hx hb dX9_over0_31 (by decide) h (fun _ h => ?_) (fun _ h => ?_)
  · refine lv_iload hx hb dX9_over0_38 (lv_at hl 0 rfl) ?_
    refine lv_isub hx hb dX9_over0_40 ?_
    cases h
    exact x_iret hx hb hr hlocks hK hP hD hS dX9_over0_41 rfl rfl
  · refine lv_iconst (v := 0) hx hb dX9_over0_34 (by decide) ?_
    refine lv_goto (tgt := 40) hx hb dX9_over0_35 (by decide) ?_
    refine lv_isub hx hb dX9_over0_40 ?_
    cases h
    exact x_iret hx hb hr hlocks hK hP hD hS dX9_over0_41 rfl rfl
theorem k_X9_slackOf_0 : Cond.fieldLink RX9 112 "FeatherHallModel" "lands" "I" ∈ wsX9_slackOf := (List.mem_cons_of_mem _ (List.mem_append_left _ (List.mem_append_left _ (List.mem_of_getElem? (i := 0) rfl))))
theorem ki_X9_slackOf_X9 : ∀ w ∈ u_ws RX9 TX9 38, w ∈ wsX9_slackOf := fun _ hh => (List.mem_cons_of_mem _ (List.mem_append_right _ hh))
theorem k_X9_slackOf_1 : Cond.fieldLink RX9 28 "FeatherHallModel" "overCell" "[I" ∈ wsX9_slackOf := (List.mem_cons_of_mem _ (List.mem_append_left _ (List.mem_append_left _ (List.mem_of_getElem? (i := 1) rfl))))
theorem hd_X9_slackOf : yX9_slackOf.cls = RX9 ∧ yX9_slackOf.cls ≠ "java/lang/invoke/MethodHandle" ∧ yX9_slackOf.cls ≠ "java/lang/invoke/VarHandle" ∧ (parseMethodDescriptor yX9_slackOf.desc).map (fun d => d.parameters.length) = some 3 := by decide +kernel
set_option maxHeartbeats 4000000 in
set_option maxRecDepth 100000 in
theorem w_X9_slackOf_70 {p : Program} {l : Launch} {e : Env} {s : State} {m : MethodId} {below : List Frame} {meth : Method} {c : Code} {args : Array Value} {D : va_G} {cy : Nat → ClassId} {g : Nat → Nat} {A : Nat → Prop} {um : St} {r : Int32} (C0 : Cx p s m meth c args cX9_slackOf 8 (some .int) wsX9_slackOf RX9 D cy A) {k_15 : Int32 → Int32 → Int32 → Int32 → Int32 → Option (Int32)} (hk_15 : ∀ (l1 : Int32) (l2 : Int32) (l4 : Int32) (l5 : Int32) (l6 : Int32), k_15 l1 l2 l4 l5 l6 = some r → ∀ (H : Heap) (locs : List Loc) (ls : Array Slot), va_P D vwCl (wX9 cy g um) H → va_D A (wX9 cy g um) → va_S A s.heap H locs → lv_has ls 8 [(0, .ref (g 999)), (1, .int l1), (2, .int l2), (4, .int l4), (5, .int l5), (6, .int l6)] → W p l e (rmH 3) s m args below meth c H locs 0 0 (QI below args s A D cy (wX9 cy g um) r) (F0 m 15 ls [])) : ∀ (l1 : Int32) (l2 : Int32) (l4 : Int32) (l6 : Int32) (s0 : Int32), f_X9_slackOf_70 um k_15 l1 l2 l4 l6 s0 = some r → ∀ (H : Heap) (locs : List Loc) (ls : Array Slot), va_P D vwCl (wX9 cy g um) H → va_D A (wX9 cy g um) → va_S A s.heap H locs → lv_has ls 8 [(0, .ref (g 999)), (1, .int l1), (2, .int l2), (4, .int l4), (6, .int l6)] → W p l e (rmH 3) s m args below meth c H locs 0 0 (QI below args s A D cy (wX9 cy g um) r) (F0 m 70 ls [.int s0]) := by
  obtain ⟨hx, hb, hr, hml, hown, hts, hlocks, hK, hA⟩ := id C0
  intro l1 l2 l4 l6 s0 h H locs ls hP hD hS hl
  rw [f_X9_slackOf_70] at h
  refine lv_istore (lv' := [(5, .int s0), (0, .ref (g 999)), (1, .int l1), (2, .int l2), (4, .int l4), (6, .int l6)]) hx hb dX9_slackOf_70 hl (by decide) rfl (fun ls hl => ?_)
  obtain ⟨v6, ev6, h⟩ := nm_ex h
  refine lv_iinc (v := v6) (lv' := [(6, .int v6), (5, .int s0), (0, .ref (g 999)), (1, .int l1), (2, .int l2), (4, .int l4)]) hx hb dX9_slackOf_72 hl (k := 5) rfl (by rw [ev6]; rfl) (by decide) rfl (fun ls hl => ?_)
  clear ev6
  refine lv_goto (tgt := 15) hx hb dX9_slackOf_75 (by decide) ?_
  exact hk_15 l1 l2 l4 s0 v6 h _ _ ls hP hD hS (lv_sub hl [2, 3, 4, 5, 1, 0] rfl)
set_option maxHeartbeats 4000000 in
set_option maxRecDepth 100000 in
theorem w_X9_slackOf_54 {p : Program} {l : Launch} {e : Env} {s : State} {m : MethodId} {below : List Frame} {meth : Method} {c : Code} {args : Array Value} {D : va_G} {cy : Nat → ClassId} {g : Nat → Nat} {A : Nat → Prop} {um : St} {r : Int32} (C0 : Cx p s m meth c args cX9_slackOf 8 (some .int) wsX9_slackOf RX9 D cy A) {k_15 : Int32 → Int32 → Int32 → Int32 → Int32 → Option (Int32)} (hk_15 : ∀ (l1 : Int32) (l2 : Int32) (l4 : Int32) (l5 : Int32) (l6 : Int32), k_15 l1 l2 l4 l5 l6 = some r → ∀ (H : Heap) (locs : List Loc) (ls : Array Slot), va_P D vwCl (wX9 cy g um) H → va_D A (wX9 cy g um) → va_S A s.heap H locs → lv_has ls 8 [(0, .ref (g 999)), (1, .int l1), (2, .int l2), (4, .int l4), (5, .int l5), (6, .int l6)] → W p l e (rmH 3) s m args below meth c H locs 0 0 (QI below args s A D cy (wX9 cy g um) r) (F0 m 15 ls [])) : ∀ (l1 : Int32) (l2 : Int32) (l4 : Int32) (l5 : Int32) (l6 : Int32) (s0 : Int32), f_X9_slackOf_54 um k_15 l1 l2 l4 l5 l6 s0 = some r → ∀ (H : Heap) (locs : List Loc) (ls : Array Slot), va_P D vwCl (wX9 cy g um) H → va_D A (wX9 cy g um) → va_S A s.heap H locs → lv_has ls 8 [(0, .ref (g 999)), (1, .int l1), (2, .int l2), (4, .int l4), (5, .int l5), (6, .int l6)] → W p l e (rmH 3) s m args below meth c H locs 0 0 (QI below args s A D cy (wX9 cy g um) r) (F0 m 54 ls [.int s0]) := by
  obtain ⟨hx, hb, hr, hml, hown, hts, hlocks, hK, hA⟩ := id C0
  intro l1 l2 l4 l5 l6 s0 h H locs ls hP hD hS hl
  rw [f_X9_slackOf_54] at h
  refine lv_istore (lv' := [(7, .int s0), (0, .ref (g 999)), (1, .int l1), (2, .int l2), (4, .int l4), (5, .int l5), (6, .int l6)]) hx hb dX9_slackOf_54 hl (by decide) rfl (fun ls hl => ?_)
  refine lv_iload hx hb dX9_slackOf_56 (lv_at hl 0 rfl) ?_
  refine lv_iload hx hb dX9_slackOf_58 (lv_at hl 5 rfl) ?_
  refine x_icmp_le (tgt := 68) hx hb dX9_slackOf_60 (by decide) h (fun _ h => ?_) (fun _ h => ?_)
  · refine lv_iload hx hb dX9_slackOf_68 (lv_at hl 5 rfl) ?_
    exact w_X9_slackOf_70 C0 hk_15 l1 l2 l4 l6 l5 h _ _ ls hP hD hS (lv_sub hl [1, 2, 3, 4, 6] rfl)
  · refine lv_iload hx hb dX9_slackOf_63 (lv_at hl 0 rfl) ?_
    refine lv_goto (tgt := 70) hx hb dX9_slackOf_65 (by decide) ?_
    exact w_X9_slackOf_70 C0 hk_15 l1 l2 l4 l6 s0 h _ _ ls hP hD hS (lv_sub hl [1, 2, 3, 4, 6] rfl)
set_option maxHeartbeats 4000000 in
set_option maxRecDepth 100000 in
theorem w_X9_slackOf_15 {p : Program} {l : Launch} {e : Env} {s : State} {m : MethodId} {below : List Frame} {meth : Method} {c : Code} {args : Array Value} {D : va_G} {cy : Nat → ClassId} {g : Nat → Nat} {A : Nat → Prop} {um : St} {r : Int32} (C0 : Cx p s m meth c args cX9_slackOf 8 (some .int) wsX9_slackOf RX9 D cy A) : ∀ (nn : Nat) (l1 : Int32) (l2 : Int32) (l4 : Int32) (l5 : Int32) (l6 : Int32), f_X9_slackOf_15 um nn l1 l2 l4 l5 l6 = some r → ∀ (H : Heap) (locs : List Loc) (ls : Array Slot), va_P D vwCl (wX9 cy g um) H → va_D A (wX9 cy g um) → va_S A s.heap H locs → lv_has ls 8 [(0, .ref (g 999)), (1, .int l1), (2, .int l2), (4, .int l4), (5, .int l5), (6, .int l6)] → W p l e (rmH 3) s m args below meth c H locs 0 0 (QI below args s A D cy (wX9 cy g um) r) (F0 m 15 ls []) := by
  obtain ⟨hx, hb, hr, hml, hown, hts, hlocks, hK, hA⟩ := id C0
  intro nn
  induction nn with
  | zero => intro l1 l2 l4 l5 l6 h; rw [f_X9_slackOf_15] at h; cases h
  | succ nn ih =>
    intro l1 l2 l4 l5 l6 h H locs ls hP hD hS hl
    rw [f_X9_slackOf_15] at h
    refine lv_iload hx hb dX9_slackOf_15 (lv_at hl 5 rfl) ?_
    refine lv_aload_n hx hb dX9_slackOf_17 rfl (lv_at hl 0 rfl) ?_
    refine va_get (D := D) (ci := 8) (v := .int (um.1 8)) (C := RX9) (T := TX9) (N := 38) hx hb hts ki_X9_slackOf_X9 hown hK hP 0 rfl rfl 8 (by decide) (hts _ k_X9_slackOf_0) (fun _ h9 => h9) rfl dX9_slackOf_18 ?_
    refine x_icmp_gt (tgt := 78) hx hb dX9_slackOf_21 (by decide) h (fun _ h => ?_) (fun _ h => ?_)
    · refine lv_iload hx hb dX9_slackOf_78 (lv_at hl 4 rfl) ?_
      cases h
      exact x_iret hx hb hr hlocks hK hP hD hS dX9_slackOf_80 rfl rfl
    · refine lv_iload hx hb dX9_slackOf_24 (lv_at hl 3 rfl) ?_
      refine lv_iconst (v := -1) hx hb dX9_slackOf_26 (by decide) ?_
      refine x_icmp_eq (tgt := 78) hx hb dX9_slackOf_27 (by decide) h (fun _ h => ?_) (fun _ h => ?_)
      · refine lv_iload hx hb dX9_slackOf_78 (lv_at hl 4 rfl) ?_
        cases h
        exact x_iret hx hb hr hlocks hK hP hD hS dX9_slackOf_80 rfl rfl
      · refine lv_aload_n hx hb dX9_slackOf_30 rfl (lv_at hl 0 rfl) ?_
        refine va_get (D := D) (ci := 8) (v := .ref (g 907)) (C := RX9) (T := TX9) (N := 38) hx hb hts ki_X9_slackOf_X9 hown hK hP 0 rfl rfl 7 (by decide) (hts _ k_X9_slackOf_1) (fun _ h9 => h9) rfl dX9_slackOf_31 ?_
        refine lv_iload hx hb dX9_slackOf_34 (lv_at hl 5 rfl) ?_
        refine x_iald hx hb hK hP 7 rfl rfl h dX9_slackOf_36 (fun v3 h => ?_)
        refine lv_iconst (v := -1) hx hb dX9_slackOf_37 (by decide) ?_
        refine x_icmp_ne (tgt := 46) hx hb dX9_slackOf_38 (by decide) h (fun _ h => ?_) (fun _ h => ?_)
        · refine lv_bipush (v := -100) hx hb dX9_slackOf_41 (by decide) ?_
          refine lv_goto (tgt := 54) hx hb dX9_slackOf_43 (by decide) ?_
          exact w_X9_slackOf_54 C0 ih l1 l2 l4 l5 l6 (-100 : Int32) h _ _ ls hP hD hS (lv_sub hl [0, 1, 2, 3, 4, 5] rfl)
        · refine lv_aload_n hx hb dX9_slackOf_46 rfl (lv_at hl 0 rfl) ?_
          refine lv_iload_n hx hb dX9_slackOf_47 rfl (lv_at hl 1 rfl) ?_
          refine lv_iload_n hx hb dX9_slackOf_48 rfl (lv_at hl 2 rfl) ?_
          refine lv_iload hx hb dX9_slackOf_49 (lv_at hl 5 rfl) ?_
          obtain ⟨r4, e5, h⟩ := bd_some h
          refine x_callVI (As := [.int l1, .int l2, .int l6]) (rest := []) (n := 3) ⟨hx, hb, hml, hown, hts⟩ (c_X9_over0 l D cy g um l1 l2 l6 r4 e5) gX9_slackOf_X9_over0 rfl hd_X9_over0 ⟨Nat.le_of_ble_eq_true rfl, Nat.le_of_ble_eq_true rfl⟩ ⟨rfl, rfl⟩ hK (sp_all _) (sp_all _) hP hD hS hA 0 rfl rfl rfl hl.1 rfl (Nat.le_of_ble_eq_true rfl) dX9_slackOf_51 ⟨Nat.zero_le _, Nat.zero_le _⟩ (fun H locs hP hD hS => ?_)
          clear e5
          exact w_X9_slackOf_54 C0 ih l1 l2 l4 l5 l6 r4 h _ _ ls hP hD hS (lv_sub hl [0, 1, 2, 3, 4, 5] rfl)
set_option maxHeartbeats 4000000 in
set_option maxRecDepth 100000 in
theorem c_X9_slackOf (l : Launch) (D : va_G) (cy : Nat → ClassId) (g : Nat → Nat) (um : St) (p0 : Int32) (p1 : Int32) (p2 : Int32) (r : Int32) (h : f_X9_slackOf um p0 p1 p2 = some r) : CtI l yX9_slackOf wsX9_slackOf (rmH 3) [.ref (g 999), .int p0, .int p1, .int p2] D cy (wX9 cy g um) (wX9 cy g um) r := by
  refine ct_enter (D := D) (cy := cy) (cc := cX9_slackOf) (maxL := 8) (ret := (some .int)) (w := wX9 cy g um) (Qc := fun sz => va_Qi (fun r' (_ : Unit) => r' = r) (Bw D cy (va_A (wX9 cy g um) sz) (wX9 cy g um)) (va_A (wX9 cy g um) sz)) (by decide) rfl (Nat.le_of_ble_eq_true rfl) ?_
  intro p e s m below meth c A C0 hAe ls hl hP hD hS
  have e1 : MQ below ((fun sz => va_Qi (fun r' (_ : Unit) => r' = r) (Bw D cy (va_A (wX9 cy g um) sz) (wX9 cy g um)) (va_A (wX9 cy g um) sz)) s.heap.size) [.ref (g 999), .int p0, .int p1, .int p2].toArray s 0 0 A = QI below [.ref (g 999), .int p0, .int p1, .int p2].toArray s A D cy (wX9 cy g um) r := by rw [hAe]; rfl
  rw [e1]
  clear e1 hAe
  obtain ⟨hx, hb, hr, hml, hown, hts, hlocks, hK, hA⟩ := id C0
  have hl : lv_has ls 8 [(0, .ref (g 999)), (1, .int p0), (2, .int p1), (3, .int p2)] := hl
  rw [f_X9_slackOf] at h
  refine lv_aload_n hx hb dX9_slackOf_0 rfl (lv_at hl 0 rfl) ?_
  refine lv_iload_n hx hb dX9_slackOf_1 rfl (lv_at hl 3 rfl) ?_
  obtain ⟨r1, e2, h⟩ := bd_some h
  refine x_callVI (As := [.int p2]) (rest := []) (n := 1) ⟨hx, hb, hml, hown, hts⟩ (c_X9_firstMet l D cy g um p2 r1 e2) gX9_slackOf_X9_firstMet rfl hd_X9_firstMet ⟨Nat.le_of_ble_eq_true rfl, Nat.le_of_ble_eq_true rfl⟩ ⟨rfl, rfl⟩ hK (sp_all _) (sp_all _) hP hD hS hA 0 rfl rfl rfl hl.1 rfl (Nat.le_of_ble_eq_true rfl) dX9_slackOf_2 ⟨Nat.zero_le _, Nat.zero_le _⟩ (fun H locs hP hD hS => ?_)
  clear e2
  refine lv_istore (lv' := [(4, .int r1), (0, .ref (g 999)), (1, .int p0), (2, .int p1), (3, .int p2)]) hx hb dX9_slackOf_5 hl (by decide) rfl (fun ls hl => ?_)
  refine lv_bipush (v := -100) hx hb dX9_slackOf_7 (by decide) ?_
  refine lv_istore (lv' := [(5, .int (-100 : Int32)), (4, .int r1), (0, .ref (g 999)), (1, .int p0), (2, .int p1), (3, .int p2)]) hx hb dX9_slackOf_9 hl (by decide) rfl (fun ls hl => ?_)
  refine lv_iload hx hb dX9_slackOf_11 (lv_at hl 1 rfl) ?_
  refine lv_istore (lv' := [(6, .int r1), (5, .int (-100 : Int32)), (4, .int r1), (0, .ref (g 999)), (1, .int p0), (2, .int p1), (3, .int p2)]) hx hb dX9_slackOf_13 hl (by decide) rfl (fun ls hl => ?_)
  exact w_X9_slackOf_15 C0 FU p0 p1 r1 (-100 : Int32) r1 h _ _ ls hP hD hS (lv_sub hl [3, 4, 5, 2, 1, 0] rfl)
theorem hd_X9_slack : yX9_slack.cls = RX9 ∧ yX9_slack.cls ≠ "java/lang/invoke/MethodHandle" ∧ yX9_slack.cls ≠ "java/lang/invoke/VarHandle" ∧ (parseMethodDescriptor yX9_slack.desc).map (fun d => d.parameters.length) = some 5 := by decide +kernel
set_option maxHeartbeats 4000000 in
set_option maxRecDepth 100000 in
theorem c_X9_slack (l : Launch) (D : va_G) (cy : Nat → ClassId) (g : Nat → Nat) (um : St) (p0 : Int32) (p1 : Int32) (p2 : Int32) (p3 : Int32) (p4 : Int32) (r : Int32) (um' : St) (h : f_X9_slack p0 p1 p2 p3 p4 um = some (r, um')) : CtI l yX9_slack wsX9_slack (rmH 4) [.ref (g 999), .int p0, .int p1, .int p2, .int p3, .int p4] D cy (wX9 cy g um) (wX9 cy g um') r := by
  refine ct_enter (D := D) (cy := cy) (cc := cX9_slack) (maxL := 6) (ret := (some .int)) (w := wX9 cy g um) (Qc := fun sz => va_Qi (fun r' (_ : Unit) => r' = r) (Bw D cy (va_A (wX9 cy g um) sz) (wX9 cy g um')) (va_A (wX9 cy g um) sz)) (by decide) rfl (Nat.le_of_ble_eq_true rfl) ?_
  intro p e s m below meth c A C0 hAe ls hl hP hD hS
  have e1 : MQ below ((fun sz => va_Qi (fun r' (_ : Unit) => r' = r) (Bw D cy (va_A (wX9 cy g um) sz) (wX9 cy g um')) (va_A (wX9 cy g um) sz)) s.heap.size) [.ref (g 999), .int p0, .int p1, .int p2, .int p3, .int p4].toArray s 0 0 A = QI below [.ref (g 999), .int p0, .int p1, .int p2, .int p3, .int p4].toArray s A D cy (wX9 cy g um') r := by rw [hAe]; rfl
  rw [e1]
  clear e1 hAe
  obtain ⟨hx, hb, hr, hml, hown, hts, hlocks, hK, hA⟩ := id C0
  have hl : lv_has ls 6 [(0, .ref (g 999)), (1, .int p0), (2, .int p1), (3, .int p2), (4, .int p3), (5, .int p4)] := hl
  rw [f_X9_slack] at h
  refine lv_iload_n hx hb dX9_slack_0 rfl (lv_at hl 1 rfl) ?_
  obtain ⟨r1, e2, h⟩ := bd_some h
  refine x_callSI (As := [.int p0]) (rest := []) (n := 1) ⟨hx, hb, hml, hown, hts⟩ (c_X9_isPlayer l D cy  p0 r1 e2) gX9_slack_X9_isPlayer rfl hd_X9_isPlayer ⟨Nat.le_of_ble_eq_true rfl, Nat.le_of_ble_eq_true rfl⟩ ⟨rfl, rfl⟩ hK (sp_nil _) (sp_nil _) hP hD hS hA rfl hl.1 rfl (Nat.le_of_ble_eq_true rfl) dX9_slack_1 ⟨Nat.zero_le _, Nat.zero_le _⟩ (fun H locs hP hD hS => ?_)
  clear e2
  refine x_if_eq (tgt := 37) hx hb dX9_slack_4 (by decide) h (fun _ h => ?_) (fun _ h => ?_)
  · refine lv_bipush (v := -102) hx hb dX9_slack_37 (by decide) ?_
    cases h
    exact x_iret hx hb hr hlocks hK hP hD hS dX9_slack_39 rfl rfl
  · refine lv_iload_n hx hb dX9_slack_7 rfl (lv_at hl 2 rfl) ?_
    obtain ⟨r3, e4, h⟩ := bd_some h
    refine x_callSI (As := [.int p1]) (rest := []) (n := 1) ⟨hx, hb, hml, hown, hts⟩ (c_X9_isCell l D cy  p1 r3 e4) gX9_slack_X9_isCell rfl hd_X9_isCell ⟨Nat.le_of_ble_eq_true rfl, Nat.le_of_ble_eq_true rfl⟩ ⟨rfl, rfl⟩ hK (sp_nil _) (sp_nil _) hP hD hS hA rfl hl.1 rfl (Nat.le_of_ble_eq_true rfl) dX9_slack_8 ⟨Nat.zero_le _, Nat.zero_le _⟩ (fun H locs hP hD hS => ?_)
    clear e4
    refine x_if_eq (tgt := 37) hx hb dX9_slack_11 (by decide) h (fun _ h => ?_) (fun _ h => ?_)
    · refine lv_bipush (v := -102) hx hb dX9_slack_37 (by decide) ?_
      cases h
      exact x_iret hx hb hr hlocks hK hP hD hS dX9_slack_39 rfl rfl
    · refine lv_iload_n hx hb dX9_slack_14 rfl (lv_at hl 3 rfl) ?_
      obtain ⟨r5, e6, h⟩ := bd_some h
      refine x_callSI (As := [.int p2]) (rest := []) (n := 1) ⟨hx, hb, hml, hown, hts⟩ (c_X9_isKind l D cy  p2 r5 e6) gX9_slack_X9_isKind rfl hd_X9_isKind ⟨Nat.le_of_ble_eq_true rfl, Nat.le_of_ble_eq_true rfl⟩ ⟨rfl, rfl⟩ hK (sp_nil _) (sp_nil _) hP hD hS hA rfl hl.1 rfl (Nat.le_of_ble_eq_true rfl) dX9_slack_15 ⟨Nat.zero_le _, Nat.zero_le _⟩ (fun H locs hP hD hS => ?_)
      clear e6
      refine x_if_eq (tgt := 37) hx hb dX9_slack_18 (by decide) h (fun _ h => ?_) (fun _ h => ?_)
      · refine lv_bipush (v := -102) hx hb dX9_slack_37 (by decide) ?_
        cases h
        exact x_iret hx hb hr hlocks hK hP hD hS dX9_slack_39 rfl rfl
      · refine lv_iload hx hb dX9_slack_21 (lv_at hl 4 rfl) ?_
        obtain ⟨r7, e8, h⟩ := bd_some h
        refine x_callSI (As := [.int p3]) (rest := []) (n := 1) ⟨hx, hb, hml, hown, hts⟩ (c_X9_isCell l D cy  p3 r7 e8) gX9_slack_X9_isCell rfl hd_X9_isCell ⟨Nat.le_of_ble_eq_true rfl, Nat.le_of_ble_eq_true rfl⟩ ⟨rfl, rfl⟩ hK (sp_nil _) (sp_nil _) hP hD hS hA rfl hl.1 rfl (Nat.le_of_ble_eq_true rfl) dX9_slack_23 ⟨Nat.zero_le _, Nat.zero_le _⟩ (fun H locs hP hD hS => ?_)
        clear e8
        refine x_if_eq (tgt := 37) hx hb dX9_slack_26 (by decide) h (fun _ h => ?_) (fun _ h => ?_)
        · refine lv_bipush (v := -102) hx hb dX9_slack_37 (by decide) ?_
          cases h
          exact x_iret hx hb hr hlocks hK hP hD hS dX9_slack_39 rfl rfl
        · refine lv_iload hx hb dX9_slack_29 (lv_at hl 5 rfl) ?_
          obtain ⟨r9, e10, h⟩ := bd_some h
          refine x_callSI (As := [.int p4]) (rest := []) (n := 1) ⟨hx, hb, hml, hown, hts⟩ (c_X9_isCell l D cy  p4 r9 e10) gX9_slack_X9_isCell rfl hd_X9_isCell ⟨Nat.le_of_ble_eq_true rfl, Nat.le_of_ble_eq_true rfl⟩ ⟨rfl, rfl⟩ hK (sp_nil _) (sp_nil _) hP hD hS hA rfl hl.1 rfl (Nat.le_of_ble_eq_true rfl) dX9_slack_31 ⟨Nat.zero_le _, Nat.zero_le _⟩ (fun H locs hP hD hS => ?_)
          clear e10
          refine x_if_ne (tgt := 40) hx hb dX9_slack_34 (by decide) h (fun _ h => ?_) (fun _ h => ?_)
          · refine lv_bipush (v := -102) hx hb dX9_slack_37 (by decide) ?_
            cases h
            exact x_iret hx hb hr hlocks hK hP hD hS dX9_slack_39 rfl rfl
          · refine lv_aload_n hx hb dX9_slack_40 rfl (lv_at hl 0 rfl) ?_
            refine lv_iload_n hx hb dX9_slack_41 rfl (lv_at hl 3 rfl) ?_
            refine lv_iload hx hb dX9_slack_42 (lv_at hl 4 rfl) ?_
            refine lv_iload hx hb dX9_slack_44 (lv_at hl 5 rfl) ?_
            obtain ⟨um11, e12, h⟩ := bd_some h
            refine x_callVV (As := [.int p2, .int p3, .int p4]) (rest := []) (n := 3) ⟨hx, hb, hml, hown, hts⟩ (c_X9_fly l D cy g um p2 p3 p4 um11 e12) gX9_slack_X9_fly rfl hd_X9_fly ⟨Nat.le_of_ble_eq_true rfl, Nat.le_of_ble_eq_true rfl⟩ ⟨rfl, rfl⟩ hK (sp_all _) (sp_all _) hP hD hS hA 0 rfl rfl rfl hl.1 rfl (Nat.le_of_ble_eq_true rfl) dX9_slack_46 ⟨Nat.zero_le _, Nat.zero_le _⟩ (fun H locs hP hD hS => ?_)
            clear e12
            refine lv_aload_n hx hb dX9_slack_49 rfl (lv_at hl 0 rfl) ?_
            refine lv_iload_n hx hb dX9_slack_50 rfl (lv_at hl 1 rfl) ?_
            refine lv_iload_n hx hb dX9_slack_51 rfl (lv_at hl 2 rfl) ?_
            refine lv_iload_n hx hb dX9_slack_52 rfl (lv_at hl 3 rfl) ?_
            obtain ⟨r13, e14, h⟩ := bd_some h
            refine x_callVI (As := [.int p0, .int p1, .int p2]) (rest := []) (n := 3) ⟨hx, hb, hml, hown, hts⟩ (c_X9_slackOf l D cy g um11 p0 p1 p2 r13 e14) gX9_slack_X9_slackOf rfl hd_X9_slackOf ⟨Nat.le_of_ble_eq_true rfl, Nat.le_of_ble_eq_true rfl⟩ ⟨rfl, rfl⟩ hK (sp_all _) (sp_all _) hP hD hS hA 0 rfl rfl rfl hl.1 rfl (Nat.le_of_ble_eq_true rfl) dX9_slack_53 ⟨Nat.zero_le _, Nat.zero_le _⟩ (fun H locs hP hD hS => ?_)
            clear e14
            cases h
            exact x_iret hx hb hr hlocks hK hP hD hS dX9_slack_56 rfl rfl
theorem hd_X9_strike : yX9_strike.cls = RX9 ∧ yX9_strike.cls ≠ "java/lang/invoke/MethodHandle" ∧ yX9_strike.cls ≠ "java/lang/invoke/VarHandle" ∧ (parseMethodDescriptor yX9_strike.desc).map (fun d => d.parameters.length) = some 4 := by decide +kernel
set_option maxHeartbeats 4000000 in
set_option maxRecDepth 100000 in
theorem w_X9_strike_110 {p : Program} {l : Launch} {e : Env} {s : State} {m : MethodId} {below : List Frame} {meth : Method} {c : Code} {args : Array Value} {D : va_G} {cy : Nat → ClassId} {g : Nat → Nat} {A : Nat → Prop} {r : Int32} {um' : St} (C0 : Cx p s m meth c args cX9_strike 9 (some .int) wsX9_strike RX9 D cy A) {k_47 : Int32 → Int32 → Int32 → Int32 → Int32 → Int32 → Int32 → St → Option (Int32 × St)} (hk_47 : ∀ (l1 : Int32) (l2 : Int32) (l3 : Int32) (l4 : Int32) (l5 : Int32) (l6 : Int32) (l7 : Int32) (um : St), k_47 l1 l2 l3 l4 l5 l6 l7 um = some (r, um') → ∀ (H : Heap) (locs : List Loc) (ls : Array Slot), va_P D vwCl (wX9 cy g um) H → va_D A (wX9 cy g um) → va_S A s.heap H locs → lv_has ls 9 [(0, .ref (g 999)), (1, .int l1), (2, .int l2), (3, .int l3), (4, .int l4), (5, .int l5), (6, .int l6), (7, .int l7)] → W p l e (rmH 4) s m args below meth c H locs 0 0 (QI below args s A D cy (wX9 cy g um') r) (F0 m 47 ls [])) : ∀ (l1 : Int32) (l2 : Int32) (l3 : Int32) (l4 : Int32) (l5 : Int32) (l6 : Int32) (l7 : Int32) (um : St), f_X9_strike_110 k_47 l1 l2 l3 l4 l5 l6 l7 um = some (r, um') → ∀ (H : Heap) (locs : List Loc) (ls : Array Slot), va_P D vwCl (wX9 cy g um) H → va_D A (wX9 cy g um) → va_S A s.heap H locs → lv_has ls 9 [(0, .ref (g 999)), (1, .int l1), (2, .int l2), (3, .int l3), (4, .int l4), (5, .int l5), (6, .int l6), (7, .int l7)] → W p l e (rmH 4) s m args below meth c H locs 0 0 (QI below args s A D cy (wX9 cy g um') r) (F0 m 110 ls []) := by
  obtain ⟨hx, hb, hr, hml, hown, hts, hlocks, hK, hA⟩ := id C0
  intro l1 l2 l3 l4 l5 l6 l7 um h H locs ls hP hD hS hl
  rw [f_X9_strike_110] at h
  obtain ⟨v13, ev13, h⟩ := nm_ex h
  refine lv_iinc (v := v13) (lv' := [(7, .int v13), (0, .ref (g 999)), (1, .int l1), (2, .int l2), (3, .int l3), (4, .int l4), (5, .int l5), (6, .int l6)]) hx hb dX9_strike_110 hl (k := 7) rfl (by rw [ev13]; rfl) (by decide) rfl (fun ls hl => ?_)
  clear ev13
  refine lv_goto (tgt := 47) hx hb dX9_strike_113 (by decide) ?_
  exact hk_47 l1 l2 l3 l4 l5 l6 v13 um h _ _ ls hP hD hS (lv_sub hl [1, 2, 3, 4, 5, 6, 7, 0] rfl)
set_option maxHeartbeats 4000000 in
set_option maxRecDepth 100000 in
theorem w_X9_strike_102 {p : Program} {l : Launch} {e : Env} {s : State} {m : MethodId} {below : List Frame} {meth : Method} {c : Code} {args : Array Value} {D : va_G} {cy : Nat → ClassId} {g : Nat → Nat} {A : Nat → Prop} {r : Int32} {um' : St} (C0 : Cx p s m meth c args cX9_strike 9 (some .int) wsX9_strike RX9 D cy A) {k_47 : Int32 → Int32 → Int32 → Int32 → Int32 → Int32 → Int32 → St → Option (Int32 × St)} (hk_47 : ∀ (l1 : Int32) (l2 : Int32) (l3 : Int32) (l4 : Int32) (l5 : Int32) (l6 : Int32) (l7 : Int32) (um : St), k_47 l1 l2 l3 l4 l5 l6 l7 um = some (r, um') → ∀ (H : Heap) (locs : List Loc) (ls : Array Slot), va_P D vwCl (wX9 cy g um) H → va_D A (wX9 cy g um) → va_S A s.heap H locs → lv_has ls 9 [(0, .ref (g 999)), (1, .int l1), (2, .int l2), (3, .int l3), (4, .int l4), (5, .int l5), (6, .int l6), (7, .int l7)] → W p l e (rmH 4) s m args below meth c H locs 0 0 (QI below args s A D cy (wX9 cy g um') r) (F0 m 47 ls [])) : ∀ (l1 : Int32) (l2 : Int32) (l3 : Int32) (l4 : Int32) (l7 : Int32) (l8 : Int32) (um : St), f_X9_strike_102 k_47 l1 l2 l3 l4 l7 l8 um = some (r, um') → ∀ (H : Heap) (locs : List Loc) (ls : Array Slot), va_P D vwCl (wX9 cy g um) H → va_D A (wX9 cy g um) → va_S A s.heap H locs → lv_has ls 9 [(0, .ref (g 999)), (1, .int l1), (2, .int l2), (3, .int l3), (4, .int l4), (7, .int l7), (8, .int l8)] → W p l e (rmH 4) s m args below meth c H locs 0 0 (QI below args s A D cy (wX9 cy g um') r) (F0 m 102 ls []) := by
  obtain ⟨hx, hb, hr, hml, hown, hts, hlocks, hK, hA⟩ := id C0
  intro l1 l2 l3 l4 l7 l8 um h H locs ls hP hD hS hl
  rw [f_X9_strike_102] at h
  refine lv_iload hx hb dX9_strike_102 (lv_at hl 5 rfl) ?_
  refine lv_istore (lv' := [(5, .int l7), (0, .ref (g 999)), (1, .int l1), (2, .int l2), (3, .int l3), (4, .int l4), (7, .int l7), (8, .int l8)]) hx hb dX9_strike_104 hl (by decide) rfl (fun ls hl => ?_)
  refine lv_iload hx hb dX9_strike_106 (lv_at hl 7 rfl) ?_
  refine lv_istore (lv' := [(6, .int l8), (5, .int l7), (0, .ref (g 999)), (1, .int l1), (2, .int l2), (3, .int l3), (4, .int l4), (7, .int l7), (8, .int l8)]) hx hb dX9_strike_108 hl (by decide) rfl (fun ls hl => ?_)
  exact w_X9_strike_110 C0 hk_47 l1 l2 l3 l4 l7 l8 l7 um h _ _ ls hP hD hS (lv_sub hl [2, 3, 4, 5, 6, 1, 0, 7] rfl)
set_option maxHeartbeats 4000000 in
set_option maxRecDepth 100000 in
theorem w_X9_strike_47 {p : Program} {l : Launch} {e : Env} {s : State} {m : MethodId} {below : List Frame} {meth : Method} {c : Code} {args : Array Value} {D : va_G} {cy : Nat → ClassId} {g : Nat → Nat} {A : Nat → Prop} {r : Int32} {um' : St} (C0 : Cx p s m meth c args cX9_strike 9 (some .int) wsX9_strike RX9 D cy A) : ∀ (nn : Nat) (l1 : Int32) (l2 : Int32) (l3 : Int32) (l4 : Int32) (l5 : Int32) (l6 : Int32) (l7 : Int32) (um : St), f_X9_strike_47 nn l1 l2 l3 l4 l5 l6 l7 um = some (r, um') → ∀ (H : Heap) (locs : List Loc) (ls : Array Slot), va_P D vwCl (wX9 cy g um) H → va_D A (wX9 cy g um) → va_S A s.heap H locs → lv_has ls 9 [(0, .ref (g 999)), (1, .int l1), (2, .int l2), (3, .int l3), (4, .int l4), (5, .int l5), (6, .int l6), (7, .int l7)] → W p l e (rmH 4) s m args below meth c H locs 0 0 (QI below args s A D cy (wX9 cy g um') r) (F0 m 47 ls []) := by
  obtain ⟨hx, hb, hr, hml, hown, hts, hlocks, hK, hA⟩ := id C0
  intro nn
  induction nn with
  | zero => intro l1 l2 l3 l4 l5 l6 l7 um h; rw [f_X9_strike_47] at h; cases h
  | succ nn ih =>
    intro l1 l2 l3 l4 l5 l6 l7 um h H locs ls hP hD hS hl
    rw [f_X9_strike_47] at h
    refine lv_iload hx hb dX9_strike_47 (lv_at hl 7 rfl) ?_
    refine lv_bipush (v := 64) hx hb dX9_strike_49 (by decide) ?_
    refine x_icmp_ge (tgt := 116) hx hb dX9_strike_51 (by decide) h (fun _ h => ?_) (fun _ h => ?_)
    · refine lv_iload hx hb dX9_strike_116 (lv_at hl 4 rfl) ?_
      refine x_if_ne (tgt := 126) hx hb dX9_strike_118 (by decide) h (fun _ h => ?_) (fun _ h => ?_)
      · refine lv_iload hx hb dX9_strike_121 (lv_at hl 5 rfl) ?_
        refine lv_goto (tgt := 128) hx hb dX9_strike_123 (by decide) ?_
        cases h
        exact x_iret hx hb hr hlocks hK hP hD hS dX9_strike_128 rfl rfl
      · refine lv_iload hx hb dX9_strike_126 (lv_at hl 6 rfl) ?_
        cases h
        exact x_iret hx hb hr hlocks hK hP hD hS dX9_strike_128 rfl rfl
    · refine lv_aload_n hx hb dX9_strike_54 rfl (lv_at hl 0 rfl) ?_
      refine lv_iload hx hb dX9_strike_55 (lv_at hl 7 rfl) ?_
      refine lv_bipush (v := 16) hx hb dX9_strike_57 (by decide) ?_
      refine lv_idiv hx hb dX9_strike_59 (by decide) ?_
      refine lv_iload_n hx hb dX9_strike_60 rfl (lv_at hl 1 rfl) ?_
      refine lv_iload hx hb dX9_strike_61 (lv_at hl 7 rfl) ?_
      refine lv_bipush (v := 16) hx hb dX9_strike_63 (by decide) ?_
      refine lv_irem hx hb dX9_strike_65 (by decide) ?_
      obtain ⟨um9, e10, h⟩ := bd_some h
      refine x_callVV (As := [.int (l7 / (16 : Int32)), .int l1, .int (l7 - l7 / (16 : Int32) * (16 : Int32))]) (rest := []) (n := 3) ⟨hx, hb, hml, hown, hts⟩ (c_X9_fly l D cy g um (l7 / (16 : Int32)) l1 (l7 - l7 / (16 : Int32) * (16 : Int32)) um9 e10) gX9_strike_X9_fly rfl hd_X9_fly ⟨Nat.le_of_ble_eq_true rfl, Nat.le_of_ble_eq_true rfl⟩ ⟨rfl, rfl⟩ hK (sp_all _) (sp_all _) hP hD hS hA 0 rfl rfl rfl hl.1 rfl (Nat.le_of_ble_eq_true rfl) dX9_strike_66 ⟨Nat.zero_le _, Nat.zero_le _⟩ (fun H locs hP hD hS => ?_)
      clear e10
      refine lv_aload_n hx hb dX9_strike_69 rfl (lv_at hl 0 rfl) ?_
      refine lv_iload_n hx hb dX9_strike_70 rfl (lv_at hl 2 rfl) ?_
      refine lv_iload_n hx hb dX9_strike_71 rfl (lv_at hl 3 rfl) ?_
      refine lv_iload hx hb dX9_strike_72 (lv_at hl 7 rfl) ?_
      refine lv_bipush (v := 16) hx hb dX9_strike_74 (by decide) ?_
      refine lv_idiv hx hb dX9_strike_76 (by decide) ?_
      obtain ⟨r11, e12, h⟩ := bd_some h
      refine x_callVI (As := [.int l2, .int l3, .int (l7 / (16 : Int32))]) (rest := []) (n := 3) ⟨hx, hb, hml, hown, hts⟩ (c_X9_slackOf l D cy g um9 l2 l3 (l7 / (16 : Int32)) r11 e12) gX9_strike_X9_slackOf rfl hd_X9_slackOf ⟨Nat.le_of_ble_eq_true rfl, Nat.le_of_ble_eq_true rfl⟩ ⟨rfl, rfl⟩ hK (sp_all _) (sp_all _) hP hD hS hA 0 rfl rfl rfl hl.1 rfl (Nat.le_of_ble_eq_true rfl) dX9_strike_77 ⟨Nat.zero_le _, Nat.zero_le _⟩ (fun H locs hP hD hS => ?_)
      clear e12
      refine lv_istore (lv' := [(8, .int r11), (0, .ref (g 999)), (1, .int l1), (2, .int l2), (3, .int l3), (4, .int l4), (5, .int l5), (6, .int l6), (7, .int l7)]) hx hb dX9_strike_80 hl (by decide) rfl (fun ls hl => ?_)
      refine lv_iload hx hb dX9_strike_82 (lv_at hl 0 rfl) ?_
      refine lv_bipush (v := -100) hx hb dX9_strike_84 (by decide) ?_
      refine x_icmp_eq (tgt := 110) hx hb dX9_strike_86 (by decide) h (fun _ h => ?_) (fun _ h => ?_)
      · exact w_X9_strike_110 C0 ih l1 l2 l3 l4 l5 l6 l7 um9 h _ _ ls hP hD hS (lv_sub hl [1, 2, 3, 4, 5, 6, 7, 8] rfl)
      · refine lv_iload hx hb dX9_strike_89 (lv_at hl 6 rfl) ?_
        refine lv_iconst (v := -1) hx hb dX9_strike_91 (by decide) ?_
        refine x_icmp_eq (tgt := 102) hx hb dX9_strike_92 (by decide) h (fun _ h => ?_) (fun _ h => ?_)
        · exact w_X9_strike_102 C0 ih l1 l2 l3 l4 l7 r11 um9 h _ _ ls hP hD hS (lv_sub hl [1, 2, 3, 4, 5, 8, 0] rfl)
        · refine lv_iload hx hb dX9_strike_95 (lv_at hl 0 rfl) ?_
          refine lv_iload hx hb dX9_strike_97 (lv_at hl 7 rfl) ?_
          refine x_icmp_ge (tgt := 110) hx hb dX9_strike_99 (by decide) h (fun _ h => ?_) (fun _ h => ?_)
          · exact w_X9_strike_110 C0 ih l1 l2 l3 l4 l5 l6 l7 um9 h _ _ ls hP hD hS (lv_sub hl [1, 2, 3, 4, 5, 6, 7, 8] rfl)
          · exact w_X9_strike_102 C0 ih l1 l2 l3 l4 l7 r11 um9 h _ _ ls hP hD hS (lv_sub hl [1, 2, 3, 4, 5, 8, 0] rfl)
set_option maxHeartbeats 4000000 in
set_option maxRecDepth 100000 in
theorem c_X9_strike (l : Launch) (D : va_G) (cy : Nat → ClassId) (g : Nat → Nat) (um : St) (p0 : Int32) (p1 : Int32) (p2 : Int32) (p3 : Int32) (r : Int32) (um' : St) (h : f_X9_strike p0 p1 p2 p3 um = some (r, um')) : CtI l yX9_strike wsX9_strike (rmH 4) [.ref (g 999), .int p0, .int p1, .int p2, .int p3] D cy (wX9 cy g um) (wX9 cy g um') r := by
  refine ct_enter (D := D) (cy := cy) (cc := cX9_strike) (maxL := 9) (ret := (some .int)) (w := wX9 cy g um) (Qc := fun sz => va_Qi (fun r' (_ : Unit) => r' = r) (Bw D cy (va_A (wX9 cy g um) sz) (wX9 cy g um')) (va_A (wX9 cy g um) sz)) (by decide) rfl (Nat.le_of_ble_eq_true rfl) ?_
  intro p e s m below meth c A C0 hAe ls hl hP hD hS
  have e1 : MQ below ((fun sz => va_Qi (fun r' (_ : Unit) => r' = r) (Bw D cy (va_A (wX9 cy g um) sz) (wX9 cy g um')) (va_A (wX9 cy g um) sz)) s.heap.size) [.ref (g 999), .int p0, .int p1, .int p2, .int p3].toArray s 0 0 A = QI below [.ref (g 999), .int p0, .int p1, .int p2, .int p3].toArray s A D cy (wX9 cy g um') r := by rw [hAe]; rfl
  rw [e1]
  clear e1 hAe
  obtain ⟨hx, hb, hr, hml, hown, hts, hlocks, hK, hA⟩ := id C0
  have hl : lv_has ls 9 [(0, .ref (g 999)), (1, .int p0), (2, .int p1), (3, .int p2), (4, .int p3)] := hl
  rw [f_X9_strike] at h
  refine lv_iload_n hx hb dX9_strike_0 rfl (lv_at hl 1 rfl) ?_
  obtain ⟨r1, e2, h⟩ := bd_some h
  refine x_callSI (As := [.int p0]) (rest := []) (n := 1) ⟨hx, hb, hml, hown, hts⟩ (c_X9_isCell l D cy  p0 r1 e2) gX9_strike_X9_isCell rfl hd_X9_isCell ⟨Nat.le_of_ble_eq_true rfl, Nat.le_of_ble_eq_true rfl⟩ ⟨rfl, rfl⟩ hK (sp_nil _) (sp_nil _) hP hD hS hA rfl hl.1 rfl (Nat.le_of_ble_eq_true rfl) dX9_strike_1 ⟨Nat.zero_le _, Nat.zero_le _⟩ (fun H locs hP hD hS => ?_)
  clear e2
  refine x_if_eq (tgt := 21) hx hb dX9_strike_4 (by decide) h (fun _ h => ?_) (fun _ h => ?_)
  · refine lv_bipush (v := -102) hx hb dX9_strike_21 (by decide) ?_
    cases h
    exact x_iret hx hb hr hlocks hK hP hD hS dX9_strike_23 rfl rfl
  · refine lv_iload_n hx hb dX9_strike_7 rfl (lv_at hl 2 rfl) ?_
    obtain ⟨r3, e4, h⟩ := bd_some h
    refine x_callSI (As := [.int p1]) (rest := []) (n := 1) ⟨hx, hb, hml, hown, hts⟩ (c_X9_isPlayer l D cy  p1 r3 e4) gX9_strike_X9_isPlayer rfl hd_X9_isPlayer ⟨Nat.le_of_ble_eq_true rfl, Nat.le_of_ble_eq_true rfl⟩ ⟨rfl, rfl⟩ hK (sp_nil _) (sp_nil _) hP hD hS hA rfl hl.1 rfl (Nat.le_of_ble_eq_true rfl) dX9_strike_8 ⟨Nat.zero_le _, Nat.zero_le _⟩ (fun H locs hP hD hS => ?_)
    clear e4
    refine x_if_eq (tgt := 21) hx hb dX9_strike_11 (by decide) h (fun _ h => ?_) (fun _ h => ?_)
    · refine lv_bipush (v := -102) hx hb dX9_strike_21 (by decide) ?_
      cases h
      exact x_iret hx hb hr hlocks hK hP hD hS dX9_strike_23 rfl rfl
    · refine lv_iload_n hx hb dX9_strike_14 rfl (lv_at hl 3 rfl) ?_
      obtain ⟨r5, e6, h⟩ := bd_some h
      refine x_callSI (As := [.int p2]) (rest := []) (n := 1) ⟨hx, hb, hml, hown, hts⟩ (c_X9_isCell l D cy  p2 r5 e6) gX9_strike_X9_isCell rfl hd_X9_isCell ⟨Nat.le_of_ble_eq_true rfl, Nat.le_of_ble_eq_true rfl⟩ ⟨rfl, rfl⟩ hK (sp_nil _) (sp_nil _) hP hD hS hA rfl hl.1 rfl (Nat.le_of_ble_eq_true rfl) dX9_strike_15 ⟨Nat.zero_le _, Nat.zero_le _⟩ (fun H locs hP hD hS => ?_)
      clear e6
      refine x_if_ne (tgt := 24) hx hb dX9_strike_18 (by decide) h (fun _ h => ?_) (fun _ h => ?_)
      · refine lv_bipush (v := -102) hx hb dX9_strike_21 (by decide) ?_
        cases h
        exact x_iret hx hb hr hlocks hK hP hD hS dX9_strike_23 rfl rfl
      · refine lv_iload hx hb dX9_strike_24 (lv_at hl 4 rfl) ?_
        refine lv_iconst (v := 0) hx hb dX9_strike_26 (by decide) ?_
        refine lv_iconst (v := 1) hx hb dX9_strike_27 (by decide) ?_
        obtain ⟨r7, e8, h⟩ := bd_some h
        refine x_callSI (As := [.int p3, .int (0 : Int32), .int (1 : Int32)]) (rest := []) (n := 3) ⟨hx, hb, hml, hown, hts⟩ (c_X9_in l D cy  p3 (0 : Int32) (1 : Int32) r7 e8) gX9_strike_X9_in rfl hd_X9_in ⟨Nat.le_of_ble_eq_true rfl, Nat.le_of_ble_eq_true rfl⟩ ⟨rfl, rfl⟩ hK (sp_nil _) (sp_nil _) hP hD hS hA rfl hl.1 rfl (Nat.le_of_ble_eq_true rfl) dX9_strike_28 ⟨Nat.zero_le _, Nat.zero_le _⟩ (fun H locs hP hD hS => ?_)
        clear e8
        refine x_if_ne (tgt := 37) hx hb dX9_strike_31 (by decide) h (fun _ h => ?_) (fun _ h => ?_)
        · refine lv_bipush (v := -103) hx hb dX9_strike_34 (by decide) ?_
          cases h
          exact x_iret hx hb hr hlocks hK hP hD hS dX9_strike_36 rfl rfl
        · refine lv_iconst (v := -1) hx hb dX9_strike_37 (by decide) ?_
          refine lv_istore (lv' := [(5, .int (-1 : Int32)), (0, .ref (g 999)), (1, .int p0), (2, .int p1), (3, .int p2), (4, .int p3)]) hx hb dX9_strike_38 hl (by decide) rfl (fun ls hl => ?_)
          refine lv_bipush (v := -100) hx hb dX9_strike_40 (by decide) ?_
          refine lv_istore (lv' := [(6, .int (-100 : Int32)), (5, .int (-1 : Int32)), (0, .ref (g 999)), (1, .int p0), (2, .int p1), (3, .int p2), (4, .int p3)]) hx hb dX9_strike_42 hl (by decide) rfl (fun ls hl => ?_)
          refine lv_iconst (v := 0) hx hb dX9_strike_44 (by decide) ?_
          refine lv_istore (lv' := [(7, .int (0 : Int32)), (6, .int (-100 : Int32)), (5, .int (-1 : Int32)), (0, .ref (g 999)), (1, .int p0), (2, .int p1), (3, .int p2), (4, .int p3)]) hx hb dX9_strike_45 hl (by decide) rfl (fun ls hl => ?_)
          exact w_X9_strike_47 C0 FU p0 p1 p2 p3 (-1 : Int32) (-100 : Int32) (0 : Int32) um h _ _ ls hP hD hS (lv_sub hl [3, 4, 5, 6, 7, 2, 1, 0] rfl)
theorem hd_X9_leastSlack : yX9_leastSlack.cls = RX9 ∧ yX9_leastSlack.cls ≠ "java/lang/invoke/MethodHandle" ∧ yX9_leastSlack.cls ≠ "java/lang/invoke/VarHandle" ∧ (parseMethodDescriptor yX9_leastSlack.desc).map (fun d => d.parameters.length) = some 3 := by decide +kernel
set_option maxHeartbeats 4000000 in
set_option maxRecDepth 100000 in
theorem w_X9_leastSlack_70 {p : Program} {l : Launch} {e : Env} {s : State} {m : MethodId} {below : List Frame} {meth : Method} {c : Code} {args : Array Value} {D : va_G} {cy : Nat → ClassId} {g : Nat → Nat} {A : Nat → Prop} {r : Int32} {um' : St} (C0 : Cx p s m meth c args cX9_leastSlack 7 (some .int) wsX9_leastSlack RX9 D cy A) {k_7 : Int32 → Int32 → Int32 → Int32 → Int32 → St → Option (Int32 × St)} (hk_7 : ∀ (l1 : Int32) (l2 : Int32) (l3 : Int32) (l4 : Int32) (l5 : Int32) (um : St), k_7 l1 l2 l3 l4 l5 um = some (r, um') → ∀ (H : Heap) (locs : List Loc) (ls : Array Slot), va_P D vwCl (wX9 cy g um) H → va_D A (wX9 cy g um) → va_S A s.heap H locs → lv_has ls 7 [(0, .ref (g 999)), (1, .int l1), (2, .int l2), (3, .int l3), (4, .int l4), (5, .int l5)] → W p l e (rmH 4) s m args below meth c H locs 0 0 (QI below args s A D cy (wX9 cy g um') r) (F0 m 7 ls [])) : ∀ (l1 : Int32) (l2 : Int32) (l3 : Int32) (l5 : Int32) (s0 : Int32) (um : St), f_X9_leastSlack_70 k_7 l1 l2 l3 l5 s0 um = some (r, um') → ∀ (H : Heap) (locs : List Loc) (ls : Array Slot), va_P D vwCl (wX9 cy g um) H → va_D A (wX9 cy g um) → va_S A s.heap H locs → lv_has ls 7 [(0, .ref (g 999)), (1, .int l1), (2, .int l2), (3, .int l3), (5, .int l5)] → W p l e (rmH 4) s m args below meth c H locs 0 0 (QI below args s A D cy (wX9 cy g um') r) (F0 m 70 ls [.int s0]) := by
  obtain ⟨hx, hb, hr, hml, hown, hts, hlocks, hK, hA⟩ := id C0
  intro l1 l2 l3 l5 s0 um h H locs ls hP hD hS hl
  rw [f_X9_leastSlack_70] at h
  refine lv_istore (lv' := [(4, .int s0), (0, .ref (g 999)), (1, .int l1), (2, .int l2), (3, .int l3), (5, .int l5)]) hx hb dX9_leastSlack_70 hl (by decide) rfl (fun ls hl => ?_)
  obtain ⟨v5, ev5, h⟩ := nm_ex h
  refine lv_iinc (v := v5) (lv' := [(5, .int v5), (4, .int s0), (0, .ref (g 999)), (1, .int l1), (2, .int l2), (3, .int l3)]) hx hb dX9_leastSlack_72 hl (k := 5) rfl (by rw [ev5]; rfl) (by decide) rfl (fun ls hl => ?_)
  clear ev5
  refine lv_goto (tgt := 7) hx hb dX9_leastSlack_75 (by decide) ?_
  exact hk_7 l1 l2 l3 s0 v5 um h _ _ ls hP hD hS (lv_sub hl [2, 3, 4, 5, 1, 0] rfl)
set_option maxHeartbeats 4000000 in
set_option maxRecDepth 100000 in
theorem w_X9_leastSlack_63 {p : Program} {l : Launch} {e : Env} {s : State} {m : MethodId} {below : List Frame} {meth : Method} {c : Code} {args : Array Value} {D : va_G} {cy : Nat → ClassId} {g : Nat → Nat} {A : Nat → Prop} {r : Int32} {um' : St} (C0 : Cx p s m meth c args cX9_leastSlack 7 (some .int) wsX9_leastSlack RX9 D cy A) {k_7 : Int32 → Int32 → Int32 → Int32 → Int32 → St → Option (Int32 × St)} (hk_7 : ∀ (l1 : Int32) (l2 : Int32) (l3 : Int32) (l4 : Int32) (l5 : Int32) (um : St), k_7 l1 l2 l3 l4 l5 um = some (r, um') → ∀ (H : Heap) (locs : List Loc) (ls : Array Slot), va_P D vwCl (wX9 cy g um) H → va_D A (wX9 cy g um) → va_S A s.heap H locs → lv_has ls 7 [(0, .ref (g 999)), (1, .int l1), (2, .int l2), (3, .int l3), (4, .int l4), (5, .int l5)] → W p l e (rmH 4) s m args below meth c H locs 0 0 (QI below args s A D cy (wX9 cy g um') r) (F0 m 7 ls [])) : ∀ (l1 : Int32) (l2 : Int32) (l3 : Int32) (l5 : Int32) (l6 : Int32) (um : St), f_X9_leastSlack_63 k_7 l1 l2 l3 l5 l6 um = some (r, um') → ∀ (H : Heap) (locs : List Loc) (ls : Array Slot), va_P D vwCl (wX9 cy g um) H → va_D A (wX9 cy g um) → va_S A s.heap H locs → lv_has ls 7 [(0, .ref (g 999)), (1, .int l1), (2, .int l2), (3, .int l3), (5, .int l5), (6, .int l6)] → W p l e (rmH 4) s m args below meth c H locs 0 0 (QI below args s A D cy (wX9 cy g um') r) (F0 m 63 ls []) := by
  obtain ⟨hx, hb, hr, hml, hown, hts, hlocks, hK, hA⟩ := id C0
  intro l1 l2 l3 l5 l6 um h H locs ls hP hD hS hl
  rw [f_X9_leastSlack_63] at h
  refine lv_iload hx hb dX9_leastSlack_63 (lv_at hl 5 rfl) ?_
  refine lv_goto (tgt := 70) hx hb dX9_leastSlack_65 (by decide) ?_
  exact w_X9_leastSlack_70 C0 hk_7 l1 l2 l3 l5 l6 um h _ _ ls hP hD hS (lv_sub hl [0, 1, 2, 3, 4] rfl)
set_option maxHeartbeats 4000000 in
set_option maxRecDepth 100000 in
theorem w_X9_leastSlack_68 {p : Program} {l : Launch} {e : Env} {s : State} {m : MethodId} {below : List Frame} {meth : Method} {c : Code} {args : Array Value} {D : va_G} {cy : Nat → ClassId} {g : Nat → Nat} {A : Nat → Prop} {r : Int32} {um' : St} (C0 : Cx p s m meth c args cX9_leastSlack 7 (some .int) wsX9_leastSlack RX9 D cy A) {k_7 : Int32 → Int32 → Int32 → Int32 → Int32 → St → Option (Int32 × St)} (hk_7 : ∀ (l1 : Int32) (l2 : Int32) (l3 : Int32) (l4 : Int32) (l5 : Int32) (um : St), k_7 l1 l2 l3 l4 l5 um = some (r, um') → ∀ (H : Heap) (locs : List Loc) (ls : Array Slot), va_P D vwCl (wX9 cy g um) H → va_D A (wX9 cy g um) → va_S A s.heap H locs → lv_has ls 7 [(0, .ref (g 999)), (1, .int l1), (2, .int l2), (3, .int l3), (4, .int l4), (5, .int l5)] → W p l e (rmH 4) s m args below meth c H locs 0 0 (QI below args s A D cy (wX9 cy g um') r) (F0 m 7 ls [])) : ∀ (l1 : Int32) (l2 : Int32) (l3 : Int32) (l4 : Int32) (l5 : Int32) (um : St), f_X9_leastSlack_68 k_7 l1 l2 l3 l4 l5 um = some (r, um') → ∀ (H : Heap) (locs : List Loc) (ls : Array Slot), va_P D vwCl (wX9 cy g um) H → va_D A (wX9 cy g um) → va_S A s.heap H locs → lv_has ls 7 [(0, .ref (g 999)), (1, .int l1), (2, .int l2), (3, .int l3), (4, .int l4), (5, .int l5)] → W p l e (rmH 4) s m args below meth c H locs 0 0 (QI below args s A D cy (wX9 cy g um') r) (F0 m 68 ls []) := by
  obtain ⟨hx, hb, hr, hml, hown, hts, hlocks, hK, hA⟩ := id C0
  intro l1 l2 l3 l4 l5 um h H locs ls hP hD hS hl
  rw [f_X9_leastSlack_68] at h
  refine lv_iload hx hb dX9_leastSlack_68 (lv_at hl 4 rfl) ?_
  exact w_X9_leastSlack_70 C0 hk_7 l1 l2 l3 l5 l4 um h _ _ ls hP hD hS (lv_sub hl [0, 1, 2, 3, 5] rfl)
set_option maxHeartbeats 4000000 in
set_option maxRecDepth 100000 in
theorem w_X9_leastSlack_7 {p : Program} {l : Launch} {e : Env} {s : State} {m : MethodId} {below : List Frame} {meth : Method} {c : Code} {args : Array Value} {D : va_G} {cy : Nat → ClassId} {g : Nat → Nat} {A : Nat → Prop} {r : Int32} {um' : St} (C0 : Cx p s m meth c args cX9_leastSlack 7 (some .int) wsX9_leastSlack RX9 D cy A) : ∀ (nn : Nat) (l1 : Int32) (l2 : Int32) (l3 : Int32) (l4 : Int32) (l5 : Int32) (um : St), f_X9_leastSlack_7 nn l1 l2 l3 l4 l5 um = some (r, um') → ∀ (H : Heap) (locs : List Loc) (ls : Array Slot), va_P D vwCl (wX9 cy g um) H → va_D A (wX9 cy g um) → va_S A s.heap H locs → lv_has ls 7 [(0, .ref (g 999)), (1, .int l1), (2, .int l2), (3, .int l3), (4, .int l4), (5, .int l5)] → W p l e (rmH 4) s m args below meth c H locs 0 0 (QI below args s A D cy (wX9 cy g um') r) (F0 m 7 ls []) := by
  obtain ⟨hx, hb, hr, hml, hown, hts, hlocks, hK, hA⟩ := id C0
  intro nn
  induction nn with
  | zero => intro l1 l2 l3 l4 l5 um h; rw [f_X9_leastSlack_7] at h; cases h
  | succ nn ih =>
    intro l1 l2 l3 l4 l5 um h H locs ls hP hD hS hl
    rw [f_X9_leastSlack_7] at h
    refine lv_iload hx hb dX9_leastSlack_7 (lv_at hl 5 rfl) ?_
    refine lv_bipush (v := 64) hx hb dX9_leastSlack_9 (by decide) ?_
    refine x_icmp_ge (tgt := 78) hx hb dX9_leastSlack_11 (by decide) h (fun _ h => ?_) (fun _ h => ?_)
    · refine lv_iload hx hb dX9_leastSlack_78 (lv_at hl 4 rfl) ?_
      cases h
      exact x_iret hx hb hr hlocks hK hP hD hS dX9_leastSlack_80 rfl rfl
    · refine lv_aload_n hx hb dX9_leastSlack_14 rfl (lv_at hl 0 rfl) ?_
      refine lv_iload hx hb dX9_leastSlack_15 (lv_at hl 5 rfl) ?_
      refine lv_bipush (v := 16) hx hb dX9_leastSlack_17 (by decide) ?_
      refine lv_idiv hx hb dX9_leastSlack_19 (by decide) ?_
      refine lv_iload_n hx hb dX9_leastSlack_20 rfl (lv_at hl 3 rfl) ?_
      refine lv_iload hx hb dX9_leastSlack_21 (lv_at hl 5 rfl) ?_
      refine lv_bipush (v := 16) hx hb dX9_leastSlack_23 (by decide) ?_
      refine lv_irem hx hb dX9_leastSlack_25 (by decide) ?_
      obtain ⟨um1, e2, h⟩ := bd_some h
      refine x_callVV (As := [.int (l5 / (16 : Int32)), .int l3, .int (l5 - l5 / (16 : Int32) * (16 : Int32))]) (rest := []) (n := 3) ⟨hx, hb, hml, hown, hts⟩ (c_X9_fly l D cy g um (l5 / (16 : Int32)) l3 (l5 - l5 / (16 : Int32) * (16 : Int32)) um1 e2) gX9_leastSlack_X9_fly rfl hd_X9_fly ⟨Nat.le_of_ble_eq_true rfl, Nat.le_of_ble_eq_true rfl⟩ ⟨rfl, rfl⟩ hK (sp_all _) (sp_all _) hP hD hS hA 0 rfl rfl rfl hl.1 rfl (Nat.le_of_ble_eq_true rfl) dX9_leastSlack_26 ⟨Nat.zero_le _, Nat.zero_le _⟩ (fun H locs hP hD hS => ?_)
      clear e2
      refine lv_aload_n hx hb dX9_leastSlack_29 rfl (lv_at hl 0 rfl) ?_
      refine lv_iload_n hx hb dX9_leastSlack_30 rfl (lv_at hl 1 rfl) ?_
      refine lv_iload_n hx hb dX9_leastSlack_31 rfl (lv_at hl 2 rfl) ?_
      refine lv_iload hx hb dX9_leastSlack_32 (lv_at hl 5 rfl) ?_
      refine lv_bipush (v := 16) hx hb dX9_leastSlack_34 (by decide) ?_
      refine lv_idiv hx hb dX9_leastSlack_36 (by decide) ?_
      obtain ⟨r3, e4, h⟩ := bd_some h
      refine x_callVI (As := [.int l1, .int l2, .int (l5 / (16 : Int32))]) (rest := []) (n := 3) ⟨hx, hb, hml, hown, hts⟩ (c_X9_slackOf l D cy g um1 l1 l2 (l5 / (16 : Int32)) r3 e4) gX9_leastSlack_X9_slackOf rfl hd_X9_slackOf ⟨Nat.le_of_ble_eq_true rfl, Nat.le_of_ble_eq_true rfl⟩ ⟨rfl, rfl⟩ hK (sp_all _) (sp_all _) hP hD hS hA 0 rfl rfl rfl hl.1 rfl (Nat.le_of_ble_eq_true rfl) dX9_leastSlack_37 ⟨Nat.zero_le _, Nat.zero_le _⟩ (fun H locs hP hD hS => ?_)
      clear e4
      refine lv_istore (lv' := [(6, .int r3), (0, .ref (g 999)), (1, .int l1), (2, .int l2), (3, .int l3), (4, .int l4), (5, .int l5)]) hx hb dX9_leastSlack_40 hl (by decide) rfl (fun ls hl => ?_)
      refine lv_iload hx hb dX9_leastSlack_42 (lv_at hl 0 rfl) ?_
      refine lv_bipush (v := -100) hx hb dX9_leastSlack_44 (by decide) ?_
      refine x_icmp_eq (tgt := 68) hx hb dX9_leastSlack_46 (by decide) h (fun _ h => ?_) (fun _ h => ?_)
      · exact w_X9_leastSlack_68 C0 ih l1 l2 l3 l4 l5 um1 h _ _ ls hP hD hS (lv_sub hl [1, 2, 3, 4, 5, 6] rfl)
      · refine lv_iload hx hb dX9_leastSlack_49 (lv_at hl 5 rfl) ?_
        refine lv_bipush (v := -100) hx hb dX9_leastSlack_51 (by decide) ?_
        refine x_icmp_eq (tgt := 63) hx hb dX9_leastSlack_53 (by decide) h (fun _ h => ?_) (fun _ h => ?_)
        · exact w_X9_leastSlack_63 C0 ih l1 l2 l3 l5 r3 um1 h _ _ ls hP hD hS (lv_sub hl [1, 2, 3, 4, 6, 0] rfl)
        · refine lv_iload hx hb dX9_leastSlack_56 (lv_at hl 0 rfl) ?_
          refine lv_iload hx hb dX9_leastSlack_58 (lv_at hl 5 rfl) ?_
          refine x_icmp_ge (tgt := 68) hx hb dX9_leastSlack_60 (by decide) h (fun _ h => ?_) (fun _ h => ?_)
          · exact w_X9_leastSlack_68 C0 ih l1 l2 l3 l4 l5 um1 h _ _ ls hP hD hS (lv_sub hl [1, 2, 3, 4, 5, 6] rfl)
          · exact w_X9_leastSlack_63 C0 ih l1 l2 l3 l5 r3 um1 h _ _ ls hP hD hS (lv_sub hl [1, 2, 3, 4, 6, 0] rfl)
set_option maxHeartbeats 4000000 in
set_option maxRecDepth 100000 in
theorem c_X9_leastSlack (l : Launch) (D : va_G) (cy : Nat → ClassId) (g : Nat → Nat) (um : St) (p0 : Int32) (p1 : Int32) (p2 : Int32) (r : Int32) (um' : St) (h : f_X9_leastSlack p0 p1 p2 um = some (r, um')) : CtI l yX9_leastSlack wsX9_leastSlack (rmH 4) [.ref (g 999), .int p0, .int p1, .int p2] D cy (wX9 cy g um) (wX9 cy g um') r := by
  refine ct_enter (D := D) (cy := cy) (cc := cX9_leastSlack) (maxL := 7) (ret := (some .int)) (w := wX9 cy g um) (Qc := fun sz => va_Qi (fun r' (_ : Unit) => r' = r) (Bw D cy (va_A (wX9 cy g um) sz) (wX9 cy g um')) (va_A (wX9 cy g um) sz)) (by decide) rfl (Nat.le_of_ble_eq_true rfl) ?_
  intro p e s m below meth c A C0 hAe ls hl hP hD hS
  have e1 : MQ below ((fun sz => va_Qi (fun r' (_ : Unit) => r' = r) (Bw D cy (va_A (wX9 cy g um) sz) (wX9 cy g um')) (va_A (wX9 cy g um) sz)) s.heap.size) [.ref (g 999), .int p0, .int p1, .int p2].toArray s 0 0 A = QI below [.ref (g 999), .int p0, .int p1, .int p2].toArray s A D cy (wX9 cy g um') r := by rw [hAe]; rfl
  rw [e1]
  clear e1 hAe
  obtain ⟨hx, hb, hr, hml, hown, hts, hlocks, hK, hA⟩ := id C0
  have hl : lv_has ls 7 [(0, .ref (g 999)), (1, .int p0), (2, .int p1), (3, .int p2)] := hl
  rw [f_X9_leastSlack] at h
  refine lv_bipush (v := -100) hx hb dX9_leastSlack_0 (by decide) ?_
  refine lv_istore (lv' := [(4, .int (-100 : Int32)), (0, .ref (g 999)), (1, .int p0), (2, .int p1), (3, .int p2)]) hx hb dX9_leastSlack_2 hl (by decide) rfl (fun ls hl => ?_)
  refine lv_iconst (v := 0) hx hb dX9_leastSlack_4 (by decide) ?_
  refine lv_istore (lv' := [(5, .int (0 : Int32)), (4, .int (-100 : Int32)), (0, .ref (g 999)), (1, .int p0), (2, .int p1), (3, .int p2)]) hx hb dX9_leastSlack_5 hl (by decide) rfl (fun ls hl => ?_)
  exact w_X9_leastSlack_7 C0 FU p0 p1 p2 (-100 : Int32) (0 : Int32) um h _ _ ls hP hD hS (lv_sub hl [2, 3, 4, 5, 1, 0] rfl)
theorem hd_X9_stand : yX9_stand.cls = RX9 ∧ yX9_stand.cls ≠ "java/lang/invoke/MethodHandle" ∧ yX9_stand.cls ≠ "java/lang/invoke/VarHandle" ∧ (parseMethodDescriptor yX9_stand.desc).map (fun d => d.parameters.length) = some 3 := by decide +kernel
set_option maxHeartbeats 4000000 in
set_option maxRecDepth 100000 in
theorem w_X9_stand_84 {p : Program} {l : Launch} {e : Env} {s : State} {m : MethodId} {below : List Frame} {meth : Method} {c : Code} {args : Array Value} {D : va_G} {cy : Nat → ClassId} {g : Nat → Nat} {A : Nat → Prop} {r : Int32} {um' : St} (C0 : Cx p s m meth c args cX9_stand 8 (some .int) wsX9_stand RX9 D cy A) {k_39 : Int32 → Int32 → Int32 → Int32 → Int32 → Int32 → St → Option (Int32 × St)} (hk_39 : ∀ (l1 : Int32) (l2 : Int32) (l3 : Int32) (l4 : Int32) (l5 : Int32) (l6 : Int32) (um : St), k_39 l1 l2 l3 l4 l5 l6 um = some (r, um') → ∀ (H : Heap) (locs : List Loc) (ls : Array Slot), va_P D vwCl (wX9 cy g um) H → va_D A (wX9 cy g um) → va_S A s.heap H locs → lv_has ls 8 [(0, .ref (g 999)), (1, .int l1), (2, .int l2), (3, .int l3), (4, .int l4), (5, .int l5), (6, .int l6)] → W p l e (rmH 5) s m args below meth c H locs 0 0 (QI below args s A D cy (wX9 cy g um') r) (F0 m 39 ls [])) : ∀ (l1 : Int32) (l2 : Int32) (l3 : Int32) (l4 : Int32) (l5 : Int32) (l6 : Int32) (um : St), f_X9_stand_84 k_39 l1 l2 l3 l4 l5 l6 um = some (r, um') → ∀ (H : Heap) (locs : List Loc) (ls : Array Slot), va_P D vwCl (wX9 cy g um) H → va_D A (wX9 cy g um) → va_S A s.heap H locs → lv_has ls 8 [(0, .ref (g 999)), (1, .int l1), (2, .int l2), (3, .int l3), (4, .int l4), (5, .int l5), (6, .int l6)] → W p l e (rmH 5) s m args below meth c H locs 0 0 (QI below args s A D cy (wX9 cy g um') r) (F0 m 84 ls []) := by
  obtain ⟨hx, hb, hr, hml, hown, hts, hlocks, hK, hA⟩ := id C0
  intro l1 l2 l3 l4 l5 l6 um h H locs ls hP hD hS hl
  rw [f_X9_stand_84] at h
  obtain ⟨v10, ev10, h⟩ := nm_ex h
  refine lv_iinc (v := v10) (lv' := [(6, .int v10), (0, .ref (g 999)), (1, .int l1), (2, .int l2), (3, .int l3), (4, .int l4), (5, .int l5)]) hx hb dX9_stand_84 hl (k := 6) rfl (by rw [ev10]; rfl) (by decide) rfl (fun ls hl => ?_)
  clear ev10
  refine lv_goto (tgt := 39) hx hb dX9_stand_87 (by decide) ?_
  exact hk_39 l1 l2 l3 l4 l5 v10 um h _ _ ls hP hD hS (lv_sub hl [1, 2, 3, 4, 5, 6, 0] rfl)
set_option maxHeartbeats 4000000 in
set_option maxRecDepth 100000 in
theorem w_X9_stand_76 {p : Program} {l : Launch} {e : Env} {s : State} {m : MethodId} {below : List Frame} {meth : Method} {c : Code} {args : Array Value} {D : va_G} {cy : Nat → ClassId} {g : Nat → Nat} {A : Nat → Prop} {r : Int32} {um' : St} (C0 : Cx p s m meth c args cX9_stand 8 (some .int) wsX9_stand RX9 D cy A) {k_39 : Int32 → Int32 → Int32 → Int32 → Int32 → Int32 → St → Option (Int32 × St)} (hk_39 : ∀ (l1 : Int32) (l2 : Int32) (l3 : Int32) (l4 : Int32) (l5 : Int32) (l6 : Int32) (um : St), k_39 l1 l2 l3 l4 l5 l6 um = some (r, um') → ∀ (H : Heap) (locs : List Loc) (ls : Array Slot), va_P D vwCl (wX9 cy g um) H → va_D A (wX9 cy g um) → va_S A s.heap H locs → lv_has ls 8 [(0, .ref (g 999)), (1, .int l1), (2, .int l2), (3, .int l3), (4, .int l4), (5, .int l5), (6, .int l6)] → W p l e (rmH 5) s m args below meth c H locs 0 0 (QI below args s A D cy (wX9 cy g um') r) (F0 m 39 ls [])) : ∀ (l1 : Int32) (l2 : Int32) (l3 : Int32) (l6 : Int32) (l7 : Int32) (um : St), f_X9_stand_76 k_39 l1 l2 l3 l6 l7 um = some (r, um') → ∀ (H : Heap) (locs : List Loc) (ls : Array Slot), va_P D vwCl (wX9 cy g um) H → va_D A (wX9 cy g um) → va_S A s.heap H locs → lv_has ls 8 [(0, .ref (g 999)), (1, .int l1), (2, .int l2), (3, .int l3), (6, .int l6), (7, .int l7)] → W p l e (rmH 5) s m args below meth c H locs 0 0 (QI below args s A D cy (wX9 cy g um') r) (F0 m 76 ls []) := by
  obtain ⟨hx, hb, hr, hml, hown, hts, hlocks, hK, hA⟩ := id C0
  intro l1 l2 l3 l6 l7 um h H locs ls hP hD hS hl
  rw [f_X9_stand_76] at h
  refine lv_iload hx hb dX9_stand_76 (lv_at hl 4 rfl) ?_
  refine lv_istore (lv' := [(4, .int l6), (0, .ref (g 999)), (1, .int l1), (2, .int l2), (3, .int l3), (6, .int l6), (7, .int l7)]) hx hb dX9_stand_78 hl (by decide) rfl (fun ls hl => ?_)
  refine lv_iload hx hb dX9_stand_80 (lv_at hl 6 rfl) ?_
  refine lv_istore (lv' := [(5, .int l7), (4, .int l6), (0, .ref (g 999)), (1, .int l1), (2, .int l2), (3, .int l3), (6, .int l6), (7, .int l7)]) hx hb dX9_stand_82 hl (by decide) rfl (fun ls hl => ?_)
  exact w_X9_stand_84 C0 hk_39 l1 l2 l3 l6 l7 l6 um h _ _ ls hP hD hS (lv_sub hl [2, 3, 4, 5, 1, 0, 6] rfl)
set_option maxHeartbeats 4000000 in
set_option maxRecDepth 100000 in
theorem w_X9_stand_39 {p : Program} {l : Launch} {e : Env} {s : State} {m : MethodId} {below : List Frame} {meth : Method} {c : Code} {args : Array Value} {D : va_G} {cy : Nat → ClassId} {g : Nat → Nat} {A : Nat → Prop} {r : Int32} {um' : St} (C0 : Cx p s m meth c args cX9_stand 8 (some .int) wsX9_stand RX9 D cy A) : ∀ (nn : Nat) (l1 : Int32) (l2 : Int32) (l3 : Int32) (l4 : Int32) (l5 : Int32) (l6 : Int32) (um : St), f_X9_stand_39 nn l1 l2 l3 l4 l5 l6 um = some (r, um') → ∀ (H : Heap) (locs : List Loc) (ls : Array Slot), va_P D vwCl (wX9 cy g um) H → va_D A (wX9 cy g um) → va_S A s.heap H locs → lv_has ls 8 [(0, .ref (g 999)), (1, .int l1), (2, .int l2), (3, .int l3), (4, .int l4), (5, .int l5), (6, .int l6)] → W p l e (rmH 5) s m args below meth c H locs 0 0 (QI below args s A D cy (wX9 cy g um') r) (F0 m 39 ls []) := by
  obtain ⟨hx, hb, hr, hml, hown, hts, hlocks, hK, hA⟩ := id C0
  intro nn
  induction nn with
  | zero => intro l1 l2 l3 l4 l5 l6 um h; rw [f_X9_stand_39] at h; cases h
  | succ nn ih =>
    intro l1 l2 l3 l4 l5 l6 um h H locs ls hP hD hS hl
    rw [f_X9_stand_39] at h
    refine lv_iload hx hb dX9_stand_39 (lv_at hl 6 rfl) ?_
    refine lv_bipush (v := 16) hx hb dX9_stand_41 (by decide) ?_
    refine x_icmp_ge (tgt := 90) hx hb dX9_stand_43 (by decide) h (fun _ h => ?_) (fun _ h => ?_)
    · refine lv_iload_n hx hb dX9_stand_90 rfl (lv_at hl 3 rfl) ?_
      refine x_if_ne (tgt := 99) hx hb dX9_stand_91 (by decide) h (fun _ h => ?_) (fun _ h => ?_)
      · refine lv_iload hx hb dX9_stand_94 (lv_at hl 4 rfl) ?_
        refine lv_goto (tgt := 101) hx hb dX9_stand_96 (by decide) ?_
        cases h
        exact x_iret hx hb hr hlocks hK hP hD hS dX9_stand_101 rfl rfl
      · refine lv_iload hx hb dX9_stand_99 (lv_at hl 5 rfl) ?_
        cases h
        exact x_iret hx hb hr hlocks hK hP hD hS dX9_stand_101 rfl rfl
    · refine lv_aload_n hx hb dX9_stand_46 rfl (lv_at hl 0 rfl) ?_
      refine lv_iload_n hx hb dX9_stand_47 rfl (lv_at hl 1 rfl) ?_
      refine lv_iload hx hb dX9_stand_48 (lv_at hl 6 rfl) ?_
      refine lv_iload_n hx hb dX9_stand_50 rfl (lv_at hl 2 rfl) ?_
      obtain ⟨r8, um7, e9, h⟩ := bd2_some h
      refine x_callVI (As := [.int l1, .int l6, .int l2]) (rest := []) (n := 3) ⟨hx, hb, hml, hown, hts⟩ (c_X9_leastSlack l D cy g um l1 l6 l2 r8 um7 e9) gX9_stand_X9_leastSlack rfl hd_X9_leastSlack ⟨Nat.le_of_ble_eq_true rfl, Nat.le_of_ble_eq_true rfl⟩ ⟨rfl, rfl⟩ hK (sp_all _) (sp_all _) hP hD hS hA 0 rfl rfl rfl hl.1 rfl (Nat.le_of_ble_eq_true rfl) dX9_stand_51 ⟨Nat.zero_le _, Nat.zero_le _⟩ (fun H locs hP hD hS => ?_)
      clear e9
      refine lv_istore (lv' := [(7, .int r8), (0, .ref (g 999)), (1, .int l1), (2, .int l2), (3, .int l3), (4, .int l4), (5, .int l5), (6, .int l6)]) hx hb dX9_stand_54 hl (by decide) rfl (fun ls hl => ?_)
      refine lv_iload hx hb dX9_stand_56 (lv_at hl 0 rfl) ?_
      refine lv_bipush (v := -100) hx hb dX9_stand_58 (by decide) ?_
      refine x_icmp_eq (tgt := 84) hx hb dX9_stand_60 (by decide) h (fun _ h => ?_) (fun _ h => ?_)
      · exact w_X9_stand_84 C0 ih l1 l2 l3 l4 l5 l6 um7 h _ _ ls hP hD hS (lv_sub hl [1, 2, 3, 4, 5, 6, 7] rfl)
      · refine lv_iload hx hb dX9_stand_63 (lv_at hl 5 rfl) ?_
        refine lv_iconst (v := -1) hx hb dX9_stand_65 (by decide) ?_
        refine x_icmp_eq (tgt := 76) hx hb dX9_stand_66 (by decide) h (fun _ h => ?_) (fun _ h => ?_)
        · exact w_X9_stand_76 C0 ih l1 l2 l3 l6 r8 um7 h _ _ ls hP hD hS (lv_sub hl [1, 2, 3, 4, 7, 0] rfl)
        · refine lv_iload hx hb dX9_stand_69 (lv_at hl 0 rfl) ?_
          refine lv_iload hx hb dX9_stand_71 (lv_at hl 6 rfl) ?_
          refine x_icmp_le (tgt := 84) hx hb dX9_stand_73 (by decide) h (fun _ h => ?_) (fun _ h => ?_)
          · exact w_X9_stand_84 C0 ih l1 l2 l3 l4 l5 l6 um7 h _ _ ls hP hD hS (lv_sub hl [1, 2, 3, 4, 5, 6, 7] rfl)
          · exact w_X9_stand_76 C0 ih l1 l2 l3 l6 r8 um7 h _ _ ls hP hD hS (lv_sub hl [1, 2, 3, 4, 7, 0] rfl)
set_option maxHeartbeats 4000000 in
set_option maxRecDepth 100000 in
theorem c_X9_stand (l : Launch) (D : va_G) (cy : Nat → ClassId) (g : Nat → Nat) (um : St) (p0 : Int32) (p1 : Int32) (p2 : Int32) (r : Int32) (um' : St) (h : f_X9_stand p0 p1 p2 um = some (r, um')) : CtI l yX9_stand wsX9_stand (rmH 5) [.ref (g 999), .int p0, .int p1, .int p2] D cy (wX9 cy g um) (wX9 cy g um') r := by
  refine ct_enter (D := D) (cy := cy) (cc := cX9_stand) (maxL := 8) (ret := (some .int)) (w := wX9 cy g um) (Qc := fun sz => va_Qi (fun r' (_ : Unit) => r' = r) (Bw D cy (va_A (wX9 cy g um) sz) (wX9 cy g um')) (va_A (wX9 cy g um) sz)) (by decide) rfl (Nat.le_of_ble_eq_true rfl) ?_
  intro p e s m below meth c A C0 hAe ls hl hP hD hS
  have e1 : MQ below ((fun sz => va_Qi (fun r' (_ : Unit) => r' = r) (Bw D cy (va_A (wX9 cy g um) sz) (wX9 cy g um')) (va_A (wX9 cy g um) sz)) s.heap.size) [.ref (g 999), .int p0, .int p1, .int p2].toArray s 0 0 A = QI below [.ref (g 999), .int p0, .int p1, .int p2].toArray s A D cy (wX9 cy g um') r := by rw [hAe]; rfl
  rw [e1]
  clear e1 hAe
  obtain ⟨hx, hb, hr, hml, hown, hts, hlocks, hK, hA⟩ := id C0
  have hl : lv_has ls 8 [(0, .ref (g 999)), (1, .int p0), (2, .int p1), (3, .int p2)] := hl
  rw [f_X9_stand] at h
  refine lv_iload_n hx hb dX9_stand_0 rfl (lv_at hl 1 rfl) ?_
  obtain ⟨r1, e2, h⟩ := bd_some h
  refine x_callSI (As := [.int p0]) (rest := []) (n := 1) ⟨hx, hb, hml, hown, hts⟩ (c_X9_isPlayer l D cy  p0 r1 e2) gX9_stand_X9_isPlayer rfl hd_X9_isPlayer ⟨Nat.le_of_ble_eq_true rfl, Nat.le_of_ble_eq_true rfl⟩ ⟨rfl, rfl⟩ hK (sp_nil _) (sp_nil _) hP hD hS hA rfl hl.1 rfl (Nat.le_of_ble_eq_true rfl) dX9_stand_1 ⟨Nat.zero_le _, Nat.zero_le _⟩ (fun H locs hP hD hS => ?_)
  clear e2
  refine x_if_eq (tgt := 14) hx hb dX9_stand_4 (by decide) h (fun _ h => ?_) (fun _ h => ?_)
  · refine lv_bipush (v := -102) hx hb dX9_stand_14 (by decide) ?_
    cases h
    exact x_iret hx hb hr hlocks hK hP hD hS dX9_stand_16 rfl rfl
  · refine lv_iload_n hx hb dX9_stand_7 rfl (lv_at hl 2 rfl) ?_
    obtain ⟨r3, e4, h⟩ := bd_some h
    refine x_callSI (As := [.int p1]) (rest := []) (n := 1) ⟨hx, hb, hml, hown, hts⟩ (c_X9_isCell l D cy  p1 r3 e4) gX9_stand_X9_isCell rfl hd_X9_isCell ⟨Nat.le_of_ble_eq_true rfl, Nat.le_of_ble_eq_true rfl⟩ ⟨rfl, rfl⟩ hK (sp_nil _) (sp_nil _) hP hD hS hA rfl hl.1 rfl (Nat.le_of_ble_eq_true rfl) dX9_stand_8 ⟨Nat.zero_le _, Nat.zero_le _⟩ (fun H locs hP hD hS => ?_)
    clear e4
    refine x_if_ne (tgt := 17) hx hb dX9_stand_11 (by decide) h (fun _ h => ?_) (fun _ h => ?_)
    · refine lv_bipush (v := -102) hx hb dX9_stand_14 (by decide) ?_
      cases h
      exact x_iret hx hb hr hlocks hK hP hD hS dX9_stand_16 rfl rfl
    · refine lv_iload_n hx hb dX9_stand_17 rfl (lv_at hl 3 rfl) ?_
      refine lv_iconst (v := 0) hx hb dX9_stand_18 (by decide) ?_
      refine lv_iconst (v := 1) hx hb dX9_stand_19 (by decide) ?_
      obtain ⟨r5, e6, h⟩ := bd_some h
      refine x_callSI (As := [.int p2, .int (0 : Int32), .int (1 : Int32)]) (rest := []) (n := 3) ⟨hx, hb, hml, hown, hts⟩ (c_X9_in l D cy  p2 (0 : Int32) (1 : Int32) r5 e6) gX9_stand_X9_in rfl hd_X9_in ⟨Nat.le_of_ble_eq_true rfl, Nat.le_of_ble_eq_true rfl⟩ ⟨rfl, rfl⟩ hK (sp_nil _) (sp_nil _) hP hD hS hA rfl hl.1 rfl (Nat.le_of_ble_eq_true rfl) dX9_stand_20 ⟨Nat.zero_le _, Nat.zero_le _⟩ (fun H locs hP hD hS => ?_)
      clear e6
      refine x_if_ne (tgt := 29) hx hb dX9_stand_23 (by decide) h (fun _ h => ?_) (fun _ h => ?_)
      · refine lv_bipush (v := -103) hx hb dX9_stand_26 (by decide) ?_
        cases h
        exact x_iret hx hb hr hlocks hK hP hD hS dX9_stand_28 rfl rfl
      · refine lv_iconst (v := -1) hx hb dX9_stand_29 (by decide) ?_
        refine lv_istore (lv' := [(4, .int (-1 : Int32)), (0, .ref (g 999)), (1, .int p0), (2, .int p1), (3, .int p2)]) hx hb dX9_stand_30 hl (by decide) rfl (fun ls hl => ?_)
        refine lv_bipush (v := -100) hx hb dX9_stand_32 (by decide) ?_
        refine lv_istore (lv' := [(5, .int (-100 : Int32)), (4, .int (-1 : Int32)), (0, .ref (g 999)), (1, .int p0), (2, .int p1), (3, .int p2)]) hx hb dX9_stand_34 hl (by decide) rfl (fun ls hl => ?_)
        refine lv_iconst (v := 0) hx hb dX9_stand_36 (by decide) ?_
        refine lv_istore (lv' := [(6, .int (0 : Int32)), (5, .int (-100 : Int32)), (4, .int (-1 : Int32)), (0, .ref (g 999)), (1, .int p0), (2, .int p1), (3, .int p2)]) hx hb dX9_stand_37 hl (by decide) rfl (fun ls hl => ?_)
        exact w_X9_stand_39 C0 FU p0 p1 p2 (-1 : Int32) (-100 : Int32) (0 : Int32) um h _ _ ls hP hD hS (lv_sub hl [3, 4, 5, 6, 2, 1, 0] rfl)
theorem k_X9_meetsOf_0 : Cond.fieldLink RX9 112 "FeatherHallModel" "lands" "I" ∈ wsX9_meetsOf := (List.mem_cons_of_mem _ (List.mem_append_left _ (List.mem_append_left _ (List.mem_of_getElem? (i := 0) rfl))))
theorem ki_X9_meetsOf_X9 : ∀ w ∈ u_ws RX9 TX9 38, w ∈ wsX9_meetsOf := fun _ hh => (List.mem_cons_of_mem _ (List.mem_append_right _ hh))
theorem k_X9_meetsOf_1 : Cond.fieldLink RX9 28 "FeatherHallModel" "overCell" "[I" ∈ wsX9_meetsOf := (List.mem_cons_of_mem _ (List.mem_append_left _ (List.mem_append_left _ (List.mem_of_getElem? (i := 1) rfl))))
theorem hd_X9_meetsOf : yX9_meetsOf.cls = RX9 ∧ yX9_meetsOf.cls ≠ "java/lang/invoke/MethodHandle" ∧ yX9_meetsOf.cls ≠ "java/lang/invoke/VarHandle" ∧ (parseMethodDescriptor yX9_meetsOf.desc).map (fun d => d.parameters.length) = some 3 := by decide +kernel
set_option maxHeartbeats 4000000 in
set_option maxRecDepth 100000 in
theorem w_X9_meetsOf_65 {p : Program} {l : Launch} {e : Env} {s : State} {m : MethodId} {below : List Frame} {meth : Method} {c : Code} {args : Array Value} {D : va_G} {cy : Nat → ClassId} {g : Nat → Nat} {A : Nat → Prop} {um : St} {r : Int32} (C0 : Cx p s m meth c args cX9_meetsOf 6 (some .int) wsX9_meetsOf RX9 D cy A) {k_20 : Int32 → Int32 → Int32 → Option (Int32)} (hk_20 : ∀ (l1 : Int32) (l2 : Int32) (l5 : Int32), k_20 l1 l2 l5 = some r → ∀ (H : Heap) (locs : List Loc) (ls : Array Slot), va_P D vwCl (wX9 cy g um) H → va_D A (wX9 cy g um) → va_S A s.heap H locs → lv_has ls 6 [(0, .ref (g 999)), (1, .int l1), (2, .int l2), (5, .int l5)] → W p l e (rmH 3) s m args below meth c H locs 0 0 (QI below args s A D cy (wX9 cy g um) r) (F0 m 20 ls [])) : ∀ (l1 : Int32) (l2 : Int32) (l5 : Int32), f_X9_meetsOf_65 um k_20 l1 l2 l5 = some r → ∀ (H : Heap) (locs : List Loc) (ls : Array Slot), va_P D vwCl (wX9 cy g um) H → va_D A (wX9 cy g um) → va_S A s.heap H locs → lv_has ls 6 [(0, .ref (g 999)), (1, .int l1), (2, .int l2), (5, .int l5)] → W p l e (rmH 3) s m args below meth c H locs 0 0 (QI below args s A D cy (wX9 cy g um) r) (F0 m 65 ls []) := by
  obtain ⟨hx, hb, hr, hml, hown, hts, hlocks, hK, hA⟩ := id C0
  intro l1 l2 l5 h H locs ls hP hD hS hl
  rw [f_X9_meetsOf_65] at h
  obtain ⟨v7, ev7, h⟩ := nm_ex h
  refine lv_iinc (v := v7) (lv' := [(5, .int v7), (0, .ref (g 999)), (1, .int l1), (2, .int l2)]) hx hb dX9_meetsOf_65 hl (k := 3) rfl (by rw [ev7]; rfl) (by decide) rfl (fun ls hl => ?_)
  clear ev7
  refine lv_goto (tgt := 20) hx hb dX9_meetsOf_68 (by decide) ?_
  exact hk_20 l1 l2 v7 h _ _ ls hP hD hS (lv_sub hl [1, 2, 3, 0] rfl)
set_option maxHeartbeats 4000000 in
set_option maxRecDepth 100000 in
theorem w_X9_meetsOf_20 {p : Program} {l : Launch} {e : Env} {s : State} {m : MethodId} {below : List Frame} {meth : Method} {c : Code} {args : Array Value} {D : va_G} {cy : Nat → ClassId} {g : Nat → Nat} {A : Nat → Prop} {um : St} {r : Int32} (C0 : Cx p s m meth c args cX9_meetsOf 6 (some .int) wsX9_meetsOf RX9 D cy A) : ∀ (nn : Nat) (l1 : Int32) (l2 : Int32) (l5 : Int32), f_X9_meetsOf_20 um nn l1 l2 l5 = some r → ∀ (H : Heap) (locs : List Loc) (ls : Array Slot), va_P D vwCl (wX9 cy g um) H → va_D A (wX9 cy g um) → va_S A s.heap H locs → lv_has ls 6 [(0, .ref (g 999)), (1, .int l1), (2, .int l2), (5, .int l5)] → W p l e (rmH 3) s m args below meth c H locs 0 0 (QI below args s A D cy (wX9 cy g um) r) (F0 m 20 ls []) := by
  obtain ⟨hx, hb, hr, hml, hown, hts, hlocks, hK, hA⟩ := id C0
  intro nn
  induction nn with
  | zero => intro l1 l2 l5 h; rw [f_X9_meetsOf_20] at h; cases h
  | succ nn ih =>
    intro l1 l2 l5 h H locs ls hP hD hS hl
    rw [f_X9_meetsOf_20] at h
    refine lv_iload hx hb dX9_meetsOf_20 (lv_at hl 3 rfl) ?_
    refine lv_aload_n hx hb dX9_meetsOf_22 rfl (lv_at hl 0 rfl) ?_
    refine va_get (D := D) (ci := 8) (v := .int (um.1 8)) (C := RX9) (T := TX9) (N := 38) hx hb hts ki_X9_meetsOf_X9 hown hK hP 0 rfl rfl 8 (by decide) (hts _ k_X9_meetsOf_0) (fun _ h9 => h9) rfl dX9_meetsOf_23 ?_
    refine x_icmp_gt (tgt := 71) hx hb dX9_meetsOf_26 (by decide) h (fun _ h => ?_) (fun _ h => ?_)
    · refine lv_iconst (v := -1) hx hb dX9_meetsOf_71 (by decide) ?_
      cases h
      exact x_iret hx hb hr hlocks hK hP hD hS dX9_meetsOf_72 rfl rfl
    · refine lv_aload_n hx hb dX9_meetsOf_29 rfl (lv_at hl 0 rfl) ?_
      refine va_get (D := D) (ci := 8) (v := .ref (g 907)) (C := RX9) (T := TX9) (N := 38) hx hb hts ki_X9_meetsOf_X9 hown hK hP 0 rfl rfl 7 (by decide) (hts _ k_X9_meetsOf_1) (fun _ h9 => h9) rfl dX9_meetsOf_30 ?_
      refine lv_iload hx hb dX9_meetsOf_33 (lv_at hl 3 rfl) ?_
      refine x_iald hx hb hK hP 7 rfl rfl h dX9_meetsOf_35 (fun v3 h => ?_)
      refine lv_iconst (v := -1) hx hb dX9_meetsOf_36 (by decide) ?_
      refine x_icmp_eq (tgt := 65) hx hb dX9_meetsOf_37 (by decide) h (fun _ h => ?_) (fun _ h => ?_)
      · exact w_X9_meetsOf_65 C0 ih l1 l2 l5 h _ _ ls hP hD hS (lv_sub hl [0, 1, 2, 3] rfl)
      · refine lv_aload_n hx hb dX9_meetsOf_40 rfl (lv_at hl 0 rfl) ?_
        refine lv_iload_n hx hb dX9_meetsOf_41 rfl (lv_at hl 1 rfl) ?_
        refine lv_iload_n hx hb dX9_meetsOf_42 rfl (lv_at hl 2 rfl) ?_
        refine lv_iload hx hb dX9_meetsOf_43 (lv_at hl 3 rfl) ?_
        obtain ⟨r4, e5, h⟩ := bd_some h
        refine x_callVI (As := [.int l1, .int l2, .int l5]) (rest := []) (n := 3) ⟨hx, hb, hml, hown, hts⟩ (c_X9_over0 l D cy g um l1 l2 l5 r4 e5) gX9_meetsOf_X9_over0 rfl hd_X9_over0 ⟨Nat.le_of_ble_eq_true rfl, Nat.le_of_ble_eq_true rfl⟩ ⟨rfl, rfl⟩ hK (sp_all _) (sp_all _) hP hD hS hA 0 rfl rfl rfl hl.1 rfl (Nat.le_of_ble_eq_true rfl) dX9_meetsOf_45 ⟨Nat.zero_le _, Nat.zero_le _⟩ (fun H locs hP hD hS => ?_)
        clear e5
        refine x_if_lt (tgt := 65) hx hb dX9_meetsOf_48 (by decide) h (fun _ h => ?_) (fun _ h => ?_)
        · exact w_X9_meetsOf_65 C0 ih l1 l2 l5 h _ _ ls hP hD hS (lv_sub hl [0, 1, 2, 3] rfl)
        · refine lv_bipush (v := 16) hx hb dX9_meetsOf_51 (by decide) ?_
          refine lv_iload hx hb dX9_meetsOf_53 (lv_at hl 3 rfl) ?_
          refine lv_imul hx hb dX9_meetsOf_55 ?_
          refine lv_aload_n hx hb dX9_meetsOf_56 rfl (lv_at hl 0 rfl) ?_
          refine va_get (D := D) (ci := 8) (v := .ref (g 907)) (C := RX9) (T := TX9) (N := 38) hx hb hts ki_X9_meetsOf_X9 hown hK hP 0 rfl rfl 7 (by decide) (hts _ k_X9_meetsOf_1) (fun _ h9 => h9) rfl dX9_meetsOf_57 ?_
          refine lv_iload hx hb dX9_meetsOf_60 (lv_at hl 3 rfl) ?_
          refine x_iald hx hb hK hP 7 rfl rfl h dX9_meetsOf_62 (fun v6 h => ?_)
          refine lv_iadd hx hb dX9_meetsOf_63 ?_
          cases h
          exact x_iret hx hb hr hlocks hK hP hD hS dX9_meetsOf_64 rfl rfl
set_option maxHeartbeats 4000000 in
set_option maxRecDepth 100000 in
theorem c_X9_meetsOf (l : Launch) (D : va_G) (cy : Nat → ClassId) (g : Nat → Nat) (um : St) (p0 : Int32) (p1 : Int32) (p2 : Int32) (r : Int32) (h : f_X9_meetsOf um p0 p1 p2 = some r) : CtI l yX9_meetsOf wsX9_meetsOf (rmH 3) [.ref (g 999), .int p0, .int p1, .int p2] D cy (wX9 cy g um) (wX9 cy g um) r := by
  refine ct_enter (D := D) (cy := cy) (cc := cX9_meetsOf) (maxL := 6) (ret := (some .int)) (w := wX9 cy g um) (Qc := fun sz => va_Qi (fun r' (_ : Unit) => r' = r) (Bw D cy (va_A (wX9 cy g um) sz) (wX9 cy g um)) (va_A (wX9 cy g um) sz)) (by decide) rfl (Nat.le_of_ble_eq_true rfl) ?_
  intro p e s m below meth c A C0 hAe ls hl hP hD hS
  have e1 : MQ below ((fun sz => va_Qi (fun r' (_ : Unit) => r' = r) (Bw D cy (va_A (wX9 cy g um) sz) (wX9 cy g um)) (va_A (wX9 cy g um) sz)) s.heap.size) [.ref (g 999), .int p0, .int p1, .int p2].toArray s 0 0 A = QI below [.ref (g 999), .int p0, .int p1, .int p2].toArray s A D cy (wX9 cy g um) r := by rw [hAe]; rfl
  rw [e1]
  clear e1 hAe
  obtain ⟨hx, hb, hr, hml, hown, hts, hlocks, hK, hA⟩ := id C0
  have hl : lv_has ls 6 [(0, .ref (g 999)), (1, .int p0), (2, .int p1), (3, .int p2)] := hl
  rw [f_X9_meetsOf] at h
  refine lv_aload_n hx hb dX9_meetsOf_0 rfl (lv_at hl 0 rfl) ?_
  refine lv_iload_n hx hb dX9_meetsOf_1 rfl (lv_at hl 3 rfl) ?_
  obtain ⟨r1, e2, h⟩ := bd_some h
  refine x_callVI (As := [.int p2]) (rest := []) (n := 1) ⟨hx, hb, hml, hown, hts⟩ (c_X9_firstMet l D cy g um p2 r1 e2) gX9_meetsOf_X9_firstMet rfl hd_X9_firstMet ⟨Nat.le_of_ble_eq_true rfl, Nat.le_of_ble_eq_true rfl⟩ ⟨rfl, rfl⟩ hK (sp_all _) (sp_all _) hP hD hS hA 0 rfl rfl rfl hl.1 rfl (Nat.le_of_ble_eq_true rfl) dX9_meetsOf_2 ⟨Nat.zero_le _, Nat.zero_le _⟩ (fun H locs hP hD hS => ?_)
  clear e2
  refine lv_istore (lv' := [(4, .int r1), (0, .ref (g 999)), (1, .int p0), (2, .int p1), (3, .int p2)]) hx hb dX9_meetsOf_5 hl (by decide) rfl (fun ls hl => ?_)
  refine lv_iload hx hb dX9_meetsOf_7 (lv_at hl 0 rfl) ?_
  refine lv_iconst (v := -1) hx hb dX9_meetsOf_9 (by decide) ?_
  refine x_icmp_ne (tgt := 16) hx hb dX9_meetsOf_10 (by decide) h (fun _ h => ?_) (fun _ h => ?_)
  · refine lv_bipush (v := -100) hx hb dX9_meetsOf_13 (by decide) ?_
    cases h
    exact x_iret hx hb hr hlocks hK hP hD hS dX9_meetsOf_15 rfl rfl
  · refine lv_iload hx hb dX9_meetsOf_16 (lv_at hl 0 rfl) ?_
    refine lv_istore (lv' := [(5, .int r1), (4, .int r1), (0, .ref (g 999)), (1, .int p0), (2, .int p1), (3, .int p2)]) hx hb dX9_meetsOf_18 hl (by decide) rfl (fun ls hl => ?_)
    exact w_X9_meetsOf_20 C0 FU p0 p1 r1 h _ _ ls hP hD hS (lv_sub hl [2, 3, 4, 0] rfl)
theorem k_X9_findMeetings_0 : Cond.fieldLink RX9 31 "FeatherHallModel" "meetsP" "[I" ∈ wsX9_findMeetings := (List.mem_cons_of_mem _ (List.mem_append_left _ (List.mem_append_left _ (List.mem_of_getElem? (i := 0) rfl))))
theorem ki_X9_findMeetings_X9 : ∀ w ∈ u_ws RX9 TX9 38, w ∈ wsX9_findMeetings := fun _ hh => (List.mem_cons_of_mem _ (List.mem_append_right _ hh))
theorem k_X9_findMeetings_1 : Cond.fieldLink RX9 34 "FeatherHallModel" "meetsQ" "[I" ∈ wsX9_findMeetings := (List.mem_cons_of_mem _ (List.mem_append_left _ (List.mem_append_left _ (List.mem_of_getElem? (i := 1) rfl))))
theorem hd_X9_findMeetings : yX9_findMeetings.cls = RX9 ∧ yX9_findMeetings.cls ≠ "java/lang/invoke/MethodHandle" ∧ yX9_findMeetings.cls ≠ "java/lang/invoke/VarHandle" ∧ (parseMethodDescriptor yX9_findMeetings.desc).map (fun d => d.parameters.length) = some 2 := by decide +kernel
set_option maxHeartbeats 4000000 in
set_option maxRecDepth 100000 in
theorem w_X9_findMeetings_36 {p : Program} {l : Launch} {e : Env} {s : State} {m : MethodId} {below : List Frame} {meth : Method} {c : Code} {args : Array Value} {D : va_G} {cy : Nat → ClassId} {g : Nat → Nat} {A : Nat → Prop} {um' : St} (C0 : Cx p s m meth c args cX9_findMeetings 6 none wsX9_findMeetings RX9 D cy A) {k_2 : Int32 → Int32 → Int32 → St → Option (St)} (hk_2 : ∀ (l1 : Int32) (l2 : Int32) (l3 : Int32) (um : St), k_2 l1 l2 l3 um = some um' → ∀ (H : Heap) (locs : List Loc) (ls : Array Slot), va_P D vwCl (wX9 cy g um) H → va_D A (wX9 cy g um) → va_S A s.heap H locs → lv_has ls 6 [(0, .ref (g 999)), (1, .int l1), (2, .int l2), (3, .int l3)] → W p l e (rmH 4) s m args below meth c H locs 0 0 (QV below args s A D cy (wX9 cy g um')) (F0 m 2 ls [])) {k_11 : Int32 → Int32 → Int32 → Int32 → St → Option (St)} (hk_11 : ∀ (l1 : Int32) (l2 : Int32) (l3 : Int32) (l4 : Int32) (um : St), k_11 l1 l2 l3 l4 um = some um' → ∀ (H : Heap) (locs : List Loc) (ls : Array Slot), va_P D vwCl (wX9 cy g um) H → va_D A (wX9 cy g um) → va_S A s.heap H locs → lv_has ls 6 [(0, .ref (g 999)), (1, .int l1), (2, .int l2), (3, .int l3), (4, .int l4)] → W p l e (rmH 4) s m args below meth c H locs 0 0 (QV below args s A D cy (wX9 cy g um')) (F0 m 11 ls [])) : ∀ (nn : Nat) (l1 : Int32) (l2 : Int32) (l3 : Int32) (l4 : Int32) (l5 : Int32) (um : St), f_X9_findMeetings_36 k_2 k_11 nn l1 l2 l3 l4 l5 um = some um' → ∀ (H : Heap) (locs : List Loc) (ls : Array Slot), va_P D vwCl (wX9 cy g um) H → va_D A (wX9 cy g um) → va_S A s.heap H locs → lv_has ls 6 [(0, .ref (g 999)), (1, .int l1), (2, .int l2), (3, .int l3), (4, .int l4), (5, .int l5)] → W p l e (rmH 4) s m args below meth c H locs 0 0 (QV below args s A D cy (wX9 cy g um')) (F0 m 36 ls []) := by
  obtain ⟨hx, hb, hr, hml, hown, hts, hlocks, hK, hA⟩ := id C0
  intro nn
  induction nn with
  | zero => intro l1 l2 l3 l4 l5 um h; rw [f_X9_findMeetings_36] at h; cases h
  | succ nn ih =>
    intro l1 l2 l3 l4 l5 um h H locs ls hP hD hS hl
    rw [f_X9_findMeetings_36] at h
    refine lv_iload hx hb dX9_findMeetings_36 (lv_at hl 5 rfl) ?_
    refine lv_bipush (v := 16) hx hb dX9_findMeetings_38 (by decide) ?_
    refine x_icmp_ge (tgt := 111) hx hb dX9_findMeetings_40 (by decide) h (fun _ h => ?_) (fun _ h => ?_)
    · obtain ⟨v4, ev4, h⟩ := nm_ex h
      refine lv_iinc (v := v4) (lv' := [(4, .int v4), (0, .ref (g 999)), (1, .int l1), (2, .int l2), (3, .int l3), (5, .int l5)]) hx hb dX9_findMeetings_111 hl (k := 4) rfl (by rw [ev4]; rfl) (by decide) rfl (fun ls hl => ?_)
      clear ev4
      refine lv_goto (tgt := 11) hx hb dX9_findMeetings_114 (by decide) ?_
      exact hk_11 l1 l2 l3 v4 um h _ _ ls hP hD hS (lv_sub hl [1, 2, 3, 4, 0] rfl)
    · refine lv_aload_n hx hb dX9_findMeetings_43 rfl (lv_at hl 0 rfl) ?_
      refine va_get (D := D) (ci := 8) (v := .ref (g 909)) (C := RX9) (T := TX9) (N := 38) hx hb hts ki_X9_findMeetings_X9 hown hK hP 0 rfl rfl 9 (by decide) (hts _ k_X9_findMeetings_0) (fun _ h9 => h9) rfl dX9_findMeetings_44 ?_
      refine lv_sipush (v := 1024) hx hb dX9_findMeetings_47 (by decide) ?_
      refine lv_iload hx hb dX9_findMeetings_50 (lv_at hl 5 rfl) ?_
      refine lv_imul hx hb dX9_findMeetings_52 ?_
      refine lv_bipush (v := 64) hx hb dX9_findMeetings_53 (by decide) ?_
      refine lv_iload_n hx hb dX9_findMeetings_55 rfl (lv_at hl 3 rfl) ?_
      refine lv_imul hx hb dX9_findMeetings_56 ?_
      refine lv_iadd hx hb dX9_findMeetings_57 ?_
      refine lv_iload hx hb dX9_findMeetings_58 (lv_at hl 4 rfl) ?_
      refine lv_iadd hx hb dX9_findMeetings_60 ?_
      refine lv_aload_n hx hb dX9_findMeetings_61 rfl (lv_at hl 0 rfl) ?_
      refine lv_iload_n hx hb dX9_findMeetings_62 rfl (lv_at hl 1 rfl) ?_
      refine lv_iload hx hb dX9_findMeetings_63 (lv_at hl 5 rfl) ?_
      refine lv_iload hx hb dX9_findMeetings_65 (lv_at hl 4 rfl) ?_
      refine lv_bipush (v := 16) hx hb dX9_findMeetings_67 (by decide) ?_
      refine lv_idiv hx hb dX9_findMeetings_69 (by decide) ?_
      obtain ⟨r5, e6, h⟩ := bd_some h
      refine x_callVI (As := [.int l1, .int l5, .int (l4 / (16 : Int32))]) (rest := [.int ((((1024 : Int32) * l5) + ((64 : Int32) * l3)) + l4), .ref (g 909)]) (n := 3) ⟨hx, hb, hml, hown, hts⟩ (c_X9_meetsOf l D cy g um l1 l5 (l4 / (16 : Int32)) r5 e6) gX9_findMeetings_X9_meetsOf rfl hd_X9_meetsOf ⟨Nat.le_of_ble_eq_true rfl, Nat.le_of_ble_eq_true rfl⟩ ⟨rfl, rfl⟩ hK (sp_all _) (sp_all _) hP hD hS hA 0 rfl rfl rfl hl.1 rfl (Nat.le_of_ble_eq_true rfl) dX9_findMeetings_70 ⟨Nat.zero_le _, Nat.zero_le _⟩ (fun H locs hP hD hS => ?_)
      clear e6
      refine x_iast (Wd := (fun uz => wX9 cy g uz)) (u := um) (k := 9) hx hb hK hP hD hS 8 rfl rfl (fun _ => rfl) h dX9_findMeetings_73 (fun um7 H locs h hP hD hS => ?_)
      refine lv_aload_n hx hb dX9_findMeetings_74 rfl (lv_at hl 0 rfl) ?_
      refine va_get (D := D) (ci := 8) (v := .ref (g 910)) (C := RX9) (T := TX9) (N := 38) hx hb hts ki_X9_findMeetings_X9 hown hK hP 0 rfl rfl 10 (by decide) (hts _ k_X9_findMeetings_1) (fun _ h9 => h9) rfl dX9_findMeetings_75 ?_
      refine lv_sipush (v := 1024) hx hb dX9_findMeetings_78 (by decide) ?_
      refine lv_iload hx hb dX9_findMeetings_81 (lv_at hl 5 rfl) ?_
      refine lv_imul hx hb dX9_findMeetings_83 ?_
      refine lv_bipush (v := 64) hx hb dX9_findMeetings_84 (by decide) ?_
      refine lv_iload_n hx hb dX9_findMeetings_86 rfl (lv_at hl 3 rfl) ?_
      refine lv_imul hx hb dX9_findMeetings_87 ?_
      refine lv_iadd hx hb dX9_findMeetings_88 ?_
      refine lv_iload hx hb dX9_findMeetings_89 (lv_at hl 4 rfl) ?_
      refine lv_iadd hx hb dX9_findMeetings_91 ?_
      refine lv_aload_n hx hb dX9_findMeetings_92 rfl (lv_at hl 0 rfl) ?_
      refine lv_iload_n hx hb dX9_findMeetings_93 rfl (lv_at hl 2 rfl) ?_
      refine lv_iload hx hb dX9_findMeetings_94 (lv_at hl 5 rfl) ?_
      refine lv_iload hx hb dX9_findMeetings_96 (lv_at hl 4 rfl) ?_
      refine lv_bipush (v := 16) hx hb dX9_findMeetings_98 (by decide) ?_
      refine lv_idiv hx hb dX9_findMeetings_100 (by decide) ?_
      obtain ⟨r8, e9, h⟩ := bd_some h
      refine x_callVI (As := [.int l2, .int l5, .int (l4 / (16 : Int32))]) (rest := [.int ((((1024 : Int32) * l5) + ((64 : Int32) * l3)) + l4), .ref (g 910)]) (n := 3) ⟨hx, hb, hml, hown, hts⟩ (c_X9_meetsOf l D cy g um7 l2 l5 (l4 / (16 : Int32)) r8 e9) gX9_findMeetings_X9_meetsOf rfl hd_X9_meetsOf ⟨Nat.le_of_ble_eq_true rfl, Nat.le_of_ble_eq_true rfl⟩ ⟨rfl, rfl⟩ hK (sp_all _) (sp_all _) hP hD hS hA 0 rfl rfl rfl hl.1 rfl (Nat.le_of_ble_eq_true rfl) dX9_findMeetings_101 ⟨Nat.zero_le _, Nat.zero_le _⟩ (fun H locs hP hD hS => ?_)
      clear e9
      refine x_iast (Wd := (fun uz => wX9 cy g uz)) (u := um7) (k := 10) hx hb hK hP hD hS 9 rfl rfl (fun _ => rfl) h dX9_findMeetings_104 (fun um10 H locs h hP hD hS => ?_)
      obtain ⟨v11, ev11, h⟩ := nm_ex h
      refine lv_iinc (v := v11) (lv' := [(5, .int v11), (0, .ref (g 999)), (1, .int l1), (2, .int l2), (3, .int l3), (4, .int l4)]) hx hb dX9_findMeetings_105 hl (k := 5) rfl (by rw [ev11]; rfl) (by decide) rfl (fun ls hl => ?_)
      clear ev11
      refine lv_goto (tgt := 36) hx hb dX9_findMeetings_108 (by decide) ?_
      exact ih l1 l2 l3 l4 v11 um10 h _ _ ls hP hD hS (lv_sub hl [1, 2, 3, 4, 5, 0] rfl)
set_option maxHeartbeats 4000000 in
set_option maxRecDepth 100000 in
theorem w_X9_findMeetings_11 {p : Program} {l : Launch} {e : Env} {s : State} {m : MethodId} {below : List Frame} {meth : Method} {c : Code} {args : Array Value} {D : va_G} {cy : Nat → ClassId} {g : Nat → Nat} {A : Nat → Prop} {um' : St} (C0 : Cx p s m meth c args cX9_findMeetings 6 none wsX9_findMeetings RX9 D cy A) {k_2 : Int32 → Int32 → Int32 → St → Option (St)} (hk_2 : ∀ (l1 : Int32) (l2 : Int32) (l3 : Int32) (um : St), k_2 l1 l2 l3 um = some um' → ∀ (H : Heap) (locs : List Loc) (ls : Array Slot), va_P D vwCl (wX9 cy g um) H → va_D A (wX9 cy g um) → va_S A s.heap H locs → lv_has ls 6 [(0, .ref (g 999)), (1, .int l1), (2, .int l2), (3, .int l3)] → W p l e (rmH 4) s m args below meth c H locs 0 0 (QV below args s A D cy (wX9 cy g um')) (F0 m 2 ls [])) : ∀ (nn : Nat) (l1 : Int32) (l2 : Int32) (l3 : Int32) (l4 : Int32) (um : St), f_X9_findMeetings_11 k_2 nn l1 l2 l3 l4 um = some um' → ∀ (H : Heap) (locs : List Loc) (ls : Array Slot), va_P D vwCl (wX9 cy g um) H → va_D A (wX9 cy g um) → va_S A s.heap H locs → lv_has ls 6 [(0, .ref (g 999)), (1, .int l1), (2, .int l2), (3, .int l3), (4, .int l4)] → W p l e (rmH 4) s m args below meth c H locs 0 0 (QV below args s A D cy (wX9 cy g um')) (F0 m 11 ls []) := by
  obtain ⟨hx, hb, hr, hml, hown, hts, hlocks, hK, hA⟩ := id C0
  intro nn
  induction nn with
  | zero => intro l1 l2 l3 l4 um h; rw [f_X9_findMeetings_11] at h; cases h
  | succ nn ih =>
    intro l1 l2 l3 l4 um h H locs ls hP hD hS hl
    rw [f_X9_findMeetings_11] at h
    refine lv_iload hx hb dX9_findMeetings_11 (lv_at hl 4 rfl) ?_
    refine lv_bipush (v := 64) hx hb dX9_findMeetings_13 (by decide) ?_
    refine x_icmp_ge (tgt := 117) hx hb dX9_findMeetings_15 (by decide) h (fun _ h => ?_) (fun _ h => ?_)
    · obtain ⟨v1, ev1, h⟩ := nm_ex h
      refine lv_iinc (v := v1) (lv' := [(3, .int v1), (0, .ref (g 999)), (1, .int l1), (2, .int l2), (4, .int l4)]) hx hb dX9_findMeetings_117 hl (k := 3) rfl (by rw [ev1]; rfl) (by decide) rfl (fun ls hl => ?_)
      clear ev1
      refine lv_goto (tgt := 2) hx hb dX9_findMeetings_120 (by decide) ?_
      exact hk_2 l1 l2 v1 um h _ _ ls hP hD hS (lv_sub hl [1, 2, 3, 0] rfl)
    · refine lv_aload_n hx hb dX9_findMeetings_18 rfl (lv_at hl 0 rfl) ?_
      refine lv_iload hx hb dX9_findMeetings_19 (lv_at hl 4 rfl) ?_
      refine lv_bipush (v := 16) hx hb dX9_findMeetings_21 (by decide) ?_
      refine lv_idiv hx hb dX9_findMeetings_23 (by decide) ?_
      refine lv_iload_n hx hb dX9_findMeetings_24 rfl (lv_at hl 3 rfl) ?_
      refine lv_iload hx hb dX9_findMeetings_25 (lv_at hl 4 rfl) ?_
      refine lv_bipush (v := 16) hx hb dX9_findMeetings_27 (by decide) ?_
      refine lv_irem hx hb dX9_findMeetings_29 (by decide) ?_
      obtain ⟨um2, e3, h⟩ := bd_some h
      refine x_callVV (As := [.int (l4 / (16 : Int32)), .int l3, .int (l4 - l4 / (16 : Int32) * (16 : Int32))]) (rest := []) (n := 3) ⟨hx, hb, hml, hown, hts⟩ (c_X9_fly l D cy g um (l4 / (16 : Int32)) l3 (l4 - l4 / (16 : Int32) * (16 : Int32)) um2 e3) gX9_findMeetings_X9_fly rfl hd_X9_fly ⟨Nat.le_of_ble_eq_true rfl, Nat.le_of_ble_eq_true rfl⟩ ⟨rfl, rfl⟩ hK (sp_all _) (sp_all _) hP hD hS hA 0 rfl rfl rfl hl.1 rfl (Nat.le_of_ble_eq_true rfl) dX9_findMeetings_30 ⟨Nat.zero_le _, Nat.zero_le _⟩ (fun H locs hP hD hS => ?_)
      clear e3
      refine lv_iconst (v := 0) hx hb dX9_findMeetings_33 (by decide) ?_
      refine lv_istore (lv' := [(5, .int (0 : Int32)), (0, .ref (g 999)), (1, .int l1), (2, .int l2), (3, .int l3), (4, .int l4)]) hx hb dX9_findMeetings_34 hl (by decide) rfl (fun ls hl => ?_)
      exact w_X9_findMeetings_36 C0 hk_2 ih FU l1 l2 l3 l4 (0 : Int32) um2 h _ _ ls hP hD hS (lv_sub hl [1, 2, 3, 4, 5, 0] rfl)
set_option maxHeartbeats 4000000 in
set_option maxRecDepth 100000 in
theorem w_X9_findMeetings_2 {p : Program} {l : Launch} {e : Env} {s : State} {m : MethodId} {below : List Frame} {meth : Method} {c : Code} {args : Array Value} {D : va_G} {cy : Nat → ClassId} {g : Nat → Nat} {A : Nat → Prop} {um' : St} (C0 : Cx p s m meth c args cX9_findMeetings 6 none wsX9_findMeetings RX9 D cy A) : ∀ (nn : Nat) (l1 : Int32) (l2 : Int32) (l3 : Int32) (um : St), f_X9_findMeetings_2 nn l1 l2 l3 um = some um' → ∀ (H : Heap) (locs : List Loc) (ls : Array Slot), va_P D vwCl (wX9 cy g um) H → va_D A (wX9 cy g um) → va_S A s.heap H locs → lv_has ls 6 [(0, .ref (g 999)), (1, .int l1), (2, .int l2), (3, .int l3)] → W p l e (rmH 4) s m args below meth c H locs 0 0 (QV below args s A D cy (wX9 cy g um')) (F0 m 2 ls []) := by
  obtain ⟨hx, hb, hr, hml, hown, hts, hlocks, hK, hA⟩ := id C0
  intro nn
  induction nn with
  | zero => intro l1 l2 l3 um h; rw [f_X9_findMeetings_2] at h; cases h
  | succ nn ih =>
    intro l1 l2 l3 um h H locs ls hP hD hS hl
    rw [f_X9_findMeetings_2] at h
    refine lv_iload_n hx hb dX9_findMeetings_2 rfl (lv_at hl 3 rfl) ?_
    refine lv_bipush (v := 16) hx hb dX9_findMeetings_3 (by decide) ?_
    refine x_icmp_ge (tgt := 123) hx hb dX9_findMeetings_5 (by decide) h (fun _ h => ?_) (fun _ h => ?_)
    · cases h
      exact x_vret hx hb hr hlocks hK hP hD hS dX9_findMeetings_123 rfl
    · refine lv_iconst (v := 0) hx hb dX9_findMeetings_8 (by decide) ?_
      refine lv_istore (lv' := [(4, .int (0 : Int32)), (0, .ref (g 999)), (1, .int l1), (2, .int l2), (3, .int l3)]) hx hb dX9_findMeetings_9 hl (by decide) rfl (fun ls hl => ?_)
      exact w_X9_findMeetings_11 C0 ih FU l1 l2 l3 (0 : Int32) um h _ _ ls hP hD hS (lv_sub hl [1, 2, 3, 4, 0] rfl)
set_option maxHeartbeats 4000000 in
set_option maxRecDepth 100000 in
theorem c_X9_findMeetings (l : Launch) (D : va_G) (cy : Nat → ClassId) (g : Nat → Nat) (um : St) (p0 : Int32) (p1 : Int32) (um' : St) (h : f_X9_findMeetings p0 p1 um = some um') : CtV l yX9_findMeetings wsX9_findMeetings (rmH 4) [.ref (g 999), .int p0, .int p1] D cy (wX9 cy g um) (wX9 cy g um') := by
  refine ct_enter (D := D) (cy := cy) (cc := cX9_findMeetings) (maxL := 6) (ret := none) (w := wX9 cy g um) (Qc := fun sz => va_Qv (fun (_ : Unit) => True) (Bw D cy (va_A (wX9 cy g um) sz) (wX9 cy g um')) (va_A (wX9 cy g um) sz)) (by decide) rfl (Nat.le_of_ble_eq_true rfl) ?_
  intro p e s m below meth c A C0 hAe ls hl hP hD hS
  have e1 : MQ below ((fun sz => va_Qv (fun (_ : Unit) => True) (Bw D cy (va_A (wX9 cy g um) sz) (wX9 cy g um')) (va_A (wX9 cy g um) sz)) s.heap.size) [.ref (g 999), .int p0, .int p1].toArray s 0 0 A = QV below [.ref (g 999), .int p0, .int p1].toArray s A D cy (wX9 cy g um') := by rw [hAe]; rfl
  rw [e1]
  clear e1 hAe
  obtain ⟨hx, hb, hr, hml, hown, hts, hlocks, hK, hA⟩ := id C0
  have hl : lv_has ls 6 [(0, .ref (g 999)), (1, .int p0), (2, .int p1)] := hl
  rw [f_X9_findMeetings] at h
  refine lv_iconst (v := 0) hx hb dX9_findMeetings_0 (by decide) ?_
  refine lv_istore_n (lv' := [(3, .int (0 : Int32)), (0, .ref (g 999)), (1, .int p0), (2, .int p1)]) hx hb dX9_findMeetings_1 rfl hl (by decide) rfl (fun ls hl => ?_)
  exact w_X9_findMeetings_2 C0 FU p0 p1 (0 : Int32) um h _ _ ls hP hD hS (lv_sub hl [1, 2, 3, 0] rfl)
theorem k_X9_winsAll_0 : Cond.fieldLink RX9 37 "FeatherHallModel" "wins" "[Z" ∈ wsX9_winsAll := (List.mem_cons_of_mem _ (List.mem_append_left _ (List.mem_of_getElem? (i := 0) rfl)))
theorem ki_X9_winsAll_X9 : ∀ w ∈ u_ws RX9 TX9 38, w ∈ wsX9_winsAll := fun _ hh => (List.mem_cons_of_mem _ (List.mem_append_right _ hh))
theorem hd_X9_winsAll : yX9_winsAll.cls = RX9 ∧ yX9_winsAll.cls ≠ "java/lang/invoke/MethodHandle" ∧ yX9_winsAll.cls ≠ "java/lang/invoke/VarHandle" ∧ (parseMethodDescriptor yX9_winsAll.desc).map (fun d => d.parameters.length) = some 3 := by decide +kernel
set_option maxHeartbeats 4000000 in
set_option maxRecDepth 100000 in
theorem w_X9_winsAll_48 {p : Program} {l : Launch} {e : Env} {s : State} {m : MethodId} {below : List Frame} {meth : Method} {c : Code} {args : Array Value} {D : va_G} {cy : Nat → ClassId} {g : Nat → Nat} {A : Nat → Prop} {um : St} {r : Int32} (C0 : Cx p s m meth c args cX9_winsAll 6 (some .boolean) wsX9_winsAll RX9 D cy A) {k_6 : Int32 → Int32 → Int32 → Int32 → Int32 → Option (Int32)} (hk_6 : ∀ (l1 : Int32) (l2 : Int32) (l3 : Int32) (l4 : Int32) (l5 : Int32), k_6 l1 l2 l3 l4 l5 = some r → ∀ (H : Heap) (locs : List Loc) (ls : Array Slot), va_P D vwCl (wX9 cy g um) H → va_D A (wX9 cy g um) → va_S A s.heap H locs → lv_has ls 6 [(0, .ref (g 999)), (1, .int l1), (2, .int l2), (3, .int l3), (4, .int l4), (5, .int l5)] → W p l e (rmH 2) s m args below meth c H locs 0 0 (QI below args s A D cy (wX9 cy g um) r) (F0 m 6 ls [])) : ∀ (l1 : Int32) (l2 : Int32) (l3 : Int32) (l5 : Int32) (s0 : Int32), f_X9_winsAll_48 um k_6 l1 l2 l3 l5 s0 = some r → ∀ (H : Heap) (locs : List Loc) (ls : Array Slot), va_P D vwCl (wX9 cy g um) H → va_D A (wX9 cy g um) → va_S A s.heap H locs → lv_has ls 6 [(0, .ref (g 999)), (1, .int l1), (2, .int l2), (3, .int l3), (5, .int l5)] → W p l e (rmH 2) s m args below meth c H locs 0 0 (QI below args s A D cy (wX9 cy g um) r) (F0 m 48 ls [.int s0]) := by
  obtain ⟨hx, hb, hr, hml, hown, hts, hlocks, hK, hA⟩ := id C0
  intro l1 l2 l3 l5 s0 h H locs ls hP hD hS hl
  rw [f_X9_winsAll_48] at h
  refine lv_istore (lv' := [(4, .int s0), (0, .ref (g 999)), (1, .int l1), (2, .int l2), (3, .int l3), (5, .int l5)]) hx hb dX9_winsAll_48 hl (by decide) rfl (fun ls hl => ?_)
  obtain ⟨v4, ev4, h⟩ := nm_ex h
  refine lv_iinc (v := v4) (lv' := [(5, .int v4), (4, .int s0), (0, .ref (g 999)), (1, .int l1), (2, .int l2), (3, .int l3)]) hx hb dX9_winsAll_50 hl (k := 5) rfl (by rw [ev4]; rfl) (by decide) rfl (fun ls hl => ?_)
  clear ev4
  refine lv_goto (tgt := 6) hx hb dX9_winsAll_53 (by decide) ?_
  exact hk_6 l1 l2 l3 s0 v4 h _ _ ls hP hD hS (lv_sub hl [2, 3, 4, 5, 1, 0] rfl)
set_option maxHeartbeats 4000000 in
set_option maxRecDepth 100000 in
theorem w_X9_winsAll_43 {p : Program} {l : Launch} {e : Env} {s : State} {m : MethodId} {below : List Frame} {meth : Method} {c : Code} {args : Array Value} {D : va_G} {cy : Nat → ClassId} {g : Nat → Nat} {A : Nat → Prop} {um : St} {r : Int32} (C0 : Cx p s m meth c args cX9_winsAll 6 (some .boolean) wsX9_winsAll RX9 D cy A) {k_6 : Int32 → Int32 → Int32 → Int32 → Int32 → Option (Int32)} (hk_6 : ∀ (l1 : Int32) (l2 : Int32) (l3 : Int32) (l4 : Int32) (l5 : Int32), k_6 l1 l2 l3 l4 l5 = some r → ∀ (H : Heap) (locs : List Loc) (ls : Array Slot), va_P D vwCl (wX9 cy g um) H → va_D A (wX9 cy g um) → va_S A s.heap H locs → lv_has ls 6 [(0, .ref (g 999)), (1, .int l1), (2, .int l2), (3, .int l3), (4, .int l4), (5, .int l5)] → W p l e (rmH 2) s m args below meth c H locs 0 0 (QI below args s A D cy (wX9 cy g um) r) (F0 m 6 ls [])) : ∀ (l1 : Int32) (l2 : Int32) (l3 : Int32) (l5 : Int32), f_X9_winsAll_43 um k_6 l1 l2 l3 l5 = some r → ∀ (H : Heap) (locs : List Loc) (ls : Array Slot), va_P D vwCl (wX9 cy g um) H → va_D A (wX9 cy g um) → va_S A s.heap H locs → lv_has ls 6 [(0, .ref (g 999)), (1, .int l1), (2, .int l2), (3, .int l3), (5, .int l5)] → W p l e (rmH 2) s m args below meth c H locs 0 0 (QI below args s A D cy (wX9 cy g um) r) (F0 m 43 ls []) := by
  obtain ⟨hx, hb, hr, hml, hown, hts, hlocks, hK, hA⟩ := id C0
  intro l1 l2 l3 l5 h H locs ls hP hD hS hl
  rw [f_X9_winsAll_43] at h
  refine lv_iconst (v := 1) hx hb dX9_winsAll_43 (by decide) ?_
  refine lv_goto (tgt := 48) hx hb dX9_winsAll_44 (by decide) ?_
  exact w_X9_winsAll_48 C0 hk_6 l1 l2 l3 l5 (1 : Int32) h _ _ ls hP hD hS (lv_sub hl [0, 1, 2, 3, 4] rfl)
set_option maxHeartbeats 4000000 in
set_option maxRecDepth 100000 in
theorem w_X9_winsAll_47 {p : Program} {l : Launch} {e : Env} {s : State} {m : MethodId} {below : List Frame} {meth : Method} {c : Code} {args : Array Value} {D : va_G} {cy : Nat → ClassId} {g : Nat → Nat} {A : Nat → Prop} {um : St} {r : Int32} (C0 : Cx p s m meth c args cX9_winsAll 6 (some .boolean) wsX9_winsAll RX9 D cy A) {k_6 : Int32 → Int32 → Int32 → Int32 → Int32 → Option (Int32)} (hk_6 : ∀ (l1 : Int32) (l2 : Int32) (l3 : Int32) (l4 : Int32) (l5 : Int32), k_6 l1 l2 l3 l4 l5 = some r → ∀ (H : Heap) (locs : List Loc) (ls : Array Slot), va_P D vwCl (wX9 cy g um) H → va_D A (wX9 cy g um) → va_S A s.heap H locs → lv_has ls 6 [(0, .ref (g 999)), (1, .int l1), (2, .int l2), (3, .int l3), (4, .int l4), (5, .int l5)] → W p l e (rmH 2) s m args below meth c H locs 0 0 (QI below args s A D cy (wX9 cy g um) r) (F0 m 6 ls [])) : ∀ (l1 : Int32) (l2 : Int32) (l3 : Int32) (l5 : Int32), f_X9_winsAll_47 um k_6 l1 l2 l3 l5 = some r → ∀ (H : Heap) (locs : List Loc) (ls : Array Slot), va_P D vwCl (wX9 cy g um) H → va_D A (wX9 cy g um) → va_S A s.heap H locs → lv_has ls 6 [(0, .ref (g 999)), (1, .int l1), (2, .int l2), (3, .int l3), (5, .int l5)] → W p l e (rmH 2) s m args below meth c H locs 0 0 (QI below args s A D cy (wX9 cy g um) r) (F0 m 47 ls []) := by
  obtain ⟨hx, hb, hr, hml, hown, hts, hlocks, hK, hA⟩ := id C0
  intro l1 l2 l3 l5 h H locs ls hP hD hS hl
  rw [f_X9_winsAll_47] at h
  refine lv_iconst (v := 0) hx hb dX9_winsAll_47 (by decide) ?_
  exact w_X9_winsAll_48 C0 hk_6 l1 l2 l3 l5 (0 : Int32) h _ _ ls hP hD hS (lv_sub hl [0, 1, 2, 3, 4] rfl)
set_option maxHeartbeats 4000000 in
set_option maxRecDepth 100000 in
theorem w_X9_winsAll_6 {p : Program} {l : Launch} {e : Env} {s : State} {m : MethodId} {below : List Frame} {meth : Method} {c : Code} {args : Array Value} {D : va_G} {cy : Nat → ClassId} {g : Nat → Nat} {A : Nat → Prop} {um : St} {r : Int32} (C0 : Cx p s m meth c args cX9_winsAll 6 (some .boolean) wsX9_winsAll RX9 D cy A) : ∀ (nn : Nat) (l1 : Int32) (l2 : Int32) (l3 : Int32) (l4 : Int32) (l5 : Int32), f_X9_winsAll_6 um nn l1 l2 l3 l4 l5 = some r → ∀ (H : Heap) (locs : List Loc) (ls : Array Slot), va_P D vwCl (wX9 cy g um) H → va_D A (wX9 cy g um) → va_S A s.heap H locs → lv_has ls 6 [(0, .ref (g 999)), (1, .int l1), (2, .int l2), (3, .int l3), (4, .int l4), (5, .int l5)] → W p l e (rmH 2) s m args below meth c H locs 0 0 (QI below args s A D cy (wX9 cy g um) r) (F0 m 6 ls []) := by
  obtain ⟨hx, hb, hr, hml, hown, hts, hlocks, hK, hA⟩ := id C0
  intro nn
  induction nn with
  | zero => intro l1 l2 l3 l4 l5 h; rw [f_X9_winsAll_6] at h; cases h
  | succ nn ih =>
    intro l1 l2 l3 l4 l5 h H locs ls hP hD hS hl
    rw [f_X9_winsAll_6] at h
    refine lv_iload hx hb dX9_winsAll_6 (lv_at hl 5 rfl) ?_
    refine lv_bipush (v := 16) hx hb dX9_winsAll_8 (by decide) ?_
    refine x_icmp_ge (tgt := 56) hx hb dX9_winsAll_10 (by decide) h (fun _ h => ?_) (fun _ h => ?_)
    · refine lv_iload hx hb dX9_winsAll_56 (lv_at hl 4 rfl) ?_
      obtain ⟨hz, h⟩ := bk_some h
      cases h
      exact x_zret hx hb hr hlocks hK hP hD hS hz dX9_winsAll_58 rfl rfl
    · refine lv_iload hx hb dX9_winsAll_13 (lv_at hl 4 rfl) ?_
      refine x_if_eq (tgt := 47) hx hb dX9_winsAll_15 (by decide) h (fun _ h => ?_) (fun _ h => ?_)
      · exact w_X9_winsAll_47 C0 ih l1 l2 l3 l5 h _ _ ls hP hD hS (lv_sub hl [0, 1, 2, 3, 5] rfl)
      · refine lv_iload_n hx hb dX9_winsAll_18 rfl (lv_at hl 2 rfl) ?_
        refine lv_iload hx hb dX9_winsAll_19 (lv_at hl 5 rfl) ?_
        obtain ⟨r1, e2, h⟩ := bd_some h
        refine x_callSI (As := [.int l2, .int l5]) (rest := []) (n := 2) ⟨hx, hb, hml, hown, hts⟩ (c_X9_far l D cy  l2 l5 r1 e2) gX9_winsAll_X9_far rfl hd_X9_far ⟨Nat.le_of_ble_eq_true rfl, Nat.le_of_ble_eq_true rfl⟩ ⟨rfl, rfl⟩ hK (sp_nil _) (sp_nil _) hP hD hS hA rfl hl.1 rfl (Nat.le_of_ble_eq_true rfl) dX9_winsAll_21 ⟨Nat.zero_le _, Nat.zero_le _⟩ (fun H locs hP hD hS => ?_)
        clear e2
        refine lv_iload_n hx hb dX9_winsAll_24 rfl (lv_at hl 3 rfl) ?_
        refine x_icmp_gt (tgt := 43) hx hb dX9_winsAll_25 (by decide) h (fun _ h => ?_) (fun _ h => ?_)
        · exact w_X9_winsAll_43 C0 ih l1 l2 l3 l5 h _ _ ls hP hD hS (lv_sub hl [0, 1, 2, 3, 5] rfl)
        · refine lv_aload_n hx hb dX9_winsAll_28 rfl (lv_at hl 0 rfl) ?_
          refine va_get (D := D) (ci := 8) (v := .ref (g 911)) (C := RX9) (T := TX9) (N := 38) hx hb hts ki_X9_winsAll_X9 hown hK hP 0 rfl rfl 11 (by decide) (hts _ k_X9_winsAll_0) (fun _ h9 => h9) rfl dX9_winsAll_29 ?_
          refine lv_bipush (v := 16) hx hb dX9_winsAll_32 (by decide) ?_
          refine lv_iload_n hx hb dX9_winsAll_34 rfl (lv_at hl 1 rfl) ?_
          refine lv_imul hx hb dX9_winsAll_35 ?_
          refine lv_iload hx hb dX9_winsAll_36 (lv_at hl 5 rfl) ?_
          refine lv_iadd hx hb dX9_winsAll_38 ?_
          refine x_zald hx hb hK hP 10 rfl rfl h dX9_winsAll_39 (fun v3 h => ?_)
          refine x_if_eq (tgt := 47) hx hb dX9_winsAll_40 (by decide) h (fun _ h => ?_) (fun _ h => ?_)
          · exact w_X9_winsAll_47 C0 ih l1 l2 l3 l5 h _ _ ls hP hD hS (lv_sub hl [0, 1, 2, 3, 5] rfl)
          · exact w_X9_winsAll_43 C0 ih l1 l2 l3 l5 h _ _ ls hP hD hS (lv_sub hl [0, 1, 2, 3, 5] rfl)
set_option maxHeartbeats 4000000 in
set_option maxRecDepth 100000 in
theorem c_X9_winsAll (l : Launch) (D : va_G) (cy : Nat → ClassId) (g : Nat → Nat) (um : St) (p0 : Int32) (p1 : Int32) (p2 : Int32) (r : Int32) (h : f_X9_winsAll um p0 p1 p2 = some r) : CtI l yX9_winsAll wsX9_winsAll (rmH 2) [.ref (g 999), .int p0, .int p1, .int p2] D cy (wX9 cy g um) (wX9 cy g um) r := by
  refine ct_enter (D := D) (cy := cy) (cc := cX9_winsAll) (maxL := 6) (ret := (some .boolean)) (w := wX9 cy g um) (Qc := fun sz => va_Qi (fun r' (_ : Unit) => r' = r) (Bw D cy (va_A (wX9 cy g um) sz) (wX9 cy g um)) (va_A (wX9 cy g um) sz)) (by decide) rfl (Nat.le_of_ble_eq_true rfl) ?_
  intro p e s m below meth c A C0 hAe ls hl hP hD hS
  have e1 : MQ below ((fun sz => va_Qi (fun r' (_ : Unit) => r' = r) (Bw D cy (va_A (wX9 cy g um) sz) (wX9 cy g um)) (va_A (wX9 cy g um) sz)) s.heap.size) [.ref (g 999), .int p0, .int p1, .int p2].toArray s 0 0 A = QI below [.ref (g 999), .int p0, .int p1, .int p2].toArray s A D cy (wX9 cy g um) r := by rw [hAe]; rfl
  rw [e1]
  clear e1 hAe
  obtain ⟨hx, hb, hr, hml, hown, hts, hlocks, hK, hA⟩ := id C0
  have hl : lv_has ls 6 [(0, .ref (g 999)), (1, .int p0), (2, .int p1), (3, .int p2)] := hl
  rw [f_X9_winsAll] at h
  refine lv_iconst (v := 1) hx hb dX9_winsAll_0 (by decide) ?_
  refine lv_istore (lv' := [(4, .int (1 : Int32)), (0, .ref (g 999)), (1, .int p0), (2, .int p1), (3, .int p2)]) hx hb dX9_winsAll_1 hl (by decide) rfl (fun ls hl => ?_)
  refine lv_iconst (v := 0) hx hb dX9_winsAll_3 (by decide) ?_
  refine lv_istore (lv' := [(5, .int (0 : Int32)), (4, .int (1 : Int32)), (0, .ref (g 999)), (1, .int p0), (2, .int p1), (3, .int p2)]) hx hb dX9_winsAll_4 hl (by decide) rfl (fun ls hl => ?_)
  exact w_X9_winsAll_6 C0 FU p0 p1 p2 (1 : Int32) (0 : Int32) h _ _ ls hP hD hS (lv_sub hl [2, 3, 4, 5, 1, 0] rfl)
theorem k_X9_holdsAll_0 : Cond.fieldLink RX9 31 "FeatherHallModel" "meetsP" "[I" ∈ wsX9_holdsAll := (List.mem_cons_of_mem _ (List.mem_append_left _ (List.mem_of_getElem? (i := 0) rfl)))
theorem ki_X9_holdsAll_X9 : ∀ w ∈ u_ws RX9 TX9 38, w ∈ wsX9_holdsAll := fun _ hh => (List.mem_cons_of_mem _ (List.mem_append_right _ hh))
theorem hd_X9_holdsAll : yX9_holdsAll.cls = RX9 ∧ yX9_holdsAll.cls ≠ "java/lang/invoke/MethodHandle" ∧ yX9_holdsAll.cls ≠ "java/lang/invoke/VarHandle" ∧ (parseMethodDescriptor yX9_holdsAll.desc).map (fun d => d.parameters.length) = some 3 := by decide +kernel
set_option maxHeartbeats 4000000 in
set_option maxRecDepth 100000 in
theorem w_X9_holdsAll_72 {p : Program} {l : Launch} {e : Env} {s : State} {m : MethodId} {below : List Frame} {meth : Method} {c : Code} {args : Array Value} {D : va_G} {cy : Nat → ClassId} {g : Nat → Nat} {A : Nat → Prop} {um : St} {r : Int32} (C0 : Cx p s m meth c args cX9_holdsAll 6 (some .boolean) wsX9_holdsAll RX9 D cy A) {k_3 : Int32 → Int32 → Int32 → Int32 → Option (Int32)} (hk_3 : ∀ (l1 : Int32) (l2 : Int32) (l3 : Int32) (l4 : Int32), k_3 l1 l2 l3 l4 = some r → ∀ (H : Heap) (locs : List Loc) (ls : Array Slot), va_P D vwCl (wX9 cy g um) H → va_D A (wX9 cy g um) → va_S A s.heap H locs → lv_has ls 6 [(0, .ref (g 999)), (1, .int l1), (2, .int l2), (3, .int l3), (4, .int l4)] → W p l e (rmH 3) s m args below meth c H locs 0 0 (QI below args s A D cy (wX9 cy g um) r) (F0 m 3 ls [])) : ∀ (l1 : Int32) (l2 : Int32) (l3 : Int32) (l4 : Int32), f_X9_holdsAll_72 um k_3 l1 l2 l3 l4 = some r → ∀ (H : Heap) (locs : List Loc) (ls : Array Slot), va_P D vwCl (wX9 cy g um) H → va_D A (wX9 cy g um) → va_S A s.heap H locs → lv_has ls 6 [(0, .ref (g 999)), (1, .int l1), (2, .int l2), (3, .int l3), (4, .int l4)] → W p l e (rmH 3) s m args below meth c H locs 0 0 (QI below args s A D cy (wX9 cy g um) r) (F0 m 72 ls []) := by
  obtain ⟨hx, hb, hr, hml, hown, hts, hlocks, hK, hA⟩ := id C0
  intro l1 l2 l3 l4 h H locs ls hP hD hS hl
  rw [f_X9_holdsAll_72] at h
  obtain ⟨v6, ev6, h⟩ := nm_ex h
  refine lv_iinc (v := v6) (lv' := [(4, .int v6), (0, .ref (g 999)), (1, .int l1), (2, .int l2), (3, .int l3)]) hx hb dX9_holdsAll_72 hl (k := 4) rfl (by rw [ev6]; rfl) (by decide) rfl (fun ls hl => ?_)
  clear ev6
  refine lv_goto (tgt := 3) hx hb dX9_holdsAll_75 (by decide) ?_
  exact hk_3 l1 l2 l3 v6 h _ _ ls hP hD hS (lv_sub hl [1, 2, 3, 4, 0] rfl)
set_option maxHeartbeats 4000000 in
set_option maxRecDepth 100000 in
theorem w_X9_holdsAll_3 {p : Program} {l : Launch} {e : Env} {s : State} {m : MethodId} {below : List Frame} {meth : Method} {c : Code} {args : Array Value} {D : va_G} {cy : Nat → ClassId} {g : Nat → Nat} {A : Nat → Prop} {um : St} {r : Int32} (C0 : Cx p s m meth c args cX9_holdsAll 6 (some .boolean) wsX9_holdsAll RX9 D cy A) : ∀ (nn : Nat) (l1 : Int32) (l2 : Int32) (l3 : Int32) (l4 : Int32), f_X9_holdsAll_3 um nn l1 l2 l3 l4 = some r → ∀ (H : Heap) (locs : List Loc) (ls : Array Slot), va_P D vwCl (wX9 cy g um) H → va_D A (wX9 cy g um) → va_S A s.heap H locs → lv_has ls 6 [(0, .ref (g 999)), (1, .int l1), (2, .int l2), (3, .int l3), (4, .int l4)] → W p l e (rmH 3) s m args below meth c H locs 0 0 (QI below args s A D cy (wX9 cy g um) r) (F0 m 3 ls []) := by
  obtain ⟨hx, hb, hr, hml, hown, hts, hlocks, hK, hA⟩ := id C0
  intro nn
  induction nn with
  | zero => intro l1 l2 l3 l4 h; rw [f_X9_holdsAll_3] at h; cases h
  | succ nn ih =>
    intro l1 l2 l3 l4 h H locs ls hP hD hS hl
    rw [f_X9_holdsAll_3] at h
    refine lv_iload hx hb dX9_holdsAll_3 (lv_at hl 4 rfl) ?_
    refine lv_bipush (v := 64) hx hb dX9_holdsAll_5 (by decide) ?_
    refine x_icmp_ge (tgt := 78) hx hb dX9_holdsAll_7 (by decide) h (fun _ h => ?_) (fun _ h => ?_)
    · refine lv_iconst (v := 1) hx hb dX9_holdsAll_78 (by decide) ?_
      cases h
      exact x_zret hx hb hr hlocks hK hP hD hS (Or.inr rfl) dX9_holdsAll_79 rfl rfl
    · refine lv_aload_n hx hb dX9_holdsAll_10 rfl (lv_at hl 0 rfl) ?_
      refine va_get (D := D) (ci := 8) (v := .ref (g 909)) (C := RX9) (T := TX9) (N := 38) hx hb hts ki_X9_holdsAll_X9 hown hK hP 0 rfl rfl 9 (by decide) (hts _ k_X9_holdsAll_0) (fun _ h9 => h9) rfl dX9_holdsAll_11 ?_
      refine lv_sipush (v := 1024) hx hb dX9_holdsAll_14 (by decide) ?_
      refine lv_iload_n hx hb dX9_holdsAll_17 rfl (lv_at hl 1 rfl) ?_
      refine lv_imul hx hb dX9_holdsAll_18 ?_
      refine lv_bipush (v := 64) hx hb dX9_holdsAll_19 (by decide) ?_
      refine lv_iload_n hx hb dX9_holdsAll_21 rfl (lv_at hl 2 rfl) ?_
      refine lv_imul hx hb dX9_holdsAll_22 ?_
      refine lv_iadd hx hb dX9_holdsAll_23 ?_
      refine lv_iload hx hb dX9_holdsAll_24 (lv_at hl 4 rfl) ?_
      refine lv_iadd hx hb dX9_holdsAll_26 ?_
      refine x_iald hx hb hK hP 8 rfl rfl h dX9_holdsAll_27 (fun v1 h => ?_)
      refine lv_istore (lv' := [(5, .int v1), (0, .ref (g 999)), (1, .int l1), (2, .int l2), (3, .int l3), (4, .int l4)]) hx hb dX9_holdsAll_28 hl (by decide) rfl (fun ls hl => ?_)
      refine lv_iload hx hb dX9_holdsAll_30 (lv_at hl 0 rfl) ?_
      refine lv_iconst (v := -1) hx hb dX9_holdsAll_32 (by decide) ?_
      refine x_icmp_eq (tgt := 70) hx hb dX9_holdsAll_33 (by decide) h (fun _ h => ?_) (fun _ h => ?_)
      · refine lv_iconst (v := 0) hx hb dX9_holdsAll_70 (by decide) ?_
        cases h
        exact x_zret hx hb hr hlocks hK hP hD hS (Or.inl rfl) dX9_holdsAll_71 rfl rfl
      · refine lv_iload hx hb dX9_holdsAll_36 (lv_at hl 0 rfl) ?_
        refine lv_bipush (v := -100) hx hb dX9_holdsAll_38 (by decide) ?_
        refine x_icmp_eq (tgt := 72) hx hb dX9_holdsAll_40 (by decide) h (fun _ h => ?_) (fun _ h => ?_)
        · exact w_X9_holdsAll_72 C0 ih l1 l2 l3 l4 h _ _ ls hP hD hS (lv_sub hl [1, 2, 3, 4, 5] rfl)
        · refine lv_aload_n hx hb dX9_holdsAll_43 rfl (lv_at hl 1 rfl) ?_
          refine lv_iload hx hb dX9_holdsAll_44 (lv_at hl 0 rfl) ?_
          refine lv_bipush (v := 16) hx hb dX9_holdsAll_46 (by decide) ?_
          refine lv_irem hx hb dX9_holdsAll_48 (by decide) ?_
          refine lv_iload_n hx hb dX9_holdsAll_49 rfl (lv_at hl 3 rfl) ?_
          refine lv_iload hx hb dX9_holdsAll_50 (lv_at hl 0 rfl) ?_
          refine lv_bipush (v := 16) hx hb dX9_holdsAll_52 (by decide) ?_
          refine lv_idiv hx hb dX9_holdsAll_54 (by decide) ?_
          refine lv_aload_n hx hb dX9_holdsAll_55 rfl (lv_at hl 1 rfl) ?_
          refine lv_iload_n hx hb dX9_holdsAll_56 rfl (lv_at hl 4 rfl) ?_
          obtain ⟨r2, e3, h⟩ := bd_some h
          refine x_callVI (As := [.int l3]) (rest := [.int (v1 / (16 : Int32)), .int l2, .int (v1 - v1 / (16 : Int32) * (16 : Int32)), .ref (g 999)]) (n := 1) ⟨hx, hb, hml, hown, hts⟩ (c_X9_stride l D cy g um l3 r2 e3) gX9_holdsAll_X9_stride rfl hd_X9_stride ⟨Nat.le_of_ble_eq_true rfl, Nat.le_of_ble_eq_true rfl⟩ ⟨rfl, rfl⟩ hK (sp_all _) (sp_all _) hP hD hS hA 0 rfl rfl rfl hl.1 rfl (Nat.le_of_ble_eq_true rfl) dX9_holdsAll_57 ⟨Nat.zero_le _, Nat.zero_le _⟩ (fun H locs hP hD hS => ?_)
          clear e3
          refine lv_imul hx hb dX9_holdsAll_60 ?_
          refine lv_bipush (v := 10) hx hb dX9_holdsAll_61 (by decide) ?_
          refine lv_idiv hx hb dX9_holdsAll_63 (by decide) ?_
          obtain ⟨r4, e5, h⟩ := bd_some h
          refine x_callVI (As := [.int (v1 - v1 / (16 : Int32) * (16 : Int32)), .int l2, .int (((v1 / (16 : Int32)) * r2) / (10 : Int32))]) (rest := []) (n := 3) ⟨hx, hb, hml, hown, hts⟩ (c_X9_winsAll l D cy g um (v1 - v1 / (16 : Int32) * (16 : Int32)) l2 (((v1 / (16 : Int32)) * r2) / (10 : Int32)) r4 e5) gX9_holdsAll_X9_winsAll rfl hd_X9_winsAll ⟨Nat.le_of_ble_eq_true rfl, Nat.le_of_ble_eq_true rfl⟩ ⟨rfl, rfl⟩ hK (sp_all _) (sp_all _) hP hD hS hA 0 rfl rfl rfl hl.1 rfl (Nat.le_of_ble_eq_true rfl) dX9_holdsAll_64 ⟨Nat.zero_le _, Nat.zero_le _⟩ (fun H locs hP hD hS => ?_)
          clear e5
          refine x_if_ne (tgt := 72) hx hb dX9_holdsAll_67 (by decide) h (fun _ h => ?_) (fun _ h => ?_)
          · refine lv_iconst (v := 0) hx hb dX9_holdsAll_70 (by decide) ?_
            cases h
            exact x_zret hx hb hr hlocks hK hP hD hS (Or.inl rfl) dX9_holdsAll_71 rfl rfl
          · exact w_X9_holdsAll_72 C0 ih l1 l2 l3 l4 h _ _ ls hP hD hS (lv_sub hl [1, 2, 3, 4, 5] rfl)
set_option maxHeartbeats 4000000 in
set_option maxRecDepth 100000 in
theorem c_X9_holdsAll (l : Launch) (D : va_G) (cy : Nat → ClassId) (g : Nat → Nat) (um : St) (p0 : Int32) (p1 : Int32) (p2 : Int32) (r : Int32) (h : f_X9_holdsAll um p0 p1 p2 = some r) : CtI l yX9_holdsAll wsX9_holdsAll (rmH 3) [.ref (g 999), .int p0, .int p1, .int p2] D cy (wX9 cy g um) (wX9 cy g um) r := by
  refine ct_enter (D := D) (cy := cy) (cc := cX9_holdsAll) (maxL := 6) (ret := (some .boolean)) (w := wX9 cy g um) (Qc := fun sz => va_Qi (fun r' (_ : Unit) => r' = r) (Bw D cy (va_A (wX9 cy g um) sz) (wX9 cy g um)) (va_A (wX9 cy g um) sz)) (by decide) rfl (Nat.le_of_ble_eq_true rfl) ?_
  intro p e s m below meth c A C0 hAe ls hl hP hD hS
  have e1 : MQ below ((fun sz => va_Qi (fun r' (_ : Unit) => r' = r) (Bw D cy (va_A (wX9 cy g um) sz) (wX9 cy g um)) (va_A (wX9 cy g um) sz)) s.heap.size) [.ref (g 999), .int p0, .int p1, .int p2].toArray s 0 0 A = QI below [.ref (g 999), .int p0, .int p1, .int p2].toArray s A D cy (wX9 cy g um) r := by rw [hAe]; rfl
  rw [e1]
  clear e1 hAe
  obtain ⟨hx, hb, hr, hml, hown, hts, hlocks, hK, hA⟩ := id C0
  have hl : lv_has ls 6 [(0, .ref (g 999)), (1, .int p0), (2, .int p1), (3, .int p2)] := hl
  rw [f_X9_holdsAll] at h
  refine lv_iconst (v := 0) hx hb dX9_holdsAll_0 (by decide) ?_
  refine lv_istore (lv' := [(4, .int (0 : Int32)), (0, .ref (g 999)), (1, .int p0), (2, .int p1), (3, .int p2)]) hx hb dX9_holdsAll_1 hl (by decide) rfl (fun ls hl => ?_)
  exact w_X9_holdsAll_3 C0 FU p0 p1 p2 (0 : Int32) h _ _ ls hP hD hS (lv_sub hl [1, 2, 3, 4, 0] rfl)
theorem k_X9_winsNow_0 : Cond.fieldLink RX9 34 "FeatherHallModel" "meetsQ" "[I" ∈ wsX9_winsNow := (List.mem_cons_of_mem _ (List.mem_append_left _ (List.mem_of_getElem? (i := 0) rfl)))
theorem ki_X9_winsNow_X9 : ∀ w ∈ u_ws RX9 TX9 38, w ∈ wsX9_winsNow := fun _ hh => (List.mem_cons_of_mem _ (List.mem_append_right _ hh))
theorem hd_X9_winsNow : yX9_winsNow.cls = RX9 ∧ yX9_winsNow.cls ≠ "java/lang/invoke/MethodHandle" ∧ yX9_winsNow.cls ≠ "java/lang/invoke/VarHandle" ∧ (parseMethodDescriptor yX9_winsNow.desc).map (fun d => d.parameters.length) = some 2 := by decide +kernel
set_option maxHeartbeats 4000000 in
set_option maxRecDepth 100000 in
theorem w_X9_winsNow_43 {p : Program} {l : Launch} {e : Env} {s : State} {m : MethodId} {below : List Frame} {meth : Method} {c : Code} {args : Array Value} {D : va_G} {cy : Nat → ClassId} {g : Nat → Nat} {A : Nat → Prop} {um : St} {r : Int32} (C0 : Cx p s m meth c args cX9_winsNow 5 (some .boolean) wsX9_winsNow RX9 D cy A) {k_5 : Int32 → Int32 → Int32 → Int32 → Option (Int32)} (hk_5 : ∀ (l1 : Int32) (l2 : Int32) (l3 : Int32) (l4 : Int32), k_5 l1 l2 l3 l4 = some r → ∀ (H : Heap) (locs : List Loc) (ls : Array Slot), va_P D vwCl (wX9 cy g um) H → va_D A (wX9 cy g um) → va_S A s.heap H locs → lv_has ls 5 [(0, .ref (g 999)), (1, .int l1), (2, .int l2), (3, .int l3), (4, .int l4)] → W p l e (rmH 0) s m args below meth c H locs 0 0 (QI below args s A D cy (wX9 cy g um) r) (F0 m 5 ls [])) : ∀ (l1 : Int32) (l2 : Int32) (l4 : Int32) (s0 : Int32), f_X9_winsNow_43 um k_5 l1 l2 l4 s0 = some r → ∀ (H : Heap) (locs : List Loc) (ls : Array Slot), va_P D vwCl (wX9 cy g um) H → va_D A (wX9 cy g um) → va_S A s.heap H locs → lv_has ls 5 [(0, .ref (g 999)), (1, .int l1), (2, .int l2), (4, .int l4)] → W p l e (rmH 0) s m args below meth c H locs 0 0 (QI below args s A D cy (wX9 cy g um) r) (F0 m 43 ls [.int s0]) := by
  obtain ⟨hx, hb, hr, hml, hown, hts, hlocks, hK, hA⟩ := id C0
  intro l1 l2 l4 s0 h H locs ls hP hD hS hl
  rw [f_X9_winsNow_43] at h
  refine lv_istore_n (lv' := [(3, .int s0), (0, .ref (g 999)), (1, .int l1), (2, .int l2), (4, .int l4)]) hx hb dX9_winsNow_43 rfl hl (by decide) rfl (fun ls hl => ?_)
  obtain ⟨v2, ev2, h⟩ := nm_ex h
  refine lv_iinc (v := v2) (lv' := [(4, .int v2), (3, .int s0), (0, .ref (g 999)), (1, .int l1), (2, .int l2)]) hx hb dX9_winsNow_44 hl (k := 4) rfl (by rw [ev2]; rfl) (by decide) rfl (fun ls hl => ?_)
  clear ev2
  refine lv_goto (tgt := 5) hx hb dX9_winsNow_47 (by decide) ?_
  exact hk_5 l1 l2 s0 v2 h _ _ ls hP hD hS (lv_sub hl [2, 3, 4, 1, 0] rfl)
set_option maxHeartbeats 4000000 in
set_option maxRecDepth 100000 in
theorem w_X9_winsNow_38 {p : Program} {l : Launch} {e : Env} {s : State} {m : MethodId} {below : List Frame} {meth : Method} {c : Code} {args : Array Value} {D : va_G} {cy : Nat → ClassId} {g : Nat → Nat} {A : Nat → Prop} {um : St} {r : Int32} (C0 : Cx p s m meth c args cX9_winsNow 5 (some .boolean) wsX9_winsNow RX9 D cy A) {k_5 : Int32 → Int32 → Int32 → Int32 → Option (Int32)} (hk_5 : ∀ (l1 : Int32) (l2 : Int32) (l3 : Int32) (l4 : Int32), k_5 l1 l2 l3 l4 = some r → ∀ (H : Heap) (locs : List Loc) (ls : Array Slot), va_P D vwCl (wX9 cy g um) H → va_D A (wX9 cy g um) → va_S A s.heap H locs → lv_has ls 5 [(0, .ref (g 999)), (1, .int l1), (2, .int l2), (3, .int l3), (4, .int l4)] → W p l e (rmH 0) s m args below meth c H locs 0 0 (QI below args s A D cy (wX9 cy g um) r) (F0 m 5 ls [])) : ∀ (l1 : Int32) (l2 : Int32) (l4 : Int32), f_X9_winsNow_38 um k_5 l1 l2 l4 = some r → ∀ (H : Heap) (locs : List Loc) (ls : Array Slot), va_P D vwCl (wX9 cy g um) H → va_D A (wX9 cy g um) → va_S A s.heap H locs → lv_has ls 5 [(0, .ref (g 999)), (1, .int l1), (2, .int l2), (4, .int l4)] → W p l e (rmH 0) s m args below meth c H locs 0 0 (QI below args s A D cy (wX9 cy g um) r) (F0 m 38 ls []) := by
  obtain ⟨hx, hb, hr, hml, hown, hts, hlocks, hK, hA⟩ := id C0
  intro l1 l2 l4 h H locs ls hP hD hS hl
  rw [f_X9_winsNow_38] at h
  refine lv_iconst (v := 1) hx hb dX9_winsNow_38 (by decide) ?_
  refine lv_goto (tgt := 43) hx hb dX9_winsNow_39 (by decide) ?_
  exact w_X9_winsNow_43 C0 hk_5 l1 l2 l4 (1 : Int32) h _ _ ls hP hD hS (lv_sub hl [0, 1, 2, 3] rfl)
set_option maxHeartbeats 4000000 in
set_option maxRecDepth 100000 in
theorem w_X9_winsNow_5 {p : Program} {l : Launch} {e : Env} {s : State} {m : MethodId} {below : List Frame} {meth : Method} {c : Code} {args : Array Value} {D : va_G} {cy : Nat → ClassId} {g : Nat → Nat} {A : Nat → Prop} {um : St} {r : Int32} (C0 : Cx p s m meth c args cX9_winsNow 5 (some .boolean) wsX9_winsNow RX9 D cy A) : ∀ (nn : Nat) (l1 : Int32) (l2 : Int32) (l3 : Int32) (l4 : Int32), f_X9_winsNow_5 um nn l1 l2 l3 l4 = some r → ∀ (H : Heap) (locs : List Loc) (ls : Array Slot), va_P D vwCl (wX9 cy g um) H → va_D A (wX9 cy g um) → va_S A s.heap H locs → lv_has ls 5 [(0, .ref (g 999)), (1, .int l1), (2, .int l2), (3, .int l3), (4, .int l4)] → W p l e (rmH 0) s m args below meth c H locs 0 0 (QI below args s A D cy (wX9 cy g um) r) (F0 m 5 ls []) := by
  obtain ⟨hx, hb, hr, hml, hown, hts, hlocks, hK, hA⟩ := id C0
  intro nn
  induction nn with
  | zero => intro l1 l2 l3 l4 h; rw [f_X9_winsNow_5] at h; cases h
  | succ nn ih =>
    intro l1 l2 l3 l4 h H locs ls hP hD hS hl
    rw [f_X9_winsNow_5] at h
    refine lv_iload hx hb dX9_winsNow_5 (lv_at hl 4 rfl) ?_
    refine lv_bipush (v := 64) hx hb dX9_winsNow_7 (by decide) ?_
    refine x_icmp_ge (tgt := 50) hx hb dX9_winsNow_9 (by decide) h (fun _ h => ?_) (fun _ h => ?_)
    · refine lv_iload_n hx hb dX9_winsNow_50 rfl (lv_at hl 3 rfl) ?_
      obtain ⟨hz, h⟩ := bk_some h
      cases h
      exact x_zret hx hb hr hlocks hK hP hD hS hz dX9_winsNow_51 rfl rfl
    · refine lv_iload_n hx hb dX9_winsNow_12 rfl (lv_at hl 3 rfl) ?_
      refine x_if_ne (tgt := 38) hx hb dX9_winsNow_13 (by decide) h (fun _ h => ?_) (fun _ h => ?_)
      · refine lv_aload_n hx hb dX9_winsNow_16 rfl (lv_at hl 0 rfl) ?_
        refine va_get (D := D) (ci := 8) (v := .ref (g 910)) (C := RX9) (T := TX9) (N := 38) hx hb hts ki_X9_winsNow_X9 hown hK hP 0 rfl rfl 10 (by decide) (hts _ k_X9_winsNow_0) (fun _ h9 => h9) rfl dX9_winsNow_17 ?_
        refine lv_sipush (v := 1024) hx hb dX9_winsNow_20 (by decide) ?_
        refine lv_iload_n hx hb dX9_winsNow_23 rfl (lv_at hl 2 rfl) ?_
        refine lv_imul hx hb dX9_winsNow_24 ?_
        refine lv_bipush (v := 64) hx hb dX9_winsNow_25 (by decide) ?_
        refine lv_iload_n hx hb dX9_winsNow_27 rfl (lv_at hl 1 rfl) ?_
        refine lv_imul hx hb dX9_winsNow_28 ?_
        refine lv_iadd hx hb dX9_winsNow_29 ?_
        refine lv_iload hx hb dX9_winsNow_30 (lv_at hl 4 rfl) ?_
        refine lv_iadd hx hb dX9_winsNow_32 ?_
        refine x_iald hx hb hK hP 9 rfl rfl h dX9_winsNow_33 (fun v1 h => ?_)
        refine lv_iconst (v := -1) hx hb dX9_winsNow_34 (by decide) ?_
        refine x_icmp_ne (tgt := 42) hx hb dX9_winsNow_35 (by decide) h (fun _ h => ?_) (fun _ h => ?_)
        · exact w_X9_winsNow_38 C0 ih l1 l2 l4 h _ _ ls hP hD hS (lv_sub hl [0, 1, 2, 4] rfl)
        · refine lv_iconst (v := 0) hx hb dX9_winsNow_42 (by decide) ?_
          exact w_X9_winsNow_43 C0 ih l1 l2 l4 (0 : Int32) h _ _ ls hP hD hS (lv_sub hl [0, 1, 2, 4] rfl)
      · exact w_X9_winsNow_38 C0 ih l1 l2 l4 h _ _ ls hP hD hS (lv_sub hl [0, 1, 2, 4] rfl)
set_option maxHeartbeats 4000000 in
set_option maxRecDepth 100000 in
theorem c_X9_winsNow (l : Launch) (D : va_G) (cy : Nat → ClassId) (g : Nat → Nat) (um : St) (p0 : Int32) (p1 : Int32) (r : Int32) (h : f_X9_winsNow um p0 p1 = some r) : CtI l yX9_winsNow wsX9_winsNow (rmH 0) [.ref (g 999), .int p0, .int p1] D cy (wX9 cy g um) (wX9 cy g um) r := by
  refine ct_enter (D := D) (cy := cy) (cc := cX9_winsNow) (maxL := 5) (ret := (some .boolean)) (w := wX9 cy g um) (Qc := fun sz => va_Qi (fun r' (_ : Unit) => r' = r) (Bw D cy (va_A (wX9 cy g um) sz) (wX9 cy g um)) (va_A (wX9 cy g um) sz)) (by decide) rfl (Nat.le_of_ble_eq_true rfl) ?_
  intro p e s m below meth c A C0 hAe ls hl hP hD hS
  have e1 : MQ below ((fun sz => va_Qi (fun r' (_ : Unit) => r' = r) (Bw D cy (va_A (wX9 cy g um) sz) (wX9 cy g um)) (va_A (wX9 cy g um) sz)) s.heap.size) [.ref (g 999), .int p0, .int p1].toArray s 0 0 A = QI below [.ref (g 999), .int p0, .int p1].toArray s A D cy (wX9 cy g um) r := by rw [hAe]; rfl
  rw [e1]
  clear e1 hAe
  obtain ⟨hx, hb, hr, hml, hown, hts, hlocks, hK, hA⟩ := id C0
  have hl : lv_has ls 5 [(0, .ref (g 999)), (1, .int p0), (2, .int p1)] := hl
  rw [f_X9_winsNow] at h
  refine lv_iconst (v := 0) hx hb dX9_winsNow_0 (by decide) ?_
  refine lv_istore_n (lv' := [(3, .int (0 : Int32)), (0, .ref (g 999)), (1, .int p0), (2, .int p1)]) hx hb dX9_winsNow_1 rfl hl (by decide) rfl (fun ls hl => ?_)
  refine lv_iconst (v := 0) hx hb dX9_winsNow_2 (by decide) ?_
  refine lv_istore (lv' := [(4, .int (0 : Int32)), (3, .int (0 : Int32)), (0, .ref (g 999)), (1, .int p0), (2, .int p1)]) hx hb dX9_winsNow_3 hl (by decide) rfl (fun ls hl => ?_)
  exact w_X9_winsNow_5 C0 FU p0 p1 (0 : Int32) (0 : Int32) h _ _ ls hP hD hS (lv_sub hl [2, 3, 4, 1, 0] rfl)
theorem k_X9_winsLater_0 : Cond.fieldLink RX9 34 "FeatherHallModel" "meetsQ" "[I" ∈ wsX9_winsLater := (List.mem_cons_of_mem _ (List.mem_append_left _ (List.mem_of_getElem? (i := 0) rfl)))
theorem ki_X9_winsLater_X9 : ∀ w ∈ u_ws RX9 TX9 38, w ∈ wsX9_winsLater := fun _ hh => (List.mem_cons_of_mem _ (List.mem_append_right _ hh))
theorem k_X9_winsLater_1 : Cond.fieldLink RX9 44 "FeatherHallModel" "holds" "[Z" ∈ wsX9_winsLater := (List.mem_cons_of_mem _ (List.mem_append_left _ (List.mem_of_getElem? (i := 1) rfl)))
theorem hd_X9_winsLater : yX9_winsLater.cls = RX9 ∧ yX9_winsLater.cls ≠ "java/lang/invoke/MethodHandle" ∧ yX9_winsLater.cls ≠ "java/lang/invoke/VarHandle" ∧ (parseMethodDescriptor yX9_winsLater.desc).map (fun d => d.parameters.length) = some 3 := by decide +kernel
set_option maxHeartbeats 4000000 in
set_option maxRecDepth 100000 in
theorem w_X9_winsLater_89 {p : Program} {l : Launch} {e : Env} {s : State} {m : MethodId} {below : List Frame} {meth : Method} {c : Code} {args : Array Value} {D : va_G} {cy : Nat → ClassId} {g : Nat → Nat} {A : Nat → Prop} {um : St} {r : Int32} (C0 : Cx p s m meth c args cX9_winsLater 7 (some .boolean) wsX9_winsLater RX9 D cy A) {k_3 : Int32 → Int32 → Int32 → Int32 → Option (Int32)} (hk_3 : ∀ (l1 : Int32) (l2 : Int32) (l3 : Int32) (l4 : Int32), k_3 l1 l2 l3 l4 = some r → ∀ (H : Heap) (locs : List Loc) (ls : Array Slot), va_P D vwCl (wX9 cy g um) H → va_D A (wX9 cy g um) → va_S A s.heap H locs → lv_has ls 7 [(0, .ref (g 999)), (1, .int l1), (2, .int l2), (3, .int l3), (4, .int l4)] → W p l e (rmH 2) s m args below meth c H locs 0 0 (QI below args s A D cy (wX9 cy g um) r) (F0 m 3 ls [])) {k_33 : Int32 → Int32 → Int32 → Int32 → Int32 → Int32 → Option (Int32)} (hk_33 : ∀ (l1 : Int32) (l2 : Int32) (l3 : Int32) (l4 : Int32) (l5 : Int32) (l6 : Int32), k_33 l1 l2 l3 l4 l5 l6 = some r → ∀ (H : Heap) (locs : List Loc) (ls : Array Slot), va_P D vwCl (wX9 cy g um) H → va_D A (wX9 cy g um) → va_S A s.heap H locs → lv_has ls 7 [(0, .ref (g 999)), (1, .int l1), (2, .int l2), (3, .int l3), (4, .int l4), (5, .int l5), (6, .int l6)] → W p l e (rmH 2) s m args below meth c H locs 0 0 (QI below args s A D cy (wX9 cy g um) r) (F0 m 33 ls [])) : ∀ (l1 : Int32) (l2 : Int32) (l3 : Int32) (l4 : Int32) (l5 : Int32) (l6 : Int32), f_X9_winsLater_89 um k_3 k_33 l1 l2 l3 l4 l5 l6 = some r → ∀ (H : Heap) (locs : List Loc) (ls : Array Slot), va_P D vwCl (wX9 cy g um) H → va_D A (wX9 cy g um) → va_S A s.heap H locs → lv_has ls 7 [(0, .ref (g 999)), (1, .int l1), (2, .int l2), (3, .int l3), (4, .int l4), (5, .int l5), (6, .int l6)] → W p l e (rmH 2) s m args below meth c H locs 0 0 (QI below args s A D cy (wX9 cy g um) r) (F0 m 89 ls []) := by
  obtain ⟨hx, hb, hr, hml, hown, hts, hlocks, hK, hA⟩ := id C0
  intro l1 l2 l3 l4 l5 l6 h H locs ls hP hD hS hl
  rw [f_X9_winsLater_89] at h
  obtain ⟨v8, ev8, h⟩ := nm_ex h
  refine lv_iinc (v := v8) (lv' := [(6, .int v8), (0, .ref (g 999)), (1, .int l1), (2, .int l2), (3, .int l3), (4, .int l4), (5, .int l5)]) hx hb dX9_winsLater_89 hl (k := 6) rfl (by rw [ev8]; rfl) (by decide) rfl (fun ls hl => ?_)
  clear ev8
  refine lv_goto (tgt := 33) hx hb dX9_winsLater_92 (by decide) ?_
  exact hk_33 l1 l2 l3 l4 l5 v8 h _ _ ls hP hD hS (lv_sub hl [1, 2, 3, 4, 5, 6, 0] rfl)
set_option maxHeartbeats 4000000 in
set_option maxRecDepth 100000 in
theorem w_X9_winsLater_95 {p : Program} {l : Launch} {e : Env} {s : State} {m : MethodId} {below : List Frame} {meth : Method} {c : Code} {args : Array Value} {D : va_G} {cy : Nat → ClassId} {g : Nat → Nat} {A : Nat → Prop} {um : St} {r : Int32} (C0 : Cx p s m meth c args cX9_winsLater 7 (some .boolean) wsX9_winsLater RX9 D cy A) {k_3 : Int32 → Int32 → Int32 → Int32 → Option (Int32)} (hk_3 : ∀ (l1 : Int32) (l2 : Int32) (l3 : Int32) (l4 : Int32), k_3 l1 l2 l3 l4 = some r → ∀ (H : Heap) (locs : List Loc) (ls : Array Slot), va_P D vwCl (wX9 cy g um) H → va_D A (wX9 cy g um) → va_S A s.heap H locs → lv_has ls 7 [(0, .ref (g 999)), (1, .int l1), (2, .int l2), (3, .int l3), (4, .int l4)] → W p l e (rmH 2) s m args below meth c H locs 0 0 (QI below args s A D cy (wX9 cy g um) r) (F0 m 3 ls [])) : ∀ (l1 : Int32) (l2 : Int32) (l3 : Int32) (l4 : Int32), f_X9_winsLater_95 um k_3 l1 l2 l3 l4 = some r → ∀ (H : Heap) (locs : List Loc) (ls : Array Slot), va_P D vwCl (wX9 cy g um) H → va_D A (wX9 cy g um) → va_S A s.heap H locs → lv_has ls 7 [(0, .ref (g 999)), (1, .int l1), (2, .int l2), (3, .int l3), (4, .int l4)] → W p l e (rmH 2) s m args below meth c H locs 0 0 (QI below args s A D cy (wX9 cy g um) r) (F0 m 95 ls []) := by
  obtain ⟨hx, hb, hr, hml, hown, hts, hlocks, hK, hA⟩ := id C0
  intro l1 l2 l3 l4 h H locs ls hP hD hS hl
  rw [f_X9_winsLater_95] at h
  obtain ⟨v7, ev7, h⟩ := nm_ex h
  refine lv_iinc (v := v7) (lv' := [(4, .int v7), (0, .ref (g 999)), (1, .int l1), (2, .int l2), (3, .int l3)]) hx hb dX9_winsLater_95 hl (k := 4) rfl (by rw [ev7]; rfl) (by decide) rfl (fun ls hl => ?_)
  clear ev7
  refine lv_goto (tgt := 3) hx hb dX9_winsLater_98 (by decide) ?_
  exact hk_3 l1 l2 l3 v7 h _ _ ls hP hD hS (lv_sub hl [1, 2, 3, 4, 0] rfl)
set_option maxHeartbeats 4000000 in
set_option maxRecDepth 100000 in
theorem w_X9_winsLater_33 {p : Program} {l : Launch} {e : Env} {s : State} {m : MethodId} {below : List Frame} {meth : Method} {c : Code} {args : Array Value} {D : va_G} {cy : Nat → ClassId} {g : Nat → Nat} {A : Nat → Prop} {um : St} {r : Int32} (C0 : Cx p s m meth c args cX9_winsLater 7 (some .boolean) wsX9_winsLater RX9 D cy A) {k_3 : Int32 → Int32 → Int32 → Int32 → Option (Int32)} (hk_3 : ∀ (l1 : Int32) (l2 : Int32) (l3 : Int32) (l4 : Int32), k_3 l1 l2 l3 l4 = some r → ∀ (H : Heap) (locs : List Loc) (ls : Array Slot), va_P D vwCl (wX9 cy g um) H → va_D A (wX9 cy g um) → va_S A s.heap H locs → lv_has ls 7 [(0, .ref (g 999)), (1, .int l1), (2, .int l2), (3, .int l3), (4, .int l4)] → W p l e (rmH 2) s m args below meth c H locs 0 0 (QI below args s A D cy (wX9 cy g um) r) (F0 m 3 ls [])) : ∀ (nn : Nat) (l1 : Int32) (l2 : Int32) (l3 : Int32) (l4 : Int32) (l5 : Int32) (l6 : Int32), f_X9_winsLater_33 um k_3 nn l1 l2 l3 l4 l5 l6 = some r → ∀ (H : Heap) (locs : List Loc) (ls : Array Slot), va_P D vwCl (wX9 cy g um) H → va_D A (wX9 cy g um) → va_S A s.heap H locs → lv_has ls 7 [(0, .ref (g 999)), (1, .int l1), (2, .int l2), (3, .int l3), (4, .int l4), (5, .int l5), (6, .int l6)] → W p l e (rmH 2) s m args below meth c H locs 0 0 (QI below args s A D cy (wX9 cy g um) r) (F0 m 33 ls []) := by
  obtain ⟨hx, hb, hr, hml, hown, hts, hlocks, hK, hA⟩ := id C0
  intro nn
  induction nn with
  | zero => intro l1 l2 l3 l4 l5 l6 h; rw [f_X9_winsLater_33] at h; cases h
  | succ nn ih =>
    intro l1 l2 l3 l4 l5 l6 h H locs ls hP hD hS hl
    rw [f_X9_winsLater_33] at h
    refine lv_iload hx hb dX9_winsLater_33 (lv_at hl 6 rfl) ?_
    refine lv_bipush (v := 16) hx hb dX9_winsLater_35 (by decide) ?_
    refine x_icmp_ge (tgt := 95) hx hb dX9_winsLater_37 (by decide) h (fun _ h => ?_) (fun _ h => ?_)
    · exact w_X9_winsLater_95 C0 hk_3 l1 l2 l3 l4 h _ _ ls hP hD hS (lv_sub hl [0, 1, 2, 3, 4] rfl)
    · refine lv_iload hx hb dX9_winsLater_40 (lv_at hl 5 rfl) ?_
      refine x_if_lt (tgt := 95) hx hb dX9_winsLater_42 (by decide) h (fun _ h => ?_) (fun _ h => ?_)
      · exact w_X9_winsLater_95 C0 hk_3 l1 l2 l3 l4 h _ _ ls hP hD hS (lv_sub hl [0, 1, 2, 3, 4] rfl)
      · refine lv_iload_n hx hb dX9_winsLater_45 rfl (lv_at hl 1 rfl) ?_
        refine lv_iload hx hb dX9_winsLater_46 (lv_at hl 6 rfl) ?_
        obtain ⟨r2, e3, h⟩ := bd_some h
        refine x_callSI (As := [.int l1, .int l6]) (rest := []) (n := 2) ⟨hx, hb, hml, hown, hts⟩ (c_X9_far l D cy  l1 l6 r2 e3) gX9_winsLater_X9_far rfl hd_X9_far ⟨Nat.le_of_ble_eq_true rfl, Nat.le_of_ble_eq_true rfl⟩ ⟨rfl, rfl⟩ hK (sp_nil _) (sp_nil _) hP hD hS hA rfl hl.1 rfl (Nat.le_of_ble_eq_true rfl) dX9_winsLater_48 ⟨Nat.zero_le _, Nat.zero_le _⟩ (fun H locs hP hD hS => ?_)
        clear e3
        refine lv_iload hx hb dX9_winsLater_51 (lv_at hl 5 rfl) ?_
        refine lv_bipush (v := 16) hx hb dX9_winsLater_53 (by decide) ?_
        refine lv_idiv hx hb dX9_winsLater_55 (by decide) ?_
        refine lv_aload_n hx hb dX9_winsLater_56 rfl (lv_at hl 0 rfl) ?_
        refine lv_iload_n hx hb dX9_winsLater_57 rfl (lv_at hl 3 rfl) ?_
        obtain ⟨r4, e5, h⟩ := bd_some h
        refine x_callVI (As := [.int l3]) (rest := [.int (l5 / (16 : Int32)), .int r2]) (n := 1) ⟨hx, hb, hml, hown, hts⟩ (c_X9_stride l D cy g um l3 r4 e5) gX9_winsLater_X9_stride rfl hd_X9_stride ⟨Nat.le_of_ble_eq_true rfl, Nat.le_of_ble_eq_true rfl⟩ ⟨rfl, rfl⟩ hK (sp_all _) (sp_all _) hP hD hS hA 0 rfl rfl rfl hl.1 rfl (Nat.le_of_ble_eq_true rfl) dX9_winsLater_58 ⟨Nat.zero_le _, Nat.zero_le _⟩ (fun H locs hP hD hS => ?_)
        clear e5
        refine lv_imul hx hb dX9_winsLater_61 ?_
        refine lv_bipush (v := 10) hx hb dX9_winsLater_62 (by decide) ?_
        refine lv_idiv hx hb dX9_winsLater_64 (by decide) ?_
        refine x_icmp_gt (tgt := 89) hx hb dX9_winsLater_65 (by decide) h (fun _ h => ?_) (fun _ h => ?_)
        · exact w_X9_winsLater_89 C0 hk_3 ih l1 l2 l3 l4 l5 l6 h _ _ ls hP hD hS (lv_sub hl [0, 1, 2, 3, 4, 5, 6] rfl)
        · refine lv_aload_n hx hb dX9_winsLater_68 rfl (lv_at hl 0 rfl) ?_
          refine va_get (D := D) (ci := 8) (v := .ref (g 913)) (C := RX9) (T := TX9) (N := 38) hx hb hts ki_X9_winsLater_X9 hown hK hP 0 rfl rfl 13 (by decide) (hts _ k_X9_winsLater_1) (fun _ h9 => h9) rfl dX9_winsLater_69 ?_
          refine lv_bipush (v := 16) hx hb dX9_winsLater_72 (by decide) ?_
          refine lv_iload hx hb dX9_winsLater_74 (lv_at hl 6 rfl) ?_
          refine lv_imul hx hb dX9_winsLater_76 ?_
          refine lv_iload hx hb dX9_winsLater_77 (lv_at hl 5 rfl) ?_
          refine lv_bipush (v := 16) hx hb dX9_winsLater_79 (by decide) ?_
          refine lv_irem hx hb dX9_winsLater_81 (by decide) ?_
          refine lv_iadd hx hb dX9_winsLater_82 ?_
          refine x_zald hx hb hK hP 12 rfl rfl h dX9_winsLater_83 (fun v6 h => ?_)
          refine x_if_eq (tgt := 89) hx hb dX9_winsLater_84 (by decide) h (fun _ h => ?_) (fun _ h => ?_)
          · exact w_X9_winsLater_89 C0 hk_3 ih l1 l2 l3 l4 l5 l6 h _ _ ls hP hD hS (lv_sub hl [0, 1, 2, 3, 4, 5, 6] rfl)
          · refine lv_iconst (v := 1) hx hb dX9_winsLater_87 (by decide) ?_
            cases h
            exact x_zret hx hb hr hlocks hK hP hD hS (Or.inr rfl) dX9_winsLater_88 rfl rfl
set_option maxHeartbeats 4000000 in
set_option maxRecDepth 100000 in
theorem w_X9_winsLater_3 {p : Program} {l : Launch} {e : Env} {s : State} {m : MethodId} {below : List Frame} {meth : Method} {c : Code} {args : Array Value} {D : va_G} {cy : Nat → ClassId} {g : Nat → Nat} {A : Nat → Prop} {um : St} {r : Int32} (C0 : Cx p s m meth c args cX9_winsLater 7 (some .boolean) wsX9_winsLater RX9 D cy A) : ∀ (nn : Nat) (l1 : Int32) (l2 : Int32) (l3 : Int32) (l4 : Int32), f_X9_winsLater_3 um nn l1 l2 l3 l4 = some r → ∀ (H : Heap) (locs : List Loc) (ls : Array Slot), va_P D vwCl (wX9 cy g um) H → va_D A (wX9 cy g um) → va_S A s.heap H locs → lv_has ls 7 [(0, .ref (g 999)), (1, .int l1), (2, .int l2), (3, .int l3), (4, .int l4)] → W p l e (rmH 2) s m args below meth c H locs 0 0 (QI below args s A D cy (wX9 cy g um) r) (F0 m 3 ls []) := by
  obtain ⟨hx, hb, hr, hml, hown, hts, hlocks, hK, hA⟩ := id C0
  intro nn
  induction nn with
  | zero => intro l1 l2 l3 l4 h; rw [f_X9_winsLater_3] at h; cases h
  | succ nn ih =>
    intro l1 l2 l3 l4 h H locs ls hP hD hS hl
    rw [f_X9_winsLater_3] at h
    refine lv_iload hx hb dX9_winsLater_3 (lv_at hl 4 rfl) ?_
    refine lv_bipush (v := 64) hx hb dX9_winsLater_5 (by decide) ?_
    refine x_icmp_ge (tgt := 101) hx hb dX9_winsLater_7 (by decide) h (fun _ h => ?_) (fun _ h => ?_)
    · refine lv_iconst (v := 0) hx hb dX9_winsLater_101 (by decide) ?_
      cases h
      exact x_zret hx hb hr hlocks hK hP hD hS (Or.inl rfl) dX9_winsLater_102 rfl rfl
    · refine lv_aload_n hx hb dX9_winsLater_10 rfl (lv_at hl 0 rfl) ?_
      refine va_get (D := D) (ci := 8) (v := .ref (g 910)) (C := RX9) (T := TX9) (N := 38) hx hb hts ki_X9_winsLater_X9 hown hK hP 0 rfl rfl 10 (by decide) (hts _ k_X9_winsLater_0) (fun _ h9 => h9) rfl dX9_winsLater_11 ?_
      refine lv_sipush (v := 1024) hx hb dX9_winsLater_14 (by decide) ?_
      refine lv_iload_n hx hb dX9_winsLater_17 rfl (lv_at hl 2 rfl) ?_
      refine lv_imul hx hb dX9_winsLater_18 ?_
      refine lv_bipush (v := 64) hx hb dX9_winsLater_19 (by decide) ?_
      refine lv_iload_n hx hb dX9_winsLater_21 rfl (lv_at hl 1 rfl) ?_
      refine lv_imul hx hb dX9_winsLater_22 ?_
      refine lv_iadd hx hb dX9_winsLater_23 ?_
      refine lv_iload hx hb dX9_winsLater_24 (lv_at hl 4 rfl) ?_
      refine lv_iadd hx hb dX9_winsLater_26 ?_
      refine x_iald hx hb hK hP 9 rfl rfl h dX9_winsLater_27 (fun v1 h => ?_)
      refine lv_istore (lv' := [(5, .int v1), (0, .ref (g 999)), (1, .int l1), (2, .int l2), (3, .int l3), (4, .int l4)]) hx hb dX9_winsLater_28 hl (by decide) rfl (fun ls hl => ?_)
      refine lv_iconst (v := 0) hx hb dX9_winsLater_30 (by decide) ?_
      refine lv_istore (lv' := [(6, .int (0 : Int32)), (5, .int v1), (0, .ref (g 999)), (1, .int l1), (2, .int l2), (3, .int l3), (4, .int l4)]) hx hb dX9_winsLater_31 hl (by decide) rfl (fun ls hl => ?_)
      exact w_X9_winsLater_33 C0 ih FU l1 l2 l3 l4 v1 (0 : Int32) h _ _ ls hP hD hS (lv_sub hl [2, 3, 4, 5, 6, 1, 0] rfl)
set_option maxHeartbeats 4000000 in
set_option maxRecDepth 100000 in
theorem c_X9_winsLater (l : Launch) (D : va_G) (cy : Nat → ClassId) (g : Nat → Nat) (um : St) (p0 : Int32) (p1 : Int32) (p2 : Int32) (r : Int32) (h : f_X9_winsLater um p0 p1 p2 = some r) : CtI l yX9_winsLater wsX9_winsLater (rmH 2) [.ref (g 999), .int p0, .int p1, .int p2] D cy (wX9 cy g um) (wX9 cy g um) r := by
  refine ct_enter (D := D) (cy := cy) (cc := cX9_winsLater) (maxL := 7) (ret := (some .boolean)) (w := wX9 cy g um) (Qc := fun sz => va_Qi (fun r' (_ : Unit) => r' = r) (Bw D cy (va_A (wX9 cy g um) sz) (wX9 cy g um)) (va_A (wX9 cy g um) sz)) (by decide) rfl (Nat.le_of_ble_eq_true rfl) ?_
  intro p e s m below meth c A C0 hAe ls hl hP hD hS
  have e1 : MQ below ((fun sz => va_Qi (fun r' (_ : Unit) => r' = r) (Bw D cy (va_A (wX9 cy g um) sz) (wX9 cy g um)) (va_A (wX9 cy g um) sz)) s.heap.size) [.ref (g 999), .int p0, .int p1, .int p2].toArray s 0 0 A = QI below [.ref (g 999), .int p0, .int p1, .int p2].toArray s A D cy (wX9 cy g um) r := by rw [hAe]; rfl
  rw [e1]
  clear e1 hAe
  obtain ⟨hx, hb, hr, hml, hown, hts, hlocks, hK, hA⟩ := id C0
  have hl : lv_has ls 7 [(0, .ref (g 999)), (1, .int p0), (2, .int p1), (3, .int p2)] := hl
  rw [f_X9_winsLater] at h
  refine lv_iconst (v := 0) hx hb dX9_winsLater_0 (by decide) ?_
  refine lv_istore (lv' := [(4, .int (0 : Int32)), (0, .ref (g 999)), (1, .int p0), (2, .int p1), (3, .int p2)]) hx hb dX9_winsLater_1 hl (by decide) rfl (fun ls hl => ?_)
  exact w_X9_winsLater_3 C0 FU p0 p1 p2 (0 : Int32) h _ _ ls hP hD hS (lv_sub hl [1, 2, 3, 4, 0] rfl)
theorem k_X9_wins_0 : Cond.fieldLink RX9 37 "FeatherHallModel" "wins" "[Z" ∈ wsX9_wins := (List.mem_cons_of_mem _ (List.mem_append_left _ (List.mem_append_left _ (List.mem_of_getElem? (i := 0) rfl))))
theorem ki_X9_wins_X9 : ∀ w ∈ u_ws RX9 TX9 38, w ∈ wsX9_wins := fun _ hh => (List.mem_cons_of_mem _ (List.mem_append_right _ hh))
theorem k_X9_wins_1 : Cond.fieldLink RX9 44 "FeatherHallModel" "holds" "[Z" ∈ wsX9_wins := (List.mem_cons_of_mem _ (List.mem_append_left _ (List.mem_append_left _ (List.mem_of_getElem? (i := 1) rfl))))
theorem k_X9_wins_2 : Cond.fieldLink RX9 41 "FeatherHallModel" "winsNext" "[Z" ∈ wsX9_wins := (List.mem_cons_of_mem _ (List.mem_append_left _ (List.mem_append_left _ (List.mem_of_getElem? (i := 2) rfl))))
theorem hd_X9_wins : yX9_wins.cls = RX9 ∧ yX9_wins.cls ≠ "java/lang/invoke/MethodHandle" ∧ yX9_wins.cls ≠ "java/lang/invoke/VarHandle" ∧ (parseMethodDescriptor yX9_wins.desc).map (fun d => d.parameters.length) = some 5 := by decide +kernel
set_option maxHeartbeats 4000000 in
set_option maxRecDepth 100000 in
theorem w_X9_wins_193 {p : Program} {l : Launch} {e : Env} {s : State} {m : MethodId} {below : List Frame} {meth : Method} {c : Code} {args : Array Value} {D : va_G} {cy : Nat → ClassId} {g : Nat → Nat} {A : Nat → Prop} {r : Int32} {um' : St} (C0 : Cx p s m meth c args cX9_wins 8 (some .int) wsX9_wins RX9 D cy A) {k_97 : Int32 → Int32 → Int32 → Int32 → Int32 → Int32 → St → Option (Int32 × St)} (hk_97 : ∀ (l1 : Int32) (l2 : Int32) (l3 : Int32) (l4 : Int32) (l5 : Int32) (l6 : Int32) (um : St), k_97 l1 l2 l3 l4 l5 l6 um = some (r, um') → ∀ (H : Heap) (locs : List Loc) (ls : Array Slot), va_P D vwCl (wX9 cy g um) H → va_D A (wX9 cy g um) → va_S A s.heap H locs → lv_has ls 8 [(0, .ref (g 999)), (1, .int l1), (2, .int l2), (3, .int l3), (4, .int l4), (5, .int l5), (6, .int l6)] → W p l e (rmH 5) s m args below meth c H locs 0 0 (QI below args s A D cy (wX9 cy g um') r) (F0 m 97 ls [])) {k_146 : Int32 → Int32 → Int32 → Int32 → Int32 → Int32 → Int32 → St → Option (Int32 × St)} (hk_146 : ∀ (l1 : Int32) (l2 : Int32) (l3 : Int32) (l4 : Int32) (l5 : Int32) (l6 : Int32) (l7 : Int32) (um : St), k_146 l1 l2 l3 l4 l5 l6 l7 um = some (r, um') → ∀ (H : Heap) (locs : List Loc) (ls : Array Slot), va_P D vwCl (wX9 cy g um) H → va_D A (wX9 cy g um) → va_S A s.heap H locs → lv_has ls 8 [(0, .ref (g 999)), (1, .int l1), (2, .int l2), (3, .int l3), (4, .int l4), (5, .int l5), (6, .int l6), (7, .int l7)] → W p l e (rmH 5) s m args below meth c H locs 0 0 (QI below args s A D cy (wX9 cy g um') r) (F0 m 146 ls [])) : ∀ (l1 : Int32) (l2 : Int32) (l3 : Int32) (l4 : Int32) (l5 : Int32) (l6 : Int32) (l7 : Int32) (s0 : Int32) (s1 : Int32) (um : St), f_X9_wins_193 k_97 k_146 l1 l2 l3 l4 l5 l6 l7 s0 s1 um = some (r, um') → ∀ (H : Heap) (locs : List Loc) (ls : Array Slot), va_P D vwCl (wX9 cy g um) H → va_D A (wX9 cy g um) → va_S A s.heap H locs → lv_has ls 8 [(0, .ref (g 999)), (1, .int l1), (2, .int l2), (3, .int l3), (4, .int l4), (5, .int l5), (6, .int l6), (7, .int l7)] → W p l e (rmH 5) s m args below meth c H locs 0 0 (QI below args s A D cy (wX9 cy g um') r) (F0 m 193 ls [.int s0, .int s1, .ref (g 912)]) := by
  obtain ⟨hx, hb, hr, hml, hown, hts, hlocks, hK, hA⟩ := id C0
  intro l1 l2 l3 l4 l5 l6 l7 s0 s1 um h H locs ls hP hD hS hl
  rw [f_X9_wins_193] at h
  refine x_zast (Wd := (fun uz => wX9 cy g uz)) (u := um) (k := 12) hx hb hK hP hD hS 11 rfl rfl (fun _ => rfl) h dX9_wins_193 (fun um29 H locs h hP hD hS => ?_)
  obtain ⟨v30, ev30, h⟩ := nm_ex h
  refine lv_iinc (v := v30) (lv' := [(7, .int v30), (0, .ref (g 999)), (1, .int l1), (2, .int l2), (3, .int l3), (4, .int l4), (5, .int l5), (6, .int l6)]) hx hb dX9_wins_194 hl (k := 7) rfl (by rw [ev30]; rfl) (by decide) rfl (fun ls hl => ?_)
  clear ev30
  refine lv_goto (tgt := 146) hx hb dX9_wins_197 (by decide) ?_
  exact hk_146 l1 l2 l3 l4 l5 l6 v30 um29 h _ _ ls hP hD hS (lv_sub hl [1, 2, 3, 4, 5, 6, 7, 0] rfl)
set_option maxHeartbeats 4000000 in
set_option maxRecDepth 100000 in
theorem w_X9_wins_188 {p : Program} {l : Launch} {e : Env} {s : State} {m : MethodId} {below : List Frame} {meth : Method} {c : Code} {args : Array Value} {D : va_G} {cy : Nat → ClassId} {g : Nat → Nat} {A : Nat → Prop} {r : Int32} {um' : St} (C0 : Cx p s m meth c args cX9_wins 8 (some .int) wsX9_wins RX9 D cy A) {k_97 : Int32 → Int32 → Int32 → Int32 → Int32 → Int32 → St → Option (Int32 × St)} (hk_97 : ∀ (l1 : Int32) (l2 : Int32) (l3 : Int32) (l4 : Int32) (l5 : Int32) (l6 : Int32) (um : St), k_97 l1 l2 l3 l4 l5 l6 um = some (r, um') → ∀ (H : Heap) (locs : List Loc) (ls : Array Slot), va_P D vwCl (wX9 cy g um) H → va_D A (wX9 cy g um) → va_S A s.heap H locs → lv_has ls 8 [(0, .ref (g 999)), (1, .int l1), (2, .int l2), (3, .int l3), (4, .int l4), (5, .int l5), (6, .int l6)] → W p l e (rmH 5) s m args below meth c H locs 0 0 (QI below args s A D cy (wX9 cy g um') r) (F0 m 97 ls [])) {k_146 : Int32 → Int32 → Int32 → Int32 → Int32 → Int32 → Int32 → St → Option (Int32 × St)} (hk_146 : ∀ (l1 : Int32) (l2 : Int32) (l3 : Int32) (l4 : Int32) (l5 : Int32) (l6 : Int32) (l7 : Int32) (um : St), k_146 l1 l2 l3 l4 l5 l6 l7 um = some (r, um') → ∀ (H : Heap) (locs : List Loc) (ls : Array Slot), va_P D vwCl (wX9 cy g um) H → va_D A (wX9 cy g um) → va_S A s.heap H locs → lv_has ls 8 [(0, .ref (g 999)), (1, .int l1), (2, .int l2), (3, .int l3), (4, .int l4), (5, .int l5), (6, .int l6), (7, .int l7)] → W p l e (rmH 5) s m args below meth c H locs 0 0 (QI below args s A D cy (wX9 cy g um') r) (F0 m 146 ls [])) : ∀ (l1 : Int32) (l2 : Int32) (l3 : Int32) (l4 : Int32) (l5 : Int32) (l6 : Int32) (l7 : Int32) (s0 : Int32) (um : St), f_X9_wins_188 k_97 k_146 l1 l2 l3 l4 l5 l6 l7 s0 um = some (r, um') → ∀ (H : Heap) (locs : List Loc) (ls : Array Slot), va_P D vwCl (wX9 cy g um) H → va_D A (wX9 cy g um) → va_S A s.heap H locs → lv_has ls 8 [(0, .ref (g 999)), (1, .int l1), (2, .int l2), (3, .int l3), (4, .int l4), (5, .int l5), (6, .int l6), (7, .int l7)] → W p l e (rmH 5) s m args below meth c H locs 0 0 (QI below args s A D cy (wX9 cy g um') r) (F0 m 188 ls [.int s0, .ref (g 912)]) := by
  obtain ⟨hx, hb, hr, hml, hown, hts, hlocks, hK, hA⟩ := id C0
  intro l1 l2 l3 l4 l5 l6 l7 s0 um h H locs ls hP hD hS hl
  rw [f_X9_wins_188] at h
  refine lv_iconst (v := 1) hx hb dX9_wins_188 (by decide) ?_
  refine lv_goto (tgt := 193) hx hb dX9_wins_189 (by decide) ?_
  exact w_X9_wins_193 C0 hk_97 hk_146 l1 l2 l3 l4 l5 l6 l7 (1 : Int32) s0 um h _ _ ls hP hD hS (lv_sub hl [0, 1, 2, 3, 4, 5, 6, 7] rfl)
set_option maxHeartbeats 4000000 in
set_option maxRecDepth 100000 in
theorem w_X9_wins_203 {p : Program} {l : Launch} {e : Env} {s : State} {m : MethodId} {below : List Frame} {meth : Method} {c : Code} {args : Array Value} {D : va_G} {cy : Nat → ClassId} {g : Nat → Nat} {A : Nat → Prop} {r : Int32} {um' : St} (C0 : Cx p s m meth c args cX9_wins 8 (some .int) wsX9_wins RX9 D cy A) {k_97 : Int32 → Int32 → Int32 → Int32 → Int32 → Int32 → St → Option (Int32 × St)} (hk_97 : ∀ (l1 : Int32) (l2 : Int32) (l3 : Int32) (l4 : Int32) (l5 : Int32) (l6 : Int32) (um : St), k_97 l1 l2 l3 l4 l5 l6 um = some (r, um') → ∀ (H : Heap) (locs : List Loc) (ls : Array Slot), va_P D vwCl (wX9 cy g um) H → va_D A (wX9 cy g um) → va_S A s.heap H locs → lv_has ls 8 [(0, .ref (g 999)), (1, .int l1), (2, .int l2), (3, .int l3), (4, .int l4), (5, .int l5), (6, .int l6)] → W p l e (rmH 5) s m args below meth c H locs 0 0 (QI below args s A D cy (wX9 cy g um') r) (F0 m 97 ls [])) : ∀ (nn : Nat) (l1 : Int32) (l2 : Int32) (l3 : Int32) (l4 : Int32) (l5 : Int32) (l6 : Int32) (l7 : Int32) (um : St), f_X9_wins_203 k_97 nn l1 l2 l3 l4 l5 l6 l7 um = some (r, um') → ∀ (H : Heap) (locs : List Loc) (ls : Array Slot), va_P D vwCl (wX9 cy g um) H → va_D A (wX9 cy g um) → va_S A s.heap H locs → lv_has ls 8 [(0, .ref (g 999)), (1, .int l1), (2, .int l2), (3, .int l3), (4, .int l4), (5, .int l5), (6, .int l6), (7, .int l7)] → W p l e (rmH 5) s m args below meth c H locs 0 0 (QI below args s A D cy (wX9 cy g um') r) (F0 m 203 ls []) := by
  obtain ⟨hx, hb, hr, hml, hown, hts, hlocks, hK, hA⟩ := id C0
  intro nn
  induction nn with
  | zero => intro l1 l2 l3 l4 l5 l6 l7 um h; rw [f_X9_wins_203] at h; cases h
  | succ nn ih =>
    intro l1 l2 l3 l4 l5 l6 l7 um h H locs ls hP hD hS hl
    rw [f_X9_wins_203] at h
    refine lv_iload hx hb dX9_wins_203 (lv_at hl 7 rfl) ?_
    refine lv_sipush (v := 256) hx hb dX9_wins_205 (by decide) ?_
    refine x_icmp_ge (tgt := 231) hx hb dX9_wins_208 (by decide) h (fun _ h => ?_) (fun _ h => ?_)
    · obtain ⟨v25, ev25, h⟩ := nm_ex h
      refine lv_iinc (v := v25) (lv' := [(6, .int v25), (0, .ref (g 999)), (1, .int l1), (2, .int l2), (3, .int l3), (4, .int l4), (5, .int l5), (7, .int l7)]) hx hb dX9_wins_231 hl (k := 6) rfl (by rw [ev25]; rfl) (by decide) rfl (fun ls hl => ?_)
      clear ev25
      refine lv_goto (tgt := 97) hx hb dX9_wins_234 (by decide) ?_
      exact hk_97 l1 l2 l3 l4 l5 v25 um h _ _ ls hP hD hS (lv_sub hl [1, 2, 3, 4, 5, 6, 0] rfl)
    · refine lv_aload_n hx hb dX9_wins_211 rfl (lv_at hl 0 rfl) ?_
      refine va_get (D := D) (ci := 8) (v := .ref (g 911)) (C := RX9) (T := TX9) (N := 38) hx hb hts ki_X9_wins_X9 hown hK hP 0 rfl rfl 11 (by decide) (hts _ k_X9_wins_0) (fun _ h9 => h9) rfl dX9_wins_212 ?_
      refine lv_iload hx hb dX9_wins_215 (lv_at hl 7 rfl) ?_
      refine lv_aload_n hx hb dX9_wins_217 rfl (lv_at hl 0 rfl) ?_
      refine va_get (D := D) (ci := 8) (v := .ref (g 912)) (C := RX9) (T := TX9) (N := 38) hx hb hts ki_X9_wins_X9 hown hK hP 0 rfl rfl 12 (by decide) (hts _ k_X9_wins_2) (fun _ h9 => h9) rfl dX9_wins_218 ?_
      refine lv_iload hx hb dX9_wins_221 (lv_at hl 7 rfl) ?_
      refine x_zald hx hb hK hP 11 rfl rfl h dX9_wins_223 (fun v26 h => ?_)
      refine x_zast (Wd := (fun uz => wX9 cy g uz)) (u := um) (k := 11) hx hb hK hP hD hS 10 rfl rfl (fun _ => rfl) h dX9_wins_224 (fun um27 H locs h hP hD hS => ?_)
      obtain ⟨v28, ev28, h⟩ := nm_ex h
      refine lv_iinc (v := v28) (lv' := [(7, .int v28), (0, .ref (g 999)), (1, .int l1), (2, .int l2), (3, .int l3), (4, .int l4), (5, .int l5), (6, .int l6)]) hx hb dX9_wins_225 hl (k := 7) rfl (by rw [ev28]; rfl) (by decide) rfl (fun ls hl => ?_)
      clear ev28
      refine lv_goto (tgt := 203) hx hb dX9_wins_228 (by decide) ?_
      exact ih l1 l2 l3 l4 l5 l6 v28 um27 h _ _ ls hP hD hS (lv_sub hl [1, 2, 3, 4, 5, 6, 7, 0] rfl)
set_option maxHeartbeats 4000000 in
set_option maxRecDepth 100000 in
theorem w_X9_wins_146 {p : Program} {l : Launch} {e : Env} {s : State} {m : MethodId} {below : List Frame} {meth : Method} {c : Code} {args : Array Value} {D : va_G} {cy : Nat → ClassId} {g : Nat → Nat} {A : Nat → Prop} {r : Int32} {um' : St} (C0 : Cx p s m meth c args cX9_wins 8 (some .int) wsX9_wins RX9 D cy A) {k_97 : Int32 → Int32 → Int32 → Int32 → Int32 → Int32 → St → Option (Int32 × St)} (hk_97 : ∀ (l1 : Int32) (l2 : Int32) (l3 : Int32) (l4 : Int32) (l5 : Int32) (l6 : Int32) (um : St), k_97 l1 l2 l3 l4 l5 l6 um = some (r, um') → ∀ (H : Heap) (locs : List Loc) (ls : Array Slot), va_P D vwCl (wX9 cy g um) H → va_D A (wX9 cy g um) → va_S A s.heap H locs → lv_has ls 8 [(0, .ref (g 999)), (1, .int l1), (2, .int l2), (3, .int l3), (4, .int l4), (5, .int l5), (6, .int l6)] → W p l e (rmH 5) s m args below meth c H locs 0 0 (QI below args s A D cy (wX9 cy g um') r) (F0 m 97 ls [])) : ∀ (nn : Nat) (l1 : Int32) (l2 : Int32) (l3 : Int32) (l4 : Int32) (l5 : Int32) (l6 : Int32) (l7 : Int32) (um : St), f_X9_wins_146 k_97 nn l1 l2 l3 l4 l5 l6 l7 um = some (r, um') → ∀ (H : Heap) (locs : List Loc) (ls : Array Slot), va_P D vwCl (wX9 cy g um) H → va_D A (wX9 cy g um) → va_S A s.heap H locs → lv_has ls 8 [(0, .ref (g 999)), (1, .int l1), (2, .int l2), (3, .int l3), (4, .int l4), (5, .int l5), (6, .int l6), (7, .int l7)] → W p l e (rmH 5) s m args below meth c H locs 0 0 (QI below args s A D cy (wX9 cy g um') r) (F0 m 146 ls []) := by
  obtain ⟨hx, hb, hr, hml, hown, hts, hlocks, hK, hA⟩ := id C0
  intro nn
  induction nn with
  | zero => intro l1 l2 l3 l4 l5 l6 l7 um h; rw [f_X9_wins_146] at h; cases h
  | succ nn ih =>
    intro l1 l2 l3 l4 l5 l6 l7 um h H locs ls hP hD hS hl
    rw [f_X9_wins_146] at h
    refine lv_iload hx hb dX9_wins_146 (lv_at hl 7 rfl) ?_
    refine lv_sipush (v := 256) hx hb dX9_wins_148 (by decide) ?_
    refine x_icmp_ge (tgt := 200) hx hb dX9_wins_151 (by decide) h (fun _ h => ?_) (fun _ h => ?_)
    · refine lv_iconst (v := 0) hx hb dX9_wins_200 (by decide) ?_
      refine lv_istore (lv' := [(7, .int (0 : Int32)), (0, .ref (g 999)), (1, .int l1), (2, .int l2), (3, .int l3), (4, .int l4), (5, .int l5), (6, .int l6)]) hx hb dX9_wins_201 hl (by decide) rfl (fun ls hl => ?_)
      exact w_X9_wins_203 C0 hk_97 FU l1 l2 l3 l4 l5 l6 (0 : Int32) um h _ _ ls hP hD hS (lv_sub hl [1, 2, 3, 4, 5, 6, 7, 0] rfl)
    · refine lv_aload_n hx hb dX9_wins_154 rfl (lv_at hl 0 rfl) ?_
      refine va_get (D := D) (ci := 8) (v := .ref (g 912)) (C := RX9) (T := TX9) (N := 38) hx hb hts ki_X9_wins_X9 hown hK hP 0 rfl rfl 12 (by decide) (hts _ k_X9_wins_2) (fun _ h9 => h9) rfl dX9_wins_155 ?_
      refine lv_iload hx hb dX9_wins_158 (lv_at hl 7 rfl) ?_
      refine lv_aload_n hx hb dX9_wins_160 rfl (lv_at hl 0 rfl) ?_
      refine va_get (D := D) (ci := 8) (v := .ref (g 911)) (C := RX9) (T := TX9) (N := 38) hx hb hts ki_X9_wins_X9 hown hK hP 0 rfl rfl 11 (by decide) (hts _ k_X9_wins_0) (fun _ h9 => h9) rfl dX9_wins_161 ?_
      refine lv_iload hx hb dX9_wins_164 (lv_at hl 7 rfl) ?_
      refine x_zald hx hb hK hP 10 rfl rfl h dX9_wins_166 (fun v22 h => ?_)
      refine x_if_ne (tgt := 188) hx hb dX9_wins_167 (by decide) h (fun _ h => ?_) (fun _ h => ?_)
      · refine lv_aload_n hx hb dX9_wins_170 rfl (lv_at hl 0 rfl) ?_
        refine lv_iload hx hb dX9_wins_171 (lv_at hl 7 rfl) ?_
        refine lv_bipush (v := 16) hx hb dX9_wins_173 (by decide) ?_
        refine lv_idiv hx hb dX9_wins_175 (by decide) ?_
        refine lv_iload hx hb dX9_wins_176 (lv_at hl 7 rfl) ?_
        refine lv_bipush (v := 16) hx hb dX9_wins_178 (by decide) ?_
        refine lv_irem hx hb dX9_wins_180 (by decide) ?_
        refine lv_iload_n hx hb dX9_wins_181 rfl (lv_at hl 1 rfl) ?_
        obtain ⟨r23, e24, h⟩ := bd_some h
        refine x_callVI (As := [.int (l7 / (16 : Int32)), .int (l7 - l7 / (16 : Int32) * (16 : Int32)), .int l1]) (rest := [.int l7, .ref (g 912)]) (n := 3) ⟨hx, hb, hml, hown, hts⟩ (c_X9_winsLater l D cy g um (l7 / (16 : Int32)) (l7 - l7 / (16 : Int32) * (16 : Int32)) l1 r23 e24) gX9_wins_X9_winsLater rfl hd_X9_winsLater ⟨Nat.le_of_ble_eq_true rfl, Nat.le_of_ble_eq_true rfl⟩ ⟨rfl, rfl⟩ hK (sp_all _) (sp_all _) hP hD hS hA 0 rfl rfl rfl hl.1 rfl (Nat.le_of_ble_eq_true rfl) dX9_wins_182 ⟨Nat.zero_le _, Nat.zero_le _⟩ (fun H locs hP hD hS => ?_)
        clear e24
        refine x_if_eq (tgt := 192) hx hb dX9_wins_185 (by decide) h (fun _ h => ?_) (fun _ h => ?_)
        · refine lv_iconst (v := 0) hx hb dX9_wins_192 (by decide) ?_
          exact w_X9_wins_193 C0 hk_97 ih l1 l2 l3 l4 l5 l6 l7 (0 : Int32) l7 um h _ _ ls hP hD hS (lv_sub hl [0, 1, 2, 3, 4, 5, 6, 7] rfl)
        · exact w_X9_wins_188 C0 hk_97 ih l1 l2 l3 l4 l5 l6 l7 l7 um h _ _ ls hP hD hS (lv_sub hl [0, 1, 2, 3, 4, 5, 6, 7] rfl)
      · exact w_X9_wins_188 C0 hk_97 ih l1 l2 l3 l4 l5 l6 l7 l7 um h _ _ ls hP hD hS (lv_sub hl [0, 1, 2, 3, 4, 5, 6, 7] rfl)
set_option maxHeartbeats 4000000 in
set_option maxRecDepth 100000 in
theorem w_X9_wins_107 {p : Program} {l : Launch} {e : Env} {s : State} {m : MethodId} {below : List Frame} {meth : Method} {c : Code} {args : Array Value} {D : va_G} {cy : Nat → ClassId} {g : Nat → Nat} {A : Nat → Prop} {r : Int32} {um' : St} (C0 : Cx p s m meth c args cX9_wins 8 (some .int) wsX9_wins RX9 D cy A) {k_97 : Int32 → Int32 → Int32 → Int32 → Int32 → Int32 → St → Option (Int32 × St)} (hk_97 : ∀ (l1 : Int32) (l2 : Int32) (l3 : Int32) (l4 : Int32) (l5 : Int32) (l6 : Int32) (um : St), k_97 l1 l2 l3 l4 l5 l6 um = some (r, um') → ∀ (H : Heap) (locs : List Loc) (ls : Array Slot), va_P D vwCl (wX9 cy g um) H → va_D A (wX9 cy g um) → va_S A s.heap H locs → lv_has ls 8 [(0, .ref (g 999)), (1, .int l1), (2, .int l2), (3, .int l3), (4, .int l4), (5, .int l5), (6, .int l6)] → W p l e (rmH 5) s m args below meth c H locs 0 0 (QI below args s A D cy (wX9 cy g um') r) (F0 m 97 ls [])) : ∀ (nn : Nat) (l1 : Int32) (l2 : Int32) (l3 : Int32) (l4 : Int32) (l5 : Int32) (l6 : Int32) (l7 : Int32) (um : St), f_X9_wins_107 k_97 nn l1 l2 l3 l4 l5 l6 l7 um = some (r, um') → ∀ (H : Heap) (locs : List Loc) (ls : Array Slot), va_P D vwCl (wX9 cy g um) H → va_D A (wX9 cy g um) → va_S A s.heap H locs → lv_has ls 8 [(0, .ref (g 999)), (1, .int l1), (2, .int l2), (3, .int l3), (4, .int l4), (5, .int l5), (6, .int l6), (7, .int l7)] → W p l e (rmH 5) s m args below meth c H locs 0 0 (QI below args s A D cy (wX9 cy g um') r) (F0 m 107 ls []) := by
  obtain ⟨hx, hb, hr, hml, hown, hts, hlocks, hK, hA⟩ := id C0
  intro nn
  induction nn with
  | zero => intro l1 l2 l3 l4 l5 l6 l7 um h; rw [f_X9_wins_107] at h; cases h
  | succ nn ih =>
    intro l1 l2 l3 l4 l5 l6 l7 um h H locs ls hP hD hS hl
    rw [f_X9_wins_107] at h
    refine lv_iload hx hb dX9_wins_107 (lv_at hl 7 rfl) ?_
    refine lv_sipush (v := 256) hx hb dX9_wins_109 (by decide) ?_
    refine x_icmp_ge (tgt := 143) hx hb dX9_wins_112 (by decide) h (fun _ h => ?_) (fun _ h => ?_)
    · refine lv_iconst (v := 0) hx hb dX9_wins_143 (by decide) ?_
      refine lv_istore (lv' := [(7, .int (0 : Int32)), (0, .ref (g 999)), (1, .int l1), (2, .int l2), (3, .int l3), (4, .int l4), (5, .int l5), (6, .int l6)]) hx hb dX9_wins_144 hl (by decide) rfl (fun ls hl => ?_)
      exact w_X9_wins_146 C0 hk_97 FU l1 l2 l3 l4 l5 l6 (0 : Int32) um h _ _ ls hP hD hS (lv_sub hl [1, 2, 3, 4, 5, 6, 7, 0] rfl)
    · refine lv_aload_n hx hb dX9_wins_115 rfl (lv_at hl 0 rfl) ?_
      refine va_get (D := D) (ci := 8) (v := .ref (g 913)) (C := RX9) (T := TX9) (N := 38) hx hb hts ki_X9_wins_X9 hown hK hP 0 rfl rfl 13 (by decide) (hts _ k_X9_wins_1) (fun _ h9 => h9) rfl dX9_wins_116 ?_
      refine lv_iload hx hb dX9_wins_119 (lv_at hl 7 rfl) ?_
      refine lv_aload_n hx hb dX9_wins_121 rfl (lv_at hl 0 rfl) ?_
      refine lv_iload hx hb dX9_wins_122 (lv_at hl 7 rfl) ?_
      refine lv_bipush (v := 16) hx hb dX9_wins_124 (by decide) ?_
      refine lv_idiv hx hb dX9_wins_126 (by decide) ?_
      refine lv_iload hx hb dX9_wins_127 (lv_at hl 7 rfl) ?_
      refine lv_bipush (v := 16) hx hb dX9_wins_129 (by decide) ?_
      refine lv_irem hx hb dX9_wins_131 (by decide) ?_
      refine lv_iload_n hx hb dX9_wins_132 rfl (lv_at hl 2 rfl) ?_
      obtain ⟨r18, e19, h⟩ := bd_some h
      refine x_callVI (As := [.int (l7 / (16 : Int32)), .int (l7 - l7 / (16 : Int32) * (16 : Int32)), .int l2]) (rest := [.int l7, .ref (g 913)]) (n := 3) ⟨hx, hb, hml, hown, hts⟩ (c_X9_holdsAll l D cy g um (l7 / (16 : Int32)) (l7 - l7 / (16 : Int32) * (16 : Int32)) l2 r18 e19) gX9_wins_X9_holdsAll rfl hd_X9_holdsAll ⟨Nat.le_of_ble_eq_true rfl, Nat.le_of_ble_eq_true rfl⟩ ⟨rfl, rfl⟩ hK (sp_all _) (sp_all _) hP hD hS hA 0 rfl rfl rfl hl.1 rfl (Nat.le_of_ble_eq_true rfl) dX9_wins_133 ⟨Nat.zero_le _, Nat.zero_le _⟩ (fun H locs hP hD hS => ?_)
      clear e19
      refine x_zast (Wd := (fun uz => wX9 cy g uz)) (u := um) (k := 13) hx hb hK hP hD hS 12 rfl rfl (fun _ => rfl) h dX9_wins_136 (fun um20 H locs h hP hD hS => ?_)
      obtain ⟨v21, ev21, h⟩ := nm_ex h
      refine lv_iinc (v := v21) (lv' := [(7, .int v21), (0, .ref (g 999)), (1, .int l1), (2, .int l2), (3, .int l3), (4, .int l4), (5, .int l5), (6, .int l6)]) hx hb dX9_wins_137 hl (k := 7) rfl (by rw [ev21]; rfl) (by decide) rfl (fun ls hl => ?_)
      clear ev21
      refine lv_goto (tgt := 107) hx hb dX9_wins_140 (by decide) ?_
      exact ih l1 l2 l3 l4 l5 l6 v21 um20 h _ _ ls hP hD hS (lv_sub hl [1, 2, 3, 4, 5, 6, 7, 0] rfl)
set_option maxHeartbeats 4000000 in
set_option maxRecDepth 100000 in
theorem w_X9_wins_97 {p : Program} {l : Launch} {e : Env} {s : State} {m : MethodId} {below : List Frame} {meth : Method} {c : Code} {args : Array Value} {D : va_G} {cy : Nat → ClassId} {g : Nat → Nat} {A : Nat → Prop} {r : Int32} {um' : St} (C0 : Cx p s m meth c args cX9_wins 8 (some .int) wsX9_wins RX9 D cy A) : ∀ (nn : Nat) (l1 : Int32) (l2 : Int32) (l3 : Int32) (l4 : Int32) (l5 : Int32) (l6 : Int32) (um : St), f_X9_wins_97 nn l1 l2 l3 l4 l5 l6 um = some (r, um') → ∀ (H : Heap) (locs : List Loc) (ls : Array Slot), va_P D vwCl (wX9 cy g um) H → va_D A (wX9 cy g um) → va_S A s.heap H locs → lv_has ls 8 [(0, .ref (g 999)), (1, .int l1), (2, .int l2), (3, .int l3), (4, .int l4), (5, .int l5), (6, .int l6)] → W p l e (rmH 5) s m args below meth c H locs 0 0 (QI below args s A D cy (wX9 cy g um') r) (F0 m 97 ls []) := by
  obtain ⟨hx, hb, hr, hml, hown, hts, hlocks, hK, hA⟩ := id C0
  intro nn
  induction nn with
  | zero => intro l1 l2 l3 l4 l5 l6 um h; rw [f_X9_wins_97] at h; cases h
  | succ nn ih =>
    intro l1 l2 l3 l4 l5 l6 um h H locs ls hP hD hS hl
    rw [f_X9_wins_97] at h
    refine lv_iload hx hb dX9_wins_97 (lv_at hl 6 rfl) ?_
    refine lv_iload hx hb dX9_wins_99 (lv_at hl 5 rfl) ?_
    refine x_icmp_gt (tgt := 237) hx hb dX9_wins_101 (by decide) h (fun _ h => ?_) (fun _ h => ?_)
    · refine lv_aload_n hx hb dX9_wins_237 rfl (lv_at hl 0 rfl) ?_
      refine va_get (D := D) (ci := 8) (v := .ref (g 911)) (C := RX9) (T := TX9) (N := 38) hx hb hts ki_X9_wins_X9 hown hK hP 0 rfl rfl 11 (by decide) (hts _ k_X9_wins_0) (fun _ h9 => h9) rfl dX9_wins_238 ?_
      refine lv_bipush (v := 16) hx hb dX9_wins_241 (by decide) ?_
      refine lv_iload_n hx hb dX9_wins_243 rfl (lv_at hl 3 rfl) ?_
      refine lv_imul hx hb dX9_wins_244 ?_
      refine lv_iload hx hb dX9_wins_245 (lv_at hl 4 rfl) ?_
      refine lv_iadd hx hb dX9_wins_247 ?_
      refine x_zald hx hb hK hP 10 rfl rfl h dX9_wins_248 (fun v17 h => ?_)
      refine x_if_eq (tgt := 256) hx hb dX9_wins_249 (by decide) h (fun _ h => ?_) (fun _ h => ?_)
      · refine lv_iconst (v := 0) hx hb dX9_wins_256 (by decide) ?_
        cases h
        exact x_iret hx hb hr hlocks hK hP hD hS dX9_wins_257 rfl rfl
      · refine lv_iconst (v := 1) hx hb dX9_wins_252 (by decide) ?_
        refine lv_goto (tgt := 257) hx hb dX9_wins_253 (by decide) ?_
        cases h
        exact x_iret hx hb hr hlocks hK hP hD hS dX9_wins_257 rfl rfl
    · refine lv_iconst (v := 0) hx hb dX9_wins_104 (by decide) ?_
      refine lv_istore (lv' := [(7, .int (0 : Int32)), (0, .ref (g 999)), (1, .int l1), (2, .int l2), (3, .int l3), (4, .int l4), (5, .int l5), (6, .int l6)]) hx hb dX9_wins_105 hl (by decide) rfl (fun ls hl => ?_)
      exact w_X9_wins_107 C0 ih FU l1 l2 l3 l4 l5 l6 (0 : Int32) um h _ _ ls hP hD hS (lv_sub hl [1, 2, 3, 4, 5, 6, 7, 0] rfl)
set_option maxHeartbeats 4000000 in
set_option maxRecDepth 100000 in
theorem w_X9_wins_59 {p : Program} {l : Launch} {e : Env} {s : State} {m : MethodId} {below : List Frame} {meth : Method} {c : Code} {args : Array Value} {D : va_G} {cy : Nat → ClassId} {g : Nat → Nat} {A : Nat → Prop} {r : Int32} {um' : St} (C0 : Cx p s m meth c args cX9_wins 8 (some .int) wsX9_wins RX9 D cy A) : ∀ (nn : Nat) (l1 : Int32) (l2 : Int32) (l3 : Int32) (l4 : Int32) (l5 : Int32) (l6 : Int32) (um : St), f_X9_wins_59 nn l1 l2 l3 l4 l5 l6 um = some (r, um') → ∀ (H : Heap) (locs : List Loc) (ls : Array Slot), va_P D vwCl (wX9 cy g um) H → va_D A (wX9 cy g um) → va_S A s.heap H locs → lv_has ls 8 [(0, .ref (g 999)), (1, .int l1), (2, .int l2), (3, .int l3), (4, .int l4), (5, .int l5), (6, .int l6)] → W p l e (rmH 5) s m args below meth c H locs 0 0 (QI below args s A D cy (wX9 cy g um') r) (F0 m 59 ls []) := by
  obtain ⟨hx, hb, hr, hml, hown, hts, hlocks, hK, hA⟩ := id C0
  intro nn
  induction nn with
  | zero => intro l1 l2 l3 l4 l5 l6 um h; rw [f_X9_wins_59] at h; cases h
  | succ nn ih =>
    intro l1 l2 l3 l4 l5 l6 um h H locs ls hP hD hS hl
    rw [f_X9_wins_59] at h
    refine lv_iload hx hb dX9_wins_59 (lv_at hl 6 rfl) ?_
    refine lv_sipush (v := 256) hx hb dX9_wins_61 (by decide) ?_
    refine x_icmp_ge (tgt := 94) hx hb dX9_wins_64 (by decide) h (fun _ h => ?_) (fun _ h => ?_)
    · refine lv_iconst (v := 2) hx hb dX9_wins_94 (by decide) ?_
      refine lv_istore (lv' := [(6, .int (2 : Int32)), (0, .ref (g 999)), (1, .int l1), (2, .int l2), (3, .int l3), (4, .int l4), (5, .int l5)]) hx hb dX9_wins_95 hl (by decide) rfl (fun ls hl => ?_)
      exact w_X9_wins_97 C0 FU l1 l2 l3 l4 l5 (2 : Int32) um h _ _ ls hP hD hS (lv_sub hl [1, 2, 3, 4, 5, 6, 0] rfl)
    · refine lv_aload_n hx hb dX9_wins_67 rfl (lv_at hl 0 rfl) ?_
      refine va_get (D := D) (ci := 8) (v := .ref (g 911)) (C := RX9) (T := TX9) (N := 38) hx hb hts ki_X9_wins_X9 hown hK hP 0 rfl rfl 11 (by decide) (hts _ k_X9_wins_0) (fun _ h9 => h9) rfl dX9_wins_68 ?_
      refine lv_iload hx hb dX9_wins_71 (lv_at hl 6 rfl) ?_
      refine lv_aload_n hx hb dX9_wins_73 rfl (lv_at hl 0 rfl) ?_
      refine lv_iload hx hb dX9_wins_74 (lv_at hl 6 rfl) ?_
      refine lv_bipush (v := 16) hx hb dX9_wins_76 (by decide) ?_
      refine lv_idiv hx hb dX9_wins_78 (by decide) ?_
      refine lv_iload hx hb dX9_wins_79 (lv_at hl 6 rfl) ?_
      refine lv_bipush (v := 16) hx hb dX9_wins_81 (by decide) ?_
      refine lv_irem hx hb dX9_wins_83 (by decide) ?_
      obtain ⟨r13, e14, h⟩ := bd_some h
      refine x_callVI (As := [.int (l6 / (16 : Int32)), .int (l6 - l6 / (16 : Int32) * (16 : Int32))]) (rest := [.int l6, .ref (g 911)]) (n := 2) ⟨hx, hb, hml, hown, hts⟩ (c_X9_winsNow l D cy g um (l6 / (16 : Int32)) (l6 - l6 / (16 : Int32) * (16 : Int32)) r13 e14) gX9_wins_X9_winsNow rfl hd_X9_winsNow ⟨Nat.le_of_ble_eq_true rfl, Nat.le_of_ble_eq_true rfl⟩ ⟨rfl, rfl⟩ hK (sp_all _) (sp_all _) hP hD hS hA 0 rfl rfl rfl hl.1 rfl (Nat.le_of_ble_eq_true rfl) dX9_wins_84 ⟨Nat.zero_le _, Nat.zero_le _⟩ (fun H locs hP hD hS => ?_)
      clear e14
      refine x_zast (Wd := (fun uz => wX9 cy g uz)) (u := um) (k := 11) hx hb hK hP hD hS 10 rfl rfl (fun _ => rfl) h dX9_wins_87 (fun um15 H locs h hP hD hS => ?_)
      obtain ⟨v16, ev16, h⟩ := nm_ex h
      refine lv_iinc (v := v16) (lv' := [(6, .int v16), (0, .ref (g 999)), (1, .int l1), (2, .int l2), (3, .int l3), (4, .int l4), (5, .int l5)]) hx hb dX9_wins_88 hl (k := 6) rfl (by rw [ev16]; rfl) (by decide) rfl (fun ls hl => ?_)
      clear ev16
      refine lv_goto (tgt := 59) hx hb dX9_wins_91 (by decide) ?_
      exact ih l1 l2 l3 l4 l5 v16 um15 h _ _ ls hP hD hS (lv_sub hl [1, 2, 3, 4, 5, 6, 0] rfl)
set_option maxHeartbeats 4000000 in
set_option maxRecDepth 100000 in
theorem c_X9_wins (l : Launch) (D : va_G) (cy : Nat → ClassId) (g : Nat → Nat) (um : St) (p0 : Int32) (p1 : Int32) (p2 : Int32) (p3 : Int32) (p4 : Int32) (r : Int32) (um' : St) (h : f_X9_wins p0 p1 p2 p3 p4 um = some (r, um')) : CtI l yX9_wins wsX9_wins (rmH 5) [.ref (g 999), .int p0, .int p1, .int p2, .int p3, .int p4] D cy (wX9 cy g um) (wX9 cy g um') r := by
  refine ct_enter (D := D) (cy := cy) (cc := cX9_wins) (maxL := 8) (ret := (some .int)) (w := wX9 cy g um) (Qc := fun sz => va_Qi (fun r' (_ : Unit) => r' = r) (Bw D cy (va_A (wX9 cy g um) sz) (wX9 cy g um')) (va_A (wX9 cy g um) sz)) (by decide) rfl (Nat.le_of_ble_eq_true rfl) ?_
  intro p e s m below meth c A C0 hAe ls hl hP hD hS
  have e1 : MQ below ((fun sz => va_Qi (fun r' (_ : Unit) => r' = r) (Bw D cy (va_A (wX9 cy g um) sz) (wX9 cy g um')) (va_A (wX9 cy g um) sz)) s.heap.size) [.ref (g 999), .int p0, .int p1, .int p2, .int p3, .int p4].toArray s 0 0 A = QI below [.ref (g 999), .int p0, .int p1, .int p2, .int p3, .int p4].toArray s A D cy (wX9 cy g um') r := by rw [hAe]; rfl
  rw [e1]
  clear e1 hAe
  obtain ⟨hx, hb, hr, hml, hown, hts, hlocks, hK, hA⟩ := id C0
  have hl : lv_has ls 8 [(0, .ref (g 999)), (1, .int p0), (2, .int p1), (3, .int p2), (4, .int p3), (5, .int p4)] := hl
  rw [f_X9_wins] at h
  refine lv_iload_n hx hb dX9_wins_0 rfl (lv_at hl 1 rfl) ?_
  obtain ⟨r1, e2, h⟩ := bd_some h
  refine x_callSI (As := [.int p0]) (rest := []) (n := 1) ⟨hx, hb, hml, hown, hts⟩ (c_X9_isPlayer l D cy  p0 r1 e2) gX9_wins_X9_isPlayer rfl hd_X9_isPlayer ⟨Nat.le_of_ble_eq_true rfl, Nat.le_of_ble_eq_true rfl⟩ ⟨rfl, rfl⟩ hK (sp_nil _) (sp_nil _) hP hD hS hA rfl hl.1 rfl (Nat.le_of_ble_eq_true rfl) dX9_wins_1 ⟨Nat.zero_le _, Nat.zero_le _⟩ (fun H locs hP hD hS => ?_)
  clear e2
  refine x_if_eq (tgt := 29) hx hb dX9_wins_4 (by decide) h (fun _ h => ?_) (fun _ h => ?_)
  · refine lv_bipush (v := -2) hx hb dX9_wins_29 (by decide) ?_
    cases h
    exact x_iret hx hb hr hlocks hK hP hD hS dX9_wins_31 rfl rfl
  · refine lv_iload_n hx hb dX9_wins_7 rfl (lv_at hl 2 rfl) ?_
    obtain ⟨r3, e4, h⟩ := bd_some h
    refine x_callSI (As := [.int p1]) (rest := []) (n := 1) ⟨hx, hb, hml, hown, hts⟩ (c_X9_isPlayer l D cy  p1 r3 e4) gX9_wins_X9_isPlayer rfl hd_X9_isPlayer ⟨Nat.le_of_ble_eq_true rfl, Nat.le_of_ble_eq_true rfl⟩ ⟨rfl, rfl⟩ hK (sp_nil _) (sp_nil _) hP hD hS hA rfl hl.1 rfl (Nat.le_of_ble_eq_true rfl) dX9_wins_8 ⟨Nat.zero_le _, Nat.zero_le _⟩ (fun H locs hP hD hS => ?_)
    clear e4
    refine x_if_eq (tgt := 29) hx hb dX9_wins_11 (by decide) h (fun _ h => ?_) (fun _ h => ?_)
    · refine lv_bipush (v := -2) hx hb dX9_wins_29 (by decide) ?_
      cases h
      exact x_iret hx hb hr hlocks hK hP hD hS dX9_wins_31 rfl rfl
    · refine lv_iload_n hx hb dX9_wins_14 rfl (lv_at hl 3 rfl) ?_
      obtain ⟨r5, e6, h⟩ := bd_some h
      refine x_callSI (As := [.int p2]) (rest := []) (n := 1) ⟨hx, hb, hml, hown, hts⟩ (c_X9_isCell l D cy  p2 r5 e6) gX9_wins_X9_isCell rfl hd_X9_isCell ⟨Nat.le_of_ble_eq_true rfl, Nat.le_of_ble_eq_true rfl⟩ ⟨rfl, rfl⟩ hK (sp_nil _) (sp_nil _) hP hD hS hA rfl hl.1 rfl (Nat.le_of_ble_eq_true rfl) dX9_wins_15 ⟨Nat.zero_le _, Nat.zero_le _⟩ (fun H locs hP hD hS => ?_)
      clear e6
      refine x_if_eq (tgt := 29) hx hb dX9_wins_18 (by decide) h (fun _ h => ?_) (fun _ h => ?_)
      · refine lv_bipush (v := -2) hx hb dX9_wins_29 (by decide) ?_
        cases h
        exact x_iret hx hb hr hlocks hK hP hD hS dX9_wins_31 rfl rfl
      · refine lv_iload hx hb dX9_wins_21 (lv_at hl 4 rfl) ?_
        obtain ⟨r7, e8, h⟩ := bd_some h
        refine x_callSI (As := [.int p3]) (rest := []) (n := 1) ⟨hx, hb, hml, hown, hts⟩ (c_X9_isCell l D cy  p3 r7 e8) gX9_wins_X9_isCell rfl hd_X9_isCell ⟨Nat.le_of_ble_eq_true rfl, Nat.le_of_ble_eq_true rfl⟩ ⟨rfl, rfl⟩ hK (sp_nil _) (sp_nil _) hP hD hS hA rfl hl.1 rfl (Nat.le_of_ble_eq_true rfl) dX9_wins_23 ⟨Nat.zero_le _, Nat.zero_le _⟩ (fun H locs hP hD hS => ?_)
        clear e8
        refine x_if_ne (tgt := 32) hx hb dX9_wins_26 (by decide) h (fun _ h => ?_) (fun _ h => ?_)
        · refine lv_bipush (v := -2) hx hb dX9_wins_29 (by decide) ?_
          cases h
          exact x_iret hx hb hr hlocks hK hP hD hS dX9_wins_31 rfl rfl
        · refine lv_iload hx hb dX9_wins_32 (lv_at hl 5 rfl) ?_
          refine lv_iconst (v := 1) hx hb dX9_wins_34 (by decide) ?_
          refine lv_iconst (v := 4) hx hb dX9_wins_35 (by decide) ?_
          obtain ⟨r9, e10, h⟩ := bd_some h
          refine x_callSI (As := [.int p4, .int (1 : Int32), .int (4 : Int32)]) (rest := []) (n := 3) ⟨hx, hb, hml, hown, hts⟩ (c_X9_in l D cy  p4 (1 : Int32) (4 : Int32) r9 e10) gX9_wins_X9_in rfl hd_X9_in ⟨Nat.le_of_ble_eq_true rfl, Nat.le_of_ble_eq_true rfl⟩ ⟨rfl, rfl⟩ hK (sp_nil _) (sp_nil _) hP hD hS hA rfl hl.1 rfl (Nat.le_of_ble_eq_true rfl) dX9_wins_36 ⟨Nat.zero_le _, Nat.zero_le _⟩ (fun H locs hP hD hS => ?_)
          clear e10
          refine x_if_eq (tgt := 47) hx hb dX9_wins_39 (by decide) h (fun _ h => ?_) (fun _ h => ?_)
          · refine lv_bipush (v := -3) hx hb dX9_wins_47 (by decide) ?_
            cases h
            exact x_iret hx hb hr hlocks hK hP hD hS dX9_wins_49 rfl rfl
          · refine lv_iload_n hx hb dX9_wins_42 rfl (lv_at hl 1 rfl) ?_
            refine lv_iload_n hx hb dX9_wins_43 rfl (lv_at hl 2 rfl) ?_
            refine x_icmp_ne (tgt := 50) hx hb dX9_wins_44 (by decide) h (fun _ h => ?_) (fun _ h => ?_)
            · refine lv_bipush (v := -3) hx hb dX9_wins_47 (by decide) ?_
              cases h
              exact x_iret hx hb hr hlocks hK hP hD hS dX9_wins_49 rfl rfl
            · refine lv_aload_n hx hb dX9_wins_50 rfl (lv_at hl 0 rfl) ?_
              refine lv_iload_n hx hb dX9_wins_51 rfl (lv_at hl 1 rfl) ?_
              refine lv_iload_n hx hb dX9_wins_52 rfl (lv_at hl 2 rfl) ?_
              obtain ⟨um11, e12, h⟩ := bd_some h
              refine x_callVV (As := [.int p0, .int p1]) (rest := []) (n := 2) ⟨hx, hb, hml, hown, hts⟩ (c_X9_findMeetings l D cy g um p0 p1 um11 e12) gX9_wins_X9_findMeetings rfl hd_X9_findMeetings ⟨Nat.le_of_ble_eq_true rfl, Nat.le_of_ble_eq_true rfl⟩ ⟨rfl, rfl⟩ hK (sp_all _) (sp_all _) hP hD hS hA 0 rfl rfl rfl hl.1 rfl (Nat.le_of_ble_eq_true rfl) dX9_wins_53 ⟨Nat.zero_le _, Nat.zero_le _⟩ (fun H locs hP hD hS => ?_)
              clear e12
              refine lv_iconst (v := 0) hx hb dX9_wins_56 (by decide) ?_
              refine lv_istore (lv' := [(6, .int (0 : Int32)), (0, .ref (g 999)), (1, .int p0), (2, .int p1), (3, .int p2), (4, .int p3), (5, .int p4)]) hx hb dX9_wins_57 hl (by decide) rfl (fun ls hl => ?_)
              exact w_X9_wins_59 C0 FU p0 p1 p2 p3 p4 (0 : Int32) um11 h _ _ ls hP hD hS (lv_sub hl [1, 2, 3, 4, 5, 6, 0] rfl)
theorem k_X9_alone_0 : Cond.fieldLink RX9 47 "FeatherHallModel" "scores" "[I" ∈ wsX9_alone := (List.mem_cons_of_mem _ (List.mem_append_left _ (List.mem_of_getElem? (i := 0) rfl)))
theorem ki_X9_alone_X9 : ∀ w ∈ u_ws RX9 TX9 38, w ∈ wsX9_alone := fun _ hh => (List.mem_cons_of_mem _ (List.mem_append_right _ hh))
theorem hd_X9_alone : yX9_alone.cls = RX9 ∧ yX9_alone.cls ≠ "java/lang/invoke/MethodHandle" ∧ yX9_alone.cls ≠ "java/lang/invoke/VarHandle" ∧ (parseMethodDescriptor yX9_alone.desc).map (fun d => d.parameters.length) = some 0 := by decide +kernel
set_option maxHeartbeats 4000000 in
set_option maxRecDepth 100000 in
theorem w_X9_alone_29 {p : Program} {l : Launch} {e : Env} {s : State} {m : MethodId} {below : List Frame} {meth : Method} {c : Code} {args : Array Value} {D : va_G} {cy : Nat → ClassId} {g : Nat → Nat} {A : Nat → Prop} {um : St} {r : Int32} (C0 : Cx p s m meth c args cX9_alone 3 (some .int) wsX9_alone RX9 D cy A) {k_4 : Int32 → Int32 → Option (Int32)} (hk_4 : ∀ (l1 : Int32) (l2 : Int32), k_4 l1 l2 = some r → ∀ (H : Heap) (locs : List Loc) (ls : Array Slot), va_P D vwCl (wX9 cy g um) H → va_D A (wX9 cy g um) → va_S A s.heap H locs → lv_has ls 3 [(0, .ref (g 999)), (1, .int l1), (2, .int l2)] → W p l e (rmH 0) s m args below meth c H locs 0 0 (QI below args s A D cy (wX9 cy g um) r) (F0 m 4 ls [])) : ∀ (l2 : Int32) (s0 : Int32), f_X9_alone_29 um k_4 l2 s0 = some r → ∀ (H : Heap) (locs : List Loc) (ls : Array Slot), va_P D vwCl (wX9 cy g um) H → va_D A (wX9 cy g um) → va_S A s.heap H locs → lv_has ls 3 [(0, .ref (g 999)), (2, .int l2)] → W p l e (rmH 0) s m args below meth c H locs 0 0 (QI below args s A D cy (wX9 cy g um) r) (F0 m 29 ls [.int s0]) := by
  obtain ⟨hx, hb, hr, hml, hown, hts, hlocks, hK, hA⟩ := id C0
  intro l2 s0 h H locs ls hP hD hS hl
  rw [f_X9_alone_29] at h
  refine lv_istore_n (lv' := [(1, .int s0), (0, .ref (g 999)), (2, .int l2)]) hx hb dX9_alone_29 rfl hl (by decide) rfl (fun ls hl => ?_)
  obtain ⟨v3, ev3, h⟩ := nm_ex h
  refine lv_iinc (v := v3) (lv' := [(2, .int v3), (1, .int s0), (0, .ref (g 999))]) hx hb dX9_alone_30 hl (k := 2) rfl (by rw [ev3]; rfl) (by decide) rfl (fun ls hl => ?_)
  clear ev3
  refine lv_goto (tgt := 4) hx hb dX9_alone_33 (by decide) ?_
  exact hk_4 s0 v3 h _ _ ls hP hD hS (lv_sub hl [2, 1, 0] rfl)
set_option maxHeartbeats 4000000 in
set_option maxRecDepth 100000 in
theorem w_X9_alone_4 {p : Program} {l : Launch} {e : Env} {s : State} {m : MethodId} {below : List Frame} {meth : Method} {c : Code} {args : Array Value} {D : va_G} {cy : Nat → ClassId} {g : Nat → Nat} {A : Nat → Prop} {um : St} {r : Int32} (C0 : Cx p s m meth c args cX9_alone 3 (some .int) wsX9_alone RX9 D cy A) : ∀ (nn : Nat) (l1 : Int32) (l2 : Int32), f_X9_alone_4 um nn l1 l2 = some r → ∀ (H : Heap) (locs : List Loc) (ls : Array Slot), va_P D vwCl (wX9 cy g um) H → va_D A (wX9 cy g um) → va_S A s.heap H locs → lv_has ls 3 [(0, .ref (g 999)), (1, .int l1), (2, .int l2)] → W p l e (rmH 0) s m args below meth c H locs 0 0 (QI below args s A D cy (wX9 cy g um) r) (F0 m 4 ls []) := by
  obtain ⟨hx, hb, hr, hml, hown, hts, hlocks, hK, hA⟩ := id C0
  intro nn
  induction nn with
  | zero => intro l1 l2 h; rw [f_X9_alone_4] at h; cases h
  | succ nn ih =>
    intro l1 l2 h H locs ls hP hD hS hl
    rw [f_X9_alone_4] at h
    refine lv_iload_n hx hb dX9_alone_4 rfl (lv_at hl 2 rfl) ?_
    refine lv_iconst (v := 3) hx hb dX9_alone_5 (by decide) ?_
    refine x_icmp_ge (tgt := 36) hx hb dX9_alone_6 (by decide) h (fun _ h => ?_) (fun _ h => ?_)
    · refine lv_iload_n hx hb dX9_alone_36 rfl (lv_at hl 1 rfl) ?_
      cases h
      exact x_iret hx hb hr hlocks hK hP hD hS dX9_alone_37 rfl rfl
    · refine lv_aload_n hx hb dX9_alone_9 rfl (lv_at hl 0 rfl) ?_
      refine va_get (D := D) (ci := 8) (v := .ref (g 914)) (C := RX9) (T := TX9) (N := 38) hx hb hts ki_X9_alone_X9 hown hK hP 0 rfl rfl 14 (by decide) (hts _ k_X9_alone_0) (fun _ h9 => h9) rfl dX9_alone_10 ?_
      refine lv_iload_n hx hb dX9_alone_13 rfl (lv_at hl 2 rfl) ?_
      refine x_iald hx hb hK hP 13 rfl rfl h dX9_alone_14 (fun v1 h => ?_)
      refine lv_aload_n hx hb dX9_alone_15 rfl (lv_at hl 0 rfl) ?_
      refine va_get (D := D) (ci := 8) (v := .ref (g 914)) (C := RX9) (T := TX9) (N := 38) hx hb hts ki_X9_alone_X9 hown hK hP 0 rfl rfl 14 (by decide) (hts _ k_X9_alone_0) (fun _ h9 => h9) rfl dX9_alone_16 ?_
      refine lv_iload_n hx hb dX9_alone_19 rfl (lv_at hl 1 rfl) ?_
      refine x_iald hx hb hK hP 13 rfl rfl h dX9_alone_20 (fun v2 h => ?_)
      refine x_icmp_le (tgt := 28) hx hb dX9_alone_21 (by decide) h (fun _ h => ?_) (fun _ h => ?_)
      · refine lv_iload_n hx hb dX9_alone_28 rfl (lv_at hl 1 rfl) ?_
        exact w_X9_alone_29 C0 ih l2 l1 h _ _ ls hP hD hS (lv_sub hl [0, 2] rfl)
      · refine lv_iload_n hx hb dX9_alone_24 rfl (lv_at hl 2 rfl) ?_
        refine lv_goto (tgt := 29) hx hb dX9_alone_25 (by decide) ?_
        exact w_X9_alone_29 C0 ih l2 l2 h _ _ ls hP hD hS (lv_sub hl [0, 2] rfl)
set_option maxHeartbeats 4000000 in
set_option maxRecDepth 100000 in
theorem c_X9_alone (l : Launch) (D : va_G) (cy : Nat → ClassId) (g : Nat → Nat) (um : St) (r : Int32) (h : f_X9_alone um = some r) : CtI l yX9_alone wsX9_alone (rmH 0) [.ref (g 999)] D cy (wX9 cy g um) (wX9 cy g um) r := by
  refine ct_enter (D := D) (cy := cy) (cc := cX9_alone) (maxL := 3) (ret := (some .int)) (w := wX9 cy g um) (Qc := fun sz => va_Qi (fun r' (_ : Unit) => r' = r) (Bw D cy (va_A (wX9 cy g um) sz) (wX9 cy g um)) (va_A (wX9 cy g um) sz)) (by decide) rfl (Nat.le_of_ble_eq_true rfl) ?_
  intro p e s m below meth c A C0 hAe ls hl hP hD hS
  have e1 : MQ below ((fun sz => va_Qi (fun r' (_ : Unit) => r' = r) (Bw D cy (va_A (wX9 cy g um) sz) (wX9 cy g um)) (va_A (wX9 cy g um) sz)) s.heap.size) [.ref (g 999)].toArray s 0 0 A = QI below [.ref (g 999)].toArray s A D cy (wX9 cy g um) r := by rw [hAe]; rfl
  rw [e1]
  clear e1 hAe
  obtain ⟨hx, hb, hr, hml, hown, hts, hlocks, hK, hA⟩ := id C0
  have hl : lv_has ls 3 [(0, .ref (g 999))] := hl
  rw [f_X9_alone] at h
  refine lv_iconst (v := 0) hx hb dX9_alone_0 (by decide) ?_
  refine lv_istore_n (lv' := [(1, .int (0 : Int32)), (0, .ref (g 999))]) hx hb dX9_alone_1 rfl hl (by decide) rfl (fun ls hl => ?_)
  refine lv_iconst (v := 1) hx hb dX9_alone_2 (by decide) ?_
  refine lv_istore_n (lv' := [(2, .int (1 : Int32)), (1, .int (0 : Int32)), (0, .ref (g 999))]) hx hb dX9_alone_3 rfl hl (by decide) rfl (fun ls hl => ?_)
  exact w_X9_alone_4 C0 FU (0 : Int32) (1 : Int32) h _ _ ls hP hD hS (lv_sub hl [2, 1, 0] rfl)
theorem k_X9_isOver_0 : Cond.fieldLink RX9 47 "FeatherHallModel" "scores" "[I" ∈ wsX9_isOver := (List.mem_cons_of_mem _ (List.mem_append_left _ (List.mem_of_getElem? (i := 0) rfl)))
theorem ki_X9_isOver_X9 : ∀ w ∈ u_ws RX9 TX9 38, w ∈ wsX9_isOver := fun _ hh => (List.mem_cons_of_mem _ (List.mem_append_right _ hh))
theorem hd_X9_isOver : yX9_isOver.cls = RX9 ∧ yX9_isOver.cls ≠ "java/lang/invoke/MethodHandle" ∧ yX9_isOver.cls ≠ "java/lang/invoke/VarHandle" ∧ (parseMethodDescriptor yX9_isOver.desc).map (fun d => d.parameters.length) = some 0 := by decide +kernel
set_option maxHeartbeats 4000000 in
set_option maxRecDepth 100000 in
theorem w_X9_isOver_33 {p : Program} {l : Launch} {e : Env} {s : State} {m : MethodId} {below : List Frame} {meth : Method} {c : Code} {args : Array Value} {D : va_G} {cy : Nat → ClassId} {g : Nat → Nat} {A : Nat → Prop} {um : St} {r : Int32} (C0 : Cx p s m meth c args cX9_isOver 1 (some .boolean) wsX9_isOver RX9 D cy A) : f_X9_isOver_33 um = some r → ∀ (H : Heap) (locs : List Loc) (ls : Array Slot), va_P D vwCl (wX9 cy g um) H → va_D A (wX9 cy g um) → va_S A s.heap H locs → lv_has ls 1 [] → W p l e (rmH 0) s m args below meth c H locs 0 0 (QI below args s A D cy (wX9 cy g um) r) (F0 m 33 ls []) := by
  obtain ⟨hx, hb, hr, hml, hown, hts, hlocks, hK, hA⟩ := id C0
  intro h H locs ls hP hD hS hl
  rw [f_X9_isOver_33] at h
  refine lv_iconst (v := 1) hx hb dX9_isOver_33 (by decide) ?_
  refine lv_goto (tgt := 38) hx hb dX9_isOver_34 (by decide) ?_
  cases h
  exact x_zret hx hb hr hlocks hK hP hD hS (Or.inr rfl) dX9_isOver_38 rfl rfl
set_option maxHeartbeats 4000000 in
set_option maxRecDepth 100000 in
theorem c_X9_isOver (l : Launch) (D : va_G) (cy : Nat → ClassId) (g : Nat → Nat) (um : St) (r : Int32) (h : f_X9_isOver um = some r) : CtI l yX9_isOver wsX9_isOver (rmH 0) [.ref (g 999)] D cy (wX9 cy g um) (wX9 cy g um) r := by
  refine ct_enter (D := D) (cy := cy) (cc := cX9_isOver) (maxL := 1) (ret := (some .boolean)) (w := wX9 cy g um) (Qc := fun sz => va_Qi (fun r' (_ : Unit) => r' = r) (Bw D cy (va_A (wX9 cy g um) sz) (wX9 cy g um)) (va_A (wX9 cy g um) sz)) (by decide) rfl (Nat.le_of_ble_eq_true rfl) ?_
  intro p e s m below meth c A C0 hAe ls hl hP hD hS
  have e1 : MQ below ((fun sz => va_Qi (fun r' (_ : Unit) => r' = r) (Bw D cy (va_A (wX9 cy g um) sz) (wX9 cy g um)) (va_A (wX9 cy g um) sz)) s.heap.size) [.ref (g 999)].toArray s 0 0 A = QI below [.ref (g 999)].toArray s A D cy (wX9 cy g um) r := by rw [hAe]; rfl
  rw [e1]
  clear e1 hAe
  obtain ⟨hx, hb, hr, hml, hown, hts, hlocks, hK, hA⟩ := id C0
  have hl : lv_has ls 1 [(0, .ref (g 999))] := hl
  rw [f_X9_isOver] at h
  refine lv_aload_n hx hb dX9_isOver_0 rfl (lv_at hl 0 rfl) ?_
  refine va_get (D := D) (ci := 8) (v := .ref (g 914)) (C := RX9) (T := TX9) (N := 38) hx hb hts ki_X9_isOver_X9 hown hK hP 0 rfl rfl 14 (by decide) (hts _ k_X9_isOver_0) (fun _ h9 => h9) rfl dX9_isOver_1 ?_
  refine lv_iconst (v := 0) hx hb dX9_isOver_4 (by decide) ?_
  refine x_iald hx hb hK hP 13 rfl rfl h dX9_isOver_5 (fun v1 h => ?_)
  refine lv_bipush (v := 14) hx hb dX9_isOver_6 (by decide) ?_
  refine x_icmp_gt (tgt := 33) hx hb dX9_isOver_8 (by decide) h (fun _ h => ?_) (fun _ h => ?_)
  · exact w_X9_isOver_33 C0 h _ _ ls hP hD hS (lv_sub hl [] rfl)
  · refine lv_aload_n hx hb dX9_isOver_11 rfl (lv_at hl 0 rfl) ?_
    refine va_get (D := D) (ci := 8) (v := .ref (g 914)) (C := RX9) (T := TX9) (N := 38) hx hb hts ki_X9_isOver_X9 hown hK hP 0 rfl rfl 14 (by decide) (hts _ k_X9_isOver_0) (fun _ h9 => h9) rfl dX9_isOver_12 ?_
    refine lv_iconst (v := 1) hx hb dX9_isOver_15 (by decide) ?_
    refine x_iald hx hb hK hP 13 rfl rfl h dX9_isOver_16 (fun v2 h => ?_)
    refine lv_bipush (v := 14) hx hb dX9_isOver_17 (by decide) ?_
    refine x_icmp_gt (tgt := 33) hx hb dX9_isOver_19 (by decide) h (fun _ h => ?_) (fun _ h => ?_)
    · exact w_X9_isOver_33 C0 h _ _ ls hP hD hS (lv_sub hl [] rfl)
    · refine lv_aload_n hx hb dX9_isOver_22 rfl (lv_at hl 0 rfl) ?_
      refine va_get (D := D) (ci := 8) (v := .ref (g 914)) (C := RX9) (T := TX9) (N := 38) hx hb hts ki_X9_isOver_X9 hown hK hP 0 rfl rfl 14 (by decide) (hts _ k_X9_isOver_0) (fun _ h9 => h9) rfl dX9_isOver_23 ?_
      refine lv_iconst (v := 2) hx hb dX9_isOver_26 (by decide) ?_
      refine x_iald hx hb hK hP 13 rfl rfl h dX9_isOver_27 (fun v3 h => ?_)
      refine lv_bipush (v := 14) hx hb dX9_isOver_28 (by decide) ?_
      refine x_icmp_le (tgt := 37) hx hb dX9_isOver_30 (by decide) h (fun _ h => ?_) (fun _ h => ?_)
      · refine lv_iconst (v := 0) hx hb dX9_isOver_37 (by decide) ?_
        cases h
        exact x_zret hx hb hr hlocks hK hP hD hS (Or.inl rfl) dX9_isOver_38 rfl rfl
      · exact w_X9_isOver_33 C0 h _ _ ls hP hD hS (lv_sub hl [] rfl)
theorem k_X9_rally_0 : Cond.fieldLink RX9 47 "FeatherHallModel" "scores" "[I" ∈ wsX9_rally := (List.mem_cons_of_mem _ (List.mem_append_left _ (List.mem_of_getElem? (i := 0) rfl)))
theorem ki_X9_rally_X9 : ∀ w ∈ u_ws RX9 TX9 38, w ∈ wsX9_rally := fun _ hh => (List.mem_cons_of_mem _ (List.mem_append_right _ hh))
theorem k_X9_rally_1 : Cond.fieldLink RX9 173 "FeatherHallModel" "serves" "I" ∈ wsX9_rally := (List.mem_cons_of_mem _ (List.mem_append_left _ (List.mem_of_getElem? (i := 1) rfl)))
theorem hd_X9_rally : yX9_rally.cls = RX9 ∧ yX9_rally.cls ≠ "java/lang/invoke/MethodHandle" ∧ yX9_rally.cls ≠ "java/lang/invoke/VarHandle" ∧ (parseMethodDescriptor yX9_rally.desc).map (fun d => d.parameters.length) = some 1 := by decide +kernel
set_option maxHeartbeats 4000000 in
set_option maxRecDepth 100000 in
theorem w_X9_rally_117 {p : Program} {l : Launch} {e : Env} {s : State} {m : MethodId} {below : List Frame} {meth : Method} {c : Code} {args : Array Value} {D : va_G} {cy : Nat → ClassId} {g : Nat → Nat} {A : Nat → Prop} {r : Int32} {um' : St} (C0 : Cx p s m meth c args cX9_rally 5 (some .int) wsX9_rally RX9 D cy A) : ∀ (s0 : Int32) (um : St), f_X9_rally_117 s0 um = some (r, um') → ∀ (H : Heap) (locs : List Loc) (ls : Array Slot), va_P D vwCl (wX9 cy g um) H → va_D A (wX9 cy g um) → va_S A s.heap H locs → lv_has ls 5 [(0, .ref (g 999))] → W p l e (rmH 1) s m args below meth c H locs 0 0 (QI below args s A D cy (wX9 cy g um') r) (F0 m 117 ls [.int s0, .ref (g 999)]) := by
  obtain ⟨hx, hb, hr, hml, hown, hts, hlocks, hK, hA⟩ := id C0
  intro s0 um h H locs ls hP hD hS hl
  rw [f_X9_rally_117] at h
  refine x_put (D := D) (ci := 8) (Wd := (fun uz => wX9 cy g uz)) (u := um) (C := RX9) (T := TX9) (N := 38) hx hb hts ki_X9_rally_X9 tyX9 tyX9_ok nmX9 hown hK hP hD hS 0 rfl rfl 15 (by decide) (hts _ k_X9_rally_1) (fun _ h9 => h9) rfl (tyX9_ok 15 (by decide)) rfl rfl (Nat.le_of_ble_eq_true rfl) (fun _ => rfl) h dX9_rally_117 (fun um16 H locs h hP hD hS => ?_)
  refine lv_aload_n hx hb dX9_rally_120 rfl (lv_at hl 0 rfl) ?_
  refine va_get (D := D) (ci := 8) (v := .int (um16.1 15)) (C := RX9) (T := TX9) (N := 38) hx hb hts ki_X9_rally_X9 hown hK hP 0 rfl rfl 15 (by decide) (hts _ k_X9_rally_1) (fun _ h9 => h9) rfl dX9_rally_121 ?_
  cases h
  exact x_iret hx hb hr hlocks hK hP hD hS dX9_rally_124 rfl rfl
set_option maxHeartbeats 4000000 in
set_option maxRecDepth 100000 in
theorem w_X9_rally_71 {p : Program} {l : Launch} {e : Env} {s : State} {m : MethodId} {below : List Frame} {meth : Method} {c : Code} {args : Array Value} {D : va_G} {cy : Nat → ClassId} {g : Nat → Nat} {A : Nat → Prop} {r : Int32} {um' : St} (C0 : Cx p s m meth c args cX9_rally 5 (some .int) wsX9_rally RX9 D cy A) : ∀ (l3 : Int32) (s0 : Int32) (um : St), f_X9_rally_71 l3 s0 um = some (r, um') → ∀ (H : Heap) (locs : List Loc) (ls : Array Slot), va_P D vwCl (wX9 cy g um) H → va_D A (wX9 cy g um) → va_S A s.heap H locs → lv_has ls 5 [(0, .ref (g 999)), (3, .int l3)] → W p l e (rmH 1) s m args below meth c H locs 0 0 (QI below args s A D cy (wX9 cy g um') r) (F0 m 71 ls [.int s0]) := by
  obtain ⟨hx, hb, hr, hml, hown, hts, hlocks, hK, hA⟩ := id C0
  intro l3 s0 um h H locs ls hP hD hS hl
  rw [f_X9_rally_71] at h
  refine lv_istore (lv' := [(4, .int s0), (0, .ref (g 999)), (3, .int l3)]) hx hb dX9_rally_71 hl (by decide) rfl (fun ls hl => ?_)
  refine lv_aload_n hx hb dX9_rally_73 rfl (lv_at hl 1 rfl) ?_
  refine va_get (D := D) (ci := 8) (v := .ref (g 914)) (C := RX9) (T := TX9) (N := 38) hx hb hts ki_X9_rally_X9 hown hK hP 0 rfl rfl 14 (by decide) (hts _ k_X9_rally_0) (fun _ h9 => h9) rfl dX9_rally_74 ?_
  refine lv_iload_n hx hb dX9_rally_77 rfl (lv_at hl 2 rfl) ?_
  refine lv_dup2_11 hx hb dX9_rally_78 rfl rfl ?_
  refine x_iald hx hb hK hP 13 rfl rfl h dX9_rally_79 (fun v10 h => ?_)
  refine lv_iconst (v := 1) hx hb dX9_rally_80 (by decide) ?_
  refine lv_iadd hx hb dX9_rally_81 ?_
  refine x_iast (Wd := (fun uz => wX9 cy g uz)) (u := um) (k := 14) hx hb hK hP hD hS 13 rfl rfl (fun _ => rfl) h dX9_rally_82 (fun um11 H locs h hP hD hS => ?_)
  refine lv_aload_n hx hb dX9_rally_83 rfl (lv_at hl 1 rfl) ?_
  refine va_get (D := D) (ci := 8) (v := .ref (g 914)) (C := RX9) (T := TX9) (N := 38) hx hb hts ki_X9_rally_X9 hown hK hP 0 rfl rfl 14 (by decide) (hts _ k_X9_rally_0) (fun _ h9 => h9) rfl dX9_rally_84 ?_
  refine lv_iload hx hb dX9_rally_87 (lv_at hl 0 rfl) ?_
  refine lv_dup2_11 hx hb dX9_rally_89 rfl rfl ?_
  refine x_iald hx hb hK hP 13 rfl rfl h dX9_rally_90 (fun v12 h => ?_)
  refine lv_iconst (v := 1) hx hb dX9_rally_91 (by decide) ?_
  refine lv_iadd hx hb dX9_rally_92 ?_
  refine x_iast (Wd := (fun uz => wX9 cy g uz)) (u := um11) (k := 14) hx hb hK hP hD hS 13 rfl rfl (fun _ => rfl) h dX9_rally_93 (fun um13 H locs h hP hD hS => ?_)
  refine lv_aload_n hx hb dX9_rally_94 rfl (lv_at hl 1 rfl) ?_
  refine lv_aload_n hx hb dX9_rally_95 rfl (lv_at hl 1 rfl) ?_
  refine va_get (D := D) (ci := 8) (v := .ref (g 914)) (C := RX9) (T := TX9) (N := 38) hx hb hts ki_X9_rally_X9 hown hK hP 0 rfl rfl 14 (by decide) (hts _ k_X9_rally_0) (fun _ h9 => h9) rfl dX9_rally_96 ?_
  refine lv_iload hx hb dX9_rally_99 (lv_at hl 0 rfl) ?_
  refine x_iald hx hb hK hP 13 rfl rfl h dX9_rally_101 (fun v14 h => ?_)
  refine lv_aload_n hx hb dX9_rally_102 rfl (lv_at hl 1 rfl) ?_
  refine va_get (D := D) (ci := 8) (v := .ref (g 914)) (C := RX9) (T := TX9) (N := 38) hx hb hts ki_X9_rally_X9 hown hK hP 0 rfl rfl 14 (by decide) (hts _ k_X9_rally_0) (fun _ h9 => h9) rfl dX9_rally_103 ?_
  refine lv_iload_n hx hb dX9_rally_106 rfl (lv_at hl 2 rfl) ?_
  refine x_iald hx hb hK hP 13 rfl rfl h dX9_rally_107 (fun v15 h => ?_)
  refine x_icmp_ge (tgt := 116) hx hb dX9_rally_108 (by decide) h (fun _ h => ?_) (fun _ h => ?_)
  · refine lv_iload_n hx hb dX9_rally_116 rfl (lv_at hl 2 rfl) ?_
    exact w_X9_rally_117 C0 l3 um13 h _ _ ls hP hD hS (lv_sub hl [1] rfl)
  · refine lv_iload hx hb dX9_rally_111 (lv_at hl 0 rfl) ?_
    refine lv_goto (tgt := 117) hx hb dX9_rally_113 (by decide) ?_
    exact w_X9_rally_117 C0 s0 um13 h _ _ ls hP hD hS (lv_sub hl [1] rfl)
set_option maxHeartbeats 4000000 in
set_option maxRecDepth 100000 in
theorem w_X9_rally_60 {p : Program} {l : Launch} {e : Env} {s : State} {m : MethodId} {below : List Frame} {meth : Method} {c : Code} {args : Array Value} {D : va_G} {cy : Nat → ClassId} {g : Nat → Nat} {A : Nat → Prop} {r : Int32} {um' : St} (C0 : Cx p s m meth c args cX9_rally 5 (some .int) wsX9_rally RX9 D cy A) : ∀ (l2 : Int32) (s0 : Int32) (um : St), f_X9_rally_60 l2 s0 um = some (r, um') → ∀ (H : Heap) (locs : List Loc) (ls : Array Slot), va_P D vwCl (wX9 cy g um) H → va_D A (wX9 cy g um) → va_S A s.heap H locs → lv_has ls 5 [(0, .ref (g 999)), (2, .int l2)] → W p l e (rmH 1) s m args below meth c H locs 0 0 (QI below args s A D cy (wX9 cy g um') r) (F0 m 60 ls [.int s0]) := by
  obtain ⟨hx, hb, hr, hml, hown, hts, hlocks, hK, hA⟩ := id C0
  intro l2 s0 um h H locs ls hP hD hS hl
  rw [f_X9_rally_60] at h
  refine lv_istore_n (lv' := [(3, .int s0), (0, .ref (g 999)), (2, .int l2)]) hx hb dX9_rally_60 rfl hl (by decide) rfl (fun ls hl => ?_)
  refine lv_iload_n hx hb dX9_rally_61 rfl (lv_at hl 2 rfl) ?_
  refine lv_iconst (v := 2) hx hb dX9_rally_62 (by decide) ?_
  refine x_icmp_ne (tgt := 70) hx hb dX9_rally_63 (by decide) h (fun _ h => ?_) (fun _ h => ?_)
  · refine lv_iconst (v := 1) hx hb dX9_rally_66 (by decide) ?_
    refine lv_goto (tgt := 71) hx hb dX9_rally_67 (by decide) ?_
    exact w_X9_rally_71 C0 s0 (1 : Int32) um h _ _ ls hP hD hS (lv_sub hl [1, 0] rfl)
  · refine lv_iconst (v := 2) hx hb dX9_rally_70 (by decide) ?_
    exact w_X9_rally_71 C0 s0 (2 : Int32) um h _ _ ls hP hD hS (lv_sub hl [1, 0] rfl)
set_option maxHeartbeats 4000000 in
set_option maxRecDepth 100000 in
theorem w_X9_rally_46 {p : Program} {l : Launch} {e : Env} {s : State} {m : MethodId} {below : List Frame} {meth : Method} {c : Code} {args : Array Value} {D : va_G} {cy : Nat → ClassId} {g : Nat → Nat} {A : Nat → Prop} {r : Int32} {um' : St} (C0 : Cx p s m meth c args cX9_rally 5 (some .int) wsX9_rally RX9 D cy A) : ∀ (l1 : Int32) (l2 : Int32) (um : St), f_X9_rally_46 l1 l2 um = some (r, um') → ∀ (H : Heap) (locs : List Loc) (ls : Array Slot), va_P D vwCl (wX9 cy g um) H → va_D A (wX9 cy g um) → va_S A s.heap H locs → lv_has ls 5 [(0, .ref (g 999)), (1, .int l1), (2, .int l2)] → W p l e (rmH 1) s m args below meth c H locs 0 0 (QI below args s A D cy (wX9 cy g um') r) (F0 m 46 ls []) := by
  obtain ⟨hx, hb, hr, hml, hown, hts, hlocks, hK, hA⟩ := id C0
  intro l1 l2 um h H locs ls hP hD hS hl
  rw [f_X9_rally_46] at h
  refine lv_iload_n hx hb dX9_rally_46 rfl (lv_at hl 1 rfl) ?_
  refine lv_iconst (v := 1) hx hb dX9_rally_47 (by decide) ?_
  refine x_icmp_ne (tgt := 120) hx hb dX9_rally_48 (by decide) h (fun _ h => ?_) (fun _ h => ?_)
  · refine lv_iload_n hx hb dX9_rally_51 rfl (lv_at hl 2 rfl) ?_
    refine x_if_ne (tgt := 59) hx hb dX9_rally_52 (by decide) h (fun _ h => ?_) (fun _ h => ?_)
    · refine lv_iconst (v := 1) hx hb dX9_rally_55 (by decide) ?_
      refine lv_goto (tgt := 60) hx hb dX9_rally_56 (by decide) ?_
      exact w_X9_rally_60 C0 l2 (1 : Int32) um h _ _ ls hP hD hS (lv_sub hl [0, 2] rfl)
    · refine lv_iconst (v := 0) hx hb dX9_rally_59 (by decide) ?_
      exact w_X9_rally_60 C0 l2 (0 : Int32) um h _ _ ls hP hD hS (lv_sub hl [0, 2] rfl)
  · refine lv_aload_n hx hb dX9_rally_120 rfl (lv_at hl 0 rfl) ?_
    refine va_get (D := D) (ci := 8) (v := .int (um.1 15)) (C := RX9) (T := TX9) (N := 38) hx hb hts ki_X9_rally_X9 hown hK hP 0 rfl rfl 15 (by decide) (hts _ k_X9_rally_1) (fun _ h9 => h9) rfl dX9_rally_121 ?_
    cases h
    exact x_iret hx hb hr hlocks hK hP hD hS dX9_rally_124 rfl rfl
set_option maxHeartbeats 4000000 in
set_option maxRecDepth 100000 in
theorem c_X9_rally (l : Launch) (D : va_G) (cy : Nat → ClassId) (g : Nat → Nat) (um : St) (p0 : Int32) (r : Int32) (um' : St) (h : f_X9_rally p0 um = some (r, um')) : CtI l yX9_rally wsX9_rally (rmH 1) [.ref (g 999), .int p0] D cy (wX9 cy g um) (wX9 cy g um') r := by
  refine ct_enter (D := D) (cy := cy) (cc := cX9_rally) (maxL := 5) (ret := (some .int)) (w := wX9 cy g um) (Qc := fun sz => va_Qi (fun r' (_ : Unit) => r' = r) (Bw D cy (va_A (wX9 cy g um) sz) (wX9 cy g um')) (va_A (wX9 cy g um) sz)) (by decide) rfl (Nat.le_of_ble_eq_true rfl) ?_
  intro p e s m below meth c A C0 hAe ls hl hP hD hS
  have e1 : MQ below ((fun sz => va_Qi (fun r' (_ : Unit) => r' = r) (Bw D cy (va_A (wX9 cy g um) sz) (wX9 cy g um')) (va_A (wX9 cy g um) sz)) s.heap.size) [.ref (g 999), .int p0].toArray s 0 0 A = QI below [.ref (g 999), .int p0].toArray s A D cy (wX9 cy g um') r := by rw [hAe]; rfl
  rw [e1]
  clear e1 hAe
  obtain ⟨hx, hb, hr, hml, hown, hts, hlocks, hK, hA⟩ := id C0
  have hl : lv_has ls 5 [(0, .ref (g 999)), (1, .int p0)] := hl
  rw [f_X9_rally] at h
  refine lv_iload_n hx hb dX9_rally_0 rfl (lv_at hl 1 rfl) ?_
  refine lv_iconst (v := 0) hx hb dX9_rally_1 (by decide) ?_
  refine lv_iconst (v := 2) hx hb dX9_rally_2 (by decide) ?_
  obtain ⟨r1, e2, h⟩ := bd_some h
  refine x_callSI (As := [.int p0, .int (0 : Int32), .int (2 : Int32)]) (rest := []) (n := 3) ⟨hx, hb, hml, hown, hts⟩ (c_X9_in l D cy  p0 (0 : Int32) (2 : Int32) r1 e2) gX9_rally_X9_in rfl hd_X9_in ⟨Nat.le_of_ble_eq_true rfl, Nat.le_of_ble_eq_true rfl⟩ ⟨rfl, rfl⟩ hK (sp_nil _) (sp_nil _) hP hD hS hA rfl hl.1 rfl (Nat.le_of_ble_eq_true rfl) dX9_rally_3 ⟨Nat.zero_le _, Nat.zero_le _⟩ (fun H locs hP hD hS => ?_)
  clear e2
  refine x_if_ne (tgt := 12) hx hb dX9_rally_6 (by decide) h (fun _ h => ?_) (fun _ h => ?_)
  · refine lv_bipush (v := -3) hx hb dX9_rally_9 (by decide) ?_
    cases h
    exact x_iret hx hb hr hlocks hK hP hD hS dX9_rally_11 rfl rfl
  · refine lv_aload_n hx hb dX9_rally_12 rfl (lv_at hl 0 rfl) ?_
    obtain ⟨r3, e4, h⟩ := bd_some h
    refine x_callVI (As := []) (rest := []) (n := 0) ⟨hx, hb, hml, hown, hts⟩ (c_X9_isOver l D cy g um r3 e4) gX9_rally_X9_isOver rfl hd_X9_isOver ⟨Nat.le_of_ble_eq_true rfl, Nat.le_of_ble_eq_true rfl⟩ ⟨rfl, rfl⟩ hK (sp_all _) (sp_all _) hP hD hS hA 0 rfl rfl rfl hl.1 rfl (Nat.le_of_ble_eq_true rfl) dX9_rally_13 ⟨Nat.zero_le _, Nat.zero_le _⟩ (fun H locs hP hD hS => ?_)
    clear e4
    refine x_if_eq (tgt := 22) hx hb dX9_rally_16 (by decide) h (fun _ h => ?_) (fun _ h => ?_)
    · refine lv_aload_n hx hb dX9_rally_22 rfl (lv_at hl 0 rfl) ?_
      obtain ⟨r5, e6, h⟩ := bd_some h
      refine x_callVI (As := []) (rest := []) (n := 0) ⟨hx, hb, hml, hown, hts⟩ (c_X9_alone l D cy g um r5 e6) gX9_rally_X9_alone rfl hd_X9_alone ⟨Nat.le_of_ble_eq_true rfl, Nat.le_of_ble_eq_true rfl⟩ ⟨rfl, rfl⟩ hK (sp_all _) (sp_all _) hP hD hS hA 0 rfl rfl rfl hl.1 rfl (Nat.le_of_ble_eq_true rfl) dX9_rally_23 ⟨Nat.zero_le _, Nat.zero_le _⟩ (fun H locs hP hD hS => ?_)
      clear e6
      refine lv_istore_n (lv' := [(2, .int r5), (0, .ref (g 999)), (1, .int p0)]) hx hb dX9_rally_26 rfl hl (by decide) rfl (fun ls hl => ?_)
      refine lv_iload_n hx hb dX9_rally_27 rfl (lv_at hl 2 rfl) ?_
      refine x_if_ne (tgt := 46) hx hb dX9_rally_28 (by decide) h (fun _ h => ?_) (fun _ h => ?_)
      · refine lv_aload_n hx hb dX9_rally_31 rfl (lv_at hl 1 rfl) ?_
        refine va_get (D := D) (ci := 8) (v := .ref (g 914)) (C := RX9) (T := TX9) (N := 38) hx hb hts ki_X9_rally_X9 hown hK hP 0 rfl rfl 14 (by decide) (hts _ k_X9_rally_0) (fun _ h9 => h9) rfl dX9_rally_32 ?_
        refine lv_iload_n hx hb dX9_rally_35 rfl (lv_at hl 0 rfl) ?_
        refine lv_dup2_11 hx hb dX9_rally_36 rfl rfl ?_
        refine x_iald hx hb hK hP 13 rfl rfl h dX9_rally_37 (fun v7 h => ?_)
        refine lv_iconst (v := 1) hx hb dX9_rally_38 (by decide) ?_
        refine lv_iadd hx hb dX9_rally_39 ?_
        refine x_iast (Wd := (fun uz => wX9 cy g uz)) (u := um) (k := 14) hx hb hK hP hD hS 13 rfl rfl (fun _ => rfl) h dX9_rally_40 (fun um8 H locs h hP hD hS => ?_)
        refine lv_aload_n hx hb dX9_rally_41 rfl (lv_at hl 1 rfl) ?_
        refine lv_iload_n hx hb dX9_rally_42 rfl (lv_at hl 0 rfl) ?_
        refine x_put (D := D) (ci := 8) (Wd := (fun uz => wX9 cy g uz)) (u := um8) (C := RX9) (T := TX9) (N := 38) hx hb hts ki_X9_rally_X9 tyX9 tyX9_ok nmX9 hown hK hP hD hS 0 rfl rfl 15 (by decide) (hts _ k_X9_rally_1) (fun _ h9 => h9) rfl (tyX9_ok 15 (by decide)) rfl rfl (Nat.le_of_ble_eq_true rfl) (fun _ => rfl) h dX9_rally_43 (fun um9 H locs h hP hD hS => ?_)
        exact w_X9_rally_46 C0 p0 r5 um9 h _ _ ls hP hD hS (lv_sub hl [1, 2, 0] rfl)
      · exact w_X9_rally_46 C0 p0 r5 um h _ _ ls hP hD hS (lv_sub hl [1, 2, 0] rfl)
    · refine lv_bipush (v := -4) hx hb dX9_rally_19 (by decide) ?_
      cases h
      exact x_iret hx hb hr hlocks hK hP hD hS dX9_rally_21 rfl rfl
theorem k_X9_three_0 : Cond.fieldLink RX9 173 "FeatherHallModel" "serves" "I" ∈ wsX9_three := (List.mem_cons_of_mem _ (List.mem_append_left _ (List.mem_of_getElem? (i := 1) rfl)))
theorem ki_X9_three_X9 : ∀ w ∈ u_ws RX9 TX9 38, w ∈ wsX9_three := fun _ hh => (List.mem_cons_of_mem _ (List.mem_append_right _ hh))
theorem k_X9_three_1 : Cond.fieldLink RX9 47 "FeatherHallModel" "scores" "[I" ∈ wsX9_three := (List.mem_cons_of_mem _ (List.mem_append_left _ (List.mem_of_getElem? (i := 0) rfl)))
theorem hd_X9_three : yX9_three.cls = RX9 ∧ yX9_three.cls ≠ "java/lang/invoke/MethodHandle" ∧ yX9_three.cls ≠ "java/lang/invoke/VarHandle" ∧ (parseMethodDescriptor yX9_three.desc).map (fun d => d.parameters.length) = some 1 := by decide +kernel
set_option maxHeartbeats 4000000 in
set_option maxRecDepth 100000 in
theorem c_X9_three (l : Launch) (D : va_G) (cy : Nat → ClassId) (g : Nat → Nat) (um : St) (p0 : Int32) (r : Int32) (h : f_X9_three um p0 = some r) : CtI l yX9_three wsX9_three (rmH 1) [.ref (g 999), .int p0] D cy (wX9 cy g um) (wX9 cy g um) r := by
  refine ct_enter (D := D) (cy := cy) (cc := cX9_three) (maxL := 2) (ret := (some .int)) (w := wX9 cy g um) (Qc := fun sz => va_Qi (fun r' (_ : Unit) => r' = r) (Bw D cy (va_A (wX9 cy g um) sz) (wX9 cy g um)) (va_A (wX9 cy g um) sz)) (by decide) rfl (Nat.le_of_ble_eq_true rfl) ?_
  intro p e s m below meth c A C0 hAe ls hl hP hD hS
  have e1 : MQ below ((fun sz => va_Qi (fun r' (_ : Unit) => r' = r) (Bw D cy (va_A (wX9 cy g um) sz) (wX9 cy g um)) (va_A (wX9 cy g um) sz)) s.heap.size) [.ref (g 999), .int p0].toArray s 0 0 A = QI below [.ref (g 999), .int p0].toArray s A D cy (wX9 cy g um) r := by rw [hAe]; rfl
  rw [e1]
  clear e1 hAe
  obtain ⟨hx, hb, hr, hml, hown, hts, hlocks, hK, hA⟩ := id C0
  have hl : lv_has ls 2 [(0, .ref (g 999)), (1, .int p0)] := hl
  rw [f_X9_three] at h
  refine lv_iload_n hx hb dX9_three_0 rfl (lv_at hl 1 rfl) ?_
  refine lv_iconst (v := 0) hx hb dX9_three_1 (by decide) ?_
  refine lv_iconst (v := 2) hx hb dX9_three_2 (by decide) ?_
  obtain ⟨r1, e2, h⟩ := bd_some h
  refine x_callSI (As := [.int p0, .int (0 : Int32), .int (2 : Int32)]) (rest := []) (n := 3) ⟨hx, hb, hml, hown, hts⟩ (c_X9_in l D cy  p0 (0 : Int32) (2 : Int32) r1 e2) gX9_three_X9_in rfl hd_X9_in ⟨Nat.le_of_ble_eq_true rfl, Nat.le_of_ble_eq_true rfl⟩ ⟨rfl, rfl⟩ hK (sp_nil _) (sp_nil _) hP hD hS hA rfl hl.1 rfl (Nat.le_of_ble_eq_true rfl) dX9_three_3 ⟨Nat.zero_le _, Nat.zero_le _⟩ (fun H locs hP hD hS => ?_)
  clear e2
  refine x_if_eq (tgt := 18) hx hb dX9_three_6 (by decide) h (fun _ h => ?_) (fun _ h => ?_)
  · refine lv_iload_n hx hb dX9_three_18 rfl (lv_at hl 1 rfl) ?_
    refine lv_iconst (v := 3) hx hb dX9_three_19 (by decide) ?_
    refine x_icmp_ne (tgt := 30) hx hb dX9_three_20 (by decide) h (fun _ h => ?_) (fun _ h => ?_)
    · refine lv_aload_n hx hb dX9_three_23 rfl (lv_at hl 0 rfl) ?_
      obtain ⟨r3, e4, h⟩ := bd_some h
      refine x_callVI (As := []) (rest := []) (n := 0) ⟨hx, hb, hml, hown, hts⟩ (c_X9_alone l D cy g um r3 e4) gX9_three_X9_alone rfl hd_X9_alone ⟨Nat.le_of_ble_eq_true rfl, Nat.le_of_ble_eq_true rfl⟩ ⟨rfl, rfl⟩ hK (sp_all _) (sp_all _) hP hD hS hA 0 rfl rfl rfl hl.1 rfl (Nat.le_of_ble_eq_true rfl) dX9_three_24 ⟨Nat.zero_le _, Nat.zero_le _⟩ (fun H locs hP hD hS => ?_)
      clear e4
      refine lv_goto (tgt := 64) hx hb dX9_three_27 (by decide) ?_
      cases h
      exact x_iret hx hb hr hlocks hK hP hD hS dX9_three_64 rfl rfl
    · refine lv_iload_n hx hb dX9_three_30 rfl (lv_at hl 1 rfl) ?_
      refine lv_iconst (v := 4) hx hb dX9_three_31 (by decide) ?_
      refine x_icmp_ne (tgt := 42) hx hb dX9_three_32 (by decide) h (fun _ h => ?_) (fun _ h => ?_)
      · refine lv_aload_n hx hb dX9_three_35 rfl (lv_at hl 0 rfl) ?_
        refine va_get (D := D) (ci := 8) (v := .int (um.1 15)) (C := RX9) (T := TX9) (N := 38) hx hb hts ki_X9_three_X9 hown hK hP 0 rfl rfl 15 (by decide) (hts _ k_X9_three_0) (fun _ h9 => h9) rfl dX9_three_36 ?_
        refine lv_goto (tgt := 64) hx hb dX9_three_39 (by decide) ?_
        cases h
        exact x_iret hx hb hr hlocks hK hP hD hS dX9_three_64 rfl rfl
      · refine lv_iload_n hx hb dX9_three_42 rfl (lv_at hl 1 rfl) ?_
        refine lv_iconst (v := 5) hx hb dX9_three_43 (by decide) ?_
        refine x_icmp_ne (tgt := 62) hx hb dX9_three_44 (by decide) h (fun _ h => ?_) (fun _ h => ?_)
        · refine lv_aload_n hx hb dX9_three_47 rfl (lv_at hl 0 rfl) ?_
          obtain ⟨r5, e6, h⟩ := bd_some h
          refine x_callVI (As := []) (rest := []) (n := 0) ⟨hx, hb, hml, hown, hts⟩ (c_X9_isOver l D cy g um r5 e6) gX9_three_X9_isOver rfl hd_X9_isOver ⟨Nat.le_of_ble_eq_true rfl, Nat.le_of_ble_eq_true rfl⟩ ⟨rfl, rfl⟩ hK (sp_all _) (sp_all _) hP hD hS hA 0 rfl rfl rfl hl.1 rfl (Nat.le_of_ble_eq_true rfl) dX9_three_48 ⟨Nat.zero_le _, Nat.zero_le _⟩ (fun H locs hP hD hS => ?_)
          clear e6
          refine x_if_eq (tgt := 58) hx hb dX9_three_51 (by decide) h (fun _ h => ?_) (fun _ h => ?_)
          · refine lv_iconst (v := 0) hx hb dX9_three_58 (by decide) ?_
            refine lv_goto (tgt := 64) hx hb dX9_three_59 (by decide) ?_
            cases h
            exact x_iret hx hb hr hlocks hK hP hD hS dX9_three_64 rfl rfl
          · refine lv_iconst (v := 1) hx hb dX9_three_54 (by decide) ?_
            refine lv_goto (tgt := 64) hx hb dX9_three_55 (by decide) ?_
            cases h
            exact x_iret hx hb hr hlocks hK hP hD hS dX9_three_64 rfl rfl
        · refine lv_bipush (v := -3) hx hb dX9_three_62 (by decide) ?_
          cases h
          exact x_iret hx hb hr hlocks hK hP hD hS dX9_three_64 rfl rfl
  · refine lv_aload_n hx hb dX9_three_9 rfl (lv_at hl 0 rfl) ?_
    refine va_get (D := D) (ci := 8) (v := .ref (g 914)) (C := RX9) (T := TX9) (N := 38) hx hb hts ki_X9_three_X9 hown hK hP 0 rfl rfl 14 (by decide) (hts _ k_X9_three_1) (fun _ h9 => h9) rfl dX9_three_10 ?_
    refine lv_iload_n hx hb dX9_three_13 rfl (lv_at hl 1 rfl) ?_
    refine x_iald hx hb hK hP 13 rfl rfl h dX9_three_14 (fun v7 h => ?_)
    refine lv_goto (tgt := 64) hx hb dX9_three_15 (by decide) ?_
    cases h
    exact x_iret hx hb hr hlocks hK hP hD hS dX9_three_64 rfl rfl
theorem k_X9_again_0 : Cond.fieldLink RX9 47 "FeatherHallModel" "scores" "[I" ∈ wsX9_again := (List.mem_cons_of_mem _ (List.mem_append_left _ (List.mem_of_getElem? (i := 0) rfl)))
theorem ki_X9_again_X9 : ∀ w ∈ u_ws RX9 TX9 38, w ∈ wsX9_again := fun _ hh => (List.mem_cons_of_mem _ (List.mem_append_right _ hh))
theorem k_X9_again_1 : Cond.fieldLink RX9 173 "FeatherHallModel" "serves" "I" ∈ wsX9_again := (List.mem_cons_of_mem _ (List.mem_append_left _ (List.mem_of_getElem? (i := 1) rfl)))
theorem hd_X9_again : yX9_again.cls = RX9 ∧ yX9_again.cls ≠ "java/lang/invoke/MethodHandle" ∧ yX9_again.cls ≠ "java/lang/invoke/VarHandle" ∧ (parseMethodDescriptor yX9_again.desc).map (fun d => d.parameters.length) = some 0 := by decide +kernel
set_option maxHeartbeats 4000000 in
set_option maxRecDepth 100000 in
theorem c_X9_again (l : Launch) (D : va_G) (cy : Nat → ClassId) (g : Nat → Nat) (um : St) (r : Int32) (um' : St) (h : f_X9_again um = some (r, um')) : CtI l yX9_again wsX9_again (rmH 0) [.ref (g 999)] D cy (wX9 cy g um) (wX9 cy g um') r := by
  refine ct_enter (D := D) (cy := cy) (cc := cX9_again) (maxL := 2) (ret := (some .int)) (w := wX9 cy g um) (Qc := fun sz => va_Qi (fun r' (_ : Unit) => r' = r) (Bw D cy (va_A (wX9 cy g um) sz) (wX9 cy g um')) (va_A (wX9 cy g um) sz)) (by decide) rfl (Nat.le_of_ble_eq_true rfl) ?_
  intro p e s m below meth c A C0 hAe ls hl hP hD hS
  have e1 : MQ below ((fun sz => va_Qi (fun r' (_ : Unit) => r' = r) (Bw D cy (va_A (wX9 cy g um) sz) (wX9 cy g um')) (va_A (wX9 cy g um) sz)) s.heap.size) [.ref (g 999)].toArray s 0 0 A = QI below [.ref (g 999)].toArray s A D cy (wX9 cy g um') r := by rw [hAe]; rfl
  rw [e1]
  clear e1 hAe
  obtain ⟨hx, hb, hr, hml, hown, hts, hlocks, hK, hA⟩ := id C0
  have hl : lv_has ls 2 [(0, .ref (g 999))] := hl
  rw [f_X9_again] at h
  refine lv_aload_n hx hb dX9_again_0 rfl (lv_at hl 0 rfl) ?_
  refine va_get (D := D) (ci := 8) (v := .ref (g 914)) (C := RX9) (T := TX9) (N := 38) hx hb hts ki_X9_again_X9 hown hK hP 0 rfl rfl 14 (by decide) (hts _ k_X9_again_0) (fun _ h9 => h9) rfl dX9_again_1 ?_
  refine lv_iconst (v := 0) hx hb dX9_again_4 (by decide) ?_
  refine x_iald hx hb hK hP 13 rfl rfl h dX9_again_5 (fun v1 h => ?_)
  refine lv_aload_n hx hb dX9_again_6 rfl (lv_at hl 0 rfl) ?_
  refine va_get (D := D) (ci := 8) (v := .ref (g 914)) (C := RX9) (T := TX9) (N := 38) hx hb hts ki_X9_again_X9 hown hK hP 0 rfl rfl 14 (by decide) (hts _ k_X9_again_0) (fun _ h9 => h9) rfl dX9_again_7 ?_
  refine lv_iconst (v := 1) hx hb dX9_again_10 (by decide) ?_
  refine x_iald hx hb hK hP 13 rfl rfl h dX9_again_11 (fun v2 h => ?_)
  refine lv_iadd hx hb dX9_again_12 ?_
  refine lv_aload_n hx hb dX9_again_13 rfl (lv_at hl 0 rfl) ?_
  refine va_get (D := D) (ci := 8) (v := .ref (g 914)) (C := RX9) (T := TX9) (N := 38) hx hb hts ki_X9_again_X9 hown hK hP 0 rfl rfl 14 (by decide) (hts _ k_X9_again_0) (fun _ h9 => h9) rfl dX9_again_14 ?_
  refine lv_iconst (v := 2) hx hb dX9_again_17 (by decide) ?_
  refine x_iald hx hb hK hP 13 rfl rfl h dX9_again_18 (fun v3 h => ?_)
  refine lv_iadd hx hb dX9_again_19 ?_
  refine x_nm h (fun v4 h => ?_)
  refine lv_istore_n (lv' := [(1, .int v4), (0, .ref (g 999))]) hx hb dX9_again_20 rfl hl (by decide) rfl (fun ls hl => ?_)
  refine lv_aload_n hx hb dX9_again_21 rfl (lv_at hl 1 rfl) ?_
  refine va_get (D := D) (ci := 8) (v := .ref (g 914)) (C := RX9) (T := TX9) (N := 38) hx hb hts ki_X9_again_X9 hown hK hP 0 rfl rfl 14 (by decide) (hts _ k_X9_again_0) (fun _ h9 => h9) rfl dX9_again_22 ?_
  refine lv_iconst (v := 0) hx hb dX9_again_25 (by decide) ?_
  refine lv_iconst (v := 0) hx hb dX9_again_26 (by decide) ?_
  refine x_iast (Wd := (fun uz => wX9 cy g uz)) (u := um) (k := 14) hx hb hK hP hD hS 13 rfl rfl (fun _ => rfl) h dX9_again_27 (fun um5 H locs h hP hD hS => ?_)
  refine lv_aload_n hx hb dX9_again_28 rfl (lv_at hl 1 rfl) ?_
  refine va_get (D := D) (ci := 8) (v := .ref (g 914)) (C := RX9) (T := TX9) (N := 38) hx hb hts ki_X9_again_X9 hown hK hP 0 rfl rfl 14 (by decide) (hts _ k_X9_again_0) (fun _ h9 => h9) rfl dX9_again_29 ?_
  refine lv_iconst (v := 1) hx hb dX9_again_32 (by decide) ?_
  refine lv_iconst (v := 0) hx hb dX9_again_33 (by decide) ?_
  refine x_iast (Wd := (fun uz => wX9 cy g uz)) (u := um5) (k := 14) hx hb hK hP hD hS 13 rfl rfl (fun _ => rfl) h dX9_again_34 (fun um6 H locs h hP hD hS => ?_)
  refine lv_aload_n hx hb dX9_again_35 rfl (lv_at hl 1 rfl) ?_
  refine va_get (D := D) (ci := 8) (v := .ref (g 914)) (C := RX9) (T := TX9) (N := 38) hx hb hts ki_X9_again_X9 hown hK hP 0 rfl rfl 14 (by decide) (hts _ k_X9_again_0) (fun _ h9 => h9) rfl dX9_again_36 ?_
  refine lv_iconst (v := 2) hx hb dX9_again_39 (by decide) ?_
  refine lv_iconst (v := 0) hx hb dX9_again_40 (by decide) ?_
  refine x_iast (Wd := (fun uz => wX9 cy g uz)) (u := um6) (k := 14) hx hb hK hP hD hS 13 rfl rfl (fun _ => rfl) h dX9_again_41 (fun um7 H locs h hP hD hS => ?_)
  refine lv_aload_n hx hb dX9_again_42 rfl (lv_at hl 1 rfl) ?_
  refine lv_iconst (v := 0) hx hb dX9_again_43 (by decide) ?_
  refine x_put (D := D) (ci := 8) (Wd := (fun uz => wX9 cy g uz)) (u := um7) (C := RX9) (T := TX9) (N := 38) hx hb hts ki_X9_again_X9 tyX9 tyX9_ok nmX9 hown hK hP hD hS 0 rfl rfl 15 (by decide) (hts _ k_X9_again_1) (fun _ h9 => h9) rfl (tyX9_ok 15 (by decide)) rfl rfl (Nat.le_of_ble_eq_true rfl) (fun _ => rfl) h dX9_again_44 (fun um8 H locs h hP hD hS => ?_)
  refine lv_iload_n hx hb dX9_again_47 rfl (lv_at hl 0 rfl) ?_
  cases h
  exact x_iret hx hb hr hlocks hK hP hD hS dX9_again_48 rfl rfl
theorem k_X9_note_0 : Cond.fieldLink RX9 176 "FeatherHallModel" "notes" "I" ∈ wsX9_note := (List.mem_cons_of_mem _ (List.mem_append_left _ (List.mem_of_getElem? (i := 0) rfl)))
theorem ki_X9_note_X9 : ∀ w ∈ u_ws RX9 TX9 38, w ∈ wsX9_note := fun _ hh => (List.mem_cons_of_mem _ (List.mem_append_right _ hh))
theorem k_X9_note_1 : Cond.fieldLink RX9 50 "FeatherHallModel" "noteZone" "[I" ∈ wsX9_note := (List.mem_cons_of_mem _ (List.mem_append_left _ (List.mem_of_getElem? (i := 1) rfl)))
theorem k_X9_note_2 : Cond.fieldLink RX9 53 "FeatherHallModel" "noteKind" "[I" ∈ wsX9_note := (List.mem_cons_of_mem _ (List.mem_append_left _ (List.mem_of_getElem? (i := 2) rfl)))
theorem hd_X9_note : yX9_note.cls = RX9 ∧ yX9_note.cls ≠ "java/lang/invoke/MethodHandle" ∧ yX9_note.cls ≠ "java/lang/invoke/VarHandle" ∧ (parseMethodDescriptor yX9_note.desc).map (fun d => d.parameters.length) = some 3 := by decide +kernel
set_option maxHeartbeats 4000000 in
set_option maxRecDepth 100000 in
theorem w_X9_note_64 {p : Program} {l : Launch} {e : Env} {s : State} {m : MethodId} {below : List Frame} {meth : Method} {c : Code} {args : Array Value} {D : va_G} {cy : Nat → ClassId} {g : Nat → Nat} {A : Nat → Prop} {r : Int32} {um' : St} (C0 : Cx p s m meth c args cX9_note 4 (some .int) wsX9_note RX9 D cy A) : ∀ (l2 : Int32) (s0 : Int32) (s1 : Int32) (um : St), f_X9_note_64 l2 s0 s1 um = some (r, um') → ∀ (H : Heap) (locs : List Loc) (ls : Array Slot), va_P D vwCl (wX9 cy g um) H → va_D A (wX9 cy g um) → va_S A s.heap H locs → lv_has ls 4 [(0, .ref (g 999)), (2, .int l2)] → W p l e (rmH 1) s m args below meth c H locs 0 0 (QI below args s A D cy (wX9 cy g um') r) (F0 m 64 ls [.int s0, .int s1, .ref (g 917)]) := by
  obtain ⟨hx, hb, hr, hml, hown, hts, hlocks, hK, hA⟩ := id C0
  intro l2 s0 s1 um h H locs ls hP hD hS hl
  rw [f_X9_note_64] at h
  refine x_iast (Wd := (fun uz => wX9 cy g uz)) (u := um) (k := 17) hx hb hK hP hD hS 14 rfl rfl (fun _ => rfl) h dX9_note_64 (fun um5 H locs h hP hD hS => ?_)
  refine lv_aload_n hx hb dX9_note_65 rfl (lv_at hl 0 rfl) ?_
  refine va_get (D := D) (ci := 8) (v := .ref (g 918)) (C := RX9) (T := TX9) (N := 38) hx hb hts ki_X9_note_X9 hown hK hP 0 rfl rfl 18 (by decide) (hts _ k_X9_note_2) (fun _ h9 => h9) rfl dX9_note_66 ?_
  refine lv_aload_n hx hb dX9_note_69 rfl (lv_at hl 0 rfl) ?_
  refine va_get (D := D) (ci := 8) (v := .int (um5.1 16)) (C := RX9) (T := TX9) (N := 38) hx hb hts ki_X9_note_X9 hown hK hP 0 rfl rfl 16 (by decide) (hts _ k_X9_note_0) (fun _ h9 => h9) rfl dX9_note_70 ?_
  refine lv_iload_n hx hb dX9_note_73 rfl (lv_at hl 1 rfl) ?_
  refine x_iast (Wd := (fun uz => wX9 cy g uz)) (u := um5) (k := 18) hx hb hK hP hD hS 15 rfl rfl (fun _ => rfl) h dX9_note_74 (fun um6 H locs h hP hD hS => ?_)
  refine lv_aload_n hx hb dX9_note_75 rfl (lv_at hl 0 rfl) ?_
  refine lv_dup hx hb dX9_note_76 rfl ?_
  refine va_get (D := D) (ci := 8) (v := .int (um6.1 16)) (C := RX9) (T := TX9) (N := 38) hx hb hts ki_X9_note_X9 hown hK hP 0 rfl rfl 16 (by decide) (hts _ k_X9_note_0) (fun _ h9 => h9) rfl dX9_note_77 ?_
  refine lv_iconst (v := 1) hx hb dX9_note_80 (by decide) ?_
  refine lv_iadd hx hb dX9_note_81 ?_
  refine x_put (D := D) (ci := 8) (Wd := (fun uz => wX9 cy g uz)) (u := um6) (C := RX9) (T := TX9) (N := 38) hx hb hts ki_X9_note_X9 tyX9 tyX9_ok nmX9 hown hK hP hD hS 0 rfl rfl 16 (by decide) (hts _ k_X9_note_0) (fun _ h9 => h9) rfl (tyX9_ok 16 (by decide)) rfl rfl (Nat.le_of_ble_eq_true rfl) (fun _ => rfl) h dX9_note_82 (fun um7 H locs h hP hD hS => ?_)
  refine lv_aload_n hx hb dX9_note_85 rfl (lv_at hl 0 rfl) ?_
  refine va_get (D := D) (ci := 8) (v := .int (um7.1 16)) (C := RX9) (T := TX9) (N := 38) hx hb hts ki_X9_note_X9 hown hK hP 0 rfl rfl 16 (by decide) (hts _ k_X9_note_0) (fun _ h9 => h9) rfl dX9_note_86 ?_
  cases h
  exact x_iret hx hb hr hlocks hK hP hD hS dX9_note_89 rfl rfl
set_option maxHeartbeats 4000000 in
set_option maxRecDepth 100000 in
theorem w_X9_note_63 {p : Program} {l : Launch} {e : Env} {s : State} {m : MethodId} {below : List Frame} {meth : Method} {c : Code} {args : Array Value} {D : va_G} {cy : Nat → ClassId} {g : Nat → Nat} {A : Nat → Prop} {r : Int32} {um' : St} (C0 : Cx p s m meth c args cX9_note 4 (some .int) wsX9_note RX9 D cy A) : ∀ (l1 : Int32) (l2 : Int32) (s0 : Int32) (um : St), f_X9_note_63 l1 l2 s0 um = some (r, um') → ∀ (H : Heap) (locs : List Loc) (ls : Array Slot), va_P D vwCl (wX9 cy g um) H → va_D A (wX9 cy g um) → va_S A s.heap H locs → lv_has ls 4 [(0, .ref (g 999)), (1, .int l1), (2, .int l2)] → W p l e (rmH 1) s m args below meth c H locs 0 0 (QI below args s A D cy (wX9 cy g um') r) (F0 m 63 ls [.int s0, .ref (g 917)]) := by
  obtain ⟨hx, hb, hr, hml, hown, hts, hlocks, hK, hA⟩ := id C0
  intro l1 l2 s0 um h H locs ls hP hD hS hl
  rw [f_X9_note_63] at h
  refine lv_iload_n hx hb dX9_note_63 rfl (lv_at hl 1 rfl) ?_
  exact w_X9_note_64 C0 l2 l1 s0 um h _ _ ls hP hD hS (lv_sub hl [0, 2] rfl)
set_option maxHeartbeats 4000000 in
set_option maxRecDepth 100000 in
theorem c_X9_note (l : Launch) (D : va_G) (cy : Nat → ClassId) (g : Nat → Nat) (um : St) (p0 : Int32) (p1 : Int32) (p2 : Int32) (r : Int32) (um' : St) (h : f_X9_note p0 p1 p2 um = some (r, um')) : CtI l yX9_note wsX9_note (rmH 1) [.ref (g 999), .int p0, .int p1, .int p2] D cy (wX9 cy g um) (wX9 cy g um') r := by
  refine ct_enter (D := D) (cy := cy) (cc := cX9_note) (maxL := 4) (ret := (some .int)) (w := wX9 cy g um) (Qc := fun sz => va_Qi (fun r' (_ : Unit) => r' = r) (Bw D cy (va_A (wX9 cy g um) sz) (wX9 cy g um')) (va_A (wX9 cy g um) sz)) (by decide) rfl (Nat.le_of_ble_eq_true rfl) ?_
  intro p e s m below meth c A C0 hAe ls hl hP hD hS
  have e1 : MQ below ((fun sz => va_Qi (fun r' (_ : Unit) => r' = r) (Bw D cy (va_A (wX9 cy g um) sz) (wX9 cy g um')) (va_A (wX9 cy g um) sz)) s.heap.size) [.ref (g 999), .int p0, .int p1, .int p2].toArray s 0 0 A = QI below [.ref (g 999), .int p0, .int p1, .int p2].toArray s A D cy (wX9 cy g um') r := by rw [hAe]; rfl
  rw [e1]
  clear e1 hAe
  obtain ⟨hx, hb, hr, hml, hown, hts, hlocks, hK, hA⟩ := id C0
  have hl : lv_has ls 4 [(0, .ref (g 999)), (1, .int p0), (2, .int p1), (3, .int p2)] := hl
  rw [f_X9_note] at h
  refine lv_iload_n hx hb dX9_note_0 rfl (lv_at hl 1 rfl) ?_
  refine lv_iconst (v := -1) hx hb dX9_note_1 (by decide) ?_
  refine lv_iconst (v := 3) hx hb dX9_note_2 (by decide) ?_
  obtain ⟨r1, e2, h⟩ := bd_some h
  refine x_callSI (As := [.int p0, .int (-1 : Int32), .int (3 : Int32)]) (rest := []) (n := 3) ⟨hx, hb, hml, hown, hts⟩ (c_X9_in l D cy  p0 (-1 : Int32) (3 : Int32) r1 e2) gX9_note_X9_in rfl hd_X9_in ⟨Nat.le_of_ble_eq_true rfl, Nat.le_of_ble_eq_true rfl⟩ ⟨rfl, rfl⟩ hK (sp_nil _) (sp_nil _) hP hD hS hA rfl hl.1 rfl (Nat.le_of_ble_eq_true rfl) dX9_note_3 ⟨Nat.zero_le _, Nat.zero_le _⟩ (fun H locs hP hD hS => ?_)
  clear e2
  refine x_if_eq (tgt := 18) hx hb dX9_note_6 (by decide) h (fun _ h => ?_) (fun _ h => ?_)
  · refine lv_bipush (v := -3) hx hb dX9_note_18 (by decide) ?_
    cases h
    exact x_iret hx hb hr hlocks hK hP hD hS dX9_note_20 rfl rfl
  · refine lv_iload_n hx hb dX9_note_9 rfl (lv_at hl 2 rfl) ?_
    refine lv_iconst (v := -1) hx hb dX9_note_10 (by decide) ?_
    refine lv_iconst (v := 3) hx hb dX9_note_11 (by decide) ?_
    obtain ⟨r3, e4, h⟩ := bd_some h
    refine x_callSI (As := [.int p1, .int (-1 : Int32), .int (3 : Int32)]) (rest := []) (n := 3) ⟨hx, hb, hml, hown, hts⟩ (c_X9_in l D cy  p1 (-1 : Int32) (3 : Int32) r3 e4) gX9_note_X9_in rfl hd_X9_in ⟨Nat.le_of_ble_eq_true rfl, Nat.le_of_ble_eq_true rfl⟩ ⟨rfl, rfl⟩ hK (sp_nil _) (sp_nil _) hP hD hS hA rfl hl.1 rfl (Nat.le_of_ble_eq_true rfl) dX9_note_12 ⟨Nat.zero_le _, Nat.zero_le _⟩ (fun H locs hP hD hS => ?_)
    clear e4
    refine x_if_ne (tgt := 21) hx hb dX9_note_15 (by decide) h (fun _ h => ?_) (fun _ h => ?_)
    · refine lv_bipush (v := -3) hx hb dX9_note_18 (by decide) ?_
      cases h
      exact x_iret hx hb hr hlocks hK hP hD hS dX9_note_20 rfl rfl
    · refine lv_aload_n hx hb dX9_note_21 rfl (lv_at hl 0 rfl) ?_
      refine va_get (D := D) (ci := 8) (v := .int (um.1 16)) (C := RX9) (T := TX9) (N := 38) hx hb hts ki_X9_note_X9 hown hK hP 0 rfl rfl 16 (by decide) (hts _ k_X9_note_0) (fun _ h9 => h9) rfl dX9_note_22 ?_
      refine lv_bipush (v := 60) hx hb dX9_note_25 (by decide) ?_
      refine x_icmp_ne (tgt := 33) hx hb dX9_note_27 (by decide) h (fun _ h => ?_) (fun _ h => ?_)
      · refine lv_bipush (v := -5) hx hb dX9_note_30 (by decide) ?_
        cases h
        exact x_iret hx hb hr hlocks hK hP hD hS dX9_note_32 rfl rfl
      · refine lv_aload_n hx hb dX9_note_33 rfl (lv_at hl 0 rfl) ?_
        refine va_get (D := D) (ci := 8) (v := .ref (g 917)) (C := RX9) (T := TX9) (N := 38) hx hb hts ki_X9_note_X9 hown hK hP 0 rfl rfl 17 (by decide) (hts _ k_X9_note_1) (fun _ h9 => h9) rfl dX9_note_34 ?_
        refine lv_aload_n hx hb dX9_note_37 rfl (lv_at hl 0 rfl) ?_
        refine va_get (D := D) (ci := 8) (v := .int (um.1 16)) (C := RX9) (T := TX9) (N := 38) hx hb hts ki_X9_note_X9 hown hK hP 0 rfl rfl 16 (by decide) (hts _ k_X9_note_0) (fun _ h9 => h9) rfl dX9_note_38 ?_
        refine lv_iload_n hx hb dX9_note_41 rfl (lv_at hl 3 rfl) ?_
        refine x_if_eq (tgt := 63) hx hb dX9_note_42 (by decide) h (fun _ h => ?_) (fun _ h => ?_)
        · exact w_X9_note_63 C0 p0 p1 (um.1 16) um h _ _ ls hP hD hS (lv_sub hl [0, 1, 2] rfl)
        · refine lv_iload_n hx hb dX9_note_45 rfl (lv_at hl 1 rfl) ?_
          refine x_if_lt (tgt := 63) hx hb dX9_note_46 (by decide) h (fun _ h => ?_) (fun _ h => ?_)
          · exact w_X9_note_63 C0 p0 p1 (um.1 16) um h _ _ ls hP hD hS (lv_sub hl [0, 1, 2] rfl)
          · refine lv_iload_n hx hb dX9_note_49 rfl (lv_at hl 1 rfl) ?_
            refine lv_iconst (v := 2) hx hb dX9_note_50 (by decide) ?_
            refine lv_idiv hx hb dX9_note_51 (by decide) ?_
            refine lv_iconst (v := 2) hx hb dX9_note_52 (by decide) ?_
            refine lv_imul hx hb dX9_note_53 ?_
            refine lv_iconst (v := 1) hx hb dX9_note_54 (by decide) ?_
            refine lv_iadd hx hb dX9_note_55 ?_
            refine lv_iload_n hx hb dX9_note_56 rfl (lv_at hl 1 rfl) ?_
            refine lv_iconst (v := 2) hx hb dX9_note_57 (by decide) ?_
            refine lv_irem hx hb dX9_note_58 (by decide) ?_
            refine lv_isub hx hb dX9_note_59 ?_
            refine lv_goto (tgt := 64) hx hb dX9_note_60 (by decide) ?_
            exact w_X9_note_64 C0 p1 ((((p0 / (2 : Int32)) * (2 : Int32)) + (1 : Int32)) - (p0 - p0 / (2 : Int32) * (2 : Int32))) (um.1 16) um h _ _ ls hP hD hS (lv_sub hl [0, 2] rfl)
theorem k_X9_tallyOf_0 : Cond.fieldLink RX9 176 "FeatherHallModel" "notes" "I" ∈ wsX9_tallyOf := (List.mem_cons_of_mem _ (List.mem_append_left _ (List.mem_of_getElem? (i := 0) rfl)))
theorem ki_X9_tallyOf_X9 : ∀ w ∈ u_ws RX9 TX9 38, w ∈ wsX9_tallyOf := fun _ hh => (List.mem_cons_of_mem _ (List.mem_append_right _ hh))
theorem k_X9_tallyOf_1 : Cond.fieldLink RX9 50 "FeatherHallModel" "noteZone" "[I" ∈ wsX9_tallyOf := (List.mem_cons_of_mem _ (List.mem_append_left _ (List.mem_of_getElem? (i := 1) rfl)))
theorem k_X9_tallyOf_2 : Cond.fieldLink RX9 53 "FeatherHallModel" "noteKind" "[I" ∈ wsX9_tallyOf := (List.mem_cons_of_mem _ (List.mem_append_left _ (List.mem_of_getElem? (i := 2) rfl)))
theorem hd_X9_tallyOf : yX9_tallyOf.cls = RX9 ∧ yX9_tallyOf.cls ≠ "java/lang/invoke/MethodHandle" ∧ yX9_tallyOf.cls ≠ "java/lang/invoke/VarHandle" ∧ (parseMethodDescriptor yX9_tallyOf.desc).map (fun d => d.parameters.length) = some 3 := by decide +kernel
set_option maxHeartbeats 4000000 in
set_option maxRecDepth 100000 in
theorem w_X9_tallyOf_103 {p : Program} {l : Launch} {e : Env} {s : State} {m : MethodId} {below : List Frame} {meth : Method} {c : Code} {args : Array Value} {D : va_G} {cy : Nat → ClassId} {g : Nat → Nat} {A : Nat → Prop} {um : St} {r : Int32} (C0 : Cx p s m meth c args cX9_tallyOf 7 (some .int) wsX9_tallyOf RX9 D cy A) {k_6 : Int32 → Int32 → Int32 → Int32 → Int32 → Option (Int32)} (hk_6 : ∀ (l1 : Int32) (l2 : Int32) (l3 : Int32) (l4 : Int32) (l5 : Int32), k_6 l1 l2 l3 l4 l5 = some r → ∀ (H : Heap) (locs : List Loc) (ls : Array Slot), va_P D vwCl (wX9 cy g um) H → va_D A (wX9 cy g um) → va_S A s.heap H locs → lv_has ls 7 [(0, .ref (g 999)), (1, .int l1), (2, .int l2), (3, .int l3), (4, .int l4), (5, .int l5)] → W p l e (rmH 0) s m args below meth c H locs 0 0 (QI below args s A D cy (wX9 cy g um) r) (F0 m 6 ls [])) : ∀ (l1 : Int32) (l2 : Int32) (l3 : Int32) (l5 : Int32) (s0 : Int32) (s1 : Int32), f_X9_tallyOf_103 um k_6 l1 l2 l3 l5 s0 s1 = some r → ∀ (H : Heap) (locs : List Loc) (ls : Array Slot), va_P D vwCl (wX9 cy g um) H → va_D A (wX9 cy g um) → va_S A s.heap H locs → lv_has ls 7 [(0, .ref (g 999)), (1, .int l1), (2, .int l2), (3, .int l3), (5, .int l5)] → W p l e (rmH 0) s m args below meth c H locs 0 0 (QI below args s A D cy (wX9 cy g um) r) (F0 m 103 ls [.int s0, .int s1]) := by
  obtain ⟨hx, hb, hr, hml, hown, hts, hlocks, hK, hA⟩ := id C0
  intro l1 l2 l3 l5 s0 s1 h H locs ls hP hD hS hl
  rw [f_X9_tallyOf_103] at h
  refine lv_iadd hx hb dX9_tallyOf_103 ?_
  refine x_nm h (fun v5 h => ?_)
  refine lv_istore (lv' := [(4, .int v5), (0, .ref (g 999)), (1, .int l1), (2, .int l2), (3, .int l3), (5, .int l5)]) hx hb dX9_tallyOf_104 hl (by decide) rfl (fun ls hl => ?_)
  obtain ⟨v6, ev6, h⟩ := nm_ex h
  refine lv_iinc (v := v6) (lv' := [(5, .int v6), (4, .int v5), (0, .ref (g 999)), (1, .int l1), (2, .int l2), (3, .int l3)]) hx hb dX9_tallyOf_106 hl (k := 5) rfl (by rw [ev6]; rfl) (by decide) rfl (fun ls hl => ?_)
  clear ev6
  refine lv_goto (tgt := 6) hx hb dX9_tallyOf_109 (by decide) ?_
  exact hk_6 l1 l2 l3 v5 v6 h _ _ ls hP hD hS (lv_sub hl [2, 3, 4, 5, 1, 0] rfl)
set_option maxHeartbeats 4000000 in
set_option maxRecDepth 100000 in
theorem w_X9_tallyOf_89 {p : Program} {l : Launch} {e : Env} {s : State} {m : MethodId} {below : List Frame} {meth : Method} {c : Code} {args : Array Value} {D : va_G} {cy : Nat → ClassId} {g : Nat → Nat} {A : Nat → Prop} {um : St} {r : Int32} (C0 : Cx p s m meth c args cX9_tallyOf 7 (some .int) wsX9_tallyOf RX9 D cy A) {k_6 : Int32 → Int32 → Int32 → Int32 → Int32 → Option (Int32)} (hk_6 : ∀ (l1 : Int32) (l2 : Int32) (l3 : Int32) (l4 : Int32) (l5 : Int32), k_6 l1 l2 l3 l4 l5 = some r → ∀ (H : Heap) (locs : List Loc) (ls : Array Slot), va_P D vwCl (wX9 cy g um) H → va_D A (wX9 cy g um) → va_S A s.heap H locs → lv_has ls 7 [(0, .ref (g 999)), (1, .int l1), (2, .int l2), (3, .int l3), (4, .int l4), (5, .int l5)] → W p l e (rmH 0) s m args below meth c H locs 0 0 (QI below args s A D cy (wX9 cy g um) r) (F0 m 6 ls [])) : ∀ (l1 : Int32) (l2 : Int32) (l3 : Int32) (l4 : Int32) (l5 : Int32) (s0 : Int32), f_X9_tallyOf_89 um k_6 l1 l2 l3 l4 l5 s0 = some r → ∀ (H : Heap) (locs : List Loc) (ls : Array Slot), va_P D vwCl (wX9 cy g um) H → va_D A (wX9 cy g um) → va_S A s.heap H locs → lv_has ls 7 [(0, .ref (g 999)), (1, .int l1), (2, .int l2), (3, .int l3), (4, .int l4), (5, .int l5)] → W p l e (rmH 0) s m args below meth c H locs 0 0 (QI below args s A D cy (wX9 cy g um) r) (F0 m 89 ls [.int s0]) := by
  obtain ⟨hx, hb, hr, hml, hown, hts, hlocks, hK, hA⟩ := id C0
  intro l1 l2 l3 l4 l5 s0 h H locs ls hP hD hS hl
  rw [f_X9_tallyOf_89] at h
  refine lv_istore (lv' := [(6, .int s0), (0, .ref (g 999)), (1, .int l1), (2, .int l2), (3, .int l3), (4, .int l4), (5, .int l5)]) hx hb dX9_tallyOf_89 hl (by decide) rfl (fun ls hl => ?_)
  refine lv_iload hx hb dX9_tallyOf_91 (lv_at hl 5 rfl) ?_
  refine lv_iload hx hb dX9_tallyOf_93 (lv_at hl 0 rfl) ?_
  refine x_if_eq (tgt := 102) hx hb dX9_tallyOf_95 (by decide) h (fun _ h => ?_) (fun _ h => ?_)
  · refine lv_iconst (v := 0) hx hb dX9_tallyOf_102 (by decide) ?_
    exact w_X9_tallyOf_103 C0 hk_6 l1 l2 l3 l5 (0 : Int32) l4 h _ _ ls hP hD hS (lv_sub hl [1, 2, 3, 4, 6] rfl)
  · refine lv_iconst (v := 1) hx hb dX9_tallyOf_98 (by decide) ?_
    refine lv_goto (tgt := 103) hx hb dX9_tallyOf_99 (by decide) ?_
    exact w_X9_tallyOf_103 C0 hk_6 l1 l2 l3 l5 (1 : Int32) l4 h _ _ ls hP hD hS (lv_sub hl [1, 2, 3, 4, 6] rfl)
set_option maxHeartbeats 4000000 in
set_option maxRecDepth 100000 in
theorem w_X9_tallyOf_84 {p : Program} {l : Launch} {e : Env} {s : State} {m : MethodId} {below : List Frame} {meth : Method} {c : Code} {args : Array Value} {D : va_G} {cy : Nat → ClassId} {g : Nat → Nat} {A : Nat → Prop} {um : St} {r : Int32} (C0 : Cx p s m meth c args cX9_tallyOf 7 (some .int) wsX9_tallyOf RX9 D cy A) {k_6 : Int32 → Int32 → Int32 → Int32 → Int32 → Option (Int32)} (hk_6 : ∀ (l1 : Int32) (l2 : Int32) (l3 : Int32) (l4 : Int32) (l5 : Int32), k_6 l1 l2 l3 l4 l5 = some r → ∀ (H : Heap) (locs : List Loc) (ls : Array Slot), va_P D vwCl (wX9 cy g um) H → va_D A (wX9 cy g um) → va_S A s.heap H locs → lv_has ls 7 [(0, .ref (g 999)), (1, .int l1), (2, .int l2), (3, .int l3), (4, .int l4), (5, .int l5)] → W p l e (rmH 0) s m args below meth c H locs 0 0 (QI below args s A D cy (wX9 cy g um) r) (F0 m 6 ls [])) : ∀ (l1 : Int32) (l2 : Int32) (l3 : Int32) (l4 : Int32) (l5 : Int32), f_X9_tallyOf_84 um k_6 l1 l2 l3 l4 l5 = some r → ∀ (H : Heap) (locs : List Loc) (ls : Array Slot), va_P D vwCl (wX9 cy g um) H → va_D A (wX9 cy g um) → va_S A s.heap H locs → lv_has ls 7 [(0, .ref (g 999)), (1, .int l1), (2, .int l2), (3, .int l3), (4, .int l4), (5, .int l5)] → W p l e (rmH 0) s m args below meth c H locs 0 0 (QI below args s A D cy (wX9 cy g um) r) (F0 m 84 ls []) := by
  obtain ⟨hx, hb, hr, hml, hown, hts, hlocks, hK, hA⟩ := id C0
  intro l1 l2 l3 l4 l5 h H locs ls hP hD hS hl
  rw [f_X9_tallyOf_84] at h
  refine lv_iconst (v := 1) hx hb dX9_tallyOf_84 (by decide) ?_
  refine lv_goto (tgt := 89) hx hb dX9_tallyOf_85 (by decide) ?_
  exact w_X9_tallyOf_89 C0 hk_6 l1 l2 l3 l4 l5 (1 : Int32) h _ _ ls hP hD hS (lv_sub hl [0, 1, 2, 3, 4, 5] rfl)
set_option maxHeartbeats 4000000 in
set_option maxRecDepth 100000 in
theorem w_X9_tallyOf_88 {p : Program} {l : Launch} {e : Env} {s : State} {m : MethodId} {below : List Frame} {meth : Method} {c : Code} {args : Array Value} {D : va_G} {cy : Nat → ClassId} {g : Nat → Nat} {A : Nat → Prop} {um : St} {r : Int32} (C0 : Cx p s m meth c args cX9_tallyOf 7 (some .int) wsX9_tallyOf RX9 D cy A) {k_6 : Int32 → Int32 → Int32 → Int32 → Int32 → Option (Int32)} (hk_6 : ∀ (l1 : Int32) (l2 : Int32) (l3 : Int32) (l4 : Int32) (l5 : Int32), k_6 l1 l2 l3 l4 l5 = some r → ∀ (H : Heap) (locs : List Loc) (ls : Array Slot), va_P D vwCl (wX9 cy g um) H → va_D A (wX9 cy g um) → va_S A s.heap H locs → lv_has ls 7 [(0, .ref (g 999)), (1, .int l1), (2, .int l2), (3, .int l3), (4, .int l4), (5, .int l5)] → W p l e (rmH 0) s m args below meth c H locs 0 0 (QI below args s A D cy (wX9 cy g um) r) (F0 m 6 ls [])) : ∀ (l1 : Int32) (l2 : Int32) (l3 : Int32) (l4 : Int32) (l5 : Int32), f_X9_tallyOf_88 um k_6 l1 l2 l3 l4 l5 = some r → ∀ (H : Heap) (locs : List Loc) (ls : Array Slot), va_P D vwCl (wX9 cy g um) H → va_D A (wX9 cy g um) → va_S A s.heap H locs → lv_has ls 7 [(0, .ref (g 999)), (1, .int l1), (2, .int l2), (3, .int l3), (4, .int l4), (5, .int l5)] → W p l e (rmH 0) s m args below meth c H locs 0 0 (QI below args s A D cy (wX9 cy g um) r) (F0 m 88 ls []) := by
  obtain ⟨hx, hb, hr, hml, hown, hts, hlocks, hK, hA⟩ := id C0
  intro l1 l2 l3 l4 l5 h H locs ls hP hD hS hl
  rw [f_X9_tallyOf_88] at h
  refine lv_iconst (v := 0) hx hb dX9_tallyOf_88 (by decide) ?_
  exact w_X9_tallyOf_89 C0 hk_6 l1 l2 l3 l4 l5 (0 : Int32) h _ _ ls hP hD hS (lv_sub hl [0, 1, 2, 3, 4, 5] rfl)
set_option maxHeartbeats 4000000 in
set_option maxRecDepth 100000 in
theorem w_X9_tallyOf_63 {p : Program} {l : Launch} {e : Env} {s : State} {m : MethodId} {below : List Frame} {meth : Method} {c : Code} {args : Array Value} {D : va_G} {cy : Nat → ClassId} {g : Nat → Nat} {A : Nat → Prop} {um : St} {r : Int32} (C0 : Cx p s m meth c args cX9_tallyOf 7 (some .int) wsX9_tallyOf RX9 D cy A) {k_6 : Int32 → Int32 → Int32 → Int32 → Int32 → Option (Int32)} (hk_6 : ∀ (l1 : Int32) (l2 : Int32) (l3 : Int32) (l4 : Int32) (l5 : Int32), k_6 l1 l2 l3 l4 l5 = some r → ∀ (H : Heap) (locs : List Loc) (ls : Array Slot), va_P D vwCl (wX9 cy g um) H → va_D A (wX9 cy g um) → va_S A s.heap H locs → lv_has ls 7 [(0, .ref (g 999)), (1, .int l1), (2, .int l2), (3, .int l3), (4, .int l4), (5, .int l5)] → W p l e (rmH 0) s m args below meth c H locs 0 0 (QI below args s A D cy (wX9 cy g um) r) (F0 m 6 ls [])) : ∀ (l1 : Int32) (l2 : Int32) (l3 : Int32) (l4 : Int32) (l5 : Int32), f_X9_tallyOf_63 um k_6 l1 l2 l3 l4 l5 = some r → ∀ (H : Heap) (locs : List Loc) (ls : Array Slot), va_P D vwCl (wX9 cy g um) H → va_D A (wX9 cy g um) → va_S A s.heap H locs → lv_has ls 7 [(0, .ref (g 999)), (1, .int l1), (2, .int l2), (3, .int l3), (4, .int l4), (5, .int l5)] → W p l e (rmH 0) s m args below meth c H locs 0 0 (QI below args s A D cy (wX9 cy g um) r) (F0 m 63 ls []) := by
  obtain ⟨hx, hb, hr, hml, hown, hts, hlocks, hK, hA⟩ := id C0
  intro l1 l2 l3 l4 l5 h H locs ls hP hD hS hl
  rw [f_X9_tallyOf_63] at h
  refine lv_iload_n hx hb dX9_tallyOf_63 rfl (lv_at hl 3 rfl) ?_
  refine lv_iconst (v := 1) hx hb dX9_tallyOf_64 (by decide) ?_
  refine x_icmp_eq (tgt := 84) hx hb dX9_tallyOf_65 (by decide) h (fun _ h => ?_) (fun _ h => ?_)
  · exact w_X9_tallyOf_84 C0 hk_6 l1 l2 l3 l4 l5 h _ _ ls hP hD hS (lv_sub hl [0, 1, 2, 3, 4, 5] rfl)
  · refine lv_iload_n hx hb dX9_tallyOf_68 rfl (lv_at hl 3 rfl) ?_
    refine lv_iconst (v := 3) hx hb dX9_tallyOf_69 (by decide) ?_
    refine x_icmp_eq (tgt := 84) hx hb dX9_tallyOf_70 (by decide) h (fun _ h => ?_) (fun _ h => ?_)
    · exact w_X9_tallyOf_84 C0 hk_6 l1 l2 l3 l4 l5 h _ _ ls hP hD hS (lv_sub hl [0, 1, 2, 3, 4, 5] rfl)
    · refine lv_aload_n hx hb dX9_tallyOf_73 rfl (lv_at hl 0 rfl) ?_
      refine va_get (D := D) (ci := 8) (v := .ref (g 918)) (C := RX9) (T := TX9) (N := 38) hx hb hts ki_X9_tallyOf_X9 hown hK hP 0 rfl rfl 18 (by decide) (hts _ k_X9_tallyOf_2) (fun _ h9 => h9) rfl dX9_tallyOf_74 ?_
      refine lv_iload hx hb dX9_tallyOf_77 (lv_at hl 5 rfl) ?_
      refine x_iald hx hb hK hP 15 rfl rfl h dX9_tallyOf_79 (fun v4 h => ?_)
      refine lv_iload_n hx hb dX9_tallyOf_80 rfl (lv_at hl 2 rfl) ?_
      refine x_icmp_ne (tgt := 88) hx hb dX9_tallyOf_81 (by decide) h (fun _ h => ?_) (fun _ h => ?_)
      · exact w_X9_tallyOf_84 C0 hk_6 l1 l2 l3 l4 l5 h _ _ ls hP hD hS (lv_sub hl [0, 1, 2, 3, 4, 5] rfl)
      · exact w_X9_tallyOf_88 C0 hk_6 l1 l2 l3 l4 l5 h _ _ ls hP hD hS (lv_sub hl [0, 1, 2, 3, 4, 5] rfl)
set_option maxHeartbeats 4000000 in
set_option maxRecDepth 100000 in
theorem w_X9_tallyOf_40 {p : Program} {l : Launch} {e : Env} {s : State} {m : MethodId} {below : List Frame} {meth : Method} {c : Code} {args : Array Value} {D : va_G} {cy : Nat → ClassId} {g : Nat → Nat} {A : Nat → Prop} {um : St} {r : Int32} (C0 : Cx p s m meth c args cX9_tallyOf 7 (some .int) wsX9_tallyOf RX9 D cy A) {k_6 : Int32 → Int32 → Int32 → Int32 → Int32 → Option (Int32)} (hk_6 : ∀ (l1 : Int32) (l2 : Int32) (l3 : Int32) (l4 : Int32) (l5 : Int32), k_6 l1 l2 l3 l4 l5 = some r → ∀ (H : Heap) (locs : List Loc) (ls : Array Slot), va_P D vwCl (wX9 cy g um) H → va_D A (wX9 cy g um) → va_S A s.heap H locs → lv_has ls 7 [(0, .ref (g 999)), (1, .int l1), (2, .int l2), (3, .int l3), (4, .int l4), (5, .int l5)] → W p l e (rmH 0) s m args below meth c H locs 0 0 (QI below args s A D cy (wX9 cy g um) r) (F0 m 6 ls [])) : ∀ (l1 : Int32) (l2 : Int32) (l3 : Int32) (l4 : Int32) (l5 : Int32) (s0 : Int32), f_X9_tallyOf_40 um k_6 l1 l2 l3 l4 l5 s0 = some r → ∀ (H : Heap) (locs : List Loc) (ls : Array Slot), va_P D vwCl (wX9 cy g um) H → va_D A (wX9 cy g um) → va_S A s.heap H locs → lv_has ls 7 [(0, .ref (g 999)), (1, .int l1), (2, .int l2), (3, .int l3), (4, .int l4), (5, .int l5)] → W p l e (rmH 0) s m args below meth c H locs 0 0 (QI below args s A D cy (wX9 cy g um) r) (F0 m 40 ls [.int s0]) := by
  obtain ⟨hx, hb, hr, hml, hown, hts, hlocks, hK, hA⟩ := id C0
  intro l1 l2 l3 l4 l5 s0 h H locs ls hP hD hS hl
  rw [f_X9_tallyOf_40] at h
  refine lv_istore (lv' := [(6, .int s0), (0, .ref (g 999)), (1, .int l1), (2, .int l2), (3, .int l3), (4, .int l4), (5, .int l5)]) hx hb dX9_tallyOf_40 hl (by decide) rfl (fun ls hl => ?_)
  refine lv_iload hx hb dX9_tallyOf_42 (lv_at hl 0 rfl) ?_
  refine x_if_eq (tgt := 88) hx hb dX9_tallyOf_44 (by decide) h (fun _ h => ?_) (fun _ h => ?_)
  · exact w_X9_tallyOf_88 C0 hk_6 l1 l2 l3 l4 l5 h _ _ ls hP hD hS (lv_sub hl [1, 2, 3, 4, 5, 6] rfl)
  · refine lv_iload_n hx hb dX9_tallyOf_47 rfl (lv_at hl 4 rfl) ?_
    refine lv_iconst (v := 1) hx hb dX9_tallyOf_48 (by decide) ?_
    refine x_icmp_gt (tgt := 63) hx hb dX9_tallyOf_49 (by decide) h (fun _ h => ?_) (fun _ h => ?_)
    · exact w_X9_tallyOf_63 C0 hk_6 l1 l2 l3 l4 l5 h _ _ ls hP hD hS (lv_sub hl [1, 2, 3, 4, 5, 6] rfl)
    · refine lv_aload_n hx hb dX9_tallyOf_52 rfl (lv_at hl 1 rfl) ?_
      refine va_get (D := D) (ci := 8) (v := .ref (g 917)) (C := RX9) (T := TX9) (N := 38) hx hb hts ki_X9_tallyOf_X9 hown hK hP 0 rfl rfl 17 (by decide) (hts _ k_X9_tallyOf_1) (fun _ h9 => h9) rfl dX9_tallyOf_53 ?_
      refine lv_iload hx hb dX9_tallyOf_56 (lv_at hl 6 rfl) ?_
      refine x_iald hx hb hK hP 14 rfl rfl h dX9_tallyOf_58 (fun v3 h => ?_)
      refine lv_iload_n hx hb dX9_tallyOf_59 rfl (lv_at hl 2 rfl) ?_
      refine x_icmp_ne (tgt := 88) hx hb dX9_tallyOf_60 (by decide) h (fun _ h => ?_) (fun _ h => ?_)
      · exact w_X9_tallyOf_63 C0 hk_6 l1 l2 l3 l4 l5 h _ _ ls hP hD hS (lv_sub hl [1, 2, 3, 4, 5, 6] rfl)
      · exact w_X9_tallyOf_88 C0 hk_6 l1 l2 l3 l4 l5 h _ _ ls hP hD hS (lv_sub hl [1, 2, 3, 4, 5, 6] rfl)
set_option maxHeartbeats 4000000 in
set_option maxRecDepth 100000 in
theorem w_X9_tallyOf_39 {p : Program} {l : Launch} {e : Env} {s : State} {m : MethodId} {below : List Frame} {meth : Method} {c : Code} {args : Array Value} {D : va_G} {cy : Nat → ClassId} {g : Nat → Nat} {A : Nat → Prop} {um : St} {r : Int32} (C0 : Cx p s m meth c args cX9_tallyOf 7 (some .int) wsX9_tallyOf RX9 D cy A) {k_6 : Int32 → Int32 → Int32 → Int32 → Int32 → Option (Int32)} (hk_6 : ∀ (l1 : Int32) (l2 : Int32) (l3 : Int32) (l4 : Int32) (l5 : Int32), k_6 l1 l2 l3 l4 l5 = some r → ∀ (H : Heap) (locs : List Loc) (ls : Array Slot), va_P D vwCl (wX9 cy g um) H → va_D A (wX9 cy g um) → va_S A s.heap H locs → lv_has ls 7 [(0, .ref (g 999)), (1, .int l1), (2, .int l2), (3, .int l3), (4, .int l4), (5, .int l5)] → W p l e (rmH 0) s m args below meth c H locs 0 0 (QI below args s A D cy (wX9 cy g um) r) (F0 m 6 ls [])) : ∀ (l1 : Int32) (l2 : Int32) (l3 : Int32) (l4 : Int32) (l5 : Int32), f_X9_tallyOf_39 um k_6 l1 l2 l3 l4 l5 = some r → ∀ (H : Heap) (locs : List Loc) (ls : Array Slot), va_P D vwCl (wX9 cy g um) H → va_D A (wX9 cy g um) → va_S A s.heap H locs → lv_has ls 7 [(0, .ref (g 999)), (1, .int l1), (2, .int l2), (3, .int l3), (4, .int l4), (5, .int l5)] → W p l e (rmH 0) s m args below meth c H locs 0 0 (QI below args s A D cy (wX9 cy g um) r) (F0 m 39 ls []) := by
  obtain ⟨hx, hb, hr, hml, hown, hts, hlocks, hK, hA⟩ := id C0
  intro l1 l2 l3 l4 l5 h H locs ls hP hD hS hl
  rw [f_X9_tallyOf_39] at h
  refine lv_iconst (v := 0) hx hb dX9_tallyOf_39 (by decide) ?_
  exact w_X9_tallyOf_40 C0 hk_6 l1 l2 l3 l4 l5 (0 : Int32) h _ _ ls hP hD hS (lv_sub hl [0, 1, 2, 3, 4, 5] rfl)
set_option maxHeartbeats 4000000 in
set_option maxRecDepth 100000 in
theorem w_X9_tallyOf_6 {p : Program} {l : Launch} {e : Env} {s : State} {m : MethodId} {below : List Frame} {meth : Method} {c : Code} {args : Array Value} {D : va_G} {cy : Nat → ClassId} {g : Nat → Nat} {A : Nat → Prop} {um : St} {r : Int32} (C0 : Cx p s m meth c args cX9_tallyOf 7 (some .int) wsX9_tallyOf RX9 D cy A) : ∀ (nn : Nat) (l1 : Int32) (l2 : Int32) (l3 : Int32) (l4 : Int32) (l5 : Int32), f_X9_tallyOf_6 um nn l1 l2 l3 l4 l5 = some r → ∀ (H : Heap) (locs : List Loc) (ls : Array Slot), va_P D vwCl (wX9 cy g um) H → va_D A (wX9 cy g um) → va_S A s.heap H locs → lv_has ls 7 [(0, .ref (g 999)), (1, .int l1), (2, .int l2), (3, .int l3), (4, .int l4), (5, .int l5)] → W p l e (rmH 0) s m args below meth c H locs 0 0 (QI below args s A D cy (wX9 cy g um) r) (F0 m 6 ls []) := by
  obtain ⟨hx, hb, hr, hml, hown, hts, hlocks, hK, hA⟩ := id C0
  intro nn
  induction nn with
  | zero => intro l1 l2 l3 l4 l5 h; rw [f_X9_tallyOf_6] at h; cases h
  | succ nn ih =>
    intro l1 l2 l3 l4 l5 h H locs ls hP hD hS hl
    rw [f_X9_tallyOf_6] at h
    refine lv_iload hx hb dX9_tallyOf_6 (lv_at hl 5 rfl) ?_
    refine lv_aload_n hx hb dX9_tallyOf_8 rfl (lv_at hl 0 rfl) ?_
    refine va_get (D := D) (ci := 8) (v := .int (um.1 16)) (C := RX9) (T := TX9) (N := 38) hx hb hts ki_X9_tallyOf_X9 hown hK hP 0 rfl rfl 16 (by decide) (hts _ k_X9_tallyOf_0) (fun _ h9 => h9) rfl dX9_tallyOf_9 ?_
    refine x_icmp_ge (tgt := 112) hx hb dX9_tallyOf_12 (by decide) h (fun _ h => ?_) (fun _ h => ?_)
    · refine lv_iload hx hb dX9_tallyOf_112 (lv_at hl 4 rfl) ?_
      cases h
      exact x_iret hx hb hr hlocks hK hP hD hS dX9_tallyOf_114 rfl rfl
    · refine lv_aload_n hx hb dX9_tallyOf_15 rfl (lv_at hl 0 rfl) ?_
      refine va_get (D := D) (ci := 8) (v := .ref (g 917)) (C := RX9) (T := TX9) (N := 38) hx hb hts ki_X9_tallyOf_X9 hown hK hP 0 rfl rfl 17 (by decide) (hts _ k_X9_tallyOf_1) (fun _ h9 => h9) rfl dX9_tallyOf_16 ?_
      refine lv_iload hx hb dX9_tallyOf_19 (lv_at hl 5 rfl) ?_
      refine x_iald hx hb hK hP 14 rfl rfl h dX9_tallyOf_21 (fun v1 h => ?_)
      refine x_if_lt (tgt := 39) hx hb dX9_tallyOf_22 (by decide) h (fun _ h => ?_) (fun _ h => ?_)
      · exact w_X9_tallyOf_39 C0 ih l1 l2 l3 l4 l5 h _ _ ls hP hD hS (lv_sub hl [0, 1, 2, 3, 4, 5] rfl)
      · refine lv_aload_n hx hb dX9_tallyOf_25 rfl (lv_at hl 0 rfl) ?_
        refine va_get (D := D) (ci := 8) (v := .ref (g 918)) (C := RX9) (T := TX9) (N := 38) hx hb hts ki_X9_tallyOf_X9 hown hK hP 0 rfl rfl 18 (by decide) (hts _ k_X9_tallyOf_2) (fun _ h9 => h9) rfl dX9_tallyOf_26 ?_
        refine lv_iload hx hb dX9_tallyOf_29 (lv_at hl 5 rfl) ?_
        refine x_iald hx hb hK hP 15 rfl rfl h dX9_tallyOf_31 (fun v2 h => ?_)
        refine x_if_lt (tgt := 39) hx hb dX9_tallyOf_32 (by decide) h (fun _ h => ?_) (fun _ h => ?_)
        · exact w_X9_tallyOf_39 C0 ih l1 l2 l3 l4 l5 h _ _ ls hP hD hS (lv_sub hl [0, 1, 2, 3, 4, 5] rfl)
        · refine lv_iconst (v := 1) hx hb dX9_tallyOf_35 (by decide) ?_
          refine lv_goto (tgt := 40) hx hb dX9_tallyOf_36 (by decide) ?_
          exact w_X9_tallyOf_40 C0 ih l1 l2 l3 l4 l5 (1 : Int32) h _ _ ls hP hD hS (lv_sub hl [0, 1, 2, 3, 4, 5] rfl)
set_option maxHeartbeats 4000000 in
set_option maxRecDepth 100000 in
theorem c_X9_tallyOf (l : Launch) (D : va_G) (cy : Nat → ClassId) (g : Nat → Nat) (um : St) (p0 : Int32) (p1 : Int32) (p2 : Int32) (r : Int32) (h : f_X9_tallyOf um p0 p1 p2 = some r) : CtI l yX9_tallyOf wsX9_tallyOf (rmH 0) [.ref (g 999), .int p0, .int p1, .int p2] D cy (wX9 cy g um) (wX9 cy g um) r := by
  refine ct_enter (D := D) (cy := cy) (cc := cX9_tallyOf) (maxL := 7) (ret := (some .int)) (w := wX9 cy g um) (Qc := fun sz => va_Qi (fun r' (_ : Unit) => r' = r) (Bw D cy (va_A (wX9 cy g um) sz) (wX9 cy g um)) (va_A (wX9 cy g um) sz)) (by decide) rfl (Nat.le_of_ble_eq_true rfl) ?_
  intro p e s m below meth c A C0 hAe ls hl hP hD hS
  have e1 : MQ below ((fun sz => va_Qi (fun r' (_ : Unit) => r' = r) (Bw D cy (va_A (wX9 cy g um) sz) (wX9 cy g um)) (va_A (wX9 cy g um) sz)) s.heap.size) [.ref (g 999), .int p0, .int p1, .int p2].toArray s 0 0 A = QI below [.ref (g 999), .int p0, .int p1, .int p2].toArray s A D cy (wX9 cy g um) r := by rw [hAe]; rfl
  rw [e1]
  clear e1 hAe
  obtain ⟨hx, hb, hr, hml, hown, hts, hlocks, hK, hA⟩ := id C0
  have hl : lv_has ls 7 [(0, .ref (g 999)), (1, .int p0), (2, .int p1), (3, .int p2)] := hl
  rw [f_X9_tallyOf] at h
  refine lv_iconst (v := 0) hx hb dX9_tallyOf_0 (by decide) ?_
  refine lv_istore (lv' := [(4, .int (0 : Int32)), (0, .ref (g 999)), (1, .int p0), (2, .int p1), (3, .int p2)]) hx hb dX9_tallyOf_1 hl (by decide) rfl (fun ls hl => ?_)
  refine lv_iconst (v := 0) hx hb dX9_tallyOf_3 (by decide) ?_
  refine lv_istore (lv' := [(5, .int (0 : Int32)), (4, .int (0 : Int32)), (0, .ref (g 999)), (1, .int p0), (2, .int p1), (3, .int p2)]) hx hb dX9_tallyOf_4 hl (by decide) rfl (fun ls hl => ?_)
  exact w_X9_tallyOf_6 C0 FU p0 p1 p2 (0 : Int32) (0 : Int32) h _ _ ls hP hD hS (lv_sub hl [2, 3, 4, 5, 1, 0] rfl)
theorem hd_X9_tally : yX9_tally.cls = RX9 ∧ yX9_tally.cls ≠ "java/lang/invoke/MethodHandle" ∧ yX9_tally.cls ≠ "java/lang/invoke/VarHandle" ∧ (parseMethodDescriptor yX9_tally.desc).map (fun d => d.parameters.length) = some 3 := by decide +kernel
set_option maxHeartbeats 4000000 in
set_option maxRecDepth 100000 in
theorem c_X9_tally (l : Launch) (D : va_G) (cy : Nat → ClassId) (g : Nat → Nat) (um : St) (p0 : Int32) (p1 : Int32) (p2 : Int32) (r : Int32) (h : f_X9_tally um p0 p1 p2 = some r) : CtI l yX9_tally wsX9_tally (rmH 2) [.ref (g 999), .int p0, .int p1, .int p2] D cy (wX9 cy g um) (wX9 cy g um) r := by
  refine ct_enter (D := D) (cy := cy) (cc := cX9_tally) (maxL := 4) (ret := (some .int)) (w := wX9 cy g um) (Qc := fun sz => va_Qi (fun r' (_ : Unit) => r' = r) (Bw D cy (va_A (wX9 cy g um) sz) (wX9 cy g um)) (va_A (wX9 cy g um) sz)) (by decide) rfl (Nat.le_of_ble_eq_true rfl) ?_
  intro p e s m below meth c A C0 hAe ls hl hP hD hS
  have e1 : MQ below ((fun sz => va_Qi (fun r' (_ : Unit) => r' = r) (Bw D cy (va_A (wX9 cy g um) sz) (wX9 cy g um)) (va_A (wX9 cy g um) sz)) s.heap.size) [.ref (g 999), .int p0, .int p1, .int p2].toArray s 0 0 A = QI below [.ref (g 999), .int p0, .int p1, .int p2].toArray s A D cy (wX9 cy g um) r := by rw [hAe]; rfl
  rw [e1]
  clear e1 hAe
  obtain ⟨hx, hb, hr, hml, hown, hts, hlocks, hK, hA⟩ := id C0
  have hl : lv_has ls 4 [(0, .ref (g 999)), (1, .int p0), (2, .int p1), (3, .int p2)] := hl
  rw [f_X9_tally] at h
  refine lv_iload_n hx hb dX9_tally_0 rfl (lv_at hl 1 rfl) ?_
  refine lv_iconst (v := 0) hx hb dX9_tally_1 (by decide) ?_
  refine lv_iconst (v := 3) hx hb dX9_tally_2 (by decide) ?_
  obtain ⟨r1, e2, h⟩ := bd_some h
  refine x_callSI (As := [.int p0, .int (0 : Int32), .int (3 : Int32)]) (rest := []) (n := 3) ⟨hx, hb, hml, hown, hts⟩ (c_X9_in l D cy  p0 (0 : Int32) (3 : Int32) r1 e2) gX9_tally_X9_in rfl hd_X9_in ⟨Nat.le_of_ble_eq_true rfl, Nat.le_of_ble_eq_true rfl⟩ ⟨rfl, rfl⟩ hK (sp_nil _) (sp_nil _) hP hD hS hA rfl hl.1 rfl (Nat.le_of_ble_eq_true rfl) dX9_tally_3 ⟨Nat.zero_le _, Nat.zero_le _⟩ (fun H locs hP hD hS => ?_)
  clear e2
  refine x_if_eq (tgt := 16) hx hb dX9_tally_6 (by decide) h (fun _ h => ?_) (fun _ h => ?_)
  · refine lv_bipush (v := -2) hx hb dX9_tally_16 (by decide) ?_
    cases h
    exact x_iret hx hb hr hlocks hK hP hD hS dX9_tally_18 rfl rfl
  · refine lv_iload_n hx hb dX9_tally_9 rfl (lv_at hl 2 rfl) ?_
    obtain ⟨r3, e4, h⟩ := bd_some h
    refine x_callSI (As := [.int p1]) (rest := []) (n := 1) ⟨hx, hb, hml, hown, hts⟩ (c_X9_isKind l D cy  p1 r3 e4) gX9_tally_X9_isKind rfl hd_X9_isKind ⟨Nat.le_of_ble_eq_true rfl, Nat.le_of_ble_eq_true rfl⟩ ⟨rfl, rfl⟩ hK (sp_nil _) (sp_nil _) hP hD hS hA rfl hl.1 rfl (Nat.le_of_ble_eq_true rfl) dX9_tally_10 ⟨Nat.zero_le _, Nat.zero_le _⟩ (fun H locs hP hD hS => ?_)
    clear e4
    refine x_if_ne (tgt := 19) hx hb dX9_tally_13 (by decide) h (fun _ h => ?_) (fun _ h => ?_)
    · refine lv_bipush (v := -2) hx hb dX9_tally_16 (by decide) ?_
      cases h
      exact x_iret hx hb hr hlocks hK hP hD hS dX9_tally_18 rfl rfl
    · refine lv_iload_n hx hb dX9_tally_19 rfl (lv_at hl 3 rfl) ?_
      refine lv_iconst (v := 0) hx hb dX9_tally_20 (by decide) ?_
      refine lv_iconst (v := 3) hx hb dX9_tally_21 (by decide) ?_
      obtain ⟨r5, e6, h⟩ := bd_some h
      refine x_callSI (As := [.int p2, .int (0 : Int32), .int (3 : Int32)]) (rest := []) (n := 3) ⟨hx, hb, hml, hown, hts⟩ (c_X9_in l D cy  p2 (0 : Int32) (3 : Int32) r5 e6) gX9_tally_X9_in rfl hd_X9_in ⟨Nat.le_of_ble_eq_true rfl, Nat.le_of_ble_eq_true rfl⟩ ⟨rfl, rfl⟩ hK (sp_nil _) (sp_nil _) hP hD hS hA rfl hl.1 rfl (Nat.le_of_ble_eq_true rfl) dX9_tally_22 ⟨Nat.zero_le _, Nat.zero_le _⟩ (fun H locs hP hD hS => ?_)
      clear e6
      refine x_if_eq (tgt := 38) hx hb dX9_tally_25 (by decide) h (fun _ h => ?_) (fun _ h => ?_)
      · refine lv_bipush (v := -3) hx hb dX9_tally_38 (by decide) ?_
        cases h
        exact x_iret hx hb hr hlocks hK hP hD hS dX9_tally_40 rfl rfl
      · refine lv_aload_n hx hb dX9_tally_28 rfl (lv_at hl 0 rfl) ?_
        refine lv_iload_n hx hb dX9_tally_29 rfl (lv_at hl 1 rfl) ?_
        refine lv_iload_n hx hb dX9_tally_30 rfl (lv_at hl 2 rfl) ?_
        refine lv_iload_n hx hb dX9_tally_31 rfl (lv_at hl 3 rfl) ?_
        obtain ⟨r7, e8, h⟩ := bd_some h
        refine x_callVI (As := [.int p0, .int p1, .int p2]) (rest := []) (n := 3) ⟨hx, hb, hml, hown, hts⟩ (c_X9_tallyOf l D cy g um p0 p1 p2 r7 e8) gX9_tally_X9_tallyOf rfl hd_X9_tallyOf ⟨Nat.le_of_ble_eq_true rfl, Nat.le_of_ble_eq_true rfl⟩ ⟨rfl, rfl⟩ hK (sp_all _) (sp_all _) hP hD hS hA 0 rfl rfl rfl hl.1 rfl (Nat.le_of_ble_eq_true rfl) dX9_tally_32 ⟨Nat.zero_le _, Nat.zero_le _⟩ (fun H locs hP hD hS => ?_)
        clear e8
        refine lv_goto (tgt := 40) hx hb dX9_tally_35 (by decide) ?_
        cases h
        exact x_iret hx hb hr hlocks hK hP hD hS dX9_tally_40 rfl rfl
theorem hd_X9_isTried : yX9_isTried.cls = RX9 ∧ yX9_isTried.cls ≠ "java/lang/invoke/MethodHandle" ∧ yX9_isTried.cls ≠ "java/lang/invoke/VarHandle" ∧ (parseMethodDescriptor yX9_isTried.desc).map (fun d => d.parameters.length) = some 2 := by decide +kernel
set_option maxHeartbeats 4000000 in
set_option maxRecDepth 100000 in
theorem c_X9_isTried (l : Launch) (D : va_G) (cy : Nat → ClassId) (g : Nat → Nat) (um : St) (p0 : Int32) (p1 : Int32) (r : Int32) (h : f_X9_isTried um p0 p1 = some r) : CtI l yX9_isTried wsX9_isTried (rmH 1) [.ref (g 999), .int p0, .int p1] D cy (wX9 cy g um) (wX9 cy g um) r := by
  refine ct_enter (D := D) (cy := cy) (cc := cX9_isTried) (maxL := 3) (ret := (some .boolean)) (w := wX9 cy g um) (Qc := fun sz => va_Qi (fun r' (_ : Unit) => r' = r) (Bw D cy (va_A (wX9 cy g um) sz) (wX9 cy g um)) (va_A (wX9 cy g um) sz)) (by decide) rfl (Nat.le_of_ble_eq_true rfl) ?_
  intro p e s m below meth c A C0 hAe ls hl hP hD hS
  have e1 : MQ below ((fun sz => va_Qi (fun r' (_ : Unit) => r' = r) (Bw D cy (va_A (wX9 cy g um) sz) (wX9 cy g um)) (va_A (wX9 cy g um) sz)) s.heap.size) [.ref (g 999), .int p0, .int p1].toArray s 0 0 A = QI below [.ref (g 999), .int p0, .int p1].toArray s A D cy (wX9 cy g um) r := by rw [hAe]; rfl
  rw [e1]
  clear e1 hAe
  obtain ⟨hx, hb, hr, hml, hown, hts, hlocks, hK, hA⟩ := id C0
  have hl : lv_has ls 3 [(0, .ref (g 999)), (1, .int p0), (2, .int p1)] := hl
  rw [f_X9_isTried] at h
  refine lv_aload_n hx hb dX9_isTried_0 rfl (lv_at hl 0 rfl) ?_
  refine lv_iload_n hx hb dX9_isTried_1 rfl (lv_at hl 1 rfl) ?_
  refine lv_iload_n hx hb dX9_isTried_2 rfl (lv_at hl 2 rfl) ?_
  refine lv_iconst (v := 1) hx hb dX9_isTried_3 (by decide) ?_
  obtain ⟨r1, e2, h⟩ := bd_some h
  refine x_callVI (As := [.int p0, .int p1, .int (1 : Int32)]) (rest := []) (n := 3) ⟨hx, hb, hml, hown, hts⟩ (c_X9_tallyOf l D cy g um p0 p1 (1 : Int32) r1 e2) gX9_isTried_X9_tallyOf rfl hd_X9_tallyOf ⟨Nat.le_of_ble_eq_true rfl, Nat.le_of_ble_eq_true rfl⟩ ⟨rfl, rfl⟩ hK (sp_all _) (sp_all _) hP hD hS hA 0 rfl rfl rfl hl.1 rfl (Nat.le_of_ble_eq_true rfl) dX9_isTried_4 ⟨Nat.zero_le _, Nat.zero_le _⟩ (fun H locs hP hD hS => ?_)
  clear e2
  refine x_if_le (tgt := 24) hx hb dX9_isTried_7 (by decide) h (fun _ h => ?_) (fun _ h => ?_)
  · refine lv_iconst (v := 0) hx hb dX9_isTried_24 (by decide) ?_
    cases h
    exact x_zret hx hb hr hlocks hK hP hD hS (Or.inl rfl) dX9_isTried_25 rfl rfl
  · refine lv_aload_n hx hb dX9_isTried_10 rfl (lv_at hl 0 rfl) ?_
    refine lv_iload_n hx hb dX9_isTried_11 rfl (lv_at hl 1 rfl) ?_
    refine lv_iload_n hx hb dX9_isTried_12 rfl (lv_at hl 2 rfl) ?_
    refine lv_iconst (v := 2) hx hb dX9_isTried_13 (by decide) ?_
    obtain ⟨r3, e4, h⟩ := bd_some h
    refine x_callVI (As := [.int p0, .int p1, .int (2 : Int32)]) (rest := []) (n := 3) ⟨hx, hb, hml, hown, hts⟩ (c_X9_tallyOf l D cy g um p0 p1 (2 : Int32) r3 e4) gX9_isTried_X9_tallyOf rfl hd_X9_tallyOf ⟨Nat.le_of_ble_eq_true rfl, Nat.le_of_ble_eq_true rfl⟩ ⟨rfl, rfl⟩ hK (sp_all _) (sp_all _) hP hD hS hA 0 rfl rfl rfl hl.1 rfl (Nat.le_of_ble_eq_true rfl) dX9_isTried_14 ⟨Nat.zero_le _, Nat.zero_le _⟩ (fun H locs hP hD hS => ?_)
    clear e4
    refine x_if_le (tgt := 24) hx hb dX9_isTried_17 (by decide) h (fun _ h => ?_) (fun _ h => ?_)
    · refine lv_iconst (v := 0) hx hb dX9_isTried_24 (by decide) ?_
      cases h
      exact x_zret hx hb hr hlocks hK hP hD hS (Or.inl rfl) dX9_isTried_25 rfl rfl
    · refine lv_iconst (v := 1) hx hb dX9_isTried_20 (by decide) ?_
      refine lv_goto (tgt := 25) hx hb dX9_isTried_21 (by decide) ?_
      cases h
      exact x_zret hx hb hr hlocks hK hP hD hS (Or.inr rfl) dX9_isTried_25 rfl rfl
theorem hd_X9_triedMany : yX9_triedMany.cls = RX9 ∧ yX9_triedMany.cls ≠ "java/lang/invoke/MethodHandle" ∧ yX9_triedMany.cls ≠ "java/lang/invoke/VarHandle" ∧ (parseMethodDescriptor yX9_triedMany.desc).map (fun d => d.parameters.length) = some 0 := by decide +kernel
set_option maxHeartbeats 4000000 in
set_option maxRecDepth 100000 in
theorem w_X9_triedMany_29 {p : Program} {l : Launch} {e : Env} {s : State} {m : MethodId} {below : List Frame} {meth : Method} {c : Code} {args : Array Value} {D : va_G} {cy : Nat → ClassId} {g : Nat → Nat} {A : Nat → Prop} {um : St} {r : Int32} (C0 : Cx p s m meth c args cX9_triedMany 3 (some .int) wsX9_triedMany RX9 D cy A) {k_4 : Int32 → Int32 → Option (Int32)} (hk_4 : ∀ (l1 : Int32) (l2 : Int32), k_4 l1 l2 = some r → ∀ (H : Heap) (locs : List Loc) (ls : Array Slot), va_P D vwCl (wX9 cy g um) H → va_D A (wX9 cy g um) → va_S A s.heap H locs → lv_has ls 3 [(0, .ref (g 999)), (1, .int l1), (2, .int l2)] → W p l e (rmH 2) s m args below meth c H locs 0 0 (QI below args s A D cy (wX9 cy g um) r) (F0 m 4 ls [])) : ∀ (l2 : Int32) (s0 : Int32) (s1 : Int32), f_X9_triedMany_29 um k_4 l2 s0 s1 = some r → ∀ (H : Heap) (locs : List Loc) (ls : Array Slot), va_P D vwCl (wX9 cy g um) H → va_D A (wX9 cy g um) → va_S A s.heap H locs → lv_has ls 3 [(0, .ref (g 999)), (2, .int l2)] → W p l e (rmH 2) s m args below meth c H locs 0 0 (QI below args s A D cy (wX9 cy g um) r) (F0 m 29 ls [.int s0, .int s1]) := by
  obtain ⟨hx, hb, hr, hml, hown, hts, hlocks, hK, hA⟩ := id C0
  intro l2 s0 s1 h H locs ls hP hD hS hl
  rw [f_X9_triedMany_29] at h
  refine lv_iadd hx hb dX9_triedMany_29 ?_
  refine x_nm h (fun v3 h => ?_)
  refine lv_istore_n (lv' := [(1, .int v3), (0, .ref (g 999)), (2, .int l2)]) hx hb dX9_triedMany_30 rfl hl (by decide) rfl (fun ls hl => ?_)
  obtain ⟨v4, ev4, h⟩ := nm_ex h
  refine lv_iinc (v := v4) (lv' := [(2, .int v4), (1, .int v3), (0, .ref (g 999))]) hx hb dX9_triedMany_31 hl (k := 2) rfl (by rw [ev4]; rfl) (by decide) rfl (fun ls hl => ?_)
  clear ev4
  refine lv_goto (tgt := 4) hx hb dX9_triedMany_34 (by decide) ?_
  exact hk_4 v3 v4 h _ _ ls hP hD hS (lv_sub hl [2, 1, 0] rfl)
set_option maxHeartbeats 4000000 in
set_option maxRecDepth 100000 in
theorem w_X9_triedMany_4 {p : Program} {l : Launch} {e : Env} {s : State} {m : MethodId} {below : List Frame} {meth : Method} {c : Code} {args : Array Value} {D : va_G} {cy : Nat → ClassId} {g : Nat → Nat} {A : Nat → Prop} {um : St} {r : Int32} (C0 : Cx p s m meth c args cX9_triedMany 3 (some .int) wsX9_triedMany RX9 D cy A) : ∀ (nn : Nat) (l1 : Int32) (l2 : Int32), f_X9_triedMany_4 um nn l1 l2 = some r → ∀ (H : Heap) (locs : List Loc) (ls : Array Slot), va_P D vwCl (wX9 cy g um) H → va_D A (wX9 cy g um) → va_S A s.heap H locs → lv_has ls 3 [(0, .ref (g 999)), (1, .int l1), (2, .int l2)] → W p l e (rmH 2) s m args below meth c H locs 0 0 (QI below args s A D cy (wX9 cy g um) r) (F0 m 4 ls []) := by
  obtain ⟨hx, hb, hr, hml, hown, hts, hlocks, hK, hA⟩ := id C0
  intro nn
  induction nn with
  | zero => intro l1 l2 h; rw [f_X9_triedMany_4] at h; cases h
  | succ nn ih =>
    intro l1 l2 h H locs ls hP hD hS hl
    rw [f_X9_triedMany_4] at h
    refine lv_iload_n hx hb dX9_triedMany_4 rfl (lv_at hl 2 rfl) ?_
    refine lv_bipush (v := 16) hx hb dX9_triedMany_5 (by decide) ?_
    refine x_icmp_ge (tgt := 37) hx hb dX9_triedMany_7 (by decide) h (fun _ h => ?_) (fun _ h => ?_)
    · refine lv_iload_n hx hb dX9_triedMany_37 rfl (lv_at hl 1 rfl) ?_
      cases h
      exact x_iret hx hb hr hlocks hK hP hD hS dX9_triedMany_38 rfl rfl
    · refine lv_iload_n hx hb dX9_triedMany_10 rfl (lv_at hl 1 rfl) ?_
      refine lv_aload_n hx hb dX9_triedMany_11 rfl (lv_at hl 0 rfl) ?_
      refine lv_iload_n hx hb dX9_triedMany_12 rfl (lv_at hl 2 rfl) ?_
      refine lv_iconst (v := 4) hx hb dX9_triedMany_13 (by decide) ?_
      refine lv_idiv hx hb dX9_triedMany_14 (by decide) ?_
      refine lv_iload_n hx hb dX9_triedMany_15 rfl (lv_at hl 2 rfl) ?_
      refine lv_iconst (v := 4) hx hb dX9_triedMany_16 (by decide) ?_
      refine lv_irem hx hb dX9_triedMany_17 (by decide) ?_
      obtain ⟨r1, e2, h⟩ := bd_some h
      refine x_callVI (As := [.int (l2 / (4 : Int32)), .int (l2 - l2 / (4 : Int32) * (4 : Int32))]) (rest := [.int l1]) (n := 2) ⟨hx, hb, hml, hown, hts⟩ (c_X9_isTried l D cy g um (l2 / (4 : Int32)) (l2 - l2 / (4 : Int32) * (4 : Int32)) r1 e2) gX9_triedMany_X9_isTried rfl hd_X9_isTried ⟨Nat.le_of_ble_eq_true rfl, Nat.le_of_ble_eq_true rfl⟩ ⟨rfl, rfl⟩ hK (sp_all _) (sp_all _) hP hD hS hA 0 rfl rfl rfl hl.1 rfl (Nat.le_of_ble_eq_true rfl) dX9_triedMany_18 ⟨Nat.zero_le _, Nat.zero_le _⟩ (fun H locs hP hD hS => ?_)
      clear e2
      refine x_if_eq (tgt := 28) hx hb dX9_triedMany_21 (by decide) h (fun _ h => ?_) (fun _ h => ?_)
      · refine lv_iconst (v := 0) hx hb dX9_triedMany_28 (by decide) ?_
        exact w_X9_triedMany_29 C0 ih l2 (0 : Int32) l1 h _ _ ls hP hD hS (lv_sub hl [0, 2] rfl)
      · refine lv_iconst (v := 1) hx hb dX9_triedMany_24 (by decide) ?_
        refine lv_goto (tgt := 29) hx hb dX9_triedMany_25 (by decide) ?_
        exact w_X9_triedMany_29 C0 ih l2 (1 : Int32) l1 h _ _ ls hP hD hS (lv_sub hl [0, 2] rfl)
set_option maxHeartbeats 4000000 in
set_option maxRecDepth 100000 in
theorem c_X9_triedMany (l : Launch) (D : va_G) (cy : Nat → ClassId) (g : Nat → Nat) (um : St) (r : Int32) (h : f_X9_triedMany um = some r) : CtI l yX9_triedMany wsX9_triedMany (rmH 2) [.ref (g 999)] D cy (wX9 cy g um) (wX9 cy g um) r := by
  refine ct_enter (D := D) (cy := cy) (cc := cX9_triedMany) (maxL := 3) (ret := (some .int)) (w := wX9 cy g um) (Qc := fun sz => va_Qi (fun r' (_ : Unit) => r' = r) (Bw D cy (va_A (wX9 cy g um) sz) (wX9 cy g um)) (va_A (wX9 cy g um) sz)) (by decide) rfl (Nat.le_of_ble_eq_true rfl) ?_
  intro p e s m below meth c A C0 hAe ls hl hP hD hS
  have e1 : MQ below ((fun sz => va_Qi (fun r' (_ : Unit) => r' = r) (Bw D cy (va_A (wX9 cy g um) sz) (wX9 cy g um)) (va_A (wX9 cy g um) sz)) s.heap.size) [.ref (g 999)].toArray s 0 0 A = QI below [.ref (g 999)].toArray s A D cy (wX9 cy g um) r := by rw [hAe]; rfl
  rw [e1]
  clear e1 hAe
  obtain ⟨hx, hb, hr, hml, hown, hts, hlocks, hK, hA⟩ := id C0
  have hl : lv_has ls 3 [(0, .ref (g 999))] := hl
  rw [f_X9_triedMany] at h
  refine lv_iconst (v := 0) hx hb dX9_triedMany_0 (by decide) ?_
  refine lv_istore_n (lv' := [(1, .int (0 : Int32)), (0, .ref (g 999))]) hx hb dX9_triedMany_1 rfl hl (by decide) rfl (fun ls hl => ?_)
  refine lv_iconst (v := 0) hx hb dX9_triedMany_2 (by decide) ?_
  refine lv_istore_n (lv' := [(2, .int (0 : Int32)), (1, .int (0 : Int32)), (0, .ref (g 999))]) hx hb dX9_triedMany_3 rfl hl (by decide) rfl (fun ls hl => ?_)
  exact w_X9_triedMany_4 C0 FU (0 : Int32) (0 : Int32) h _ _ ls hP hD hS (lv_sub hl [2, 1, 0] rfl)
theorem k_X9_choose_0 : Cond.fieldLink RX9 56 "FeatherHallModel" "ways" "[J" ∈ wsX9_choose := (List.mem_cons_of_mem _ (List.mem_append_left _ (List.mem_of_getElem? (i := 0) rfl)))
theorem ki_X9_choose_X9 : ∀ w ∈ u_ws RX9 TX9 38, w ∈ wsX9_choose := fun _ hh => (List.mem_cons_of_mem _ (List.mem_append_right _ hh))
theorem hd_X9_choose : yX9_choose.cls = RX9 ∧ yX9_choose.cls ≠ "java/lang/invoke/MethodHandle" ∧ yX9_choose.cls ≠ "java/lang/invoke/VarHandle" ∧ (parseMethodDescriptor yX9_choose.desc).map (fun d => d.parameters.length) = some 2 := by decide +kernel
set_option maxHeartbeats 4000000 in
set_option maxRecDepth 100000 in
theorem w_X9_choose_33 {p : Program} {l : Launch} {e : Env} {s : State} {m : MethodId} {below : List Frame} {meth : Method} {c : Code} {args : Array Value} {D : va_G} {cy : Nat → ClassId} {g : Nat → Nat} {A : Nat → Prop} {r : Int64} {um' : St} (C0 : Cx p s m meth c args cX9_choose 5 (some .long) wsX9_choose RX9 D cy A) {k_13 : Int32 → Int32 → Int32 → St → Option (Int64 × St)} (hk_13 : ∀ (l1 : Int32) (l2 : Int32) (l3 : Int32) (um : St), k_13 l1 l2 l3 um = some (r, um') → ∀ (H : Heap) (locs : List Loc) (ls : Array Slot), va_P D vwCl (wX9 cy g um) H → va_D A (wX9 cy g um) → va_S A s.heap H locs → lv_has ls 5 [(0, .ref (g 999)), (1, .int l1), (2, .int l2), (3, .int l3)] → W p l e (rmH 0) s m args below meth c H locs 0 0 (QL below args s A D cy (wX9 cy g um') r) (F0 m 13 ls [])) : ∀ (l1 : Int32) (l2 : Int32) (l3 : Int32) (s0 : Int64) (s1 : Int32) (um : St), f_X9_choose_33 k_13 l1 l2 l3 s0 s1 um = some (r, um') → ∀ (H : Heap) (locs : List Loc) (ls : Array Slot), va_P D vwCl (wX9 cy g um) H → va_D A (wX9 cy g um) → va_S A s.heap H locs → lv_has ls 5 [(0, .ref (g 999)), (1, .int l1), (2, .int l2), (3, .int l3)] → W p l e (rmH 0) s m args below meth c H locs 0 0 (QL below args s A D cy (wX9 cy g um') r) (F0 m 33 ls [.long s0, .int s1, .ref (g 919)]) := by
  obtain ⟨hx, hb, hr, hml, hown, hts, hlocks, hK, hA⟩ := id C0
  intro l1 l2 l3 s0 s1 um h H locs ls hP hD hS hl
  rw [f_X9_choose_33] at h
  refine x_last (Wd := (fun uz => wX9 cy g uz)) (u := um) hx hb hK hP hD hS 16 rfl rfl (fun _ => rfl) h dX9_choose_33 (fun um2 H locs h hP hD hS => ?_)
  obtain ⟨v3, ev3, h⟩ := nm_ex h
  refine lv_iinc (v := v3) (lv' := [(3, .int v3), (0, .ref (g 999)), (1, .int l1), (2, .int l2)]) hx hb dX9_choose_34 hl (k := 3) rfl (by rw [ev3]; rfl) (by decide) rfl (fun ls hl => ?_)
  clear ev3
  refine lv_goto (tgt := 13) hx hb dX9_choose_37 (by decide) ?_
  exact hk_13 l1 l2 v3 um2 h _ _ ls hP hD hS (lv_sub hl [1, 2, 3, 0] rfl)
set_option maxHeartbeats 4000000 in
set_option maxRecDepth 100000 in
theorem w_X9_choose_50 {p : Program} {l : Launch} {e : Env} {s : State} {m : MethodId} {below : List Frame} {meth : Method} {c : Code} {args : Array Value} {D : va_G} {cy : Nat → ClassId} {g : Nat → Nat} {A : Nat → Prop} {r : Int64} {um' : St} (C0 : Cx p s m meth c args cX9_choose 5 (some .long) wsX9_choose RX9 D cy A) {k_42 : Int32 → Int32 → Int32 → St → Option (Int64 × St)} (hk_42 : ∀ (l1 : Int32) (l2 : Int32) (l3 : Int32) (um : St), k_42 l1 l2 l3 um = some (r, um') → ∀ (H : Heap) (locs : List Loc) (ls : Array Slot), va_P D vwCl (wX9 cy g um) H → va_D A (wX9 cy g um) → va_S A s.heap H locs → lv_has ls 5 [(0, .ref (g 999)), (1, .int l1), (2, .int l2), (3, .int l3)] → W p l e (rmH 0) s m args below meth c H locs 0 0 (QL below args s A D cy (wX9 cy g um') r) (F0 m 42 ls [])) : ∀ (nn : Nat) (l1 : Int32) (l2 : Int32) (l3 : Int32) (l4 : Int32) (um : St), f_X9_choose_50 k_42 nn l1 l2 l3 l4 um = some (r, um') → ∀ (H : Heap) (locs : List Loc) (ls : Array Slot), va_P D vwCl (wX9 cy g um) H → va_D A (wX9 cy g um) → va_S A s.heap H locs → lv_has ls 5 [(0, .ref (g 999)), (1, .int l1), (2, .int l2), (3, .int l3), (4, .int l4)] → W p l e (rmH 0) s m args below meth c H locs 0 0 (QL below args s A D cy (wX9 cy g um') r) (F0 m 50 ls []) := by
  obtain ⟨hx, hb, hr, hml, hown, hts, hlocks, hK, hA⟩ := id C0
  intro nn
  induction nn with
  | zero => intro l1 l2 l3 l4 um h; rw [f_X9_choose_50] at h; cases h
  | succ nn ih =>
    intro l1 l2 l3 l4 um h H locs ls hP hD hS hl
    rw [f_X9_choose_50] at h
    refine lv_iload hx hb dX9_choose_50 (lv_at hl 4 rfl) ?_
    refine x_if_le (tgt := 80) hx hb dX9_choose_52 (by decide) h (fun _ h => ?_) (fun _ h => ?_)
    · obtain ⟨v4, ev4, h⟩ := nm_ex h
      refine lv_iinc (v := v4) (lv' := [(3, .int v4), (0, .ref (g 999)), (1, .int l1), (2, .int l2), (4, .int l4)]) hx hb dX9_choose_80 hl (k := 3) rfl (by rw [ev4]; rfl) (by decide) rfl (fun ls hl => ?_)
      clear ev4
      refine lv_goto (tgt := 42) hx hb dX9_choose_83 (by decide) ?_
      exact hk_42 l1 l2 v4 um h _ _ ls hP hD hS (lv_sub hl [1, 2, 3, 0] rfl)
    · refine lv_aload_n hx hb dX9_choose_55 rfl (lv_at hl 0 rfl) ?_
      refine va_get (D := D) (ci := 8) (v := .ref (g 919)) (C := RX9) (T := TX9) (N := 38) hx hb hts ki_X9_choose_X9 hown hK hP 0 rfl rfl 19 (by decide) (hts _ k_X9_choose_0) (fun _ h9 => h9) rfl dX9_choose_56 ?_
      refine lv_iload hx hb dX9_choose_59 (lv_at hl 4 rfl) ?_
      refine lv_dup2_11 hx hb dX9_choose_61 rfl rfl ?_
      refine x_lald hx hb hK hP 16 rfl rfl h dX9_choose_62 (fun v5 h => ?_)
      refine lv_aload_n hx hb dX9_choose_63 rfl (lv_at hl 0 rfl) ?_
      refine va_get (D := D) (ci := 8) (v := .ref (g 919)) (C := RX9) (T := TX9) (N := 38) hx hb hts ki_X9_choose_X9 hown hK hP 0 rfl rfl 19 (by decide) (hts _ k_X9_choose_0) (fun _ h9 => h9) rfl dX9_choose_64 ?_
      refine lv_iload hx hb dX9_choose_67 (lv_at hl 4 rfl) ?_
      refine lv_iconst (v := 1) hx hb dX9_choose_69 (by decide) ?_
      refine lv_isub hx hb dX9_choose_70 ?_
      refine x_lald hx hb hK hP 16 rfl rfl h dX9_choose_71 (fun v6 h => ?_)
      refine lv_ladd hx hb dX9_choose_72 ?_
      refine x_last (Wd := (fun uz => wX9 cy g uz)) (u := um) hx hb hK hP hD hS 16 rfl rfl (fun _ => rfl) h dX9_choose_73 (fun um7 H locs h hP hD hS => ?_)
      obtain ⟨v8, ev8, h⟩ := nm_ex h
      refine lv_iinc (v := v8) (lv' := [(4, .int v8), (0, .ref (g 999)), (1, .int l1), (2, .int l2), (3, .int l3)]) hx hb dX9_choose_74 hl (k := 4) rfl (by rw [ev8]; rfl) (by decide) rfl (fun ls hl => ?_)
      clear ev8
      refine lv_goto (tgt := 50) hx hb dX9_choose_77 (by decide) ?_
      exact ih l1 l2 l3 v8 um7 h _ _ ls hP hD hS (lv_sub hl [1, 2, 3, 4, 0] rfl)
set_option maxHeartbeats 4000000 in
set_option maxRecDepth 100000 in
theorem w_X9_choose_42 {p : Program} {l : Launch} {e : Env} {s : State} {m : MethodId} {below : List Frame} {meth : Method} {c : Code} {args : Array Value} {D : va_G} {cy : Nat → ClassId} {g : Nat → Nat} {A : Nat → Prop} {r : Int64} {um' : St} (C0 : Cx p s m meth c args cX9_choose 5 (some .long) wsX9_choose RX9 D cy A) : ∀ (nn : Nat) (l1 : Int32) (l2 : Int32) (l3 : Int32) (um : St), f_X9_choose_42 nn l1 l2 l3 um = some (r, um') → ∀ (H : Heap) (locs : List Loc) (ls : Array Slot), va_P D vwCl (wX9 cy g um) H → va_D A (wX9 cy g um) → va_S A s.heap H locs → lv_has ls 5 [(0, .ref (g 999)), (1, .int l1), (2, .int l2), (3, .int l3)] → W p l e (rmH 0) s m args below meth c H locs 0 0 (QL below args s A D cy (wX9 cy g um') r) (F0 m 42 ls []) := by
  obtain ⟨hx, hb, hr, hml, hown, hts, hlocks, hK, hA⟩ := id C0
  intro nn
  induction nn with
  | zero => intro l1 l2 l3 um h; rw [f_X9_choose_42] at h; cases h
  | succ nn ih =>
    intro l1 l2 l3 um h H locs ls hP hD hS hl
    rw [f_X9_choose_42] at h
    refine lv_iload_n hx hb dX9_choose_42 rfl (lv_at hl 3 rfl) ?_
    refine lv_iload_n hx hb dX9_choose_43 rfl (lv_at hl 1 rfl) ?_
    refine x_icmp_gt (tgt := 86) hx hb dX9_choose_44 (by decide) h (fun _ h => ?_) (fun _ h => ?_)
    · refine lv_aload_n hx hb dX9_choose_86 rfl (lv_at hl 0 rfl) ?_
      refine va_get (D := D) (ci := 8) (v := .ref (g 919)) (C := RX9) (T := TX9) (N := 38) hx hb hts ki_X9_choose_X9 hown hK hP 0 rfl rfl 19 (by decide) (hts _ k_X9_choose_0) (fun _ h9 => h9) rfl dX9_choose_87 ?_
      refine lv_iload_n hx hb dX9_choose_90 rfl (lv_at hl 2 rfl) ?_
      refine x_lald hx hb hK hP 16 rfl rfl h dX9_choose_91 (fun v1 h => ?_)
      cases h
      exact x_lret hx hb hr hlocks hK hP hD hS dX9_choose_92 rfl rfl
    · refine lv_iload_n hx hb dX9_choose_47 rfl (lv_at hl 3 rfl) ?_
      refine lv_istore (lv' := [(4, .int l3), (0, .ref (g 999)), (1, .int l1), (2, .int l2), (3, .int l3)]) hx hb dX9_choose_48 hl (by decide) rfl (fun ls hl => ?_)
      exact w_X9_choose_50 C0 ih FU l1 l2 l3 l3 um h _ _ ls hP hD hS (lv_sub hl [1, 2, 3, 4, 0] rfl)
set_option maxHeartbeats 4000000 in
set_option maxRecDepth 100000 in
theorem w_X9_choose_13 {p : Program} {l : Launch} {e : Env} {s : State} {m : MethodId} {below : List Frame} {meth : Method} {c : Code} {args : Array Value} {D : va_G} {cy : Nat → ClassId} {g : Nat → Nat} {A : Nat → Prop} {r : Int64} {um' : St} (C0 : Cx p s m meth c args cX9_choose 5 (some .long) wsX9_choose RX9 D cy A) : ∀ (nn : Nat) (l1 : Int32) (l2 : Int32) (l3 : Int32) (um : St), f_X9_choose_13 nn l1 l2 l3 um = some (r, um') → ∀ (H : Heap) (locs : List Loc) (ls : Array Slot), va_P D vwCl (wX9 cy g um) H → va_D A (wX9 cy g um) → va_S A s.heap H locs → lv_has ls 5 [(0, .ref (g 999)), (1, .int l1), (2, .int l2), (3, .int l3)] → W p l e (rmH 0) s m args below meth c H locs 0 0 (QL below args s A D cy (wX9 cy g um') r) (F0 m 13 ls []) := by
  obtain ⟨hx, hb, hr, hml, hown, hts, hlocks, hK, hA⟩ := id C0
  intro nn
  induction nn with
  | zero => intro l1 l2 l3 um h; rw [f_X9_choose_13] at h; cases h
  | succ nn ih =>
    intro l1 l2 l3 um h H locs ls hP hD hS hl
    rw [f_X9_choose_13] at h
    refine lv_iload_n hx hb dX9_choose_13 rfl (lv_at hl 3 rfl) ?_
    refine lv_bipush (v := 60) hx hb dX9_choose_14 (by decide) ?_
    refine x_icmp_gt (tgt := 40) hx hb dX9_choose_16 (by decide) h (fun _ h => ?_) (fun _ h => ?_)
    · refine lv_iconst (v := 1) hx hb dX9_choose_40 (by decide) ?_
      refine lv_istore_n (lv' := [(3, .int (1 : Int32)), (0, .ref (g 999)), (1, .int l1), (2, .int l2)]) hx hb dX9_choose_41 rfl hl (by decide) rfl (fun ls hl => ?_)
      exact w_X9_choose_42 C0 FU l1 l2 (1 : Int32) um h _ _ ls hP hD hS (lv_sub hl [1, 2, 3, 0] rfl)
    · refine lv_aload_n hx hb dX9_choose_19 rfl (lv_at hl 0 rfl) ?_
      refine va_get (D := D) (ci := 8) (v := .ref (g 919)) (C := RX9) (T := TX9) (N := 38) hx hb hts ki_X9_choose_X9 hown hK hP 0 rfl rfl 19 (by decide) (hts _ k_X9_choose_0) (fun _ h9 => h9) rfl dX9_choose_20 ?_
      refine lv_iload_n hx hb dX9_choose_23 rfl (lv_at hl 3 rfl) ?_
      refine lv_iload_n hx hb dX9_choose_24 rfl (lv_at hl 3 rfl) ?_
      refine x_if_ne (tgt := 32) hx hb dX9_choose_25 (by decide) h (fun _ h => ?_) (fun _ h => ?_)
      · refine lv_lconst (v := 1) hx hb dX9_choose_28 (by decide) ?_
        refine lv_goto (tgt := 33) hx hb dX9_choose_29 (by decide) ?_
        exact w_X9_choose_33 C0 ih l1 l2 l3 (1 : Int64) l3 um h _ _ ls hP hD hS (lv_sub hl [0, 1, 2, 3] rfl)
      · refine lv_lconst (v := 0) hx hb dX9_choose_32 (by decide) ?_
        exact w_X9_choose_33 C0 ih l1 l2 l3 (0 : Int64) l3 um h _ _ ls hP hD hS (lv_sub hl [0, 1, 2, 3] rfl)
set_option maxHeartbeats 4000000 in
set_option maxRecDepth 100000 in
theorem c_X9_choose (l : Launch) (D : va_G) (cy : Nat → ClassId) (g : Nat → Nat) (um : St) (p0 : Int32) (p1 : Int32) (r : Int64) (um' : St) (h : f_X9_choose p0 p1 um = some (r, um')) : CtL l yX9_choose wsX9_choose (rmH 0) [.ref (g 999), .int p0, .int p1] D cy (wX9 cy g um) (wX9 cy g um') r := by
  refine ct_enter (D := D) (cy := cy) (cc := cX9_choose) (maxL := 5) (ret := (some .long)) (w := wX9 cy g um) (Qc := fun sz => va_Ql (fun r' (_ : Unit) => r' = r) (Bw D cy (va_A (wX9 cy g um) sz) (wX9 cy g um')) (va_A (wX9 cy g um) sz)) (by decide) rfl (Nat.le_of_ble_eq_true rfl) ?_
  intro p e s m below meth c A C0 hAe ls hl hP hD hS
  have e1 : MQ below ((fun sz => va_Ql (fun r' (_ : Unit) => r' = r) (Bw D cy (va_A (wX9 cy g um) sz) (wX9 cy g um')) (va_A (wX9 cy g um) sz)) s.heap.size) [.ref (g 999), .int p0, .int p1].toArray s 0 0 A = QL below [.ref (g 999), .int p0, .int p1].toArray s A D cy (wX9 cy g um') r := by rw [hAe]; rfl
  rw [e1]
  clear e1 hAe
  obtain ⟨hx, hb, hr, hml, hown, hts, hlocks, hK, hA⟩ := id C0
  have hl : lv_has ls 5 [(0, .ref (g 999)), (1, .int p0), (2, .int p1)] := hl
  rw [f_X9_choose] at h
  refine lv_iload_n hx hb dX9_choose_0 rfl (lv_at hl 2 rfl) ?_
  refine x_if_lt (tgt := 9) hx hb dX9_choose_1 (by decide) h (fun _ h => ?_) (fun _ h => ?_)
  · refine lv_lconst (v := 0) hx hb dX9_choose_9 (by decide) ?_
    cases h
    exact x_lret hx hb hr hlocks hK hP hD hS dX9_choose_10 rfl rfl
  · refine lv_iload_n hx hb dX9_choose_4 rfl (lv_at hl 2 rfl) ?_
    refine lv_iload_n hx hb dX9_choose_5 rfl (lv_at hl 1 rfl) ?_
    refine x_icmp_le (tgt := 11) hx hb dX9_choose_6 (by decide) h (fun _ h => ?_) (fun _ h => ?_)
    · refine lv_iconst (v := 0) hx hb dX9_choose_11 (by decide) ?_
      refine lv_istore_n (lv' := [(3, .int (0 : Int32)), (0, .ref (g 999)), (1, .int p0), (2, .int p1)]) hx hb dX9_choose_12 rfl hl (by decide) rfl (fun ls hl => ?_)
      exact w_X9_choose_13 C0 FU p0 p1 (0 : Int32) um h _ _ ls hP hD hS (lv_sub hl [1, 2, 3, 0] rfl)
    · refine lv_lconst (v := 0) hx hb dX9_choose_9 (by decide) ?_
      cases h
      exact x_lret hx hb hr hlocks hK hP hD hS dX9_choose_10 rfl rfl
theorem k_X9_isPast_0 : Cond.constantLong RX9 189 (20) ∈ wsX9_isPast := (List.mem_cons_of_mem _ (List.mem_append_left _ (List.mem_of_getElem? (i := 0) rfl)))
theorem hd_X9_isPast : yX9_isPast.cls = RX9 ∧ yX9_isPast.cls ≠ "java/lang/invoke/MethodHandle" ∧ yX9_isPast.cls ≠ "java/lang/invoke/VarHandle" ∧ (parseMethodDescriptor yX9_isPast.desc).map (fun d => d.parameters.length) = some 2 := by decide +kernel
set_option maxHeartbeats 4000000 in
set_option maxRecDepth 100000 in
theorem w_X9_isPast_100 {p : Program} {l : Launch} {e : Env} {s : State} {m : MethodId} {below : List Frame} {meth : Method} {c : Code} {args : Array Value} {D : va_G} {cy : Nat → ClassId} {g : Nat → Nat} {A : Nat → Prop} {r : Int32} {um' : St} (C0 : Cx p s m meth c args cX9_isPast 10 (some .boolean) wsX9_isPast RX9 D cy A) : ∀ (l4 : Int32) (l6 : Int32) (l7 : Int64) (um : St), f_X9_isPast_100 l4 l6 l7 um = some (r, um') → ∀ (H : Heap) (locs : List Loc) (ls : Array Slot), va_P D vwCl (wX9 cy g um) H → va_D A (wX9 cy g um) → va_S A s.heap H locs → lv_has ls 10 [(0, .ref (g 999)), (4, .int l4), (6, .int l6), (7, .long l7)] → W p l e (rmH 3) s m args below meth c H locs 0 0 (QI below args s A D cy (wX9 cy g um') r) (F0 m 100 ls []) := by
  obtain ⟨hx, hb, hr, hml, hown, hts, hlocks, hK, hA⟩ := id C0
  intro l4 l6 l7 um h H locs ls hP hD hS hl
  rw [f_X9_isPast_100] at h
  refine lv_lload hx hb dX9_isPast_100 (lv_at hl 3 rfl) ?_
  refine lv_aload_n hx hb dX9_isPast_102 rfl (lv_at hl 0 rfl) ?_
  refine lv_iload hx hb dX9_isPast_103 (lv_at hl 2 rfl) ?_
  refine lv_iload hx hb dX9_isPast_105 (lv_at hl 1 rfl) ?_
  obtain ⟨r20, um19, e21, h⟩ := bd2_some h
  refine x_callVL (As := [.int l6, .int l4]) (rest := [.long l7]) (n := 2) ⟨hx, hb, hml, hown, hts⟩ (c_X9_choose l D cy g um l6 l4 r20 um19 e21) gX9_isPast_X9_choose rfl hd_X9_choose ⟨Nat.le_of_ble_eq_true rfl, Nat.le_of_ble_eq_true rfl⟩ ⟨rfl, rfl⟩ hK (sp_all _) (sp_all _) hP hD hS hA 0 rfl rfl rfl hl.1 rfl (Nat.le_of_ble_eq_true rfl) dX9_isPast_107 ⟨Nat.zero_le _, Nat.zero_le _⟩ (fun H locs hP hD hS => ?_)
  clear e21
  refine lv_ldc2 hx hb hown (hts _ k_X9_isPast_0) dX9_isPast_110 ?_
  refine lv_aload_n hx hb dX9_isPast_113 rfl (lv_at hl 0 rfl) ?_
  obtain ⟨r22, e23, h⟩ := bd_some h
  refine x_callVI (As := []) (rest := [.long (20 : Int64), .long r20, .long l7]) (n := 0) ⟨hx, hb, hml, hown, hts⟩ (c_X9_triedMany l D cy g um19 r22 e23) gX9_isPast_X9_triedMany rfl hd_X9_triedMany ⟨Nat.le_of_ble_eq_true rfl, Nat.le_of_ble_eq_true rfl⟩ ⟨rfl, rfl⟩ hK (sp_all _) (sp_all _) hP hD hS hA 0 rfl rfl rfl hl.1 rfl (Nat.le_of_ble_eq_true rfl) dX9_isPast_114 ⟨Nat.zero_le _, Nat.zero_le _⟩ (fun H locs hP hD hS => ?_)
  clear e23
  refine lv_i2l hx hb dX9_isPast_117 rfl ?_
  refine lv_lmul hx hb dX9_isPast_118 ?_
  refine x_nml h (fun v24 h => ?_)
  refine x_ldiv hx hb dX9_isPast_119 h (fun h => ?_)
  refine W.lcmp hx hb dX9_isPast_120 ?_
  refine x_if_gt (tgt := 128) hx hb dX9_isPast_121 (by decide) h (fun _ h => ?_) (fun _ h => ?_)
  · refine lv_iconst (v := 0) hx hb dX9_isPast_128 (by decide) ?_
    cases h
    exact x_zret hx hb hr hlocks hK hP hD hS (Or.inl rfl) dX9_isPast_129 rfl rfl
  · refine lv_iconst (v := 1) hx hb dX9_isPast_124 (by decide) ?_
    refine lv_goto (tgt := 129) hx hb dX9_isPast_125 (by decide) ?_
    cases h
    exact x_zret hx hb hr hlocks hK hP hD hS (Or.inr rfl) dX9_isPast_129 rfl rfl
set_option maxHeartbeats 4000000 in
set_option maxRecDepth 100000 in
theorem w_X9_isPast_52 {p : Program} {l : Launch} {e : Env} {s : State} {m : MethodId} {below : List Frame} {meth : Method} {c : Code} {args : Array Value} {D : va_G} {cy : Nat → ClassId} {g : Nat → Nat} {A : Nat → Prop} {r : Int32} {um' : St} (C0 : Cx p s m meth c args cX9_isPast 10 (some .boolean) wsX9_isPast RX9 D cy A) : ∀ (nn : Nat) (l4 : Int32) (l5 : Int32) (l6 : Int32) (l7 : Int64) (l9 : Int32) (um : St), f_X9_isPast_52 nn l4 l5 l6 l7 l9 um = some (r, um') → ∀ (H : Heap) (locs : List Loc) (ls : Array Slot), va_P D vwCl (wX9 cy g um) H → va_D A (wX9 cy g um) → va_S A s.heap H locs → lv_has ls 10 [(0, .ref (g 999)), (4, .int l4), (5, .int l5), (6, .int l6), (7, .long l7), (9, .int l9)] → W p l e (rmH 3) s m args below meth c H locs 0 0 (QI below args s A D cy (wX9 cy g um') r) (F0 m 52 ls []) := by
  obtain ⟨hx, hb, hr, hml, hown, hts, hlocks, hK, hA⟩ := id C0
  intro nn
  induction nn with
  | zero => intro l4 l5 l6 l7 l9 um h; rw [f_X9_isPast_52] at h; cases h
  | succ nn ih =>
    intro l4 l5 l6 l7 l9 um h H locs ls hP hD hS hl
    rw [f_X9_isPast_52] at h
    refine lv_iload hx hb dX9_isPast_52 (lv_at hl 5 rfl) ?_
    refine lv_iload hx hb dX9_isPast_54 (lv_at hl 1 rfl) ?_
    refine x_icmp_gt (tgt := 100) hx hb dX9_isPast_56 (by decide) h (fun _ h => ?_) (fun _ h => ?_)
    · exact w_X9_isPast_100 C0 l4 l6 l7 um h _ _ ls hP hD hS (lv_sub hl [0, 1, 3, 4] rfl)
    · refine lv_iload hx hb dX9_isPast_59 (lv_at hl 5 rfl) ?_
      refine lv_iload hx hb dX9_isPast_61 (lv_at hl 2 rfl) ?_
      refine x_icmp_gt (tgt := 100) hx hb dX9_isPast_63 (by decide) h (fun _ h => ?_) (fun _ h => ?_)
      · exact w_X9_isPast_100 C0 l4 l6 l7 um h _ _ ls hP hD hS (lv_sub hl [0, 1, 3, 4] rfl)
      · refine lv_lload hx hb dX9_isPast_66 (lv_at hl 4 rfl) ?_
        refine lv_aload_n hx hb dX9_isPast_68 rfl (lv_at hl 0 rfl) ?_
        refine lv_iload hx hb dX9_isPast_69 (lv_at hl 2 rfl) ?_
        refine lv_iload hx hb dX9_isPast_71 (lv_at hl 5 rfl) ?_
        obtain ⟨r12, um11, e13, h⟩ := bd2_some h
        refine x_callVL (As := [.int l5, .int l9]) (rest := [.long l7]) (n := 2) ⟨hx, hb, hml, hown, hts⟩ (c_X9_choose l D cy g um l5 l9 r12 um11 e13) gX9_isPast_X9_choose rfl hd_X9_choose ⟨Nat.le_of_ble_eq_true rfl, Nat.le_of_ble_eq_true rfl⟩ ⟨rfl, rfl⟩ hK (sp_all _) (sp_all _) hP hD hS hA 0 rfl rfl rfl hl.1 rfl (Nat.le_of_ble_eq_true rfl) dX9_isPast_73 ⟨Nat.zero_le _, Nat.zero_le _⟩ (fun H locs hP hD hS => ?_)
        clear e13
        refine lv_aload_n hx hb dX9_isPast_76 rfl (lv_at hl 0 rfl) ?_
        refine lv_iload hx hb dX9_isPast_77 (lv_at hl 3 rfl) ?_
        refine lv_iload hx hb dX9_isPast_79 (lv_at hl 2 rfl) ?_
        refine lv_isub hx hb dX9_isPast_81 ?_
        refine lv_iload hx hb dX9_isPast_82 (lv_at hl 1 rfl) ?_
        refine lv_iload hx hb dX9_isPast_84 (lv_at hl 5 rfl) ?_
        refine lv_isub hx hb dX9_isPast_86 ?_
        obtain ⟨r15, um14, e16, h⟩ := bd2_some h
        refine x_callVL (As := [.int (l6 - l5), .int (l4 - l9)]) (rest := [.long r12, .long l7]) (n := 2) ⟨hx, hb, hml, hown, hts⟩ (c_X9_choose l D cy g um11 (l6 - l5) (l4 - l9) r15 um14 e16) gX9_isPast_X9_choose rfl hd_X9_choose ⟨Nat.le_of_ble_eq_true rfl, Nat.le_of_ble_eq_true rfl⟩ ⟨rfl, rfl⟩ hK (sp_all _) (sp_all _) hP hD hS hA 0 rfl rfl rfl hl.1 rfl (Nat.le_of_ble_eq_true rfl) dX9_isPast_87 ⟨Nat.zero_le _, Nat.zero_le _⟩ (fun H locs hP hD hS => ?_)
        clear e16
        refine lv_lmul hx hb dX9_isPast_90 ?_
        refine lv_ladd hx hb dX9_isPast_91 ?_
        refine x_nml h (fun v17 h => ?_)
        refine lv_lstore (lv' := [(7, .long v17), (0, .ref (g 999)), (4, .int l4), (5, .int l5), (6, .int l6), (9, .int l9)]) hx hb dX9_isPast_92 hl (by decide) rfl (fun ls hl => ?_)
        obtain ⟨v18, ev18, h⟩ := nm_ex h
        refine lv_iinc (v := v18) (lv' := [(9, .int v18), (7, .long v17), (0, .ref (g 999)), (4, .int l4), (5, .int l5), (6, .int l6)]) hx hb dX9_isPast_94 hl (k := 5) rfl (by rw [ev18]; rfl) (by decide) rfl (fun ls hl => ?_)
        clear ev18
        refine lv_goto (tgt := 52) hx hb dX9_isPast_97 (by decide) ?_
        exact ih l4 l5 l6 v17 v18 um14 h _ _ ls hP hD hS (lv_sub hl [2, 3, 4, 5, 1, 0] rfl)
set_option maxHeartbeats 4000000 in
set_option maxRecDepth 100000 in
theorem c_X9_isPast (l : Launch) (D : va_G) (cy : Nat → ClassId) (g : Nat → Nat) (um : St) (p0 : Int32) (p1 : Int32) (r : Int32) (um' : St) (h : f_X9_isPast p0 p1 um = some (r, um')) : CtI l yX9_isPast wsX9_isPast (rmH 3) [.ref (g 999), .int p0, .int p1] D cy (wX9 cy g um) (wX9 cy g um') r := by
  refine ct_enter (D := D) (cy := cy) (cc := cX9_isPast) (maxL := 10) (ret := (some .boolean)) (w := wX9 cy g um) (Qc := fun sz => va_Qi (fun r' (_ : Unit) => r' = r) (Bw D cy (va_A (wX9 cy g um) sz) (wX9 cy g um')) (va_A (wX9 cy g um) sz)) (by decide) rfl (Nat.le_of_ble_eq_true rfl) ?_
  intro p e s m below meth c A C0 hAe ls hl hP hD hS
  have e1 : MQ below ((fun sz => va_Qi (fun r' (_ : Unit) => r' = r) (Bw D cy (va_A (wX9 cy g um) sz) (wX9 cy g um')) (va_A (wX9 cy g um) sz)) s.heap.size) [.ref (g 999), .int p0, .int p1].toArray s 0 0 A = QI below [.ref (g 999), .int p0, .int p1].toArray s A D cy (wX9 cy g um') r := by rw [hAe]; rfl
  rw [e1]
  clear e1 hAe
  obtain ⟨hx, hb, hr, hml, hown, hts, hlocks, hK, hA⟩ := id C0
  have hl : lv_has ls 10 [(0, .ref (g 999)), (1, .int p0), (2, .int p1)] := hl
  rw [f_X9_isPast] at h
  refine lv_aload_n hx hb dX9_isPast_0 rfl (lv_at hl 0 rfl) ?_
  refine lv_iload_n hx hb dX9_isPast_1 rfl (lv_at hl 1 rfl) ?_
  refine lv_iload_n hx hb dX9_isPast_2 rfl (lv_at hl 2 rfl) ?_
  obtain ⟨r1, e2, h⟩ := bd_some h
  refine x_callVI (As := [.int p0, .int p1]) (rest := []) (n := 2) ⟨hx, hb, hml, hown, hts⟩ (c_X9_isTried l D cy g um p0 p1 r1 e2) gX9_isPast_X9_isTried rfl hd_X9_isTried ⟨Nat.le_of_ble_eq_true rfl, Nat.le_of_ble_eq_true rfl⟩ ⟨rfl, rfl⟩ hK (sp_all _) (sp_all _) hP hD hS hA 0 rfl rfl rfl hl.1 rfl (Nat.le_of_ble_eq_true rfl) dX9_isPast_3 ⟨Nat.zero_le _, Nat.zero_le _⟩ (fun H locs hP hD hS => ?_)
  clear e2
  refine x_if_ne (tgt := 11) hx hb dX9_isPast_6 (by decide) h (fun _ h => ?_) (fun _ h => ?_)
  · refine lv_iconst (v := 0) hx hb dX9_isPast_9 (by decide) ?_
    cases h
    exact x_zret hx hb hr hlocks hK hP hD hS (Or.inl rfl) dX9_isPast_10 rfl rfl
  · refine lv_aload_n hx hb dX9_isPast_11 rfl (lv_at hl 0 rfl) ?_
    refine lv_iload_n hx hb dX9_isPast_12 rfl (lv_at hl 1 rfl) ?_
    refine lv_iload_n hx hb dX9_isPast_13 rfl (lv_at hl 2 rfl) ?_
    refine lv_iconst (v := 0) hx hb dX9_isPast_14 (by decide) ?_
    obtain ⟨r3, e4, h⟩ := bd_some h
    refine x_callVI (As := [.int p0, .int p1, .int (0 : Int32)]) (rest := []) (n := 3) ⟨hx, hb, hml, hown, hts⟩ (c_X9_tallyOf l D cy g um p0 p1 (0 : Int32) r3 e4) gX9_isPast_X9_tallyOf rfl hd_X9_tallyOf ⟨Nat.le_of_ble_eq_true rfl, Nat.le_of_ble_eq_true rfl⟩ ⟨rfl, rfl⟩ hK (sp_all _) (sp_all _) hP hD hS hA 0 rfl rfl rfl hl.1 rfl (Nat.le_of_ble_eq_true rfl) dX9_isPast_15 ⟨Nat.zero_le _, Nat.zero_le _⟩ (fun H locs hP hD hS => ?_)
    clear e4
    refine lv_istore_n (lv' := [(3, .int r3), (0, .ref (g 999)), (1, .int p0), (2, .int p1)]) hx hb dX9_isPast_18 rfl hl (by decide) rfl (fun ls hl => ?_)
    refine lv_aload_n hx hb dX9_isPast_19 rfl (lv_at hl 1 rfl) ?_
    refine lv_iload_n hx hb dX9_isPast_20 rfl (lv_at hl 2 rfl) ?_
    refine lv_iload_n hx hb dX9_isPast_21 rfl (lv_at hl 3 rfl) ?_
    refine lv_iconst (v := 1) hx hb dX9_isPast_22 (by decide) ?_
    obtain ⟨r5, e6, h⟩ := bd_some h
    refine x_callVI (As := [.int p0, .int p1, .int (1 : Int32)]) (rest := []) (n := 3) ⟨hx, hb, hml, hown, hts⟩ (c_X9_tallyOf l D cy g um p0 p1 (1 : Int32) r5 e6) gX9_isPast_X9_tallyOf rfl hd_X9_tallyOf ⟨Nat.le_of_ble_eq_true rfl, Nat.le_of_ble_eq_true rfl⟩ ⟨rfl, rfl⟩ hK (sp_all _) (sp_all _) hP hD hS hA 0 rfl rfl rfl hl.1 rfl (Nat.le_of_ble_eq_true rfl) dX9_isPast_23 ⟨Nat.zero_le _, Nat.zero_le _⟩ (fun H locs hP hD hS => ?_)
    clear e6
    refine lv_istore (lv' := [(4, .int r5), (3, .int r3), (0, .ref (g 999)), (1, .int p0), (2, .int p1)]) hx hb dX9_isPast_26 hl (by decide) rfl (fun ls hl => ?_)
    refine lv_aload_n hx hb dX9_isPast_28 rfl (lv_at hl 2 rfl) ?_
    refine lv_iload_n hx hb dX9_isPast_29 rfl (lv_at hl 3 rfl) ?_
    refine lv_iload_n hx hb dX9_isPast_30 rfl (lv_at hl 4 rfl) ?_
    refine lv_iconst (v := 2) hx hb dX9_isPast_31 (by decide) ?_
    obtain ⟨r7, e8, h⟩ := bd_some h
    refine x_callVI (As := [.int p0, .int p1, .int (2 : Int32)]) (rest := []) (n := 3) ⟨hx, hb, hml, hown, hts⟩ (c_X9_tallyOf l D cy g um p0 p1 (2 : Int32) r7 e8) gX9_isPast_X9_tallyOf rfl hd_X9_tallyOf ⟨Nat.le_of_ble_eq_true rfl, Nat.le_of_ble_eq_true rfl⟩ ⟨rfl, rfl⟩ hK (sp_all _) (sp_all _) hP hD hS hA 0 rfl rfl rfl hl.1 rfl (Nat.le_of_ble_eq_true rfl) dX9_isPast_32 ⟨Nat.zero_le _, Nat.zero_le _⟩ (fun H locs hP hD hS => ?_)
    clear e8
    refine lv_istore (lv' := [(5, .int r7), (4, .int r5), (3, .int r3), (0, .ref (g 999)), (1, .int p0), (2, .int p1)]) hx hb dX9_isPast_35 hl (by decide) rfl (fun ls hl => ?_)
    refine lv_aload_n hx hb dX9_isPast_37 rfl (lv_at hl 3 rfl) ?_
    refine lv_iload_n hx hb dX9_isPast_38 rfl (lv_at hl 4 rfl) ?_
    refine lv_iload_n hx hb dX9_isPast_39 rfl (lv_at hl 5 rfl) ?_
    refine lv_iconst (v := 3) hx hb dX9_isPast_40 (by decide) ?_
    obtain ⟨r9, e10, h⟩ := bd_some h
    refine x_callVI (As := [.int p0, .int p1, .int (3 : Int32)]) (rest := []) (n := 3) ⟨hx, hb, hml, hown, hts⟩ (c_X9_tallyOf l D cy g um p0 p1 (3 : Int32) r9 e10) gX9_isPast_X9_tallyOf rfl hd_X9_tallyOf ⟨Nat.le_of_ble_eq_true rfl, Nat.le_of_ble_eq_true rfl⟩ ⟨rfl, rfl⟩ hK (sp_all _) (sp_all _) hP hD hS hA 0 rfl rfl rfl hl.1 rfl (Nat.le_of_ble_eq_true rfl) dX9_isPast_41 ⟨Nat.zero_le _, Nat.zero_le _⟩ (fun H locs hP hD hS => ?_)
    clear e10
    refine lv_istore (lv' := [(6, .int r9), (5, .int r7), (4, .int r5), (3, .int r3), (0, .ref (g 999)), (1, .int p0), (2, .int p1)]) hx hb dX9_isPast_44 hl (by decide) rfl (fun ls hl => ?_)
    refine lv_lconst (v := 0) hx hb dX9_isPast_46 (by decide) ?_
    refine lv_lstore (lv' := [(7, .long (0 : Int64)), (6, .int r9), (5, .int r7), (4, .int r5), (3, .int r3), (0, .ref (g 999)), (1, .int p0), (2, .int p1)]) hx hb dX9_isPast_47 hl (by decide) rfl (fun ls hl => ?_)
    refine lv_iload_n hx hb dX9_isPast_49 rfl (lv_at hl 4 rfl) ?_
    refine lv_istore (lv' := [(9, .int r3), (7, .long (0 : Int64)), (6, .int r9), (5, .int r7), (4, .int r5), (3, .int r3), (0, .ref (g 999)), (1, .int p0), (2, .int p1)]) hx hb dX9_isPast_50 hl (by decide) rfl (fun ls hl => ?_)
    exact w_X9_isPast_52 C0 FU r5 r7 r9 (0 : Int64) r3 um h _ _ ls hP hD hS (lv_sub hl [6, 4, 3, 2, 1, 0] rfl)
theorem hd_X9_habit : yX9_habit.cls = RX9 ∧ yX9_habit.cls ≠ "java/lang/invoke/MethodHandle" ∧ yX9_habit.cls ≠ "java/lang/invoke/VarHandle" ∧ (parseMethodDescriptor yX9_habit.desc).map (fun d => d.parameters.length) = some 2 := by decide +kernel
set_option maxHeartbeats 4000000 in
set_option maxRecDepth 100000 in
theorem c_X9_habit (l : Launch) (D : va_G) (cy : Nat → ClassId) (g : Nat → Nat) (um : St) (p0 : Int32) (p1 : Int32) (r : Int32) (um' : St) (h : f_X9_habit p0 p1 um = some (r, um')) : CtI l yX9_habit wsX9_habit (rmH 4) [.ref (g 999), .int p0, .int p1] D cy (wX9 cy g um) (wX9 cy g um') r := by
  refine ct_enter (D := D) (cy := cy) (cc := cX9_habit) (maxL := 3) (ret := (some .int)) (w := wX9 cy g um) (Qc := fun sz => va_Qi (fun r' (_ : Unit) => r' = r) (Bw D cy (va_A (wX9 cy g um) sz) (wX9 cy g um')) (va_A (wX9 cy g um) sz)) (by decide) rfl (Nat.le_of_ble_eq_true rfl) ?_
  intro p e s m below meth c A C0 hAe ls hl hP hD hS
  have e1 : MQ below ((fun sz => va_Qi (fun r' (_ : Unit) => r' = r) (Bw D cy (va_A (wX9 cy g um) sz) (wX9 cy g um')) (va_A (wX9 cy g um) sz)) s.heap.size) [.ref (g 999), .int p0, .int p1].toArray s 0 0 A = QI below [.ref (g 999), .int p0, .int p1].toArray s A D cy (wX9 cy g um') r := by rw [hAe]; rfl
  rw [e1]
  clear e1 hAe
  obtain ⟨hx, hb, hr, hml, hown, hts, hlocks, hK, hA⟩ := id C0
  have hl : lv_has ls 3 [(0, .ref (g 999)), (1, .int p0), (2, .int p1)] := hl
  rw [f_X9_habit] at h
  refine lv_iload_n hx hb dX9_habit_0 rfl (lv_at hl 1 rfl) ?_
  refine lv_iconst (v := 0) hx hb dX9_habit_1 (by decide) ?_
  refine lv_iconst (v := 3) hx hb dX9_habit_2 (by decide) ?_
  obtain ⟨r1, e2, h⟩ := bd_some h
  refine x_callSI (As := [.int p0, .int (0 : Int32), .int (3 : Int32)]) (rest := []) (n := 3) ⟨hx, hb, hml, hown, hts⟩ (c_X9_in l D cy  p0 (0 : Int32) (3 : Int32) r1 e2) gX9_habit_X9_in rfl hd_X9_in ⟨Nat.le_of_ble_eq_true rfl, Nat.le_of_ble_eq_true rfl⟩ ⟨rfl, rfl⟩ hK (sp_nil _) (sp_nil _) hP hD hS hA rfl hl.1 rfl (Nat.le_of_ble_eq_true rfl) dX9_habit_3 ⟨Nat.zero_le _, Nat.zero_le _⟩ (fun H locs hP hD hS => ?_)
  clear e2
  refine x_if_eq (tgt := 16) hx hb dX9_habit_6 (by decide) h (fun _ h => ?_) (fun _ h => ?_)
  · refine lv_bipush (v := -2) hx hb dX9_habit_16 (by decide) ?_
    cases h
    exact x_iret hx hb hr hlocks hK hP hD hS dX9_habit_18 rfl rfl
  · refine lv_iload_n hx hb dX9_habit_9 rfl (lv_at hl 2 rfl) ?_
    obtain ⟨r3, e4, h⟩ := bd_some h
    refine x_callSI (As := [.int p1]) (rest := []) (n := 1) ⟨hx, hb, hml, hown, hts⟩ (c_X9_isKind l D cy  p1 r3 e4) gX9_habit_X9_isKind rfl hd_X9_isKind ⟨Nat.le_of_ble_eq_true rfl, Nat.le_of_ble_eq_true rfl⟩ ⟨rfl, rfl⟩ hK (sp_nil _) (sp_nil _) hP hD hS hA rfl hl.1 rfl (Nat.le_of_ble_eq_true rfl) dX9_habit_10 ⟨Nat.zero_le _, Nat.zero_le _⟩ (fun H locs hP hD hS => ?_)
    clear e4
    refine x_if_ne (tgt := 19) hx hb dX9_habit_13 (by decide) h (fun _ h => ?_) (fun _ h => ?_)
    · refine lv_bipush (v := -2) hx hb dX9_habit_16 (by decide) ?_
      cases h
      exact x_iret hx hb hr hlocks hK hP hD hS dX9_habit_18 rfl rfl
    · refine lv_aload_n hx hb dX9_habit_19 rfl (lv_at hl 0 rfl) ?_
      refine lv_iload_n hx hb dX9_habit_20 rfl (lv_at hl 1 rfl) ?_
      refine lv_iload_n hx hb dX9_habit_21 rfl (lv_at hl 2 rfl) ?_
      obtain ⟨r6, um5, e7, h⟩ := bd2_some h
      refine x_callVI (As := [.int p0, .int p1]) (rest := []) (n := 2) ⟨hx, hb, hml, hown, hts⟩ (c_X9_isPast l D cy g um p0 p1 r6 um5 e7) gX9_habit_X9_isPast rfl hd_X9_isPast ⟨Nat.le_of_ble_eq_true rfl, Nat.le_of_ble_eq_true rfl⟩ ⟨rfl, rfl⟩ hK (sp_all _) (sp_all _) hP hD hS hA 0 rfl rfl rfl hl.1 rfl (Nat.le_of_ble_eq_true rfl) dX9_habit_22 ⟨Nat.zero_le _, Nat.zero_le _⟩ (fun H locs hP hD hS => ?_)
      clear e7
      refine x_if_eq (tgt := 32) hx hb dX9_habit_25 (by decide) h (fun _ h => ?_) (fun _ h => ?_)
      · refine lv_iconst (v := 0) hx hb dX9_habit_32 (by decide) ?_
        cases h
        exact x_iret hx hb hr hlocks hK hP hD hS dX9_habit_33 rfl rfl
      · refine lv_iconst (v := 1) hx hb dX9_habit_28 (by decide) ?_
        refine lv_goto (tgt := 33) hx hb dX9_habit_29 (by decide) ?_
        cases h
        exact x_iret hx hb hr hlocks hK hP hD hS dX9_habit_33 rfl rfl
theorem hd_X9_strongest : yX9_strongest.cls = RX9 ∧ yX9_strongest.cls ≠ "java/lang/invoke/MethodHandle" ∧ yX9_strongest.cls ≠ "java/lang/invoke/VarHandle" ∧ (parseMethodDescriptor yX9_strongest.desc).map (fun d => d.parameters.length) = some 0 := by decide +kernel
set_option maxHeartbeats 4000000 in
set_option maxRecDepth 100000 in
theorem w_X9_strongest_89 {p : Program} {l : Launch} {e : Env} {s : State} {m : MethodId} {below : List Frame} {meth : Method} {c : Code} {args : Array Value} {D : va_G} {cy : Nat → ClassId} {g : Nat → Nat} {A : Nat → Prop} {r : Int32} {um' : St} (C0 : Cx p s m meth c args cX9_strongest 5 (some .int) wsX9_strongest RX9 D cy A) {k_4 : Int32 → Int32 → St → Option (Int32 × St)} (hk_4 : ∀ (l1 : Int32) (l2 : Int32) (um : St), k_4 l1 l2 um = some (r, um') → ∀ (H : Heap) (locs : List Loc) (ls : Array Slot), va_P D vwCl (wX9 cy g um) H → va_D A (wX9 cy g um) → va_S A s.heap H locs → lv_has ls 5 [(0, .ref (g 999)), (1, .int l1), (2, .int l2)] → W p l e (rmH 4) s m args below meth c H locs 0 0 (QI below args s A D cy (wX9 cy g um') r) (F0 m 4 ls [])) : ∀ (l1 : Int32) (l2 : Int32) (um : St), f_X9_strongest_89 k_4 l1 l2 um = some (r, um') → ∀ (H : Heap) (locs : List Loc) (ls : Array Slot), va_P D vwCl (wX9 cy g um) H → va_D A (wX9 cy g um) → va_S A s.heap H locs → lv_has ls 5 [(0, .ref (g 999)), (1, .int l1), (2, .int l2)] → W p l e (rmH 4) s m args below meth c H locs 0 0 (QI below args s A D cy (wX9 cy g um') r) (F0 m 89 ls []) := by
  obtain ⟨hx, hb, hr, hml, hown, hts, hlocks, hK, hA⟩ := id C0
  intro l1 l2 um h H locs ls hP hD hS hl
  rw [f_X9_strongest_89] at h
  obtain ⟨v12, ev12, h⟩ := nm_ex h
  refine lv_iinc (v := v12) (lv' := [(2, .int v12), (0, .ref (g 999)), (1, .int l1)]) hx hb dX9_strongest_89 hl (k := 2) rfl (by rw [ev12]; rfl) (by decide) rfl (fun ls hl => ?_)
  clear ev12
  refine lv_goto (tgt := 4) hx hb dX9_strongest_92 (by decide) ?_
  exact hk_4 l1 v12 um h _ _ ls hP hD hS (lv_sub hl [1, 2, 0] rfl)
set_option maxHeartbeats 4000000 in
set_option maxRecDepth 100000 in
theorem w_X9_strongest_88 {p : Program} {l : Launch} {e : Env} {s : State} {m : MethodId} {below : List Frame} {meth : Method} {c : Code} {args : Array Value} {D : va_G} {cy : Nat → ClassId} {g : Nat → Nat} {A : Nat → Prop} {r : Int32} {um' : St} (C0 : Cx p s m meth c args cX9_strongest 5 (some .int) wsX9_strongest RX9 D cy A) {k_4 : Int32 → Int32 → St → Option (Int32 × St)} (hk_4 : ∀ (l1 : Int32) (l2 : Int32) (um : St), k_4 l1 l2 um = some (r, um') → ∀ (H : Heap) (locs : List Loc) (ls : Array Slot), va_P D vwCl (wX9 cy g um) H → va_D A (wX9 cy g um) → va_S A s.heap H locs → lv_has ls 5 [(0, .ref (g 999)), (1, .int l1), (2, .int l2)] → W p l e (rmH 4) s m args below meth c H locs 0 0 (QI below args s A D cy (wX9 cy g um') r) (F0 m 4 ls [])) : ∀ (l2 : Int32) (s0 : Int32) (um : St), f_X9_strongest_88 k_4 l2 s0 um = some (r, um') → ∀ (H : Heap) (locs : List Loc) (ls : Array Slot), va_P D vwCl (wX9 cy g um) H → va_D A (wX9 cy g um) → va_S A s.heap H locs → lv_has ls 5 [(0, .ref (g 999)), (2, .int l2)] → W p l e (rmH 4) s m args below meth c H locs 0 0 (QI below args s A D cy (wX9 cy g um') r) (F0 m 88 ls [.int s0]) := by
  obtain ⟨hx, hb, hr, hml, hown, hts, hlocks, hK, hA⟩ := id C0
  intro l2 s0 um h H locs ls hP hD hS hl
  rw [f_X9_strongest_88] at h
  refine lv_istore_n (lv' := [(1, .int s0), (0, .ref (g 999)), (2, .int l2)]) hx hb dX9_strongest_88 rfl hl (by decide) rfl (fun ls hl => ?_)
  exact w_X9_strongest_89 C0 hk_4 s0 l2 um h _ _ ls hP hD hS (lv_sub hl [1, 0, 2] rfl)
set_option maxHeartbeats 4000000 in
set_option maxRecDepth 100000 in
theorem w_X9_strongest_83 {p : Program} {l : Launch} {e : Env} {s : State} {m : MethodId} {below : List Frame} {meth : Method} {c : Code} {args : Array Value} {D : va_G} {cy : Nat → ClassId} {g : Nat → Nat} {A : Nat → Prop} {r : Int32} {um' : St} (C0 : Cx p s m meth c args cX9_strongest 5 (some .int) wsX9_strongest RX9 D cy A) {k_4 : Int32 → Int32 → St → Option (Int32 × St)} (hk_4 : ∀ (l1 : Int32) (l2 : Int32) (um : St), k_4 l1 l2 um = some (r, um') → ∀ (H : Heap) (locs : List Loc) (ls : Array Slot), va_P D vwCl (wX9 cy g um) H → va_D A (wX9 cy g um) → va_S A s.heap H locs → lv_has ls 5 [(0, .ref (g 999)), (1, .int l1), (2, .int l2)] → W p l e (rmH 4) s m args below meth c H locs 0 0 (QI below args s A D cy (wX9 cy g um') r) (F0 m 4 ls [])) : ∀ (l2 : Int32) (um : St), f_X9_strongest_83 k_4 l2 um = some (r, um') → ∀ (H : Heap) (locs : List Loc) (ls : Array Slot), va_P D vwCl (wX9 cy g um) H → va_D A (wX9 cy g um) → va_S A s.heap H locs → lv_has ls 5 [(0, .ref (g 999)), (2, .int l2)] → W p l e (rmH 4) s m args below meth c H locs 0 0 (QI below args s A D cy (wX9 cy g um') r) (F0 m 83 ls []) := by
  obtain ⟨hx, hb, hr, hml, hown, hts, hlocks, hK, hA⟩ := id C0
  intro l2 um h H locs ls hP hD hS hl
  rw [f_X9_strongest_83] at h
  refine lv_iload_n hx hb dX9_strongest_83 rfl (lv_at hl 1 rfl) ?_
  refine lv_goto (tgt := 88) hx hb dX9_strongest_84 (by decide) ?_
  exact w_X9_strongest_88 C0 hk_4 l2 l2 um h _ _ ls hP hD hS (lv_sub hl [0, 1] rfl)
set_option maxHeartbeats 4000000 in
set_option maxRecDepth 100000 in
theorem w_X9_strongest_4 {p : Program} {l : Launch} {e : Env} {s : State} {m : MethodId} {below : List Frame} {meth : Method} {c : Code} {args : Array Value} {D : va_G} {cy : Nat → ClassId} {g : Nat → Nat} {A : Nat → Prop} {r : Int32} {um' : St} (C0 : Cx p s m meth c args cX9_strongest 5 (some .int) wsX9_strongest RX9 D cy A) : ∀ (nn : Nat) (l1 : Int32) (l2 : Int32) (um : St), f_X9_strongest_4 nn l1 l2 um = some (r, um') → ∀ (H : Heap) (locs : List Loc) (ls : Array Slot), va_P D vwCl (wX9 cy g um) H → va_D A (wX9 cy g um) → va_S A s.heap H locs → lv_has ls 5 [(0, .ref (g 999)), (1, .int l1), (2, .int l2)] → W p l e (rmH 4) s m args below meth c H locs 0 0 (QI below args s A D cy (wX9 cy g um') r) (F0 m 4 ls []) := by
  obtain ⟨hx, hb, hr, hml, hown, hts, hlocks, hK, hA⟩ := id C0
  intro nn
  induction nn with
  | zero => intro l1 l2 um h; rw [f_X9_strongest_4] at h; cases h
  | succ nn ih =>
    intro l1 l2 um h H locs ls hP hD hS hl
    rw [f_X9_strongest_4] at h
    refine lv_iload_n hx hb dX9_strongest_4 rfl (lv_at hl 2 rfl) ?_
    refine lv_bipush (v := 16) hx hb dX9_strongest_5 (by decide) ?_
    refine x_icmp_ge (tgt := 95) hx hb dX9_strongest_7 (by decide) h (fun _ h => ?_) (fun _ h => ?_)
    · refine lv_iload_n hx hb dX9_strongest_95 rfl (lv_at hl 1 rfl) ?_
      cases h
      exact x_iret hx hb hr hlocks hK hP hD hS dX9_strongest_96 rfl rfl
    · refine lv_aload_n hx hb dX9_strongest_10 rfl (lv_at hl 0 rfl) ?_
      refine lv_iload_n hx hb dX9_strongest_11 rfl (lv_at hl 2 rfl) ?_
      refine lv_iconst (v := 4) hx hb dX9_strongest_12 (by decide) ?_
      refine lv_idiv hx hb dX9_strongest_13 (by decide) ?_
      refine lv_iload_n hx hb dX9_strongest_14 rfl (lv_at hl 2 rfl) ?_
      refine lv_iconst (v := 4) hx hb dX9_strongest_15 (by decide) ?_
      refine lv_irem hx hb dX9_strongest_16 (by decide) ?_
      obtain ⟨r2, um1, e3, h⟩ := bd2_some h
      refine x_callVI (As := [.int (l2 / (4 : Int32)), .int (l2 - l2 / (4 : Int32) * (4 : Int32))]) (rest := []) (n := 2) ⟨hx, hb, hml, hown, hts⟩ (c_X9_isPast l D cy g um (l2 / (4 : Int32)) (l2 - l2 / (4 : Int32) * (4 : Int32)) r2 um1 e3) gX9_strongest_X9_isPast rfl hd_X9_isPast ⟨Nat.le_of_ble_eq_true rfl, Nat.le_of_ble_eq_true rfl⟩ ⟨rfl, rfl⟩ hK (sp_all _) (sp_all _) hP hD hS hA 0 rfl rfl rfl hl.1 rfl (Nat.le_of_ble_eq_true rfl) dX9_strongest_17 ⟨Nat.zero_le _, Nat.zero_le _⟩ (fun H locs hP hD hS => ?_)
      clear e3
      refine x_if_eq (tgt := 89) hx hb dX9_strongest_20 (by decide) h (fun _ h => ?_) (fun _ h => ?_)
      · exact w_X9_strongest_89 C0 ih l1 l2 um1 h _ _ ls hP hD hS (lv_sub hl [0, 1, 2] rfl)
      · refine lv_aload_n hx hb dX9_strongest_23 rfl (lv_at hl 0 rfl) ?_
        refine lv_iload_n hx hb dX9_strongest_24 rfl (lv_at hl 2 rfl) ?_
        refine lv_iconst (v := 4) hx hb dX9_strongest_25 (by decide) ?_
        refine lv_idiv hx hb dX9_strongest_26 (by decide) ?_
        refine lv_iload_n hx hb dX9_strongest_27 rfl (lv_at hl 2 rfl) ?_
        refine lv_iconst (v := 4) hx hb dX9_strongest_28 (by decide) ?_
        refine lv_irem hx hb dX9_strongest_29 (by decide) ?_
        refine lv_iconst (v := 0) hx hb dX9_strongest_30 (by decide) ?_
        obtain ⟨r4, e5, h⟩ := bd_some h
        refine x_callVI (As := [.int (l2 / (4 : Int32)), .int (l2 - l2 / (4 : Int32) * (4 : Int32)), .int (0 : Int32)]) (rest := []) (n := 3) ⟨hx, hb, hml, hown, hts⟩ (c_X9_tallyOf l D cy g um1 (l2 / (4 : Int32)) (l2 - l2 / (4 : Int32) * (4 : Int32)) (0 : Int32) r4 e5) gX9_strongest_X9_tallyOf rfl hd_X9_tallyOf ⟨Nat.le_of_ble_eq_true rfl, Nat.le_of_ble_eq_true rfl⟩ ⟨rfl, rfl⟩ hK (sp_all _) (sp_all _) hP hD hS hA 0 rfl rfl rfl hl.1 rfl (Nat.le_of_ble_eq_true rfl) dX9_strongest_31 ⟨Nat.zero_le _, Nat.zero_le _⟩ (fun H locs hP hD hS => ?_)
        clear e5
        refine lv_istore_n (lv' := [(3, .int r4), (0, .ref (g 999)), (1, .int l1), (2, .int l2)]) hx hb dX9_strongest_34 rfl hl (by decide) rfl (fun ls hl => ?_)
        refine lv_aload_n hx hb dX9_strongest_35 rfl (lv_at hl 1 rfl) ?_
        refine lv_iload_n hx hb dX9_strongest_36 rfl (lv_at hl 3 rfl) ?_
        refine lv_iconst (v := 4) hx hb dX9_strongest_37 (by decide) ?_
        refine lv_idiv hx hb dX9_strongest_38 (by decide) ?_
        refine lv_iload_n hx hb dX9_strongest_39 rfl (lv_at hl 3 rfl) ?_
        refine lv_iconst (v := 4) hx hb dX9_strongest_40 (by decide) ?_
        refine lv_irem hx hb dX9_strongest_41 (by decide) ?_
        refine lv_iconst (v := 1) hx hb dX9_strongest_42 (by decide) ?_
        obtain ⟨r6, e7, h⟩ := bd_some h
        refine x_callVI (As := [.int (l2 / (4 : Int32)), .int (l2 - l2 / (4 : Int32) * (4 : Int32)), .int (1 : Int32)]) (rest := []) (n := 3) ⟨hx, hb, hml, hown, hts⟩ (c_X9_tallyOf l D cy g um1 (l2 / (4 : Int32)) (l2 - l2 / (4 : Int32) * (4 : Int32)) (1 : Int32) r6 e7) gX9_strongest_X9_tallyOf rfl hd_X9_tallyOf ⟨Nat.le_of_ble_eq_true rfl, Nat.le_of_ble_eq_true rfl⟩ ⟨rfl, rfl⟩ hK (sp_all _) (sp_all _) hP hD hS hA 0 rfl rfl rfl hl.1 rfl (Nat.le_of_ble_eq_true rfl) dX9_strongest_43 ⟨Nat.zero_le _, Nat.zero_le _⟩ (fun H locs hP hD hS => ?_)
        clear e7
        refine lv_istore (lv' := [(4, .int r6), (3, .int r4), (0, .ref (g 999)), (1, .int l1), (2, .int l2)]) hx hb dX9_strongest_46 hl (by decide) rfl (fun ls hl => ?_)
        refine lv_iload_n hx hb dX9_strongest_48 rfl (lv_at hl 3 rfl) ?_
        refine lv_iconst (v := -1) hx hb dX9_strongest_49 (by decide) ?_
        refine x_icmp_eq (tgt := 83) hx hb dX9_strongest_50 (by decide) h (fun _ h => ?_) (fun _ h => ?_)
        · exact w_X9_strongest_83 C0 ih l2 um1 h _ _ ls hP hD hS (lv_sub hl [2, 4] rfl)
        · refine lv_iload_n hx hb dX9_strongest_53 rfl (lv_at hl 1 rfl) ?_
          refine lv_aload_n hx hb dX9_strongest_54 rfl (lv_at hl 2 rfl) ?_
          refine lv_iload_n hx hb dX9_strongest_55 rfl (lv_at hl 3 rfl) ?_
          refine lv_iconst (v := 4) hx hb dX9_strongest_56 (by decide) ?_
          refine lv_idiv hx hb dX9_strongest_57 (by decide) ?_
          refine lv_iload_n hx hb dX9_strongest_58 rfl (lv_at hl 3 rfl) ?_
          refine lv_iconst (v := 4) hx hb dX9_strongest_59 (by decide) ?_
          refine lv_irem hx hb dX9_strongest_60 (by decide) ?_
          refine lv_iconst (v := 1) hx hb dX9_strongest_61 (by decide) ?_
          obtain ⟨r8, e9, h⟩ := bd_some h
          refine x_callVI (As := [.int (l1 / (4 : Int32)), .int (l1 - l1 / (4 : Int32) * (4 : Int32)), .int (1 : Int32)]) (rest := [.int r4]) (n := 3) ⟨hx, hb, hml, hown, hts⟩ (c_X9_tallyOf l D cy g um1 (l1 / (4 : Int32)) (l1 - l1 / (4 : Int32) * (4 : Int32)) (1 : Int32) r8 e9) gX9_strongest_X9_tallyOf rfl hd_X9_tallyOf ⟨Nat.le_of_ble_eq_true rfl, Nat.le_of_ble_eq_true rfl⟩ ⟨rfl, rfl⟩ hK (sp_all _) (sp_all _) hP hD hS hA 0 rfl rfl rfl hl.1 rfl (Nat.le_of_ble_eq_true rfl) dX9_strongest_62 ⟨Nat.zero_le _, Nat.zero_le _⟩ (fun H locs hP hD hS => ?_)
          clear e9
          refine lv_imul hx hb dX9_strongest_65 ?_
          refine lv_aload_n hx hb dX9_strongest_66 rfl (lv_at hl 2 rfl) ?_
          refine lv_iload_n hx hb dX9_strongest_67 rfl (lv_at hl 3 rfl) ?_
          refine lv_iconst (v := 4) hx hb dX9_strongest_68 (by decide) ?_
          refine lv_idiv hx hb dX9_strongest_69 (by decide) ?_
          refine lv_iload_n hx hb dX9_strongest_70 rfl (lv_at hl 3 rfl) ?_
          refine lv_iconst (v := 4) hx hb dX9_strongest_71 (by decide) ?_
          refine lv_irem hx hb dX9_strongest_72 (by decide) ?_
          refine lv_iconst (v := 0) hx hb dX9_strongest_73 (by decide) ?_
          obtain ⟨r10, e11, h⟩ := bd_some h
          refine x_callVI (As := [.int (l1 / (4 : Int32)), .int (l1 - l1 / (4 : Int32) * (4 : Int32)), .int (0 : Int32)]) (rest := [.int (r4 * r8)]) (n := 3) ⟨hx, hb, hml, hown, hts⟩ (c_X9_tallyOf l D cy g um1 (l1 / (4 : Int32)) (l1 - l1 / (4 : Int32) * (4 : Int32)) (0 : Int32) r10 e11) gX9_strongest_X9_tallyOf rfl hd_X9_tallyOf ⟨Nat.le_of_ble_eq_true rfl, Nat.le_of_ble_eq_true rfl⟩ ⟨rfl, rfl⟩ hK (sp_all _) (sp_all _) hP hD hS hA 0 rfl rfl rfl hl.1 rfl (Nat.le_of_ble_eq_true rfl) dX9_strongest_74 ⟨Nat.zero_le _, Nat.zero_le _⟩ (fun H locs hP hD hS => ?_)
          clear e11
          refine lv_iload hx hb dX9_strongest_77 (lv_at hl 0 rfl) ?_
          refine lv_imul hx hb dX9_strongest_79 ?_
          refine x_icmp_le (tgt := 87) hx hb dX9_strongest_80 (by decide) h (fun _ h => ?_) (fun _ h => ?_)
          · refine lv_iload_n hx hb dX9_strongest_87 rfl (lv_at hl 3 rfl) ?_
            exact w_X9_strongest_88 C0 ih l2 l1 um1 h _ _ ls hP hD hS (lv_sub hl [2, 4] rfl)
          · exact w_X9_strongest_83 C0 ih l2 um1 h _ _ ls hP hD hS (lv_sub hl [2, 4] rfl)
set_option maxHeartbeats 4000000 in
set_option maxRecDepth 100000 in
theorem c_X9_strongest (l : Launch) (D : va_G) (cy : Nat → ClassId) (g : Nat → Nat) (um : St) (r : Int32) (um' : St) (h : f_X9_strongest um = some (r, um')) : CtI l yX9_strongest wsX9_strongest (rmH 4) [.ref (g 999)] D cy (wX9 cy g um) (wX9 cy g um') r := by
  refine ct_enter (D := D) (cy := cy) (cc := cX9_strongest) (maxL := 5) (ret := (some .int)) (w := wX9 cy g um) (Qc := fun sz => va_Qi (fun r' (_ : Unit) => r' = r) (Bw D cy (va_A (wX9 cy g um) sz) (wX9 cy g um')) (va_A (wX9 cy g um) sz)) (by decide) rfl (Nat.le_of_ble_eq_true rfl) ?_
  intro p e s m below meth c A C0 hAe ls hl hP hD hS
  have e1 : MQ below ((fun sz => va_Qi (fun r' (_ : Unit) => r' = r) (Bw D cy (va_A (wX9 cy g um) sz) (wX9 cy g um')) (va_A (wX9 cy g um) sz)) s.heap.size) [.ref (g 999)].toArray s 0 0 A = QI below [.ref (g 999)].toArray s A D cy (wX9 cy g um') r := by rw [hAe]; rfl
  rw [e1]
  clear e1 hAe
  obtain ⟨hx, hb, hr, hml, hown, hts, hlocks, hK, hA⟩ := id C0
  have hl : lv_has ls 5 [(0, .ref (g 999))] := hl
  rw [f_X9_strongest] at h
  refine lv_iconst (v := -1) hx hb dX9_strongest_0 (by decide) ?_
  refine lv_istore_n (lv' := [(1, .int (-1 : Int32)), (0, .ref (g 999))]) hx hb dX9_strongest_1 rfl hl (by decide) rfl (fun ls hl => ?_)
  refine lv_iconst (v := 0) hx hb dX9_strongest_2 (by decide) ?_
  refine lv_istore_n (lv' := [(2, .int (0 : Int32)), (1, .int (-1 : Int32)), (0, .ref (g 999))]) hx hb dX9_strongest_3 rfl hl (by decide) rfl (fun ls hl => ?_)
  exact w_X9_strongest_4 C0 FU (-1 : Int32) (0 : Int32) um h _ _ ls hP hD hS (lv_sub hl [2, 1, 0] rfl)
theorem k_X9_cost_0 : Cond.fieldLink RX9 60 "FeatherHallModel" "price" "I" ∈ wsX9_cost := (List.mem_cons_of_mem _ (List.mem_append_left _ (List.mem_of_getElem? (i := 0) rfl)))
theorem ki_X9_cost_X9 : ∀ w ∈ u_ws RX9 TX9 38, w ∈ wsX9_cost := fun _ hh => (List.mem_cons_of_mem _ (List.mem_append_right _ hh))
theorem k_X9_cost_1 : Cond.fieldLink RX9 64 "FeatherHallModel" "loss" "I" ∈ wsX9_cost := (List.mem_cons_of_mem _ (List.mem_append_left _ (List.mem_of_getElem? (i := 1) rfl)))
theorem hd_X9_cost : yX9_cost.cls = RX9 ∧ yX9_cost.cls ≠ "java/lang/invoke/MethodHandle" ∧ yX9_cost.cls ≠ "java/lang/invoke/VarHandle" ∧ (parseMethodDescriptor yX9_cost.desc).map (fun d => d.parameters.length) = some 2 := by decide +kernel
set_option maxHeartbeats 4000000 in
set_option maxRecDepth 100000 in
theorem w_X9_cost_27 {p : Program} {l : Launch} {e : Env} {s : State} {m : MethodId} {below : List Frame} {meth : Method} {c : Code} {args : Array Value} {D : va_G} {cy : Nat → ClassId} {g : Nat → Nat} {A : Nat → Prop} {r : Int32} {um' : St} (C0 : Cx p s m meth c args cX9_cost 4 (some .int) wsX9_cost RX9 D cy A) : ∀ (l1 : Int32) (l2 : Int32) (um : St), f_X9_cost_27 l1 l2 um = some (r, um') → ∀ (H : Heap) (locs : List Loc) (ls : Array Slot), va_P D vwCl (wX9 cy g um) H → va_D A (wX9 cy g um) → va_S A s.heap H locs → lv_has ls 4 [(0, .ref (g 999)), (1, .int l1), (2, .int l2)] → W p l e (rmH 1) s m args below meth c H locs 0 0 (QI below args s A D cy (wX9 cy g um') r) (F0 m 27 ls []) := by
  obtain ⟨hx, hb, hr, hml, hown, hts, hlocks, hK, hA⟩ := id C0
  intro l1 l2 um h H locs ls hP hD hS hl
  rw [f_X9_cost_27] at h
  refine lv_iload_n hx hb dX9_cost_27 rfl (lv_at hl 1 rfl) ?_
  refine lv_iconst (v := 1) hx hb dX9_cost_28 (by decide) ?_
  refine x_icmp_ne (tgt := 54) hx hb dX9_cost_29 (by decide) h (fun _ h => ?_) (fun _ h => ?_)
  · refine lv_iload_n hx hb dX9_cost_32 rfl (lv_at hl 2 rfl) ?_
    refine lv_iconst (v := 0) hx hb dX9_cost_33 (by decide) ?_
    refine lv_bipush (v := 99) hx hb dX9_cost_34 (by decide) ?_
    obtain ⟨r4, e5, h⟩ := bd_some h
    refine x_callSI (As := [.int l2, .int (0 : Int32), .int (99 : Int32)]) (rest := []) (n := 3) ⟨hx, hb, hml, hown, hts⟩ (c_X9_in l D cy  l2 (0 : Int32) (99 : Int32) r4 e5) gX9_cost_X9_in rfl hd_X9_in ⟨Nat.le_of_ble_eq_true rfl, Nat.le_of_ble_eq_true rfl⟩ ⟨rfl, rfl⟩ hK (sp_nil _) (sp_nil _) hP hD hS hA rfl hl.1 rfl (Nat.le_of_ble_eq_true rfl) dX9_cost_36 ⟨Nat.zero_le _, Nat.zero_le _⟩ (fun H locs hP hD hS => ?_)
    clear e5
    refine x_if_eq (tgt := 54) hx hb dX9_cost_39 (by decide) h (fun _ h => ?_) (fun _ h => ?_)
    · refine lv_bipush (v := -3) hx hb dX9_cost_54 (by decide) ?_
      cases h
      exact x_iret hx hb hr hlocks hK hP hD hS dX9_cost_56 rfl rfl
    · refine lv_aload_n hx hb dX9_cost_42 rfl (lv_at hl 0 rfl) ?_
      refine va_get (D := D) (ci := 8) (v := .int (um.1 21)) (C := RX9) (T := TX9) (N := 38) hx hb hts ki_X9_cost_X9 hown hK hP 0 rfl rfl 21 (by decide) (hts _ k_X9_cost_1) (fun _ h9 => h9) rfl dX9_cost_43 ?_
      refine lv_istore_n (lv' := [(3, .int (um.1 21)), (0, .ref (g 999)), (1, .int l1), (2, .int l2)]) hx hb dX9_cost_46 rfl hl (by decide) rfl (fun ls hl => ?_)
      refine lv_aload_n hx hb dX9_cost_47 rfl (lv_at hl 1 rfl) ?_
      refine lv_iload_n hx hb dX9_cost_48 rfl (lv_at hl 3 rfl) ?_
      refine x_put (D := D) (ci := 8) (Wd := (fun uz => wX9 cy g uz)) (u := um) (C := RX9) (T := TX9) (N := 38) hx hb hts ki_X9_cost_X9 tyX9 tyX9_ok nmX9 hown hK hP hD hS 0 rfl rfl 21 (by decide) (hts _ k_X9_cost_1) (fun _ h9 => h9) rfl (tyX9_ok 21 (by decide)) rfl rfl (Nat.le_of_ble_eq_true rfl) (fun _ => rfl) h dX9_cost_49 (fun um6 H locs h hP hD hS => ?_)
      refine lv_iload_n hx hb dX9_cost_52 rfl (lv_at hl 0 rfl) ?_
      cases h
      exact x_iret hx hb hr hlocks hK hP hD hS dX9_cost_53 rfl rfl
  · refine lv_bipush (v := -3) hx hb dX9_cost_54 (by decide) ?_
    cases h
    exact x_iret hx hb hr hlocks hK hP hD hS dX9_cost_56 rfl rfl
set_option maxHeartbeats 4000000 in
set_option maxRecDepth 100000 in
theorem c_X9_cost (l : Launch) (D : va_G) (cy : Nat → ClassId) (g : Nat → Nat) (um : St) (p0 : Int32) (p1 : Int32) (r : Int32) (um' : St) (h : f_X9_cost p0 p1 um = some (r, um')) : CtI l yX9_cost wsX9_cost (rmH 1) [.ref (g 999), .int p0, .int p1] D cy (wX9 cy g um) (wX9 cy g um') r := by
  refine ct_enter (D := D) (cy := cy) (cc := cX9_cost) (maxL := 4) (ret := (some .int)) (w := wX9 cy g um) (Qc := fun sz => va_Qi (fun r' (_ : Unit) => r' = r) (Bw D cy (va_A (wX9 cy g um) sz) (wX9 cy g um')) (va_A (wX9 cy g um) sz)) (by decide) rfl (Nat.le_of_ble_eq_true rfl) ?_
  intro p e s m below meth c A C0 hAe ls hl hP hD hS
  have e1 : MQ below ((fun sz => va_Qi (fun r' (_ : Unit) => r' = r) (Bw D cy (va_A (wX9 cy g um) sz) (wX9 cy g um')) (va_A (wX9 cy g um) sz)) s.heap.size) [.ref (g 999), .int p0, .int p1].toArray s 0 0 A = QI below [.ref (g 999), .int p0, .int p1].toArray s A D cy (wX9 cy g um') r := by rw [hAe]; rfl
  rw [e1]
  clear e1 hAe
  obtain ⟨hx, hb, hr, hml, hown, hts, hlocks, hK, hA⟩ := id C0
  have hl : lv_has ls 4 [(0, .ref (g 999)), (1, .int p0), (2, .int p1)] := hl
  rw [f_X9_cost] at h
  refine lv_iload_n hx hb dX9_cost_0 rfl (lv_at hl 1 rfl) ?_
  refine x_if_ne (tgt := 27) hx hb dX9_cost_1 (by decide) h (fun _ h => ?_) (fun _ h => ?_)
  · refine lv_iload_n hx hb dX9_cost_4 rfl (lv_at hl 2 rfl) ?_
    refine lv_iconst (v := 1) hx hb dX9_cost_5 (by decide) ?_
    refine lv_sipush (v := 999) hx hb dX9_cost_6 (by decide) ?_
    obtain ⟨r1, e2, h⟩ := bd_some h
    refine x_callSI (As := [.int p1, .int (1 : Int32), .int (999 : Int32)]) (rest := []) (n := 3) ⟨hx, hb, hml, hown, hts⟩ (c_X9_in l D cy  p1 (1 : Int32) (999 : Int32) r1 e2) gX9_cost_X9_in rfl hd_X9_in ⟨Nat.le_of_ble_eq_true rfl, Nat.le_of_ble_eq_true rfl⟩ ⟨rfl, rfl⟩ hK (sp_nil _) (sp_nil _) hP hD hS hA rfl hl.1 rfl (Nat.le_of_ble_eq_true rfl) dX9_cost_9 ⟨Nat.zero_le _, Nat.zero_le _⟩ (fun H locs hP hD hS => ?_)
    clear e2
    refine x_if_eq (tgt := 27) hx hb dX9_cost_12 (by decide) h (fun _ h => ?_) (fun _ h => ?_)
    · exact w_X9_cost_27 C0 p0 p1 um h _ _ ls hP hD hS (lv_sub hl [0, 1, 2] rfl)
    · refine lv_aload_n hx hb dX9_cost_15 rfl (lv_at hl 0 rfl) ?_
      refine va_get (D := D) (ci := 8) (v := .int (um.1 20)) (C := RX9) (T := TX9) (N := 38) hx hb hts ki_X9_cost_X9 hown hK hP 0 rfl rfl 20 (by decide) (hts _ k_X9_cost_0) (fun _ h9 => h9) rfl dX9_cost_16 ?_
      refine lv_istore_n (lv' := [(3, .int (um.1 20)), (0, .ref (g 999)), (1, .int p0), (2, .int p1)]) hx hb dX9_cost_19 rfl hl (by decide) rfl (fun ls hl => ?_)
      refine lv_aload_n hx hb dX9_cost_20 rfl (lv_at hl 1 rfl) ?_
      refine lv_iload_n hx hb dX9_cost_21 rfl (lv_at hl 3 rfl) ?_
      refine x_put (D := D) (ci := 8) (Wd := (fun uz => wX9 cy g uz)) (u := um) (C := RX9) (T := TX9) (N := 38) hx hb hts ki_X9_cost_X9 tyX9 tyX9_ok nmX9 hown hK hP hD hS 0 rfl rfl 20 (by decide) (hts _ k_X9_cost_0) (fun _ h9 => h9) rfl (tyX9_ok 20 (by decide)) rfl rfl (Nat.le_of_ble_eq_true rfl) (fun _ => rfl) h dX9_cost_22 (fun um3 H locs h hP hD hS => ?_)
      refine lv_iload_n hx hb dX9_cost_25 rfl (lv_at hl 0 rfl) ?_
      cases h
      exact x_iret hx hb hr hlocks hK hP hD hS dX9_cost_26 rfl rfl
  · exact w_X9_cost_27 C0 p0 p1 um h _ _ ls hP hD hS (lv_sub hl [0, 1, 2] rfl)
theorem k_X9_wear_0 : Cond.fieldLink RX9 67 "FeatherHallModel" "wear" "[I" ∈ wsX9_wear := (List.mem_cons_of_mem _ (List.mem_append_left _ (List.mem_of_getElem? (i := 0) rfl)))
theorem ki_X9_wear_X9 : ∀ w ∈ u_ws RX9 TX9 38, w ∈ wsX9_wear := fun _ hh => (List.mem_cons_of_mem _ (List.mem_append_right _ hh))
theorem hd_X9_wear : yX9_wear.cls = RX9 ∧ yX9_wear.cls ≠ "java/lang/invoke/MethodHandle" ∧ yX9_wear.cls ≠ "java/lang/invoke/VarHandle" ∧ (parseMethodDescriptor yX9_wear.desc).map (fun d => d.parameters.length) = some 2 := by decide +kernel
set_option maxHeartbeats 4000000 in
set_option maxRecDepth 100000 in
theorem c_X9_wear (l : Launch) (D : va_G) (cy : Nat → ClassId) (g : Nat → Nat) (um : St) (p0 : Int32) (p1 : Int32) (r : Int32) (um' : St) (h : f_X9_wear p0 p1 um = some (r, um')) : CtI l yX9_wear wsX9_wear (rmH 2) [.ref (g 999), .int p0, .int p1] D cy (wX9 cy g um) (wX9 cy g um') r := by
  refine ct_enter (D := D) (cy := cy) (cc := cX9_wear) (maxL := 4) (ret := (some .int)) (w := wX9 cy g um) (Qc := fun sz => va_Qi (fun r' (_ : Unit) => r' = r) (Bw D cy (va_A (wX9 cy g um) sz) (wX9 cy g um')) (va_A (wX9 cy g um) sz)) (by decide) rfl (Nat.le_of_ble_eq_true rfl) ?_
  intro p e s m below meth c A C0 hAe ls hl hP hD hS
  have e1 : MQ below ((fun sz => va_Qi (fun r' (_ : Unit) => r' = r) (Bw D cy (va_A (wX9 cy g um) sz) (wX9 cy g um')) (va_A (wX9 cy g um) sz)) s.heap.size) [.ref (g 999), .int p0, .int p1].toArray s 0 0 A = QI below [.ref (g 999), .int p0, .int p1].toArray s A D cy (wX9 cy g um') r := by rw [hAe]; rfl
  rw [e1]
  clear e1 hAe
  obtain ⟨hx, hb, hr, hml, hown, hts, hlocks, hK, hA⟩ := id C0
  have hl : lv_has ls 4 [(0, .ref (g 999)), (1, .int p0), (2, .int p1)] := hl
  rw [f_X9_wear] at h
  refine lv_iload_n hx hb dX9_wear_0 rfl (lv_at hl 1 rfl) ?_
  obtain ⟨r1, e2, h⟩ := bd_some h
  refine x_callSI (As := [.int p0]) (rest := []) (n := 1) ⟨hx, hb, hml, hown, hts⟩ (c_X9_isKind l D cy  p0 r1 e2) gX9_wear_X9_isKind rfl hd_X9_isKind ⟨Nat.le_of_ble_eq_true rfl, Nat.le_of_ble_eq_true rfl⟩ ⟨rfl, rfl⟩ hK (sp_nil _) (sp_nil _) hP hD hS hA rfl hl.1 rfl (Nat.le_of_ble_eq_true rfl) dX9_wear_1 ⟨Nat.zero_le _, Nat.zero_le _⟩ (fun H locs hP hD hS => ?_)
  clear e2
  refine x_if_ne (tgt := 10) hx hb dX9_wear_4 (by decide) h (fun _ h => ?_) (fun _ h => ?_)
  · refine lv_bipush (v := -2) hx hb dX9_wear_7 (by decide) ?_
    cases h
    exact x_iret hx hb hr hlocks hK hP hD hS dX9_wear_9 rfl rfl
  · refine lv_iload_n hx hb dX9_wear_10 rfl (lv_at hl 2 rfl) ?_
    refine lv_iconst (v := 0) hx hb dX9_wear_11 (by decide) ?_
    refine lv_bipush (v := 9) hx hb dX9_wear_12 (by decide) ?_
    obtain ⟨r3, e4, h⟩ := bd_some h
    refine x_callSI (As := [.int p1, .int (0 : Int32), .int (9 : Int32)]) (rest := []) (n := 3) ⟨hx, hb, hml, hown, hts⟩ (c_X9_in l D cy  p1 (0 : Int32) (9 : Int32) r3 e4) gX9_wear_X9_in rfl hd_X9_in ⟨Nat.le_of_ble_eq_true rfl, Nat.le_of_ble_eq_true rfl⟩ ⟨rfl, rfl⟩ hK (sp_nil _) (sp_nil _) hP hD hS hA rfl hl.1 rfl (Nat.le_of_ble_eq_true rfl) dX9_wear_14 ⟨Nat.zero_le _, Nat.zero_le _⟩ (fun H locs hP hD hS => ?_)
    clear e4
    refine x_if_ne (tgt := 23) hx hb dX9_wear_17 (by decide) h (fun _ h => ?_) (fun _ h => ?_)
    · refine lv_bipush (v := -3) hx hb dX9_wear_20 (by decide) ?_
      cases h
      exact x_iret hx hb hr hlocks hK hP hD hS dX9_wear_22 rfl rfl
    · refine lv_aload_n hx hb dX9_wear_23 rfl (lv_at hl 0 rfl) ?_
      refine va_get (D := D) (ci := 8) (v := .ref (g 922)) (C := RX9) (T := TX9) (N := 38) hx hb hts ki_X9_wear_X9 hown hK hP 0 rfl rfl 22 (by decide) (hts _ k_X9_wear_0) (fun _ h9 => h9) rfl dX9_wear_24 ?_
      refine lv_iload_n hx hb dX9_wear_27 rfl (lv_at hl 1 rfl) ?_
      refine x_iald hx hb hK hP 17 rfl rfl h dX9_wear_28 (fun v5 h => ?_)
      refine lv_istore_n (lv' := [(3, .int v5), (0, .ref (g 999)), (1, .int p0), (2, .int p1)]) hx hb dX9_wear_29 rfl hl (by decide) rfl (fun ls hl => ?_)
      refine lv_aload_n hx hb dX9_wear_30 rfl (lv_at hl 1 rfl) ?_
      refine va_get (D := D) (ci := 8) (v := .ref (g 922)) (C := RX9) (T := TX9) (N := 38) hx hb hts ki_X9_wear_X9 hown hK hP 0 rfl rfl 22 (by decide) (hts _ k_X9_wear_0) (fun _ h9 => h9) rfl dX9_wear_31 ?_
      refine lv_iload_n hx hb dX9_wear_34 rfl (lv_at hl 2 rfl) ?_
      refine lv_iload_n hx hb dX9_wear_35 rfl (lv_at hl 3 rfl) ?_
      refine x_iast (Wd := (fun uz => wX9 cy g uz)) (u := um) (k := 22) hx hb hK hP hD hS 17 rfl rfl (fun _ => rfl) h dX9_wear_36 (fun um6 H locs h hP hD hS => ?_)
      refine lv_iload_n hx hb dX9_wear_37 rfl (lv_at hl 0 rfl) ?_
      cases h
      exact x_iret hx hb hr hlocks hK hP hD hS dX9_wear_38 rfl rfl
theorem k_X9_plan_0 : Cond.fieldLink RX9 197 "FeatherHallModel" "planned" "I" ∈ wsX9_plan := (List.mem_cons_of_mem _ (List.mem_append_left _ (List.mem_of_getElem? (i := 0) rfl)))
theorem ki_X9_plan_X9 : ∀ w ∈ u_ws RX9 TX9 38, w ∈ wsX9_plan := fun _ hh => (List.mem_cons_of_mem _ (List.mem_append_right _ hh))
theorem k_X9_plan_1 : Cond.fieldLink RX9 70 "FeatherHallModel" "plan" "[I" ∈ wsX9_plan := (List.mem_cons_of_mem _ (List.mem_append_left _ (List.mem_of_getElem? (i := 1) rfl)))
theorem hd_X9_plan : yX9_plan.cls = RX9 ∧ yX9_plan.cls ≠ "java/lang/invoke/MethodHandle" ∧ yX9_plan.cls ≠ "java/lang/invoke/VarHandle" ∧ (parseMethodDescriptor yX9_plan.desc).map (fun d => d.parameters.length) = some 1 := by decide +kernel
set_option maxHeartbeats 4000000 in
set_option maxRecDepth 100000 in
theorem c_X9_plan (l : Launch) (D : va_G) (cy : Nat → ClassId) (g : Nat → Nat) (um : St) (p0 : Int32) (r : Int32) (um' : St) (h : f_X9_plan p0 um = some (r, um')) : CtI l yX9_plan wsX9_plan (rmH 2) [.ref (g 999), .int p0] D cy (wX9 cy g um) (wX9 cy g um') r := by
  refine ct_enter (D := D) (cy := cy) (cc := cX9_plan) (maxL := 2) (ret := (some .int)) (w := wX9 cy g um) (Qc := fun sz => va_Qi (fun r' (_ : Unit) => r' = r) (Bw D cy (va_A (wX9 cy g um) sz) (wX9 cy g um')) (va_A (wX9 cy g um) sz)) (by decide) rfl (Nat.le_of_ble_eq_true rfl) ?_
  intro p e s m below meth c A C0 hAe ls hl hP hD hS
  have e1 : MQ below ((fun sz => va_Qi (fun r' (_ : Unit) => r' = r) (Bw D cy (va_A (wX9 cy g um) sz) (wX9 cy g um')) (va_A (wX9 cy g um) sz)) s.heap.size) [.ref (g 999), .int p0].toArray s 0 0 A = QI below [.ref (g 999), .int p0].toArray s A D cy (wX9 cy g um') r := by rw [hAe]; rfl
  rw [e1]
  clear e1 hAe
  obtain ⟨hx, hb, hr, hml, hown, hts, hlocks, hK, hA⟩ := id C0
  have hl : lv_has ls 2 [(0, .ref (g 999)), (1, .int p0)] := hl
  rw [f_X9_plan] at h
  refine lv_iload_n hx hb dX9_plan_0 rfl (lv_at hl 1 rfl) ?_
  obtain ⟨r1, e2, h⟩ := bd_some h
  refine x_callSI (As := [.int p0]) (rest := []) (n := 1) ⟨hx, hb, hml, hown, hts⟩ (c_X9_isKind l D cy  p0 r1 e2) gX9_plan_X9_isKind rfl hd_X9_isKind ⟨Nat.le_of_ble_eq_true rfl, Nat.le_of_ble_eq_true rfl⟩ ⟨rfl, rfl⟩ hK (sp_nil _) (sp_nil _) hP hD hS hA rfl hl.1 rfl (Nat.le_of_ble_eq_true rfl) dX9_plan_1 ⟨Nat.zero_le _, Nat.zero_le _⟩ (fun H locs hP hD hS => ?_)
  clear e2
  refine x_if_ne (tgt := 10) hx hb dX9_plan_4 (by decide) h (fun _ h => ?_) (fun _ h => ?_)
  · refine lv_bipush (v := -2) hx hb dX9_plan_7 (by decide) ?_
    cases h
    exact x_iret hx hb hr hlocks hK hP hD hS dX9_plan_9 rfl rfl
  · refine lv_aload_n hx hb dX9_plan_10 rfl (lv_at hl 0 rfl) ?_
    refine va_get (D := D) (ci := 8) (v := .int (um.1 23)) (C := RX9) (T := TX9) (N := 38) hx hb hts ki_X9_plan_X9 hown hK hP 0 rfl rfl 23 (by decide) (hts _ k_X9_plan_0) (fun _ h9 => h9) rfl dX9_plan_11 ?_
    refine lv_bipush (v := 30) hx hb dX9_plan_14 (by decide) ?_
    refine x_icmp_ne (tgt := 22) hx hb dX9_plan_16 (by decide) h (fun _ h => ?_) (fun _ h => ?_)
    · refine lv_bipush (v := -5) hx hb dX9_plan_19 (by decide) ?_
      cases h
      exact x_iret hx hb hr hlocks hK hP hD hS dX9_plan_21 rfl rfl
    · refine lv_aload_n hx hb dX9_plan_22 rfl (lv_at hl 0 rfl) ?_
      refine va_get (D := D) (ci := 8) (v := .ref (g 924)) (C := RX9) (T := TX9) (N := 38) hx hb hts ki_X9_plan_X9 hown hK hP 0 rfl rfl 24 (by decide) (hts _ k_X9_plan_1) (fun _ h9 => h9) rfl dX9_plan_23 ?_
      refine lv_aload_n hx hb dX9_plan_26 rfl (lv_at hl 0 rfl) ?_
      refine va_get (D := D) (ci := 8) (v := .int (um.1 23)) (C := RX9) (T := TX9) (N := 38) hx hb hts ki_X9_plan_X9 hown hK hP 0 rfl rfl 23 (by decide) (hts _ k_X9_plan_0) (fun _ h9 => h9) rfl dX9_plan_27 ?_
      refine lv_iload_n hx hb dX9_plan_30 rfl (lv_at hl 1 rfl) ?_
      refine x_iast (Wd := (fun uz => wX9 cy g uz)) (u := um) (k := 24) hx hb hK hP hD hS 18 rfl rfl (fun _ => rfl) h dX9_plan_31 (fun um3 H locs h hP hD hS => ?_)
      refine lv_aload_n hx hb dX9_plan_32 rfl (lv_at hl 0 rfl) ?_
      refine lv_dup hx hb dX9_plan_33 rfl ?_
      refine va_get (D := D) (ci := 8) (v := .int (um3.1 23)) (C := RX9) (T := TX9) (N := 38) hx hb hts ki_X9_plan_X9 hown hK hP 0 rfl rfl 23 (by decide) (hts _ k_X9_plan_0) (fun _ h9 => h9) rfl dX9_plan_34 ?_
      refine lv_iconst (v := 1) hx hb dX9_plan_37 (by decide) ?_
      refine lv_iadd hx hb dX9_plan_38 ?_
      refine x_put (D := D) (ci := 8) (Wd := (fun uz => wX9 cy g uz)) (u := um3) (C := RX9) (T := TX9) (N := 38) hx hb hts ki_X9_plan_X9 tyX9 tyX9_ok nmX9 hown hK hP hD hS 0 rfl rfl 23 (by decide) (hts _ k_X9_plan_0) (fun _ h9 => h9) rfl (tyX9_ok 23 (by decide)) rfl rfl (Nat.le_of_ble_eq_true rfl) (fun _ => rfl) h dX9_plan_39 (fun um4 H locs h hP hD hS => ?_)
      refine lv_aload_n hx hb dX9_plan_42 rfl (lv_at hl 0 rfl) ?_
      refine va_get (D := D) (ci := 8) (v := .int (um4.1 23)) (C := RX9) (T := TX9) (N := 38) hx hb hts ki_X9_plan_X9 hown hK hP 0 rfl rfl 23 (by decide) (hts _ k_X9_plan_0) (fun _ h9 => h9) rfl dX9_plan_43 ?_
      cases h
      exact x_iret hx hb hr hlocks hK hP hD hS dX9_plan_46 rfl rfl
theorem k_X9_unplan_0 : Cond.fieldLink RX9 197 "FeatherHallModel" "planned" "I" ∈ wsX9_unplan := (List.mem_cons_of_mem _ (List.mem_append_left _ (List.mem_of_getElem? (i := 0) rfl)))
theorem ki_X9_unplan_X9 : ∀ w ∈ u_ws RX9 TX9 38, w ∈ wsX9_unplan := fun _ hh => (List.mem_cons_of_mem _ (List.mem_append_right _ hh))
theorem hd_X9_unplan : yX9_unplan.cls = RX9 ∧ yX9_unplan.cls ≠ "java/lang/invoke/MethodHandle" ∧ yX9_unplan.cls ≠ "java/lang/invoke/VarHandle" ∧ (parseMethodDescriptor yX9_unplan.desc).map (fun d => d.parameters.length) = some 0 := by decide +kernel
set_option maxHeartbeats 4000000 in
set_option maxRecDepth 100000 in
theorem c_X9_unplan (l : Launch) (D : va_G) (cy : Nat → ClassId) (g : Nat → Nat) (um : St) (r : Int32) (um' : St) (h : f_X9_unplan um = some (r, um')) : CtI l yX9_unplan wsX9_unplan (rmH 0) [.ref (g 999)] D cy (wX9 cy g um) (wX9 cy g um') r := by
  refine ct_enter (D := D) (cy := cy) (cc := cX9_unplan) (maxL := 2) (ret := (some .int)) (w := wX9 cy g um) (Qc := fun sz => va_Qi (fun r' (_ : Unit) => r' = r) (Bw D cy (va_A (wX9 cy g um) sz) (wX9 cy g um')) (va_A (wX9 cy g um) sz)) (by decide) rfl (Nat.le_of_ble_eq_true rfl) ?_
  intro p e s m below meth c A C0 hAe ls hl hP hD hS
  have e1 : MQ below ((fun sz => va_Qi (fun r' (_ : Unit) => r' = r) (Bw D cy (va_A (wX9 cy g um) sz) (wX9 cy g um')) (va_A (wX9 cy g um) sz)) s.heap.size) [.ref (g 999)].toArray s 0 0 A = QI below [.ref (g 999)].toArray s A D cy (wX9 cy g um') r := by rw [hAe]; rfl
  rw [e1]
  clear e1 hAe
  obtain ⟨hx, hb, hr, hml, hown, hts, hlocks, hK, hA⟩ := id C0
  have hl : lv_has ls 2 [(0, .ref (g 999))] := hl
  rw [f_X9_unplan] at h
  refine lv_aload_n hx hb dX9_unplan_0 rfl (lv_at hl 0 rfl) ?_
  refine va_get (D := D) (ci := 8) (v := .int (um.1 23)) (C := RX9) (T := TX9) (N := 38) hx hb hts ki_X9_unplan_X9 hown hK hP 0 rfl rfl 23 (by decide) (hts _ k_X9_unplan_0) (fun _ h9 => h9) rfl dX9_unplan_1 ?_
  refine lv_istore_n (lv' := [(1, .int (um.1 23)), (0, .ref (g 999))]) hx hb dX9_unplan_4 rfl hl (by decide) rfl (fun ls hl => ?_)
  refine lv_aload_n hx hb dX9_unplan_5 rfl (lv_at hl 1 rfl) ?_
  refine lv_iconst (v := 0) hx hb dX9_unplan_6 (by decide) ?_
  refine x_put (D := D) (ci := 8) (Wd := (fun uz => wX9 cy g uz)) (u := um) (C := RX9) (T := TX9) (N := 38) hx hb hts ki_X9_unplan_X9 tyX9 tyX9_ok nmX9 hown hK hP hD hS 0 rfl rfl 23 (by decide) (hts _ k_X9_unplan_0) (fun _ h9 => h9) rfl (tyX9_ok 23 (by decide)) rfl rfl (Nat.le_of_ble_eq_true rfl) (fun _ => rfl) h dX9_unplan_7 (fun um1 H locs h hP hD hS => ?_)
  refine lv_iload_n hx hb dX9_unplan_10 rfl (lv_at hl 0 rfl) ?_
  cases h
  exact x_iret hx hb hr hlocks hK hP hD hS dX9_unplan_11 rfl rfl
theorem k_X9_costsOf_0 : Cond.fieldLink RX9 60 "FeatherHallModel" "price" "I" ∈ wsX9_costsOf := (List.mem_cons_of_mem _ (List.mem_append_left _ (List.mem_of_getElem? (i := 0) rfl)))
theorem ki_X9_costsOf_X9 : ∀ w ∈ u_ws RX9 TX9 38, w ∈ wsX9_costsOf := fun _ hh => (List.mem_cons_of_mem _ (List.mem_append_right _ hh))
theorem k_X9_costsOf_1 : Cond.fieldLink RX9 64 "FeatherHallModel" "loss" "I" ∈ wsX9_costsOf := (List.mem_cons_of_mem _ (List.mem_append_left _ (List.mem_of_getElem? (i := 1) rfl)))
theorem k_X9_costsOf_2 : Cond.fieldLink RX9 67 "FeatherHallModel" "wear" "[I" ∈ wsX9_costsOf := (List.mem_cons_of_mem _ (List.mem_append_left _ (List.mem_of_getElem? (i := 2) rfl)))
theorem k_X9_costsOf_3 : Cond.fieldLink RX9 70 "FeatherHallModel" "plan" "[I" ∈ wsX9_costsOf := (List.mem_cons_of_mem _ (List.mem_append_left _ (List.mem_of_getElem? (i := 3) rfl)))
theorem k_X9_costsOf_4 : Cond.fieldLink RX9 197 "FeatherHallModel" "planned" "I" ∈ wsX9_costsOf := (List.mem_cons_of_mem _ (List.mem_append_left _ (List.mem_of_getElem? (i := 4) rfl)))
theorem hd_X9_costsOf : yX9_costsOf.cls = RX9 ∧ yX9_costsOf.cls ≠ "java/lang/invoke/MethodHandle" ∧ yX9_costsOf.cls ≠ "java/lang/invoke/VarHandle" ∧ (parseMethodDescriptor yX9_costsOf.desc).map (fun d => d.parameters.length) = some 1 := by decide +kernel
set_option maxHeartbeats 4000000 in
set_option maxRecDepth 100000 in
theorem w_X9_costsOf_41 {p : Program} {l : Launch} {e : Env} {s : State} {m : MethodId} {below : List Frame} {meth : Method} {c : Code} {args : Array Value} {D : va_G} {cy : Nat → ClassId} {g : Nat → Nat} {A : Nat → Prop} {um : St} {r : Int32} (C0 : Cx p s m meth c args cX9_costsOf 6 (some .int) wsX9_costsOf RX9 D cy A) {k_10 : Int32 → Int32 → Int32 → Int32 → Option (Int32)} (hk_10 : ∀ (l1 : Int32) (l2 : Int32) (l3 : Int32) (l4 : Int32), k_10 l1 l2 l3 l4 = some r → ∀ (H : Heap) (locs : List Loc) (ls : Array Slot), va_P D vwCl (wX9 cy g um) H → va_D A (wX9 cy g um) → va_S A s.heap H locs → lv_has ls 6 [(0, .ref (g 999)), (1, .int l1), (2, .int l2), (3, .int l3), (4, .int l4)] → W p l e (rmH 0) s m args below meth c H locs 0 0 (QI below args s A D cy (wX9 cy g um) r) (F0 m 10 ls [])) : ∀ (l1 : Int32) (l3 : Int32) (l4 : Int32) (s0 : Int32) (s1 : Int32) (s2 : Int32), f_X9_costsOf_41 um k_10 l1 l3 l4 s0 s1 s2 = some r → ∀ (H : Heap) (locs : List Loc) (ls : Array Slot), va_P D vwCl (wX9 cy g um) H → va_D A (wX9 cy g um) → va_S A s.heap H locs → lv_has ls 6 [(0, .ref (g 999)), (1, .int l1), (3, .int l3), (4, .int l4)] → W p l e (rmH 0) s m args below meth c H locs 0 0 (QI below args s A D cy (wX9 cy g um) r) (F0 m 41 ls [.int s0, .int s1, .int s2]) := by
  obtain ⟨hx, hb, hr, hml, hown, hts, hlocks, hK, hA⟩ := id C0
  intro l1 l3 l4 s0 s1 s2 h H locs ls hP hD hS hl
  rw [f_X9_costsOf_41] at h
  refine lv_imul hx hb dX9_costsOf_41 ?_
  refine lv_iadd hx hb dX9_costsOf_42 ?_
  refine x_nm h (fun v2 h => ?_)
  refine lv_istore_n (lv' := [(2, .int v2), (0, .ref (g 999)), (1, .int l1), (3, .int l3), (4, .int l4)]) hx hb dX9_costsOf_43 rfl hl (by decide) rfl (fun ls hl => ?_)
  refine lv_iload_n hx hb dX9_costsOf_44 rfl (lv_at hl 3 rfl) ?_
  refine lv_aload_n hx hb dX9_costsOf_45 rfl (lv_at hl 1 rfl) ?_
  refine va_get (D := D) (ci := 8) (v := .ref (g 922)) (C := RX9) (T := TX9) (N := 38) hx hb hts ki_X9_costsOf_X9 hown hK hP 0 rfl rfl 22 (by decide) (hts _ k_X9_costsOf_2) (fun _ h9 => h9) rfl dX9_costsOf_46 ?_
  refine lv_aload_n hx hb dX9_costsOf_49 rfl (lv_at hl 1 rfl) ?_
  refine va_get (D := D) (ci := 8) (v := .ref (g 924)) (C := RX9) (T := TX9) (N := 38) hx hb hts ki_X9_costsOf_X9 hown hK hP 0 rfl rfl 24 (by decide) (hts _ k_X9_costsOf_3) (fun _ h9 => h9) rfl dX9_costsOf_50 ?_
  refine lv_iload hx hb dX9_costsOf_53 (lv_at hl 4 rfl) ?_
  refine lv_aload_n hx hb dX9_costsOf_55 rfl (lv_at hl 1 rfl) ?_
  refine va_get (D := D) (ci := 8) (v := .int (um.1 23)) (C := RX9) (T := TX9) (N := 38) hx hb hts ki_X9_costsOf_X9 hown hK hP 0 rfl rfl 23 (by decide) (hts _ k_X9_costsOf_4) (fun _ h9 => h9) rfl dX9_costsOf_56 ?_
  refine x_irem hx hb dX9_costsOf_59 h (fun h => ?_)
  refine x_iald hx hb hK hP 18 rfl rfl h dX9_costsOf_60 (fun v3 h => ?_)
  refine x_iald hx hb hK hP 17 rfl rfl h dX9_costsOf_61 (fun v4 h => ?_)
  refine lv_iadd hx hb dX9_costsOf_62 ?_
  refine x_nm h (fun v5 h => ?_)
  refine lv_istore_n (lv' := [(3, .int v5), (2, .int v2), (0, .ref (g 999)), (1, .int l1), (4, .int l4)]) hx hb dX9_costsOf_63 rfl hl (by decide) rfl (fun ls hl => ?_)
  obtain ⟨v6, ev6, h⟩ := nm_ex h
  refine lv_iinc (v := v6) (lv' := [(4, .int v6), (3, .int v5), (2, .int v2), (0, .ref (g 999)), (1, .int l1)]) hx hb dX9_costsOf_64 hl (k := 4) rfl (by rw [ev6]; rfl) (by decide) rfl (fun ls hl => ?_)
  clear ev6
  refine lv_goto (tgt := 10) hx hb dX9_costsOf_67 (by decide) ?_
  exact hk_10 l1 v2 v5 v6 h _ _ ls hP hD hS (lv_sub hl [3, 4, 2, 1, 0] rfl)
set_option maxHeartbeats 4000000 in
set_option maxRecDepth 100000 in
theorem w_X9_costsOf_10 {p : Program} {l : Launch} {e : Env} {s : State} {m : MethodId} {below : List Frame} {meth : Method} {c : Code} {args : Array Value} {D : va_G} {cy : Nat → ClassId} {g : Nat → Nat} {A : Nat → Prop} {um : St} {r : Int32} (C0 : Cx p s m meth c args cX9_costsOf 6 (some .int) wsX9_costsOf RX9 D cy A) : ∀ (nn : Nat) (l1 : Int32) (l2 : Int32) (l3 : Int32) (l4 : Int32), f_X9_costsOf_10 um nn l1 l2 l3 l4 = some r → ∀ (H : Heap) (locs : List Loc) (ls : Array Slot), va_P D vwCl (wX9 cy g um) H → va_D A (wX9 cy g um) → va_S A s.heap H locs → lv_has ls 6 [(0, .ref (g 999)), (1, .int l1), (2, .int l2), (3, .int l3), (4, .int l4)] → W p l e (rmH 0) s m args below meth c H locs 0 0 (QI below args s A D cy (wX9 cy g um) r) (F0 m 10 ls []) := by
  obtain ⟨hx, hb, hr, hml, hown, hts, hlocks, hK, hA⟩ := id C0
  intro nn
  induction nn with
  | zero => intro l1 l2 l3 l4 h; rw [f_X9_costsOf_10] at h; cases h
  | succ nn ih =>
    intro l1 l2 l3 l4 h H locs ls hP hD hS hl
    rw [f_X9_costsOf_10] at h
    refine lv_iload hx hb dX9_costsOf_10 (lv_at hl 4 rfl) ?_
    refine lv_iload_n hx hb dX9_costsOf_12 rfl (lv_at hl 1 rfl) ?_
    refine x_icmp_ge (tgt := 70) hx hb dX9_costsOf_13 (by decide) h (fun _ h => ?_) (fun _ h => ?_)
    · refine lv_iload_n hx hb dX9_costsOf_70 rfl (lv_at hl 2 rfl) ?_
      cases h
      exact x_iret hx hb hr hlocks hK hP hD hS dX9_costsOf_71 rfl rfl
    · refine lv_iload_n hx hb dX9_costsOf_16 rfl (lv_at hl 3 rfl) ?_
      refine lv_bipush (v := 10) hx hb dX9_costsOf_17 (by decide) ?_
      refine lv_idiv hx hb dX9_costsOf_19 (by decide) ?_
      refine x_nm h (fun v1 h => ?_)
      refine lv_istore (lv' := [(5, .int v1), (0, .ref (g 999)), (1, .int l1), (2, .int l2), (3, .int l3), (4, .int l4)]) hx hb dX9_costsOf_20 hl (by decide) rfl (fun ls hl => ?_)
      refine lv_iload_n hx hb dX9_costsOf_22 rfl (lv_at hl 3 rfl) ?_
      refine lv_aload_n hx hb dX9_costsOf_23 rfl (lv_at hl 1 rfl) ?_
      refine va_get (D := D) (ci := 8) (v := .int (um.1 21)) (C := RX9) (T := TX9) (N := 38) hx hb hts ki_X9_costsOf_X9 hown hK hP 0 rfl rfl 21 (by decide) (hts _ k_X9_costsOf_1) (fun _ h9 => h9) rfl dX9_costsOf_24 ?_
      refine lv_iload hx hb dX9_costsOf_27 (lv_at hl 0 rfl) ?_
      refine lv_bipush (v := 8) hx hb dX9_costsOf_29 (by decide) ?_
      refine x_icmp_le (tgt := 39) hx hb dX9_costsOf_31 (by decide) h (fun _ h => ?_) (fun _ h => ?_)
      · refine lv_iload hx hb dX9_costsOf_39 (lv_at hl 0 rfl) ?_
        exact w_X9_costsOf_41 C0 ih l1 l3 l4 v1 (um.1 21) l2 h _ _ ls hP hD hS (lv_sub hl [1, 2, 4, 5] rfl)
      · refine lv_bipush (v := 8) hx hb dX9_costsOf_34 (by decide) ?_
        refine lv_goto (tgt := 41) hx hb dX9_costsOf_36 (by decide) ?_
        exact w_X9_costsOf_41 C0 ih l1 l3 l4 (8 : Int32) (um.1 21) l2 h _ _ ls hP hD hS (lv_sub hl [1, 2, 4, 5] rfl)
set_option maxHeartbeats 4000000 in
set_option maxRecDepth 100000 in
theorem c_X9_costsOf (l : Launch) (D : va_G) (cy : Nat → ClassId) (g : Nat → Nat) (um : St) (p0 : Int32) (r : Int32) (h : f_X9_costsOf um p0 = some r) : CtI l yX9_costsOf wsX9_costsOf (rmH 0) [.ref (g 999), .int p0] D cy (wX9 cy g um) (wX9 cy g um) r := by
  refine ct_enter (D := D) (cy := cy) (cc := cX9_costsOf) (maxL := 6) (ret := (some .int)) (w := wX9 cy g um) (Qc := fun sz => va_Qi (fun r' (_ : Unit) => r' = r) (Bw D cy (va_A (wX9 cy g um) sz) (wX9 cy g um)) (va_A (wX9 cy g um) sz)) (by decide) rfl (Nat.le_of_ble_eq_true rfl) ?_
  intro p e s m below meth c A C0 hAe ls hl hP hD hS
  have e1 : MQ below ((fun sz => va_Qi (fun r' (_ : Unit) => r' = r) (Bw D cy (va_A (wX9 cy g um) sz) (wX9 cy g um)) (va_A (wX9 cy g um) sz)) s.heap.size) [.ref (g 999), .int p0].toArray s 0 0 A = QI below [.ref (g 999), .int p0].toArray s A D cy (wX9 cy g um) r := by rw [hAe]; rfl
  rw [e1]
  clear e1 hAe
  obtain ⟨hx, hb, hr, hml, hown, hts, hlocks, hK, hA⟩ := id C0
  have hl : lv_has ls 6 [(0, .ref (g 999)), (1, .int p0)] := hl
  rw [f_X9_costsOf] at h
  refine lv_aload_n hx hb dX9_costsOf_0 rfl (lv_at hl 0 rfl) ?_
  refine va_get (D := D) (ci := 8) (v := .int (um.1 20)) (C := RX9) (T := TX9) (N := 38) hx hb hts ki_X9_costsOf_X9 hown hK hP 0 rfl rfl 20 (by decide) (hts _ k_X9_costsOf_0) (fun _ h9 => h9) rfl dX9_costsOf_1 ?_
  refine lv_istore_n (lv' := [(2, .int (um.1 20)), (0, .ref (g 999)), (1, .int p0)]) hx hb dX9_costsOf_4 rfl hl (by decide) rfl (fun ls hl => ?_)
  refine lv_iconst (v := 0) hx hb dX9_costsOf_5 (by decide) ?_
  refine lv_istore_n (lv' := [(3, .int (0 : Int32)), (2, .int (um.1 20)), (0, .ref (g 999)), (1, .int p0)]) hx hb dX9_costsOf_6 rfl hl (by decide) rfl (fun ls hl => ?_)
  refine lv_iconst (v := 0) hx hb dX9_costsOf_7 (by decide) ?_
  refine lv_istore (lv' := [(4, .int (0 : Int32)), (3, .int (0 : Int32)), (2, .int (um.1 20)), (0, .ref (g 999)), (1, .int p0)]) hx hb dX9_costsOf_8 hl (by decide) rfl (fun ls hl => ?_)
  exact w_X9_costsOf_10 C0 FU p0 (um.1 20) (0 : Int32) (0 : Int32) h _ _ ls hP hD hS (lv_sub hl [3, 4, 2, 1, 0] rfl)
theorem k_X9_costs_0 : Cond.fieldLink RX9 197 "FeatherHallModel" "planned" "I" ∈ wsX9_costs := (List.mem_cons_of_mem _ (List.mem_append_left _ (List.mem_of_getElem? (i := 0) rfl)))
theorem ki_X9_costs_X9 : ∀ w ∈ u_ws RX9 TX9 38, w ∈ wsX9_costs := fun _ hh => (List.mem_cons_of_mem _ (List.mem_append_right _ hh))
theorem hd_X9_costs : yX9_costs.cls = RX9 ∧ yX9_costs.cls ≠ "java/lang/invoke/MethodHandle" ∧ yX9_costs.cls ≠ "java/lang/invoke/VarHandle" ∧ (parseMethodDescriptor yX9_costs.desc).map (fun d => d.parameters.length) = some 1 := by decide +kernel
set_option maxHeartbeats 4000000 in
set_option maxRecDepth 100000 in
theorem c_X9_costs (l : Launch) (D : va_G) (cy : Nat → ClassId) (g : Nat → Nat) (um : St) (p0 : Int32) (r : Int32) (h : f_X9_costs um p0 = some r) : CtI l yX9_costs wsX9_costs (rmH 1) [.ref (g 999), .int p0] D cy (wX9 cy g um) (wX9 cy g um) r := by
  refine ct_enter (D := D) (cy := cy) (cc := cX9_costs) (maxL := 2) (ret := (some .int)) (w := wX9 cy g um) (Qc := fun sz => va_Qi (fun r' (_ : Unit) => r' = r) (Bw D cy (va_A (wX9 cy g um) sz) (wX9 cy g um)) (va_A (wX9 cy g um) sz)) (by decide) rfl (Nat.le_of_ble_eq_true rfl) ?_
  intro p e s m below meth c A C0 hAe ls hl hP hD hS
  have e1 : MQ below ((fun sz => va_Qi (fun r' (_ : Unit) => r' = r) (Bw D cy (va_A (wX9 cy g um) sz) (wX9 cy g um)) (va_A (wX9 cy g um) sz)) s.heap.size) [.ref (g 999), .int p0].toArray s 0 0 A = QI below [.ref (g 999), .int p0].toArray s A D cy (wX9 cy g um) r := by rw [hAe]; rfl
  rw [e1]
  clear e1 hAe
  obtain ⟨hx, hb, hr, hml, hown, hts, hlocks, hK, hA⟩ := id C0
  have hl : lv_has ls 2 [(0, .ref (g 999)), (1, .int p0)] := hl
  rw [f_X9_costs] at h
  refine lv_iload_n hx hb dX9_costs_0 rfl (lv_at hl 1 rfl) ?_
  refine lv_iconst (v := 1) hx hb dX9_costs_1 (by decide) ?_
  refine lv_bipush (v := 120) hx hb dX9_costs_2 (by decide) ?_
  obtain ⟨r1, e2, h⟩ := bd_some h
  refine x_callSI (As := [.int p0, .int (1 : Int32), .int (120 : Int32)]) (rest := []) (n := 3) ⟨hx, hb, hml, hown, hts⟩ (c_X9_in l D cy  p0 (1 : Int32) (120 : Int32) r1 e2) gX9_costs_X9_in rfl hd_X9_in ⟨Nat.le_of_ble_eq_true rfl, Nat.le_of_ble_eq_true rfl⟩ ⟨rfl, rfl⟩ hK (sp_nil _) (sp_nil _) hP hD hS hA rfl hl.1 rfl (Nat.le_of_ble_eq_true rfl) dX9_costs_4 ⟨Nat.zero_le _, Nat.zero_le _⟩ (fun H locs hP hD hS => ?_)
  clear e2
  refine x_if_ne (tgt := 13) hx hb dX9_costs_7 (by decide) h (fun _ h => ?_) (fun _ h => ?_)
  · refine lv_bipush (v := -3) hx hb dX9_costs_10 (by decide) ?_
    cases h
    exact x_iret hx hb hr hlocks hK hP hD hS dX9_costs_12 rfl rfl
  · refine lv_aload_n hx hb dX9_costs_13 rfl (lv_at hl 0 rfl) ?_
    refine va_get (D := D) (ci := 8) (v := .int (um.1 23)) (C := RX9) (T := TX9) (N := 38) hx hb hts ki_X9_costs_X9 hown hK hP 0 rfl rfl 23 (by decide) (hts _ k_X9_costs_0) (fun _ h9 => h9) rfl dX9_costs_14 ?_
    refine x_if_ne (tgt := 25) hx hb dX9_costs_17 (by decide) h (fun _ h => ?_) (fun _ h => ?_)
    · refine lv_bipush (v := -4) hx hb dX9_costs_20 (by decide) ?_
      refine lv_goto (tgt := 30) hx hb dX9_costs_22 (by decide) ?_
      cases h
      exact x_iret hx hb hr hlocks hK hP hD hS dX9_costs_30 rfl rfl
    · refine lv_aload_n hx hb dX9_costs_25 rfl (lv_at hl 0 rfl) ?_
      refine lv_iload_n hx hb dX9_costs_26 rfl (lv_at hl 1 rfl) ?_
      obtain ⟨r3, e4, h⟩ := bd_some h
      refine x_callVI (As := [.int p0]) (rest := []) (n := 1) ⟨hx, hb, hml, hown, hts⟩ (c_X9_costsOf l D cy g um p0 r3 e4) gX9_costs_X9_costsOf rfl hd_X9_costsOf ⟨Nat.le_of_ble_eq_true rfl, Nat.le_of_ble_eq_true rfl⟩ ⟨rfl, rfl⟩ hK (sp_all _) (sp_all _) hP hD hS hA 0 rfl rfl rfl hl.1 rfl (Nat.le_of_ble_eq_true rfl) dX9_costs_27 ⟨Nat.zero_le _, Nat.zero_le _⟩ (fun H locs hP hD hS => ?_)
      clear e4
      cases h
      exact x_iret hx hb hr hlocks hK hP hD hS dX9_costs_30 rfl rfl
theorem k_X9_change_0 : Cond.fieldLink RX9 197 "FeatherHallModel" "planned" "I" ∈ wsX9_change := (List.mem_cons_of_mem _ (List.mem_append_left _ (List.mem_of_getElem? (i := 0) rfl)))
theorem ki_X9_change_X9 : ∀ w ∈ u_ws RX9 TX9 38, w ∈ wsX9_change := fun _ hh => (List.mem_cons_of_mem _ (List.mem_append_right _ hh))
theorem hd_X9_change : yX9_change.cls = RX9 ∧ yX9_change.cls ≠ "java/lang/invoke/MethodHandle" ∧ yX9_change.cls ≠ "java/lang/invoke/VarHandle" ∧ (parseMethodDescriptor yX9_change.desc).map (fun d => d.parameters.length) = some 0 := by decide +kernel
set_option maxHeartbeats 4000000 in
set_option maxRecDepth 100000 in
theorem w_X9_change_48 {p : Program} {l : Launch} {e : Env} {s : State} {m : MethodId} {below : List Frame} {meth : Method} {c : Code} {args : Array Value} {D : va_G} {cy : Nat → ClassId} {g : Nat → Nat} {A : Nat → Prop} {um : St} {r : Int32} (C0 : Cx p s m meth c args cX9_change 5 (some .int) wsX9_change RX9 D cy A) {k_20 : Int32 → Int32 → Int32 → Option (Int32)} (hk_20 : ∀ (l1 : Int32) (l2 : Int32) (l3 : Int32), k_20 l1 l2 l3 = some r → ∀ (H : Heap) (locs : List Loc) (ls : Array Slot), va_P D vwCl (wX9 cy g um) H → va_D A (wX9 cy g um) → va_S A s.heap H locs → lv_has ls 5 [(0, .ref (g 999)), (1, .int l1), (2, .int l2), (3, .int l3)] → W p l e (rmH 1) s m args below meth c H locs 0 0 (QI below args s A D cy (wX9 cy g um) r) (F0 m 20 ls [])) : ∀ (l1 : Int32) (l2 : Int32) (l3 : Int32), f_X9_change_48 um k_20 l1 l2 l3 = some r → ∀ (H : Heap) (locs : List Loc) (ls : Array Slot), va_P D vwCl (wX9 cy g um) H → va_D A (wX9 cy g um) → va_S A s.heap H locs → lv_has ls 5 [(0, .ref (g 999)), (1, .int l1), (2, .int l2), (3, .int l3)] → W p l e (rmH 1) s m args below meth c H locs 0 0 (QI below args s A D cy (wX9 cy g um) r) (F0 m 48 ls []) := by
  obtain ⟨hx, hb, hr, hml, hown, hts, hlocks, hK, hA⟩ := id C0
  intro l1 l2 l3 h H locs ls hP hD hS hl
  rw [f_X9_change_48] at h
  obtain ⟨v5, ev5, h⟩ := nm_ex h
  refine lv_iinc (v := v5) (lv' := [(3, .int v5), (0, .ref (g 999)), (1, .int l1), (2, .int l2)]) hx hb dX9_change_48 hl (k := 3) rfl (by rw [ev5]; rfl) (by decide) rfl (fun ls hl => ?_)
  clear ev5
  refine lv_goto (tgt := 20) hx hb dX9_change_51 (by decide) ?_
  exact hk_20 l1 l2 v5 h _ _ ls hP hD hS (lv_sub hl [1, 2, 3, 0] rfl)
set_option maxHeartbeats 4000000 in
set_option maxRecDepth 100000 in
theorem w_X9_change_20 {p : Program} {l : Launch} {e : Env} {s : State} {m : MethodId} {below : List Frame} {meth : Method} {c : Code} {args : Array Value} {D : va_G} {cy : Nat → ClassId} {g : Nat → Nat} {A : Nat → Prop} {um : St} {r : Int32} (C0 : Cx p s m meth c args cX9_change 5 (some .int) wsX9_change RX9 D cy A) : ∀ (nn : Nat) (l1 : Int32) (l2 : Int32) (l3 : Int32), f_X9_change_20 um nn l1 l2 l3 = some r → ∀ (H : Heap) (locs : List Loc) (ls : Array Slot), va_P D vwCl (wX9 cy g um) H → va_D A (wX9 cy g um) → va_S A s.heap H locs → lv_has ls 5 [(0, .ref (g 999)), (1, .int l1), (2, .int l2), (3, .int l3)] → W p l e (rmH 1) s m args below meth c H locs 0 0 (QI below args s A D cy (wX9 cy g um) r) (F0 m 20 ls []) := by
  obtain ⟨hx, hb, hr, hml, hown, hts, hlocks, hK, hA⟩ := id C0
  intro nn
  induction nn with
  | zero => intro l1 l2 l3 h; rw [f_X9_change_20] at h; cases h
  | succ nn ih =>
    intro l1 l2 l3 h H locs ls hP hD hS hl
    rw [f_X9_change_20] at h
    refine lv_iload_n hx hb dX9_change_20 rfl (lv_at hl 3 rfl) ?_
    refine lv_bipush (v := 120) hx hb dX9_change_21 (by decide) ?_
    refine x_icmp_gt (tgt := 54) hx hb dX9_change_23 (by decide) h (fun _ h => ?_) (fun _ h => ?_)
    · refine lv_iload_n hx hb dX9_change_54 rfl (lv_at hl 1 rfl) ?_
      cases h
      exact x_iret hx hb hr hlocks hK hP hD hS dX9_change_55 rfl rfl
    · refine lv_aload_n hx hb dX9_change_26 rfl (lv_at hl 0 rfl) ?_
      refine lv_iload_n hx hb dX9_change_27 rfl (lv_at hl 3 rfl) ?_
      obtain ⟨r3, e4, h⟩ := bd_some h
      refine x_callVI (As := [.int l3]) (rest := []) (n := 1) ⟨hx, hb, hml, hown, hts⟩ (c_X9_costsOf l D cy g um l3 r3 e4) gX9_change_X9_costsOf rfl hd_X9_costsOf ⟨Nat.le_of_ble_eq_true rfl, Nat.le_of_ble_eq_true rfl⟩ ⟨rfl, rfl⟩ hK (sp_all _) (sp_all _) hP hD hS hA 0 rfl rfl rfl hl.1 rfl (Nat.le_of_ble_eq_true rfl) dX9_change_28 ⟨Nat.zero_le _, Nat.zero_le _⟩ (fun H locs hP hD hS => ?_)
      clear e4
      refine lv_istore (lv' := [(4, .int r3), (0, .ref (g 999)), (1, .int l1), (2, .int l2), (3, .int l3)]) hx hb dX9_change_31 hl (by decide) rfl (fun ls hl => ?_)
      refine lv_iload hx hb dX9_change_33 (lv_at hl 0 rfl) ?_
      refine lv_iload_n hx hb dX9_change_35 rfl (lv_at hl 2 rfl) ?_
      refine lv_imul hx hb dX9_change_36 ?_
      refine lv_iload_n hx hb dX9_change_37 rfl (lv_at hl 3 rfl) ?_
      refine lv_iload_n hx hb dX9_change_38 rfl (lv_at hl 4 rfl) ?_
      refine lv_imul hx hb dX9_change_39 ?_
      refine x_icmp_ge (tgt := 48) hx hb dX9_change_40 (by decide) h (fun _ h => ?_) (fun _ h => ?_)
      · exact w_X9_change_48 C0 ih l1 l2 l3 h _ _ ls hP hD hS (lv_sub hl [1, 2, 3, 4] rfl)
      · refine lv_iload_n hx hb dX9_change_43 rfl (lv_at hl 4 rfl) ?_
        refine lv_istore_n (lv' := [(1, .int l3), (4, .int r3), (0, .ref (g 999)), (2, .int l2), (3, .int l3)]) hx hb dX9_change_44 rfl hl (by decide) rfl (fun ls hl => ?_)
        refine lv_iload hx hb dX9_change_45 (lv_at hl 1 rfl) ?_
        refine lv_istore_n (lv' := [(2, .int r3), (1, .int l3), (4, .int r3), (0, .ref (g 999)), (3, .int l3)]) hx hb dX9_change_47 rfl hl (by decide) rfl (fun ls hl => ?_)
        exact w_X9_change_48 C0 ih l3 r3 l3 h _ _ ls hP hD hS (lv_sub hl [3, 1, 0, 4] rfl)
set_option maxHeartbeats 4000000 in
set_option maxRecDepth 100000 in
theorem c_X9_change (l : Launch) (D : va_G) (cy : Nat → ClassId) (g : Nat → Nat) (um : St) (r : Int32) (h : f_X9_change um = some r) : CtI l yX9_change wsX9_change (rmH 1) [.ref (g 999)] D cy (wX9 cy g um) (wX9 cy g um) r := by
  refine ct_enter (D := D) (cy := cy) (cc := cX9_change) (maxL := 5) (ret := (some .int)) (w := wX9 cy g um) (Qc := fun sz => va_Qi (fun r' (_ : Unit) => r' = r) (Bw D cy (va_A (wX9 cy g um) sz) (wX9 cy g um)) (va_A (wX9 cy g um) sz)) (by decide) rfl (Nat.le_of_ble_eq_true rfl) ?_
  intro p e s m below meth c A C0 hAe ls hl hP hD hS
  have e1 : MQ below ((fun sz => va_Qi (fun r' (_ : Unit) => r' = r) (Bw D cy (va_A (wX9 cy g um) sz) (wX9 cy g um)) (va_A (wX9 cy g um) sz)) s.heap.size) [.ref (g 999)].toArray s 0 0 A = QI below [.ref (g 999)].toArray s A D cy (wX9 cy g um) r := by rw [hAe]; rfl
  rw [e1]
  clear e1 hAe
  obtain ⟨hx, hb, hr, hml, hown, hts, hlocks, hK, hA⟩ := id C0
  have hl : lv_has ls 5 [(0, .ref (g 999))] := hl
  rw [f_X9_change] at h
  refine lv_aload_n hx hb dX9_change_0 rfl (lv_at hl 0 rfl) ?_
  refine va_get (D := D) (ci := 8) (v := .int (um.1 23)) (C := RX9) (T := TX9) (N := 38) hx hb hts ki_X9_change_X9 hown hK hP 0 rfl rfl 23 (by decide) (hts _ k_X9_change_0) (fun _ h9 => h9) rfl dX9_change_1 ?_
  refine x_if_ne (tgt := 10) hx hb dX9_change_4 (by decide) h (fun _ h => ?_) (fun _ h => ?_)
  · refine lv_bipush (v := -4) hx hb dX9_change_7 (by decide) ?_
    cases h
    exact x_iret hx hb hr hlocks hK hP hD hS dX9_change_9 rfl rfl
  · refine lv_iconst (v := 1) hx hb dX9_change_10 (by decide) ?_
    refine lv_istore_n (lv' := [(1, .int (1 : Int32)), (0, .ref (g 999))]) hx hb dX9_change_11 rfl hl (by decide) rfl (fun ls hl => ?_)
    refine lv_aload_n hx hb dX9_change_12 rfl (lv_at hl 1 rfl) ?_
    refine lv_iconst (v := 1) hx hb dX9_change_13 (by decide) ?_
    obtain ⟨r1, e2, h⟩ := bd_some h
    refine x_callVI (As := [.int (1 : Int32)]) (rest := []) (n := 1) ⟨hx, hb, hml, hown, hts⟩ (c_X9_costsOf l D cy g um (1 : Int32) r1 e2) gX9_change_X9_costsOf rfl hd_X9_costsOf ⟨Nat.le_of_ble_eq_true rfl, Nat.le_of_ble_eq_true rfl⟩ ⟨rfl, rfl⟩ hK (sp_all _) (sp_all _) hP hD hS hA 0 rfl rfl rfl hl.1 rfl (Nat.le_of_ble_eq_true rfl) dX9_change_14 ⟨Nat.zero_le _, Nat.zero_le _⟩ (fun H locs hP hD hS => ?_)
    clear e2
    refine lv_istore_n (lv' := [(2, .int r1), (1, .int (1 : Int32)), (0, .ref (g 999))]) hx hb dX9_change_17 rfl hl (by decide) rfl (fun ls hl => ?_)
    refine lv_iconst (v := 2) hx hb dX9_change_18 (by decide) ?_
    refine lv_istore_n (lv' := [(3, .int (2 : Int32)), (2, .int r1), (1, .int (1 : Int32)), (0, .ref (g 999))]) hx hb dX9_change_19 rfl hl (by decide) rfl (fun ls hl => ?_)
    exact w_X9_change_20 C0 FU (1 : Int32) r1 (2 : Int32) h _ _ ls hP hD hS (lv_sub hl [3, 2, 1, 0] rfl)
theorem k_X9_courts_0 : Cond.fieldLink RX9 73 "FeatherHallModel" "courts" "I" ∈ wsX9_courts := (List.mem_cons_of_mem _ (List.mem_append_left _ (List.mem_of_getElem? (i := 0) rfl)))
theorem ki_X9_courts_X9 : ∀ w ∈ u_ws RX9 TX9 38, w ∈ wsX9_courts := fun _ hh => (List.mem_cons_of_mem _ (List.mem_append_right _ hh))
theorem hd_X9_courts : yX9_courts.cls = RX9 ∧ yX9_courts.cls ≠ "java/lang/invoke/MethodHandle" ∧ yX9_courts.cls ≠ "java/lang/invoke/VarHandle" ∧ (parseMethodDescriptor yX9_courts.desc).map (fun d => d.parameters.length) = some 1 := by decide +kernel
set_option maxHeartbeats 4000000 in
set_option maxRecDepth 100000 in
theorem c_X9_courts (l : Launch) (D : va_G) (cy : Nat → ClassId) (g : Nat → Nat) (um : St) (p0 : Int32) (r : Int32) (um' : St) (h : f_X9_courts p0 um = some (r, um')) : CtI l yX9_courts wsX9_courts (rmH 1) [.ref (g 999), .int p0] D cy (wX9 cy g um) (wX9 cy g um') r := by
  refine ct_enter (D := D) (cy := cy) (cc := cX9_courts) (maxL := 3) (ret := (some .int)) (w := wX9 cy g um) (Qc := fun sz => va_Qi (fun r' (_ : Unit) => r' = r) (Bw D cy (va_A (wX9 cy g um) sz) (wX9 cy g um')) (va_A (wX9 cy g um) sz)) (by decide) rfl (Nat.le_of_ble_eq_true rfl) ?_
  intro p e s m below meth c A C0 hAe ls hl hP hD hS
  have e1 : MQ below ((fun sz => va_Qi (fun r' (_ : Unit) => r' = r) (Bw D cy (va_A (wX9 cy g um) sz) (wX9 cy g um')) (va_A (wX9 cy g um) sz)) s.heap.size) [.ref (g 999), .int p0].toArray s 0 0 A = QI below [.ref (g 999), .int p0].toArray s A D cy (wX9 cy g um') r := by rw [hAe]; rfl
  rw [e1]
  clear e1 hAe
  obtain ⟨hx, hb, hr, hml, hown, hts, hlocks, hK, hA⟩ := id C0
  have hl : lv_has ls 3 [(0, .ref (g 999)), (1, .int p0)] := hl
  rw [f_X9_courts] at h
  refine lv_iload_n hx hb dX9_courts_0 rfl (lv_at hl 1 rfl) ?_
  refine lv_iconst (v := 1) hx hb dX9_courts_1 (by decide) ?_
  refine lv_iconst (v := 4) hx hb dX9_courts_2 (by decide) ?_
  obtain ⟨r1, e2, h⟩ := bd_some h
  refine x_callSI (As := [.int p0, .int (1 : Int32), .int (4 : Int32)]) (rest := []) (n := 3) ⟨hx, hb, hml, hown, hts⟩ (c_X9_in l D cy  p0 (1 : Int32) (4 : Int32) r1 e2) gX9_courts_X9_in rfl hd_X9_in ⟨Nat.le_of_ble_eq_true rfl, Nat.le_of_ble_eq_true rfl⟩ ⟨rfl, rfl⟩ hK (sp_nil _) (sp_nil _) hP hD hS hA rfl hl.1 rfl (Nat.le_of_ble_eq_true rfl) dX9_courts_3 ⟨Nat.zero_le _, Nat.zero_le _⟩ (fun H locs hP hD hS => ?_)
  clear e2
  refine x_if_ne (tgt := 12) hx hb dX9_courts_6 (by decide) h (fun _ h => ?_) (fun _ h => ?_)
  · refine lv_bipush (v := -3) hx hb dX9_courts_9 (by decide) ?_
    cases h
    exact x_iret hx hb hr hlocks hK hP hD hS dX9_courts_11 rfl rfl
  · refine lv_aload_n hx hb dX9_courts_12 rfl (lv_at hl 0 rfl) ?_
    refine va_get (D := D) (ci := 8) (v := .int (um.1 25)) (C := RX9) (T := TX9) (N := 38) hx hb hts ki_X9_courts_X9 hown hK hP 0 rfl rfl 25 (by decide) (hts _ k_X9_courts_0) (fun _ h9 => h9) rfl dX9_courts_13 ?_
    refine lv_istore_n (lv' := [(2, .int (um.1 25)), (0, .ref (g 999)), (1, .int p0)]) hx hb dX9_courts_16 rfl hl (by decide) rfl (fun ls hl => ?_)
    refine lv_aload_n hx hb dX9_courts_17 rfl (lv_at hl 1 rfl) ?_
    refine lv_iload_n hx hb dX9_courts_18 rfl (lv_at hl 2 rfl) ?_
    refine x_put (D := D) (ci := 8) (Wd := (fun uz => wX9 cy g uz)) (u := um) (C := RX9) (T := TX9) (N := 38) hx hb hts ki_X9_courts_X9 tyX9 tyX9_ok nmX9 hown hK hP hD hS 0 rfl rfl 25 (by decide) (hts _ k_X9_courts_0) (fun _ h9 => h9) rfl (tyX9_ok 25 (by decide)) rfl rfl (Nat.le_of_ble_eq_true rfl) (fun _ => rfl) h dX9_courts_19 (fun um3 H locs h hP hD hS => ?_)
    refine lv_iload_n hx hb dX9_courts_22 rfl (lv_at hl 0 rfl) ?_
    cases h
    exact x_iret hx hb hr hlocks hK hP hD hS dX9_courts_23 rfl rfl
theorem k_X9_thereMany_0 : Cond.fieldLink RX9 76 "FeatherHallModel" "isThere" "[Z" ∈ wsX9_thereMany := (List.mem_cons_of_mem _ (List.mem_append_left _ (List.mem_of_getElem? (i := 0) rfl)))
theorem ki_X9_thereMany_X9 : ∀ w ∈ u_ws RX9 TX9 38, w ∈ wsX9_thereMany := fun _ hh => (List.mem_cons_of_mem _ (List.mem_append_right _ hh))
theorem hd_X9_thereMany : yX9_thereMany.cls = RX9 ∧ yX9_thereMany.cls ≠ "java/lang/invoke/MethodHandle" ∧ yX9_thereMany.cls ≠ "java/lang/invoke/VarHandle" ∧ (parseMethodDescriptor yX9_thereMany.desc).map (fun d => d.parameters.length) = some 0 := by decide +kernel
set_option maxHeartbeats 4000000 in
set_option maxRecDepth 100000 in
theorem w_X9_thereMany_25 {p : Program} {l : Launch} {e : Env} {s : State} {m : MethodId} {below : List Frame} {meth : Method} {c : Code} {args : Array Value} {D : va_G} {cy : Nat → ClassId} {g : Nat → Nat} {A : Nat → Prop} {um : St} {r : Int32} (C0 : Cx p s m meth c args cX9_thereMany 3 (some .int) wsX9_thereMany RX9 D cy A) {k_4 : Int32 → Int32 → Option (Int32)} (hk_4 : ∀ (l1 : Int32) (l2 : Int32), k_4 l1 l2 = some r → ∀ (H : Heap) (locs : List Loc) (ls : Array Slot), va_P D vwCl (wX9 cy g um) H → va_D A (wX9 cy g um) → va_S A s.heap H locs → lv_has ls 3 [(0, .ref (g 999)), (1, .int l1), (2, .int l2)] → W p l e (rmH 0) s m args below meth c H locs 0 0 (QI below args s A D cy (wX9 cy g um) r) (F0 m 4 ls [])) : ∀ (l2 : Int32) (s0 : Int32) (s1 : Int32), f_X9_thereMany_25 um k_4 l2 s0 s1 = some r → ∀ (H : Heap) (locs : List Loc) (ls : Array Slot), va_P D vwCl (wX9 cy g um) H → va_D A (wX9 cy g um) → va_S A s.heap H locs → lv_has ls 3 [(0, .ref (g 999)), (2, .int l2)] → W p l e (rmH 0) s m args below meth c H locs 0 0 (QI below args s A D cy (wX9 cy g um) r) (F0 m 25 ls [.int s0, .int s1]) := by
  obtain ⟨hx, hb, hr, hml, hown, hts, hlocks, hK, hA⟩ := id C0
  intro l2 s0 s1 h H locs ls hP hD hS hl
  rw [f_X9_thereMany_25] at h
  refine lv_iadd hx hb dX9_thereMany_25 ?_
  refine x_nm h (fun v2 h => ?_)
  refine lv_istore_n (lv' := [(1, .int v2), (0, .ref (g 999)), (2, .int l2)]) hx hb dX9_thereMany_26 rfl hl (by decide) rfl (fun ls hl => ?_)
  obtain ⟨v3, ev3, h⟩ := nm_ex h
  refine lv_iinc (v := v3) (lv' := [(2, .int v3), (1, .int v2), (0, .ref (g 999))]) hx hb dX9_thereMany_27 hl (k := 2) rfl (by rw [ev3]; rfl) (by decide) rfl (fun ls hl => ?_)
  clear ev3
  refine lv_goto (tgt := 4) hx hb dX9_thereMany_30 (by decide) ?_
  exact hk_4 v2 v3 h _ _ ls hP hD hS (lv_sub hl [2, 1, 0] rfl)
set_option maxHeartbeats 4000000 in
set_option maxRecDepth 100000 in
theorem w_X9_thereMany_4 {p : Program} {l : Launch} {e : Env} {s : State} {m : MethodId} {below : List Frame} {meth : Method} {c : Code} {args : Array Value} {D : va_G} {cy : Nat → ClassId} {g : Nat → Nat} {A : Nat → Prop} {um : St} {r : Int32} (C0 : Cx p s m meth c args cX9_thereMany 3 (some .int) wsX9_thereMany RX9 D cy A) : ∀ (nn : Nat) (l1 : Int32) (l2 : Int32), f_X9_thereMany_4 um nn l1 l2 = some r → ∀ (H : Heap) (locs : List Loc) (ls : Array Slot), va_P D vwCl (wX9 cy g um) H → va_D A (wX9 cy g um) → va_S A s.heap H locs → lv_has ls 3 [(0, .ref (g 999)), (1, .int l1), (2, .int l2)] → W p l e (rmH 0) s m args below meth c H locs 0 0 (QI below args s A D cy (wX9 cy g um) r) (F0 m 4 ls []) := by
  obtain ⟨hx, hb, hr, hml, hown, hts, hlocks, hK, hA⟩ := id C0
  intro nn
  induction nn with
  | zero => intro l1 l2 h; rw [f_X9_thereMany_4] at h; cases h
  | succ nn ih =>
    intro l1 l2 h H locs ls hP hD hS hl
    rw [f_X9_thereMany_4] at h
    refine lv_iload_n hx hb dX9_thereMany_4 rfl (lv_at hl 2 rfl) ?_
    refine lv_bipush (v := 8) hx hb dX9_thereMany_5 (by decide) ?_
    refine x_icmp_ge (tgt := 33) hx hb dX9_thereMany_7 (by decide) h (fun _ h => ?_) (fun _ h => ?_)
    · refine lv_iload_n hx hb dX9_thereMany_33 rfl (lv_at hl 1 rfl) ?_
      cases h
      exact x_iret hx hb hr hlocks hK hP hD hS dX9_thereMany_34 rfl rfl
    · refine lv_iload_n hx hb dX9_thereMany_10 rfl (lv_at hl 1 rfl) ?_
      refine lv_aload_n hx hb dX9_thereMany_11 rfl (lv_at hl 0 rfl) ?_
      refine va_get (D := D) (ci := 8) (v := .ref (g 926)) (C := RX9) (T := TX9) (N := 38) hx hb hts ki_X9_thereMany_X9 hown hK hP 0 rfl rfl 26 (by decide) (hts _ k_X9_thereMany_0) (fun _ h9 => h9) rfl dX9_thereMany_12 ?_
      refine lv_iload_n hx hb dX9_thereMany_15 rfl (lv_at hl 2 rfl) ?_
      refine x_zald hx hb hK hP 19 rfl rfl h dX9_thereMany_16 (fun v1 h => ?_)
      refine x_if_eq (tgt := 24) hx hb dX9_thereMany_17 (by decide) h (fun _ h => ?_) (fun _ h => ?_)
      · refine lv_iconst (v := 0) hx hb dX9_thereMany_24 (by decide) ?_
        exact w_X9_thereMany_25 C0 ih l2 (0 : Int32) l1 h _ _ ls hP hD hS (lv_sub hl [0, 2] rfl)
      · refine lv_iconst (v := 1) hx hb dX9_thereMany_20 (by decide) ?_
        refine lv_goto (tgt := 25) hx hb dX9_thereMany_21 (by decide) ?_
        exact w_X9_thereMany_25 C0 ih l2 (1 : Int32) l1 h _ _ ls hP hD hS (lv_sub hl [0, 2] rfl)
set_option maxHeartbeats 4000000 in
set_option maxRecDepth 100000 in
theorem c_X9_thereMany (l : Launch) (D : va_G) (cy : Nat → ClassId) (g : Nat → Nat) (um : St) (r : Int32) (h : f_X9_thereMany um = some r) : CtI l yX9_thereMany wsX9_thereMany (rmH 0) [.ref (g 999)] D cy (wX9 cy g um) (wX9 cy g um) r := by
  refine ct_enter (D := D) (cy := cy) (cc := cX9_thereMany) (maxL := 3) (ret := (some .int)) (w := wX9 cy g um) (Qc := fun sz => va_Qi (fun r' (_ : Unit) => r' = r) (Bw D cy (va_A (wX9 cy g um) sz) (wX9 cy g um)) (va_A (wX9 cy g um) sz)) (by decide) rfl (Nat.le_of_ble_eq_true rfl) ?_
  intro p e s m below meth c A C0 hAe ls hl hP hD hS
  have e1 : MQ below ((fun sz => va_Qi (fun r' (_ : Unit) => r' = r) (Bw D cy (va_A (wX9 cy g um) sz) (wX9 cy g um)) (va_A (wX9 cy g um) sz)) s.heap.size) [.ref (g 999)].toArray s 0 0 A = QI below [.ref (g 999)].toArray s A D cy (wX9 cy g um) r := by rw [hAe]; rfl
  rw [e1]
  clear e1 hAe
  obtain ⟨hx, hb, hr, hml, hown, hts, hlocks, hK, hA⟩ := id C0
  have hl : lv_has ls 3 [(0, .ref (g 999))] := hl
  rw [f_X9_thereMany] at h
  refine lv_iconst (v := 0) hx hb dX9_thereMany_0 (by decide) ?_
  refine lv_istore_n (lv' := [(1, .int (0 : Int32)), (0, .ref (g 999))]) hx hb dX9_thereMany_1 rfl hl (by decide) rfl (fun ls hl => ?_)
  refine lv_iconst (v := 0) hx hb dX9_thereMany_2 (by decide) ?_
  refine lv_istore_n (lv' := [(2, .int (0 : Int32)), (1, .int (0 : Int32)), (0, .ref (g 999))]) hx hb dX9_thereMany_3 rfl hl (by decide) rfl (fun ls hl => ?_)
  exact w_X9_thereMany_4 C0 FU (0 : Int32) (0 : Int32) h _ _ ls hP hD hS (lv_sub hl [2, 1, 0] rfl)
theorem k_X9_come_0 : Cond.fieldLink RX9 76 "FeatherHallModel" "isThere" "[Z" ∈ wsX9_come := (List.mem_cons_of_mem _ (List.mem_append_left _ (List.mem_of_getElem? (i := 0) rfl)))
theorem ki_X9_come_X9 : ∀ w ∈ u_ws RX9 TX9 38, w ∈ wsX9_come := fun _ hh => (List.mem_cons_of_mem _ (List.mem_append_right _ hh))
theorem k_X9_come_1 : Cond.fieldLink RX9 79 "FeatherHallModel" "grade" "[I" ∈ wsX9_come := (List.mem_cons_of_mem _ (List.mem_append_left _ (List.mem_of_getElem? (i := 1) rfl)))
theorem k_X9_come_2 : Cond.fieldLink RX9 82 "FeatherHallModel" "waited" "[I" ∈ wsX9_come := (List.mem_cons_of_mem _ (List.mem_append_left _ (List.mem_of_getElem? (i := 2) rfl)))
theorem hd_X9_come : yX9_come.cls = RX9 ∧ yX9_come.cls ≠ "java/lang/invoke/MethodHandle" ∧ yX9_come.cls ≠ "java/lang/invoke/VarHandle" ∧ (parseMethodDescriptor yX9_come.desc).map (fun d => d.parameters.length) = some 2 := by decide +kernel
set_option maxHeartbeats 4000000 in
set_option maxRecDepth 100000 in
theorem c_X9_come (l : Launch) (D : va_G) (cy : Nat → ClassId) (g : Nat → Nat) (um : St) (p0 : Int32) (p1 : Int32) (r : Int32) (um' : St) (h : f_X9_come p0 p1 um = some (r, um')) : CtI l yX9_come wsX9_come (rmH 2) [.ref (g 999), .int p0, .int p1] D cy (wX9 cy g um) (wX9 cy g um') r := by
  refine ct_enter (D := D) (cy := cy) (cc := cX9_come) (maxL := 3) (ret := (some .int)) (w := wX9 cy g um) (Qc := fun sz => va_Qi (fun r' (_ : Unit) => r' = r) (Bw D cy (va_A (wX9 cy g um) sz) (wX9 cy g um')) (va_A (wX9 cy g um) sz)) (by decide) rfl (Nat.le_of_ble_eq_true rfl) ?_
  intro p e s m below meth c A C0 hAe ls hl hP hD hS
  have e1 : MQ below ((fun sz => va_Qi (fun r' (_ : Unit) => r' = r) (Bw D cy (va_A (wX9 cy g um) sz) (wX9 cy g um')) (va_A (wX9 cy g um) sz)) s.heap.size) [.ref (g 999), .int p0, .int p1].toArray s 0 0 A = QI below [.ref (g 999), .int p0, .int p1].toArray s A D cy (wX9 cy g um') r := by rw [hAe]; rfl
  rw [e1]
  clear e1 hAe
  obtain ⟨hx, hb, hr, hml, hown, hts, hlocks, hK, hA⟩ := id C0
  have hl : lv_has ls 3 [(0, .ref (g 999)), (1, .int p0), (2, .int p1)] := hl
  rw [f_X9_come] at h
  refine lv_iload_n hx hb dX9_come_0 rfl (lv_at hl 1 rfl) ?_
  obtain ⟨r1, e2, h⟩ := bd_some h
  refine x_callSI (As := [.int p0]) (rest := []) (n := 1) ⟨hx, hb, hml, hown, hts⟩ (c_X9_isPlayer l D cy  p0 r1 e2) gX9_come_X9_isPlayer rfl hd_X9_isPlayer ⟨Nat.le_of_ble_eq_true rfl, Nat.le_of_ble_eq_true rfl⟩ ⟨rfl, rfl⟩ hK (sp_nil _) (sp_nil _) hP hD hS hA rfl hl.1 rfl (Nat.le_of_ble_eq_true rfl) dX9_come_1 ⟨Nat.zero_le _, Nat.zero_le _⟩ (fun H locs hP hD hS => ?_)
  clear e2
  refine x_if_ne (tgt := 10) hx hb dX9_come_4 (by decide) h (fun _ h => ?_) (fun _ h => ?_)
  · refine lv_bipush (v := -2) hx hb dX9_come_7 (by decide) ?_
    cases h
    exact x_iret hx hb hr hlocks hK hP hD hS dX9_come_9 rfl rfl
  · refine lv_iload_n hx hb dX9_come_10 rfl (lv_at hl 2 rfl) ?_
    refine lv_iconst (v := 0) hx hb dX9_come_11 (by decide) ?_
    refine lv_bipush (v := 99) hx hb dX9_come_12 (by decide) ?_
    obtain ⟨r3, e4, h⟩ := bd_some h
    refine x_callSI (As := [.int p1, .int (0 : Int32), .int (99 : Int32)]) (rest := []) (n := 3) ⟨hx, hb, hml, hown, hts⟩ (c_X9_in l D cy  p1 (0 : Int32) (99 : Int32) r3 e4) gX9_come_X9_in rfl hd_X9_in ⟨Nat.le_of_ble_eq_true rfl, Nat.le_of_ble_eq_true rfl⟩ ⟨rfl, rfl⟩ hK (sp_nil _) (sp_nil _) hP hD hS hA rfl hl.1 rfl (Nat.le_of_ble_eq_true rfl) dX9_come_14 ⟨Nat.zero_le _, Nat.zero_le _⟩ (fun H locs hP hD hS => ?_)
    clear e4
    refine x_if_ne (tgt := 23) hx hb dX9_come_17 (by decide) h (fun _ h => ?_) (fun _ h => ?_)
    · refine lv_bipush (v := -3) hx hb dX9_come_20 (by decide) ?_
      cases h
      exact x_iret hx hb hr hlocks hK hP hD hS dX9_come_22 rfl rfl
    · refine lv_aload_n hx hb dX9_come_23 rfl (lv_at hl 0 rfl) ?_
      refine va_get (D := D) (ci := 8) (v := .ref (g 926)) (C := RX9) (T := TX9) (N := 38) hx hb hts ki_X9_come_X9 hown hK hP 0 rfl rfl 26 (by decide) (hts _ k_X9_come_0) (fun _ h9 => h9) rfl dX9_come_24 ?_
      refine lv_iload_n hx hb dX9_come_27 rfl (lv_at hl 1 rfl) ?_
      refine x_zald hx hb hK hP 19 rfl rfl h dX9_come_28 (fun v5 h => ?_)
      refine x_if_eq (tgt := 35) hx hb dX9_come_29 (by decide) h (fun _ h => ?_) (fun _ h => ?_)
      · refine lv_aload_n hx hb dX9_come_35 rfl (lv_at hl 0 rfl) ?_
        refine va_get (D := D) (ci := 8) (v := .ref (g 926)) (C := RX9) (T := TX9) (N := 38) hx hb hts ki_X9_come_X9 hown hK hP 0 rfl rfl 26 (by decide) (hts _ k_X9_come_0) (fun _ h9 => h9) rfl dX9_come_36 ?_
        refine lv_iload_n hx hb dX9_come_39 rfl (lv_at hl 1 rfl) ?_
        refine lv_iconst (v := 1) hx hb dX9_come_40 (by decide) ?_
        refine x_zast (Wd := (fun uz => wX9 cy g uz)) (u := um) (k := 26) hx hb hK hP hD hS 19 rfl rfl (fun _ => rfl) h dX9_come_41 (fun um6 H locs h hP hD hS => ?_)
        refine lv_aload_n hx hb dX9_come_42 rfl (lv_at hl 0 rfl) ?_
        refine va_get (D := D) (ci := 8) (v := .ref (g 927)) (C := RX9) (T := TX9) (N := 38) hx hb hts ki_X9_come_X9 hown hK hP 0 rfl rfl 27 (by decide) (hts _ k_X9_come_1) (fun _ h9 => h9) rfl dX9_come_43 ?_
        refine lv_iload_n hx hb dX9_come_46 rfl (lv_at hl 1 rfl) ?_
        refine lv_iload_n hx hb dX9_come_47 rfl (lv_at hl 2 rfl) ?_
        refine x_iast (Wd := (fun uz => wX9 cy g uz)) (u := um6) (k := 27) hx hb hK hP hD hS 20 rfl rfl (fun _ => rfl) h dX9_come_48 (fun um7 H locs h hP hD hS => ?_)
        refine lv_aload_n hx hb dX9_come_49 rfl (lv_at hl 0 rfl) ?_
        refine va_get (D := D) (ci := 8) (v := .ref (g 928)) (C := RX9) (T := TX9) (N := 38) hx hb hts ki_X9_come_X9 hown hK hP 0 rfl rfl 28 (by decide) (hts _ k_X9_come_2) (fun _ h9 => h9) rfl dX9_come_50 ?_
        refine lv_iload_n hx hb dX9_come_53 rfl (lv_at hl 1 rfl) ?_
        refine lv_iconst (v := 0) hx hb dX9_come_54 (by decide) ?_
        refine x_iast (Wd := (fun uz => wX9 cy g uz)) (u := um7) (k := 28) hx hb hK hP hD hS 21 rfl rfl (fun _ => rfl) h dX9_come_55 (fun um8 H locs h hP hD hS => ?_)
        refine lv_aload_n hx hb dX9_come_56 rfl (lv_at hl 0 rfl) ?_
        obtain ⟨r9, e10, h⟩ := bd_some h
        refine x_callVI (As := []) (rest := []) (n := 0) ⟨hx, hb, hml, hown, hts⟩ (c_X9_thereMany l D cy g um8 r9 e10) gX9_come_X9_thereMany rfl hd_X9_thereMany ⟨Nat.le_of_ble_eq_true rfl, Nat.le_of_ble_eq_true rfl⟩ ⟨rfl, rfl⟩ hK (sp_all _) (sp_all _) hP hD hS hA 0 rfl rfl rfl hl.1 rfl (Nat.le_of_ble_eq_true rfl) dX9_come_57 ⟨Nat.zero_le _, Nat.zero_le _⟩ (fun H locs hP hD hS => ?_)
        clear e10
        cases h
        exact x_iret hx hb hr hlocks hK hP hD hS dX9_come_60 rfl rfl
      · refine lv_bipush (v := -4) hx hb dX9_come_32 (by decide) ?_
        cases h
        exact x_iret hx hb hr hlocks hK hP hD hS dX9_come_34 rfl rfl
theorem k_X9_leave_0 : Cond.fieldLink RX9 76 "FeatherHallModel" "isThere" "[Z" ∈ wsX9_leave := (List.mem_cons_of_mem _ (List.mem_append_left _ (List.mem_of_getElem? (i := 0) rfl)))
theorem ki_X9_leave_X9 : ∀ w ∈ u_ws RX9 TX9 38, w ∈ wsX9_leave := fun _ hh => (List.mem_cons_of_mem _ (List.mem_append_right _ hh))
theorem hd_X9_leave : yX9_leave.cls = RX9 ∧ yX9_leave.cls ≠ "java/lang/invoke/MethodHandle" ∧ yX9_leave.cls ≠ "java/lang/invoke/VarHandle" ∧ (parseMethodDescriptor yX9_leave.desc).map (fun d => d.parameters.length) = some 1 := by decide +kernel
set_option maxHeartbeats 4000000 in
set_option maxRecDepth 100000 in
theorem c_X9_leave (l : Launch) (D : va_G) (cy : Nat → ClassId) (g : Nat → Nat) (um : St) (p0 : Int32) (r : Int32) (um' : St) (h : f_X9_leave p0 um = some (r, um')) : CtI l yX9_leave wsX9_leave (rmH 2) [.ref (g 999), .int p0] D cy (wX9 cy g um) (wX9 cy g um') r := by
  refine ct_enter (D := D) (cy := cy) (cc := cX9_leave) (maxL := 2) (ret := (some .int)) (w := wX9 cy g um) (Qc := fun sz => va_Qi (fun r' (_ : Unit) => r' = r) (Bw D cy (va_A (wX9 cy g um) sz) (wX9 cy g um')) (va_A (wX9 cy g um) sz)) (by decide) rfl (Nat.le_of_ble_eq_true rfl) ?_
  intro p e s m below meth c A C0 hAe ls hl hP hD hS
  have e1 : MQ below ((fun sz => va_Qi (fun r' (_ : Unit) => r' = r) (Bw D cy (va_A (wX9 cy g um) sz) (wX9 cy g um')) (va_A (wX9 cy g um) sz)) s.heap.size) [.ref (g 999), .int p0].toArray s 0 0 A = QI below [.ref (g 999), .int p0].toArray s A D cy (wX9 cy g um') r := by rw [hAe]; rfl
  rw [e1]
  clear e1 hAe
  obtain ⟨hx, hb, hr, hml, hown, hts, hlocks, hK, hA⟩ := id C0
  have hl : lv_has ls 2 [(0, .ref (g 999)), (1, .int p0)] := hl
  rw [f_X9_leave] at h
  refine lv_iload_n hx hb dX9_leave_0 rfl (lv_at hl 1 rfl) ?_
  obtain ⟨r1, e2, h⟩ := bd_some h
  refine x_callSI (As := [.int p0]) (rest := []) (n := 1) ⟨hx, hb, hml, hown, hts⟩ (c_X9_isPlayer l D cy  p0 r1 e2) gX9_leave_X9_isPlayer rfl hd_X9_isPlayer ⟨Nat.le_of_ble_eq_true rfl, Nat.le_of_ble_eq_true rfl⟩ ⟨rfl, rfl⟩ hK (sp_nil _) (sp_nil _) hP hD hS hA rfl hl.1 rfl (Nat.le_of_ble_eq_true rfl) dX9_leave_1 ⟨Nat.zero_le _, Nat.zero_le _⟩ (fun H locs hP hD hS => ?_)
  clear e2
  refine x_if_ne (tgt := 10) hx hb dX9_leave_4 (by decide) h (fun _ h => ?_) (fun _ h => ?_)
  · refine lv_bipush (v := -2) hx hb dX9_leave_7 (by decide) ?_
    cases h
    exact x_iret hx hb hr hlocks hK hP hD hS dX9_leave_9 rfl rfl
  · refine lv_aload_n hx hb dX9_leave_10 rfl (lv_at hl 0 rfl) ?_
    refine va_get (D := D) (ci := 8) (v := .ref (g 926)) (C := RX9) (T := TX9) (N := 38) hx hb hts ki_X9_leave_X9 hown hK hP 0 rfl rfl 26 (by decide) (hts _ k_X9_leave_0) (fun _ h9 => h9) rfl dX9_leave_11 ?_
    refine lv_iload_n hx hb dX9_leave_14 rfl (lv_at hl 1 rfl) ?_
    refine x_zald hx hb hK hP 19 rfl rfl h dX9_leave_15 (fun v3 h => ?_)
    refine x_if_ne (tgt := 22) hx hb dX9_leave_16 (by decide) h (fun _ h => ?_) (fun _ h => ?_)
    · refine lv_bipush (v := -4) hx hb dX9_leave_19 (by decide) ?_
      cases h
      exact x_iret hx hb hr hlocks hK hP hD hS dX9_leave_21 rfl rfl
    · refine lv_aload_n hx hb dX9_leave_22 rfl (lv_at hl 0 rfl) ?_
      refine va_get (D := D) (ci := 8) (v := .ref (g 926)) (C := RX9) (T := TX9) (N := 38) hx hb hts ki_X9_leave_X9 hown hK hP 0 rfl rfl 26 (by decide) (hts _ k_X9_leave_0) (fun _ h9 => h9) rfl dX9_leave_23 ?_
      refine lv_iload_n hx hb dX9_leave_26 rfl (lv_at hl 1 rfl) ?_
      refine lv_iconst (v := 0) hx hb dX9_leave_27 (by decide) ?_
      refine x_zast (Wd := (fun uz => wX9 cy g uz)) (u := um) (k := 26) hx hb hK hP hD hS 19 rfl rfl (fun _ => rfl) h dX9_leave_28 (fun um4 H locs h hP hD hS => ?_)
      refine lv_aload_n hx hb dX9_leave_29 rfl (lv_at hl 0 rfl) ?_
      obtain ⟨r5, e6, h⟩ := bd_some h
      refine x_callVI (As := []) (rest := []) (n := 0) ⟨hx, hb, hml, hown, hts⟩ (c_X9_thereMany l D cy g um4 r5 e6) gX9_leave_X9_thereMany rfl hd_X9_thereMany ⟨Nat.le_of_ble_eq_true rfl, Nat.le_of_ble_eq_true rfl⟩ ⟨rfl, rfl⟩ hK (sp_all _) (sp_all _) hP hD hS hA 0 rfl rfl rfl hl.1 rfl (Nat.le_of_ble_eq_true rfl) dX9_leave_30 ⟨Nat.zero_le _, Nat.zero_le _⟩ (fun H locs hP hD hS => ?_)
      clear e6
      cases h
      exact x_iret hx hb hr hlocks hK hP hD hS dX9_leave_33 rfl rfl
theorem k_X9_lookAtRound_0 : Cond.fieldLink RX9 206 "FeatherHallModel" "bestGames" "I" ∈ wsX9_lookAtRound := (List.mem_cons_of_mem _ (List.mem_append_left _ (List.mem_of_getElem? (i := 4) rfl)))
theorem ki_X9_lookAtRound_X9 : ∀ w ∈ u_ws RX9 TX9 38, w ∈ wsX9_lookAtRound := fun _ hh => (List.mem_cons_of_mem _ (List.mem_append_right _ hh))
theorem k_X9_lookAtRound_1 : Cond.fieldLink RX9 209 "FeatherHallModel" "bestWaited" "I" ∈ wsX9_lookAtRound := (List.mem_cons_of_mem _ (List.mem_append_left _ (List.mem_of_getElem? (i := 5) rfl)))
theorem k_X9_lookAtRound_2 : Cond.fieldLink RX9 212 "FeatherHallModel" "bestHad" "I" ∈ wsX9_lookAtRound := (List.mem_cons_of_mem _ (List.mem_append_left _ (List.mem_of_getElem? (i := 6) rfl)))
theorem k_X9_lookAtRound_3 : Cond.fieldLink RX9 215 "FeatherHallModel" "bestGrades" "I" ∈ wsX9_lookAtRound := (List.mem_cons_of_mem _ (List.mem_append_left _ (List.mem_of_getElem? (i := 7) rfl)))
theorem k_X9_lookAtRound_4 : Cond.fieldLink RX9 91 "FeatherHallModel" "mate" "[I" ∈ wsX9_lookAtRound := (List.mem_cons_of_mem _ (List.mem_append_left _ (List.mem_of_getElem? (i := 0) rfl)))
theorem k_X9_lookAtRound_5 : Cond.fieldLink RX9 82 "FeatherHallModel" "waited" "[I" ∈ wsX9_lookAtRound := (List.mem_cons_of_mem _ (List.mem_append_left _ (List.mem_of_getElem? (i := 1) rfl)))
theorem k_X9_lookAtRound_6 : Cond.fieldLink RX9 85 "FeatherHallModel" "had" "[I" ∈ wsX9_lookAtRound := (List.mem_cons_of_mem _ (List.mem_append_left _ (List.mem_of_getElem? (i := 2) rfl)))
theorem k_X9_lookAtRound_7 : Cond.fieldLink RX9 79 "FeatherHallModel" "grade" "[I" ∈ wsX9_lookAtRound := (List.mem_cons_of_mem _ (List.mem_append_left _ (List.mem_of_getElem? (i := 3) rfl)))
theorem k_X9_lookAtRound_8 : Cond.fieldLink RX9 94 "FeatherHallModel" "best" "[I" ∈ wsX9_lookAtRound := (List.mem_cons_of_mem _ (List.mem_append_left _ (List.mem_of_getElem? (i := 8) rfl)))
theorem hd_X9_lookAtRound : yX9_lookAtRound.cls = RX9 ∧ yX9_lookAtRound.cls ≠ "java/lang/invoke/MethodHandle" ∧ yX9_lookAtRound.cls ≠ "java/lang/invoke/VarHandle" ∧ (parseMethodDescriptor yX9_lookAtRound.desc).map (fun d => d.parameters.length) = some 1 := by decide +kernel
set_option maxHeartbeats 4000000 in
set_option maxRecDepth 100000 in
theorem w_X9_lookAtRound_119 {p : Program} {l : Launch} {e : Env} {s : State} {m : MethodId} {below : List Frame} {meth : Method} {c : Code} {args : Array Value} {D : va_G} {cy : Nat → ClassId} {g : Nat → Nat} {A : Nat → Prop} {um' : St} (C0 : Cx p s m meth c args cX9_lookAtRound 7 none wsX9_lookAtRound RX9 D cy A) {k_10 : Int32 → Int32 → Int32 → Int32 → Int32 → St → Option (St)} (hk_10 : ∀ (l1 : Int32) (l2 : Int32) (l3 : Int32) (l4 : Int32) (l5 : Int32) (um : St), k_10 l1 l2 l3 l4 l5 um = some um' → ∀ (H : Heap) (locs : List Loc) (ls : Array Slot), va_P D vwCl (wX9 cy g um) H → va_D A (wX9 cy g um) → va_S A s.heap H locs → lv_has ls 7 [(0, .ref (g 999)), (1, .int l1), (2, .int l2), (3, .int l3), (4, .int l4), (5, .int l5)] → W p l e (rmH 1) s m args below meth c H locs 0 0 (QV below args s A D cy (wX9 cy g um')) (F0 m 10 ls [])) : ∀ (l1 : Int32) (l2 : Int32) (l3 : Int32) (l4 : Int32) (l5 : Int32) (um : St), f_X9_lookAtRound_119 k_10 l1 l2 l3 l4 l5 um = some um' → ∀ (H : Heap) (locs : List Loc) (ls : Array Slot), va_P D vwCl (wX9 cy g um) H → va_D A (wX9 cy g um) → va_S A s.heap H locs → lv_has ls 7 [(0, .ref (g 999)), (1, .int l1), (2, .int l2), (3, .int l3), (4, .int l4), (5, .int l5)] → W p l e (rmH 1) s m args below meth c H locs 0 0 (QV below args s A D cy (wX9 cy g um')) (F0 m 119 ls []) := by
  obtain ⟨hx, hb, hr, hml, hown, hts, hlocks, hK, hA⟩ := id C0
  intro l1 l2 l3 l4 l5 um h H locs ls hP hD hS hl
  rw [f_X9_lookAtRound_119] at h
  obtain ⟨v7, ev7, h⟩ := nm_ex h
  refine lv_iinc (v := v7) (lv' := [(5, .int v7), (0, .ref (g 999)), (1, .int l1), (2, .int l2), (3, .int l3), (4, .int l4)]) hx hb dX9_lookAtRound_119 hl (k := 5) rfl (by rw [ev7]; rfl) (by decide) rfl (fun ls hl => ?_)
  clear ev7
  refine lv_goto (tgt := 10) hx hb dX9_lookAtRound_122 (by decide) ?_
  exact hk_10 l1 l2 l3 l4 v7 um h _ _ ls hP hD hS (lv_sub hl [1, 2, 3, 4, 5, 0] rfl)
set_option maxHeartbeats 4000000 in
set_option maxRecDepth 100000 in
theorem w_X9_lookAtRound_116 {p : Program} {l : Launch} {e : Env} {s : State} {m : MethodId} {below : List Frame} {meth : Method} {c : Code} {args : Array Value} {D : va_G} {cy : Nat → ClassId} {g : Nat → Nat} {A : Nat → Prop} {um' : St} (C0 : Cx p s m meth c args cX9_lookAtRound 7 none wsX9_lookAtRound RX9 D cy A) {k_10 : Int32 → Int32 → Int32 → Int32 → Int32 → St → Option (St)} (hk_10 : ∀ (l1 : Int32) (l2 : Int32) (l3 : Int32) (l4 : Int32) (l5 : Int32) (um : St), k_10 l1 l2 l3 l4 l5 um = some um' → ∀ (H : Heap) (locs : List Loc) (ls : Array Slot), va_P D vwCl (wX9 cy g um) H → va_D A (wX9 cy g um) → va_S A s.heap H locs → lv_has ls 7 [(0, .ref (g 999)), (1, .int l1), (2, .int l2), (3, .int l3), (4, .int l4), (5, .int l5)] → W p l e (rmH 1) s m args below meth c H locs 0 0 (QV below args s A D cy (wX9 cy g um')) (F0 m 10 ls [])) : ∀ (l1 : Int32) (l2 : Int32) (l3 : Int32) (l5 : Int32) (s0 : Int32) (s1 : Int32) (um : St), f_X9_lookAtRound_116 k_10 l1 l2 l3 l5 s0 s1 um = some um' → ∀ (H : Heap) (locs : List Loc) (ls : Array Slot), va_P D vwCl (wX9 cy g um) H → va_D A (wX9 cy g um) → va_S A s.heap H locs → lv_has ls 7 [(0, .ref (g 999)), (1, .int l1), (2, .int l2), (3, .int l3), (5, .int l5)] → W p l e (rmH 1) s m args below meth c H locs 0 0 (QV below args s A D cy (wX9 cy g um')) (F0 m 116 ls [.int s0, .int s1]) := by
  obtain ⟨hx, hb, hr, hml, hown, hts, hlocks, hK, hA⟩ := id C0
  intro l1 l2 l3 l5 s0 s1 um h H locs ls hP hD hS hl
  rw [f_X9_lookAtRound_116] at h
  refine lv_iadd hx hb dX9_lookAtRound_116 ?_
  refine x_nm h (fun v15 h => ?_)
  refine lv_istore (lv' := [(4, .int v15), (0, .ref (g 999)), (1, .int l1), (2, .int l2), (3, .int l3), (5, .int l5)]) hx hb dX9_lookAtRound_117 hl (by decide) rfl (fun ls hl => ?_)
  exact w_X9_lookAtRound_119 C0 hk_10 l1 l2 l3 v15 l5 um h _ _ ls hP hD hS (lv_sub hl [1, 2, 3, 4, 0, 5] rfl)
set_option maxHeartbeats 4000000 in
set_option maxRecDepth 100000 in
theorem w_X9_lookAtRound_73 {p : Program} {l : Launch} {e : Env} {s : State} {m : MethodId} {below : List Frame} {meth : Method} {c : Code} {args : Array Value} {D : va_G} {cy : Nat → ClassId} {g : Nat → Nat} {A : Nat → Prop} {um' : St} (C0 : Cx p s m meth c args cX9_lookAtRound 7 none wsX9_lookAtRound RX9 D cy A) {k_10 : Int32 → Int32 → Int32 → Int32 → Int32 → St → Option (St)} (hk_10 : ∀ (l1 : Int32) (l2 : Int32) (l3 : Int32) (l4 : Int32) (l5 : Int32) (um : St), k_10 l1 l2 l3 l4 l5 um = some um' → ∀ (H : Heap) (locs : List Loc) (ls : Array Slot), va_P D vwCl (wX9 cy g um) H → va_D A (wX9 cy g um) → va_S A s.heap H locs → lv_has ls 7 [(0, .ref (g 999)), (1, .int l1), (2, .int l2), (3, .int l3), (4, .int l4), (5, .int l5)] → W p l e (rmH 1) s m args below meth c H locs 0 0 (QV below args s A D cy (wX9 cy g um')) (F0 m 10 ls [])) : ∀ (l1 : Int32) (l2 : Int32) (l4 : Int32) (l5 : Int32) (s0 : Int32) (s1 : Int32) (um : St), f_X9_lookAtRound_73 k_10 l1 l2 l4 l5 s0 s1 um = some um' → ∀ (H : Heap) (locs : List Loc) (ls : Array Slot), va_P D vwCl (wX9 cy g um) H → va_D A (wX9 cy g um) → va_S A s.heap H locs → lv_has ls 7 [(0, .ref (g 999)), (1, .int l1), (2, .int l2), (4, .int l4), (5, .int l5)] → W p l e (rmH 1) s m args below meth c H locs 0 0 (QV below args s A D cy (wX9 cy g um')) (F0 m 73 ls [.int s0, .int s1]) := by
  obtain ⟨hx, hb, hr, hml, hown, hts, hlocks, hK, hA⟩ := id C0
  intro l1 l2 l4 l5 s0 s1 um h H locs ls hP hD hS hl
  rw [f_X9_lookAtRound_73] at h
  refine lv_iadd hx hb dX9_lookAtRound_73 ?_
  refine x_nm h (fun v8 h => ?_)
  refine lv_istore_n (lv' := [(3, .int v8), (0, .ref (g 999)), (1, .int l1), (2, .int l2), (4, .int l4), (5, .int l5)]) hx hb dX9_lookAtRound_74 rfl hl (by decide) rfl (fun ls hl => ?_)
  refine lv_iload hx hb dX9_lookAtRound_75 (lv_at hl 4 rfl) ?_
  refine lv_aload_n hx hb dX9_lookAtRound_77 rfl (lv_at hl 1 rfl) ?_
  refine va_get (D := D) (ci := 8) (v := .ref (g 932)) (C := RX9) (T := TX9) (N := 38) hx hb hts ki_X9_lookAtRound_X9 hown hK hP 0 rfl rfl 32 (by decide) (hts _ k_X9_lookAtRound_4) (fun _ h9 => h9) rfl dX9_lookAtRound_78 ?_
  refine lv_iload hx hb dX9_lookAtRound_81 (lv_at hl 5 rfl) ?_
  refine x_iald hx hb hK hP 24 rfl rfl h dX9_lookAtRound_83 (fun v9 h => ?_)
  refine lv_iload hx hb dX9_lookAtRound_84 (lv_at hl 5 rfl) ?_
  refine x_icmp_le (tgt := 115) hx hb dX9_lookAtRound_86 (by decide) h (fun _ h => ?_) (fun _ h => ?_)
  · refine lv_iconst (v := 0) hx hb dX9_lookAtRound_115 (by decide) ?_
    exact w_X9_lookAtRound_116 C0 hk_10 l1 l2 v8 l5 (0 : Int32) l4 um h _ _ ls hP hD hS (lv_sub hl [1, 2, 3, 0, 5] rfl)
  · refine lv_aload_n hx hb dX9_lookAtRound_89 rfl (lv_at hl 1 rfl) ?_
    refine va_get (D := D) (ci := 8) (v := .ref (g 927)) (C := RX9) (T := TX9) (N := 38) hx hb hts ki_X9_lookAtRound_X9 hown hK hP 0 rfl rfl 27 (by decide) (hts _ k_X9_lookAtRound_7) (fun _ h9 => h9) rfl dX9_lookAtRound_90 ?_
    refine lv_iload hx hb dX9_lookAtRound_93 (lv_at hl 5 rfl) ?_
    refine x_iald hx hb hK hP 20 rfl rfl h dX9_lookAtRound_95 (fun v10 h => ?_)
    refine lv_aload_n hx hb dX9_lookAtRound_96 rfl (lv_at hl 1 rfl) ?_
    refine va_get (D := D) (ci := 8) (v := .ref (g 927)) (C := RX9) (T := TX9) (N := 38) hx hb hts ki_X9_lookAtRound_X9 hown hK hP 0 rfl rfl 27 (by decide) (hts _ k_X9_lookAtRound_7) (fun _ h9 => h9) rfl dX9_lookAtRound_97 ?_
    refine lv_aload_n hx hb dX9_lookAtRound_100 rfl (lv_at hl 1 rfl) ?_
    refine va_get (D := D) (ci := 8) (v := .ref (g 932)) (C := RX9) (T := TX9) (N := 38) hx hb hts ki_X9_lookAtRound_X9 hown hK hP 0 rfl rfl 32 (by decide) (hts _ k_X9_lookAtRound_4) (fun _ h9 => h9) rfl dX9_lookAtRound_101 ?_
    refine lv_iload hx hb dX9_lookAtRound_104 (lv_at hl 5 rfl) ?_
    refine x_iald hx hb hK hP 24 rfl rfl h dX9_lookAtRound_106 (fun v11 h => ?_)
    refine x_iald hx hb hK hP 20 rfl rfl h dX9_lookAtRound_107 (fun v12 h => ?_)
    refine lv_isub hx hb dX9_lookAtRound_108 ?_
    obtain ⟨r13, e14, h⟩ := bd_some h
    refine x_callSI (As := [.int (v10 - v12)]) (rest := [.int l4]) (n := 1) ⟨hx, hb, hml, hown, hts⟩ (c_X9_size l D cy  (v10 - v12) r13 e14) gX9_lookAtRound_X9_size rfl hd_X9_size ⟨Nat.le_of_ble_eq_true rfl, Nat.le_of_ble_eq_true rfl⟩ ⟨rfl, rfl⟩ hK (sp_nil _) (sp_nil _) hP hD hS hA rfl hl.1 rfl (Nat.le_of_ble_eq_true rfl) dX9_lookAtRound_109 ⟨Nat.zero_le _, Nat.zero_le _⟩ (fun H locs hP hD hS => ?_)
    clear e14
    refine lv_goto (tgt := 116) hx hb dX9_lookAtRound_112 (by decide) ?_
    exact w_X9_lookAtRound_116 C0 hk_10 l1 l2 v8 l5 r13 l4 um h _ _ ls hP hD hS (lv_sub hl [1, 2, 3, 0, 5] rfl)
set_option maxHeartbeats 4000000 in
set_option maxRecDepth 100000 in
theorem w_X9_lookAtRound_270 {p : Program} {l : Launch} {e : Env} {s : State} {m : MethodId} {below : List Frame} {meth : Method} {c : Code} {args : Array Value} {D : va_G} {cy : Nat → ClassId} {g : Nat → Nat} {A : Nat → Prop} {um' : St} (C0 : Cx p s m meth c args cX9_lookAtRound 7 none wsX9_lookAtRound RX9 D cy A) : ∀ (s0 : Int32) (um : St), f_X9_lookAtRound_270 s0 um = some um' → ∀ (H : Heap) (locs : List Loc) (ls : Array Slot), va_P D vwCl (wX9 cy g um) H → va_D A (wX9 cy g um) → va_S A s.heap H locs → lv_has ls 7 [] → W p l e (rmH 1) s m args below meth c H locs 0 0 (QV below args s A D cy (wX9 cy g um')) (F0 m 270 ls [.int s0, .ref (g 999)]) := by
  obtain ⟨hx, hb, hr, hml, hown, hts, hlocks, hK, hA⟩ := id C0
  intro s0 um h H locs ls hP hD hS hl
  rw [f_X9_lookAtRound_270] at h
  refine x_put (D := D) (ci := 8) (Wd := (fun uz => wX9 cy g uz)) (u := um) (C := RX9) (T := TX9) (N := 38) hx hb hts ki_X9_lookAtRound_X9 tyX9 tyX9_ok nmX9 hown hK hP hD hS 0 rfl rfl 37 (by decide) (hts _ k_X9_lookAtRound_3) (fun _ h9 => h9) rfl (tyX9_ok 37 (by decide)) rfl rfl (Nat.le_of_ble_eq_true rfl) (fun _ => rfl) h dX9_lookAtRound_270 (fun um22 H locs h hP hD hS => ?_)
  cases h
  exact x_vret hx hb hr hlocks hK hP hD hS dX9_lookAtRound_273 rfl
set_option maxHeartbeats 4000000 in
set_option maxRecDepth 100000 in
theorem w_X9_lookAtRound_252 {p : Program} {l : Launch} {e : Env} {s : State} {m : MethodId} {below : List Frame} {meth : Method} {c : Code} {args : Array Value} {D : va_G} {cy : Nat → ClassId} {g : Nat → Nat} {A : Nat → Prop} {um' : St} (C0 : Cx p s m meth c args cX9_lookAtRound 7 none wsX9_lookAtRound RX9 D cy A) : ∀ (l4 : Int32) (l5 : Int32) (s0 : Int32) (um : St), f_X9_lookAtRound_252 l4 l5 s0 um = some um' → ∀ (H : Heap) (locs : List Loc) (ls : Array Slot), va_P D vwCl (wX9 cy g um) H → va_D A (wX9 cy g um) → va_S A s.heap H locs → lv_has ls 7 [(0, .ref (g 999)), (4, .int l4), (5, .int l5)] → W p l e (rmH 1) s m args below meth c H locs 0 0 (QV below args s A D cy (wX9 cy g um')) (F0 m 252 ls [.int s0, .ref (g 999)]) := by
  obtain ⟨hx, hb, hr, hml, hown, hts, hlocks, hK, hA⟩ := id C0
  intro l4 l5 s0 um h H locs ls hP hD hS hl
  rw [f_X9_lookAtRound_252] at h
  refine x_put (D := D) (ci := 8) (Wd := (fun uz => wX9 cy g uz)) (u := um) (C := RX9) (T := TX9) (N := 38) hx hb hts ki_X9_lookAtRound_X9 tyX9 tyX9_ok nmX9 hown hK hP hD hS 0 rfl rfl 36 (by decide) (hts _ k_X9_lookAtRound_2) (fun _ h9 => h9) rfl (tyX9_ok 36 (by decide)) rfl rfl (Nat.le_of_ble_eq_true rfl) (fun _ => rfl) h dX9_lookAtRound_252 (fun um21 H locs h hP hD hS => ?_)
  refine lv_aload_n hx hb dX9_lookAtRound_255 rfl (lv_at hl 0 rfl) ?_
  refine lv_iload hx hb dX9_lookAtRound_256 (lv_at hl 2 rfl) ?_
  refine x_if_eq (tgt := 266) hx hb dX9_lookAtRound_258 (by decide) h (fun _ h => ?_) (fun _ h => ?_)
  · refine lv_aload_n hx hb dX9_lookAtRound_266 rfl (lv_at hl 0 rfl) ?_
    refine va_get (D := D) (ci := 8) (v := .int (um21.1 37)) (C := RX9) (T := TX9) (N := 38) hx hb hts ki_X9_lookAtRound_X9 hown hK hP 0 rfl rfl 37 (by decide) (hts _ k_X9_lookAtRound_3) (fun _ h9 => h9) rfl dX9_lookAtRound_267 ?_
    exact w_X9_lookAtRound_270 C0 (um21.1 37) um21 h _ _ ls hP hD hS (lv_sub hl [] rfl)
  · refine lv_iload hx hb dX9_lookAtRound_261 (lv_at hl 1 rfl) ?_
    refine lv_goto (tgt := 270) hx hb dX9_lookAtRound_263 (by decide) ?_
    exact w_X9_lookAtRound_270 C0 l4 um21 h _ _ ls hP hD hS (lv_sub hl [] rfl)
set_option maxHeartbeats 4000000 in
set_option maxRecDepth 100000 in
theorem w_X9_lookAtRound_235 {p : Program} {l : Launch} {e : Env} {s : State} {m : MethodId} {below : List Frame} {meth : Method} {c : Code} {args : Array Value} {D : va_G} {cy : Nat → ClassId} {g : Nat → Nat} {A : Nat → Prop} {um' : St} (C0 : Cx p s m meth c args cX9_lookAtRound 7 none wsX9_lookAtRound RX9 D cy A) : ∀ (l3 : Int32) (l4 : Int32) (l5 : Int32) (s0 : Int32) (um : St), f_X9_lookAtRound_235 l3 l4 l5 s0 um = some um' → ∀ (H : Heap) (locs : List Loc) (ls : Array Slot), va_P D vwCl (wX9 cy g um) H → va_D A (wX9 cy g um) → va_S A s.heap H locs → lv_has ls 7 [(0, .ref (g 999)), (3, .int l3), (4, .int l4), (5, .int l5)] → W p l e (rmH 1) s m args below meth c H locs 0 0 (QV below args s A D cy (wX9 cy g um')) (F0 m 235 ls [.int s0, .ref (g 999)]) := by
  obtain ⟨hx, hb, hr, hml, hown, hts, hlocks, hK, hA⟩ := id C0
  intro l3 l4 l5 s0 um h H locs ls hP hD hS hl
  rw [f_X9_lookAtRound_235] at h
  refine x_put (D := D) (ci := 8) (Wd := (fun uz => wX9 cy g uz)) (u := um) (C := RX9) (T := TX9) (N := 38) hx hb hts ki_X9_lookAtRound_X9 tyX9 tyX9_ok nmX9 hown hK hP hD hS 0 rfl rfl 35 (by decide) (hts _ k_X9_lookAtRound_1) (fun _ h9 => h9) rfl (tyX9_ok 35 (by decide)) rfl rfl (Nat.le_of_ble_eq_true rfl) (fun _ => rfl) h dX9_lookAtRound_235 (fun um20 H locs h hP hD hS => ?_)
  refine lv_aload_n hx hb dX9_lookAtRound_238 rfl (lv_at hl 0 rfl) ?_
  refine lv_iload hx hb dX9_lookAtRound_239 (lv_at hl 3 rfl) ?_
  refine x_if_eq (tgt := 248) hx hb dX9_lookAtRound_241 (by decide) h (fun _ h => ?_) (fun _ h => ?_)
  · refine lv_aload_n hx hb dX9_lookAtRound_248 rfl (lv_at hl 0 rfl) ?_
    refine va_get (D := D) (ci := 8) (v := .int (um20.1 36)) (C := RX9) (T := TX9) (N := 38) hx hb hts ki_X9_lookAtRound_X9 hown hK hP 0 rfl rfl 36 (by decide) (hts _ k_X9_lookAtRound_2) (fun _ h9 => h9) rfl dX9_lookAtRound_249 ?_
    exact w_X9_lookAtRound_252 C0 l4 l5 (um20.1 36) um20 h _ _ ls hP hD hS (lv_sub hl [0, 2, 3] rfl)
  · refine lv_iload_n hx hb dX9_lookAtRound_244 rfl (lv_at hl 1 rfl) ?_
    refine lv_goto (tgt := 252) hx hb dX9_lookAtRound_245 (by decide) ?_
    exact w_X9_lookAtRound_252 C0 l4 l5 l3 um20 h _ _ ls hP hD hS (lv_sub hl [0, 2, 3] rfl)
set_option maxHeartbeats 4000000 in
set_option maxRecDepth 100000 in
theorem w_X9_lookAtRound_216 {p : Program} {l : Launch} {e : Env} {s : State} {m : MethodId} {below : List Frame} {meth : Method} {c : Code} {args : Array Value} {D : va_G} {cy : Nat → ClassId} {g : Nat → Nat} {A : Nat → Prop} {um' : St} (C0 : Cx p s m meth c args cX9_lookAtRound 7 none wsX9_lookAtRound RX9 D cy A) : ∀ (l1 : Int32) (l2 : Int32) (l3 : Int32) (l4 : Int32) (l5 : Int32) (um : St), f_X9_lookAtRound_216 l1 l2 l3 l4 l5 um = some um' → ∀ (H : Heap) (locs : List Loc) (ls : Array Slot), va_P D vwCl (wX9 cy g um) H → va_D A (wX9 cy g um) → va_S A s.heap H locs → lv_has ls 7 [(0, .ref (g 999)), (1, .int l1), (2, .int l2), (3, .int l3), (4, .int l4), (5, .int l5)] → W p l e (rmH 1) s m args below meth c H locs 0 0 (QV below args s A D cy (wX9 cy g um')) (F0 m 216 ls []) := by
  obtain ⟨hx, hb, hr, hml, hown, hts, hlocks, hK, hA⟩ := id C0
  intro l1 l2 l3 l4 l5 um h H locs ls hP hD hS hl
  rw [f_X9_lookAtRound_216] at h
  refine lv_aload_n hx hb dX9_lookAtRound_216 rfl (lv_at hl 0 rfl) ?_
  refine lv_iload_n hx hb dX9_lookAtRound_217 rfl (lv_at hl 1 rfl) ?_
  refine x_put (D := D) (ci := 8) (Wd := (fun uz => wX9 cy g uz)) (u := um) (C := RX9) (T := TX9) (N := 38) hx hb hts ki_X9_lookAtRound_X9 tyX9 tyX9_ok nmX9 hown hK hP hD hS 0 rfl rfl 34 (by decide) (hts _ k_X9_lookAtRound_0) (fun _ h9 => h9) rfl (tyX9_ok 34 (by decide)) rfl rfl (Nat.le_of_ble_eq_true rfl) (fun _ => rfl) h dX9_lookAtRound_218 (fun um19 H locs h hP hD hS => ?_)
  refine lv_aload_n hx hb dX9_lookAtRound_221 rfl (lv_at hl 0 rfl) ?_
  refine lv_iload hx hb dX9_lookAtRound_222 (lv_at hl 5 rfl) ?_
  refine x_if_eq (tgt := 231) hx hb dX9_lookAtRound_224 (by decide) h (fun _ h => ?_) (fun _ h => ?_)
  · refine lv_aload_n hx hb dX9_lookAtRound_231 rfl (lv_at hl 0 rfl) ?_
    refine va_get (D := D) (ci := 8) (v := .int (um19.1 35)) (C := RX9) (T := TX9) (N := 38) hx hb hts ki_X9_lookAtRound_X9 hown hK hP 0 rfl rfl 35 (by decide) (hts _ k_X9_lookAtRound_1) (fun _ h9 => h9) rfl dX9_lookAtRound_232 ?_
    exact w_X9_lookAtRound_235 C0 l3 l4 l5 (um19.1 35) um19 h _ _ ls hP hD hS (lv_sub hl [0, 3, 4, 5] rfl)
  · refine lv_iload_n hx hb dX9_lookAtRound_227 rfl (lv_at hl 2 rfl) ?_
    refine lv_goto (tgt := 235) hx hb dX9_lookAtRound_228 (by decide) ?_
    exact w_X9_lookAtRound_235 C0 l3 l4 l5 l2 um19 h _ _ ls hP hD hS (lv_sub hl [0, 3, 4, 5] rfl)
set_option maxHeartbeats 4000000 in
set_option maxRecDepth 100000 in
theorem w_X9_lookAtRound_184 {p : Program} {l : Launch} {e : Env} {s : State} {m : MethodId} {below : List Frame} {meth : Method} {c : Code} {args : Array Value} {D : va_G} {cy : Nat → ClassId} {g : Nat → Nat} {A : Nat → Prop} {um' : St} (C0 : Cx p s m meth c args cX9_lookAtRound 7 none wsX9_lookAtRound RX9 D cy A) : ∀ (nn : Nat) (l1 : Int32) (l2 : Int32) (l3 : Int32) (l4 : Int32) (l5 : Int32) (l6 : Int32) (um : St), f_X9_lookAtRound_184 nn l1 l2 l3 l4 l5 l6 um = some um' → ∀ (H : Heap) (locs : List Loc) (ls : Array Slot), va_P D vwCl (wX9 cy g um) H → va_D A (wX9 cy g um) → va_S A s.heap H locs → lv_has ls 7 [(0, .ref (g 999)), (1, .int l1), (2, .int l2), (3, .int l3), (4, .int l4), (5, .int l5), (6, .int l6)] → W p l e (rmH 1) s m args below meth c H locs 0 0 (QV below args s A D cy (wX9 cy g um')) (F0 m 184 ls []) := by
  obtain ⟨hx, hb, hr, hml, hown, hts, hlocks, hK, hA⟩ := id C0
  intro nn
  induction nn with
  | zero => intro l1 l2 l3 l4 l5 l6 um h; rw [f_X9_lookAtRound_184] at h; cases h
  | succ nn ih =>
    intro l1 l2 l3 l4 l5 l6 um h H locs ls hP hD hS hl
    rw [f_X9_lookAtRound_184] at h
    refine lv_iload hx hb dX9_lookAtRound_184 (lv_at hl 6 rfl) ?_
    refine lv_bipush (v := 8) hx hb dX9_lookAtRound_186 (by decide) ?_
    refine x_icmp_ge (tgt := 216) hx hb dX9_lookAtRound_188 (by decide) h (fun _ h => ?_) (fun _ h => ?_)
    · exact w_X9_lookAtRound_216 C0 l1 l2 l3 l4 l5 um h _ _ ls hP hD hS (lv_sub hl [0, 1, 2, 3, 4, 5] rfl)
    · refine lv_iload hx hb dX9_lookAtRound_191 (lv_at hl 5 rfl) ?_
      refine x_if_eq (tgt := 216) hx hb dX9_lookAtRound_193 (by decide) h (fun _ h => ?_) (fun _ h => ?_)
      · exact w_X9_lookAtRound_216 C0 l1 l2 l3 l4 l5 um h _ _ ls hP hD hS (lv_sub hl [0, 1, 2, 3, 4, 5] rfl)
      · refine lv_aload_n hx hb dX9_lookAtRound_196 rfl (lv_at hl 0 rfl) ?_
        refine va_get (D := D) (ci := 8) (v := .ref (g 933)) (C := RX9) (T := TX9) (N := 38) hx hb hts ki_X9_lookAtRound_X9 hown hK hP 0 rfl rfl 33 (by decide) (hts _ k_X9_lookAtRound_8) (fun _ h9 => h9) rfl dX9_lookAtRound_197 ?_
        refine lv_iload hx hb dX9_lookAtRound_200 (lv_at hl 6 rfl) ?_
        refine lv_aload_n hx hb dX9_lookAtRound_202 rfl (lv_at hl 0 rfl) ?_
        refine va_get (D := D) (ci := 8) (v := .ref (g 932)) (C := RX9) (T := TX9) (N := 38) hx hb hts ki_X9_lookAtRound_X9 hown hK hP 0 rfl rfl 32 (by decide) (hts _ k_X9_lookAtRound_4) (fun _ h9 => h9) rfl dX9_lookAtRound_203 ?_
        refine lv_iload hx hb dX9_lookAtRound_206 (lv_at hl 6 rfl) ?_
        refine x_iald hx hb hK hP 24 rfl rfl h dX9_lookAtRound_208 (fun v16 h => ?_)
        refine x_iast (Wd := (fun uz => wX9 cy g uz)) (u := um) (k := 33) hx hb hK hP hD hS 25 rfl rfl (fun _ => rfl) h dX9_lookAtRound_209 (fun um17 H locs h hP hD hS => ?_)
        obtain ⟨v18, ev18, h⟩ := nm_ex h
        refine lv_iinc (v := v18) (lv' := [(6, .int v18), (0, .ref (g 999)), (1, .int l1), (2, .int l2), (3, .int l3), (4, .int l4), (5, .int l5)]) hx hb dX9_lookAtRound_210 hl (k := 6) rfl (by rw [ev18]; rfl) (by decide) rfl (fun ls hl => ?_)
        clear ev18
        refine lv_goto (tgt := 184) hx hb dX9_lookAtRound_213 (by decide) ?_
        exact ih l1 l2 l3 l4 l5 v18 um17 h _ _ ls hP hD hS (lv_sub hl [1, 2, 3, 4, 5, 6, 0] rfl)
set_option maxHeartbeats 4000000 in
set_option maxRecDepth 100000 in
theorem w_X9_lookAtRound_179 {p : Program} {l : Launch} {e : Env} {s : State} {m : MethodId} {below : List Frame} {meth : Method} {c : Code} {args : Array Value} {D : va_G} {cy : Nat → ClassId} {g : Nat → Nat} {A : Nat → Prop} {um' : St} (C0 : Cx p s m meth c args cX9_lookAtRound 7 none wsX9_lookAtRound RX9 D cy A) : ∀ (l1 : Int32) (l2 : Int32) (l3 : Int32) (l4 : Int32) (s0 : Int32) (um : St), f_X9_lookAtRound_179 l1 l2 l3 l4 s0 um = some um' → ∀ (H : Heap) (locs : List Loc) (ls : Array Slot), va_P D vwCl (wX9 cy g um) H → va_D A (wX9 cy g um) → va_S A s.heap H locs → lv_has ls 7 [(0, .ref (g 999)), (1, .int l1), (2, .int l2), (3, .int l3), (4, .int l4)] → W p l e (rmH 1) s m args below meth c H locs 0 0 (QV below args s A D cy (wX9 cy g um')) (F0 m 179 ls [.int s0]) := by
  obtain ⟨hx, hb, hr, hml, hown, hts, hlocks, hK, hA⟩ := id C0
  intro l1 l2 l3 l4 s0 um h H locs ls hP hD hS hl
  rw [f_X9_lookAtRound_179] at h
  refine lv_istore (lv' := [(5, .int s0), (0, .ref (g 999)), (1, .int l1), (2, .int l2), (3, .int l3), (4, .int l4)]) hx hb dX9_lookAtRound_179 hl (by decide) rfl (fun ls hl => ?_)
  refine lv_iconst (v := 0) hx hb dX9_lookAtRound_181 (by decide) ?_
  refine lv_istore (lv' := [(6, .int (0 : Int32)), (5, .int s0), (0, .ref (g 999)), (1, .int l1), (2, .int l2), (3, .int l3), (4, .int l4)]) hx hb dX9_lookAtRound_182 hl (by decide) rfl (fun ls hl => ?_)
  exact w_X9_lookAtRound_184 C0 FU l1 l2 l3 l4 s0 (0 : Int32) um h _ _ ls hP hD hS (lv_sub hl [2, 3, 4, 5, 6, 1, 0] rfl)
set_option maxHeartbeats 4000000 in
set_option maxRecDepth 100000 in
theorem w_X9_lookAtRound_174 {p : Program} {l : Launch} {e : Env} {s : State} {m : MethodId} {below : List Frame} {meth : Method} {c : Code} {args : Array Value} {D : va_G} {cy : Nat → ClassId} {g : Nat → Nat} {A : Nat → Prop} {um' : St} (C0 : Cx p s m meth c args cX9_lookAtRound 7 none wsX9_lookAtRound RX9 D cy A) : ∀ (l1 : Int32) (l2 : Int32) (l3 : Int32) (l4 : Int32) (um : St), f_X9_lookAtRound_174 l1 l2 l3 l4 um = some um' → ∀ (H : Heap) (locs : List Loc) (ls : Array Slot), va_P D vwCl (wX9 cy g um) H → va_D A (wX9 cy g um) → va_S A s.heap H locs → lv_has ls 7 [(0, .ref (g 999)), (1, .int l1), (2, .int l2), (3, .int l3), (4, .int l4)] → W p l e (rmH 1) s m args below meth c H locs 0 0 (QV below args s A D cy (wX9 cy g um')) (F0 m 174 ls []) := by
  obtain ⟨hx, hb, hr, hml, hown, hts, hlocks, hK, hA⟩ := id C0
  intro l1 l2 l3 l4 um h H locs ls hP hD hS hl
  rw [f_X9_lookAtRound_174] at h
  refine lv_iconst (v := 1) hx hb dX9_lookAtRound_174 (by decide) ?_
  refine lv_goto (tgt := 179) hx hb dX9_lookAtRound_175 (by decide) ?_
  exact w_X9_lookAtRound_179 C0 l1 l2 l3 l4 (1 : Int32) um h _ _ ls hP hD hS (lv_sub hl [0, 1, 2, 3, 4] rfl)
set_option maxHeartbeats 4000000 in
set_option maxRecDepth 100000 in
theorem w_X9_lookAtRound_178 {p : Program} {l : Launch} {e : Env} {s : State} {m : MethodId} {below : List Frame} {meth : Method} {c : Code} {args : Array Value} {D : va_G} {cy : Nat → ClassId} {g : Nat → Nat} {A : Nat → Prop} {um' : St} (C0 : Cx p s m meth c args cX9_lookAtRound 7 none wsX9_lookAtRound RX9 D cy A) : ∀ (l1 : Int32) (l2 : Int32) (l3 : Int32) (l4 : Int32) (um : St), f_X9_lookAtRound_178 l1 l2 l3 l4 um = some um' → ∀ (H : Heap) (locs : List Loc) (ls : Array Slot), va_P D vwCl (wX9 cy g um) H → va_D A (wX9 cy g um) → va_S A s.heap H locs → lv_has ls 7 [(0, .ref (g 999)), (1, .int l1), (2, .int l2), (3, .int l3), (4, .int l4)] → W p l e (rmH 1) s m args below meth c H locs 0 0 (QV below args s A D cy (wX9 cy g um')) (F0 m 178 ls []) := by
  obtain ⟨hx, hb, hr, hml, hown, hts, hlocks, hK, hA⟩ := id C0
  intro l1 l2 l3 l4 um h H locs ls hP hD hS hl
  rw [f_X9_lookAtRound_178] at h
  refine lv_iconst (v := 0) hx hb dX9_lookAtRound_178 (by decide) ?_
  exact w_X9_lookAtRound_179 C0 l1 l2 l3 l4 (0 : Int32) um h _ _ ls hP hD hS (lv_sub hl [0, 1, 2, 3, 4] rfl)
set_option maxHeartbeats 4000000 in
set_option maxRecDepth 100000 in
theorem w_X9_lookAtRound_10 {p : Program} {l : Launch} {e : Env} {s : State} {m : MethodId} {below : List Frame} {meth : Method} {c : Code} {args : Array Value} {D : va_G} {cy : Nat → ClassId} {g : Nat → Nat} {A : Nat → Prop} {um' : St} (C0 : Cx p s m meth c args cX9_lookAtRound 7 none wsX9_lookAtRound RX9 D cy A) : ∀ (nn : Nat) (l1 : Int32) (l2 : Int32) (l3 : Int32) (l4 : Int32) (l5 : Int32) (um : St), f_X9_lookAtRound_10 nn l1 l2 l3 l4 l5 um = some um' → ∀ (H : Heap) (locs : List Loc) (ls : Array Slot), va_P D vwCl (wX9 cy g um) H → va_D A (wX9 cy g um) → va_S A s.heap H locs → lv_has ls 7 [(0, .ref (g 999)), (1, .int l1), (2, .int l2), (3, .int l3), (4, .int l4), (5, .int l5)] → W p l e (rmH 1) s m args below meth c H locs 0 0 (QV below args s A D cy (wX9 cy g um')) (F0 m 10 ls []) := by
  obtain ⟨hx, hb, hr, hml, hown, hts, hlocks, hK, hA⟩ := id C0
  intro nn
  induction nn with
  | zero => intro l1 l2 l3 l4 l5 um h; rw [f_X9_lookAtRound_10] at h; cases h
  | succ nn ih =>
    intro l1 l2 l3 l4 l5 um h H locs ls hP hD hS hl
    rw [f_X9_lookAtRound_10] at h
    refine lv_iload hx hb dX9_lookAtRound_10 (lv_at hl 5 rfl) ?_
    refine lv_bipush (v := 8) hx hb dX9_lookAtRound_12 (by decide) ?_
    refine x_icmp_ge (tgt := 125) hx hb dX9_lookAtRound_14 (by decide) h (fun _ h => ?_) (fun _ h => ?_)
    · refine lv_aload_n hx hb dX9_lookAtRound_125 rfl (lv_at hl 0 rfl) ?_
      refine va_get (D := D) (ci := 8) (v := .int (um.1 34)) (C := RX9) (T := TX9) (N := 38) hx hb hts ki_X9_lookAtRound_X9 hown hK hP 0 rfl rfl 34 (by decide) (hts _ k_X9_lookAtRound_0) (fun _ h9 => h9) rfl dX9_lookAtRound_126 ?_
      refine lv_iconst (v := -1) hx hb dX9_lookAtRound_129 (by decide) ?_
      refine x_icmp_eq (tgt := 174) hx hb dX9_lookAtRound_130 (by decide) h (fun _ h => ?_) (fun _ h => ?_)
      · exact w_X9_lookAtRound_174 C0 l1 l2 l3 l4 um h _ _ ls hP hD hS (lv_sub hl [0, 1, 2, 3, 4] rfl)
      · refine lv_iload_n hx hb dX9_lookAtRound_133 rfl (lv_at hl 2 rfl) ?_
        refine lv_aload_n hx hb dX9_lookAtRound_134 rfl (lv_at hl 0 rfl) ?_
        refine va_get (D := D) (ci := 8) (v := .int (um.1 35)) (C := RX9) (T := TX9) (N := 38) hx hb hts ki_X9_lookAtRound_X9 hown hK hP 0 rfl rfl 35 (by decide) (hts _ k_X9_lookAtRound_1) (fun _ h9 => h9) rfl dX9_lookAtRound_135 ?_
        refine x_icmp_gt (tgt := 174) hx hb dX9_lookAtRound_138 (by decide) h (fun _ h => ?_) (fun _ h => ?_)
        · exact w_X9_lookAtRound_174 C0 l1 l2 l3 l4 um h _ _ ls hP hD hS (lv_sub hl [0, 1, 2, 3, 4] rfl)
        · refine lv_iload_n hx hb dX9_lookAtRound_141 rfl (lv_at hl 2 rfl) ?_
          refine lv_aload_n hx hb dX9_lookAtRound_142 rfl (lv_at hl 0 rfl) ?_
          refine va_get (D := D) (ci := 8) (v := .int (um.1 35)) (C := RX9) (T := TX9) (N := 38) hx hb hts ki_X9_lookAtRound_X9 hown hK hP 0 rfl rfl 35 (by decide) (hts _ k_X9_lookAtRound_1) (fun _ h9 => h9) rfl dX9_lookAtRound_143 ?_
          refine x_icmp_ne (tgt := 178) hx hb dX9_lookAtRound_146 (by decide) h (fun _ h => ?_) (fun _ h => ?_)
          · refine lv_iload_n hx hb dX9_lookAtRound_149 rfl (lv_at hl 3 rfl) ?_
            refine lv_aload_n hx hb dX9_lookAtRound_150 rfl (lv_at hl 0 rfl) ?_
            refine va_get (D := D) (ci := 8) (v := .int (um.1 36)) (C := RX9) (T := TX9) (N := 38) hx hb hts ki_X9_lookAtRound_X9 hown hK hP 0 rfl rfl 36 (by decide) (hts _ k_X9_lookAtRound_2) (fun _ h9 => h9) rfl dX9_lookAtRound_151 ?_
            refine x_icmp_lt (tgt := 174) hx hb dX9_lookAtRound_154 (by decide) h (fun _ h => ?_) (fun _ h => ?_)
            · exact w_X9_lookAtRound_174 C0 l1 l2 l3 l4 um h _ _ ls hP hD hS (lv_sub hl [0, 1, 2, 3, 4] rfl)
            · refine lv_iload_n hx hb dX9_lookAtRound_157 rfl (lv_at hl 3 rfl) ?_
              refine lv_aload_n hx hb dX9_lookAtRound_158 rfl (lv_at hl 0 rfl) ?_
              refine va_get (D := D) (ci := 8) (v := .int (um.1 36)) (C := RX9) (T := TX9) (N := 38) hx hb hts ki_X9_lookAtRound_X9 hown hK hP 0 rfl rfl 36 (by decide) (hts _ k_X9_lookAtRound_2) (fun _ h9 => h9) rfl dX9_lookAtRound_159 ?_
              refine x_icmp_ne (tgt := 178) hx hb dX9_lookAtRound_162 (by decide) h (fun _ h => ?_) (fun _ h => ?_)
              · refine lv_iload hx hb dX9_lookAtRound_165 (lv_at hl 4 rfl) ?_
                refine lv_aload_n hx hb dX9_lookAtRound_167 rfl (lv_at hl 0 rfl) ?_
                refine va_get (D := D) (ci := 8) (v := .int (um.1 37)) (C := RX9) (T := TX9) (N := 38) hx hb hts ki_X9_lookAtRound_X9 hown hK hP 0 rfl rfl 37 (by decide) (hts _ k_X9_lookAtRound_3) (fun _ h9 => h9) rfl dX9_lookAtRound_168 ?_
                refine x_icmp_ge (tgt := 178) hx hb dX9_lookAtRound_171 (by decide) h (fun _ h => ?_) (fun _ h => ?_)
                · exact w_X9_lookAtRound_178 C0 l1 l2 l3 l4 um h _ _ ls hP hD hS (lv_sub hl [0, 1, 2, 3, 4] rfl)
                · exact w_X9_lookAtRound_174 C0 l1 l2 l3 l4 um h _ _ ls hP hD hS (lv_sub hl [0, 1, 2, 3, 4] rfl)
              · exact w_X9_lookAtRound_178 C0 l1 l2 l3 l4 um h _ _ ls hP hD hS (lv_sub hl [0, 1, 2, 3, 4] rfl)
          · exact w_X9_lookAtRound_178 C0 l1 l2 l3 l4 um h _ _ ls hP hD hS (lv_sub hl [0, 1, 2, 3, 4] rfl)
    · refine lv_aload_n hx hb dX9_lookAtRound_17 rfl (lv_at hl 0 rfl) ?_
      refine va_get (D := D) (ci := 8) (v := .ref (g 932)) (C := RX9) (T := TX9) (N := 38) hx hb hts ki_X9_lookAtRound_X9 hown hK hP 0 rfl rfl 32 (by decide) (hts _ k_X9_lookAtRound_4) (fun _ h9 => h9) rfl dX9_lookAtRound_18 ?_
      refine lv_iload hx hb dX9_lookAtRound_21 (lv_at hl 5 rfl) ?_
      refine x_iald hx hb hK hP 24 rfl rfl h dX9_lookAtRound_23 (fun v1 h => ?_)
      refine lv_iconst (v := -1) hx hb dX9_lookAtRound_24 (by decide) ?_
      refine x_icmp_eq (tgt := 119) hx hb dX9_lookAtRound_25 (by decide) h (fun _ h => ?_) (fun _ h => ?_)
      · exact w_X9_lookAtRound_119 C0 ih l1 l2 l3 l4 l5 um h _ _ ls hP hD hS (lv_sub hl [0, 1, 2, 3, 4, 5] rfl)
      · refine lv_iload_n hx hb dX9_lookAtRound_28 rfl (lv_at hl 2 rfl) ?_
        refine lv_aload_n hx hb dX9_lookAtRound_29 rfl (lv_at hl 0 rfl) ?_
        refine va_get (D := D) (ci := 8) (v := .ref (g 928)) (C := RX9) (T := TX9) (N := 38) hx hb hts ki_X9_lookAtRound_X9 hown hK hP 0 rfl rfl 28 (by decide) (hts _ k_X9_lookAtRound_5) (fun _ h9 => h9) rfl dX9_lookAtRound_30 ?_
        refine lv_iload hx hb dX9_lookAtRound_33 (lv_at hl 5 rfl) ?_
        refine x_iald hx hb hK hP 21 rfl rfl h dX9_lookAtRound_35 (fun v2 h => ?_)
        refine lv_iadd hx hb dX9_lookAtRound_36 ?_
        refine x_nm h (fun v3 h => ?_)
        refine lv_istore_n (lv' := [(2, .int v3), (0, .ref (g 999)), (1, .int l1), (3, .int l3), (4, .int l4), (5, .int l5)]) hx hb dX9_lookAtRound_37 rfl hl (by decide) rfl (fun ls hl => ?_)
        refine lv_iload_n hx hb dX9_lookAtRound_38 rfl (lv_at hl 3 rfl) ?_
        refine lv_aload_n hx hb dX9_lookAtRound_39 rfl (lv_at hl 1 rfl) ?_
        refine va_get (D := D) (ci := 8) (v := .ref (g 932)) (C := RX9) (T := TX9) (N := 38) hx hb hts ki_X9_lookAtRound_X9 hown hK hP 0 rfl rfl 32 (by decide) (hts _ k_X9_lookAtRound_4) (fun _ h9 => h9) rfl dX9_lookAtRound_40 ?_
        refine lv_iload hx hb dX9_lookAtRound_43 (lv_at hl 5 rfl) ?_
        refine x_iald hx hb hK hP 24 rfl rfl h dX9_lookAtRound_45 (fun v4 h => ?_)
        refine lv_iload hx hb dX9_lookAtRound_46 (lv_at hl 5 rfl) ?_
        refine x_icmp_le (tgt := 72) hx hb dX9_lookAtRound_48 (by decide) h (fun _ h => ?_) (fun _ h => ?_)
        · refine lv_iconst (v := 0) hx hb dX9_lookAtRound_72 (by decide) ?_
          exact w_X9_lookAtRound_73 C0 ih l1 v3 l4 l5 (0 : Int32) l3 um h _ _ ls hP hD hS (lv_sub hl [1, 2, 0, 4, 5] rfl)
        · refine lv_aload_n hx hb dX9_lookAtRound_51 rfl (lv_at hl 1 rfl) ?_
          refine va_get (D := D) (ci := 8) (v := .ref (g 929)) (C := RX9) (T := TX9) (N := 38) hx hb hts ki_X9_lookAtRound_X9 hown hK hP 0 rfl rfl 29 (by decide) (hts _ k_X9_lookAtRound_6) (fun _ h9 => h9) rfl dX9_lookAtRound_52 ?_
          refine lv_bipush (v := 8) hx hb dX9_lookAtRound_55 (by decide) ?_
          refine lv_iload hx hb dX9_lookAtRound_57 (lv_at hl 5 rfl) ?_
          refine lv_imul hx hb dX9_lookAtRound_59 ?_
          refine lv_aload_n hx hb dX9_lookAtRound_60 rfl (lv_at hl 1 rfl) ?_
          refine va_get (D := D) (ci := 8) (v := .ref (g 932)) (C := RX9) (T := TX9) (N := 38) hx hb hts ki_X9_lookAtRound_X9 hown hK hP 0 rfl rfl 32 (by decide) (hts _ k_X9_lookAtRound_4) (fun _ h9 => h9) rfl dX9_lookAtRound_61 ?_
          refine lv_iload hx hb dX9_lookAtRound_64 (lv_at hl 5 rfl) ?_
          refine x_iald hx hb hK hP 24 rfl rfl h dX9_lookAtRound_66 (fun v5 h => ?_)
          refine lv_iadd hx hb dX9_lookAtRound_67 ?_
          refine x_iald hx hb hK hP 22 rfl rfl h dX9_lookAtRound_68 (fun v6 h => ?_)
          refine lv_goto (tgt := 73) hx hb dX9_lookAtRound_69 (by decide) ?_
          exact w_X9_lookAtRound_73 C0 ih l1 v3 l4 l5 v6 l3 um h _ _ ls hP hD hS (lv_sub hl [1, 2, 0, 4, 5] rfl)
set_option maxHeartbeats 4000000 in
set_option maxRecDepth 100000 in
theorem c_X9_lookAtRound (l : Launch) (D : va_G) (cy : Nat → ClassId) (g : Nat → Nat) (um : St) (p0 : Int32) (um' : St) (h : f_X9_lookAtRound p0 um = some um') : CtV l yX9_lookAtRound wsX9_lookAtRound (rmH 1) [.ref (g 999), .int p0] D cy (wX9 cy g um) (wX9 cy g um') := by
  refine ct_enter (D := D) (cy := cy) (cc := cX9_lookAtRound) (maxL := 7) (ret := none) (w := wX9 cy g um) (Qc := fun sz => va_Qv (fun (_ : Unit) => True) (Bw D cy (va_A (wX9 cy g um) sz) (wX9 cy g um')) (va_A (wX9 cy g um) sz)) (by decide) rfl (Nat.le_of_ble_eq_true rfl) ?_
  intro p e s m below meth c A C0 hAe ls hl hP hD hS
  have e1 : MQ below ((fun sz => va_Qv (fun (_ : Unit) => True) (Bw D cy (va_A (wX9 cy g um) sz) (wX9 cy g um')) (va_A (wX9 cy g um) sz)) s.heap.size) [.ref (g 999), .int p0].toArray s 0 0 A = QV below [.ref (g 999), .int p0].toArray s A D cy (wX9 cy g um') := by rw [hAe]; rfl
  rw [e1]
  clear e1 hAe
  obtain ⟨hx, hb, hr, hml, hown, hts, hlocks, hK, hA⟩ := id C0
  have hl : lv_has ls 7 [(0, .ref (g 999)), (1, .int p0)] := hl
  rw [f_X9_lookAtRound] at h
  refine lv_iconst (v := 0) hx hb dX9_lookAtRound_0 (by decide) ?_
  refine lv_istore_n (lv' := [(2, .int (0 : Int32)), (0, .ref (g 999)), (1, .int p0)]) hx hb dX9_lookAtRound_1 rfl hl (by decide) rfl (fun ls hl => ?_)
  refine lv_iconst (v := 0) hx hb dX9_lookAtRound_2 (by decide) ?_
  refine lv_istore_n (lv' := [(3, .int (0 : Int32)), (2, .int (0 : Int32)), (0, .ref (g 999)), (1, .int p0)]) hx hb dX9_lookAtRound_3 rfl hl (by decide) rfl (fun ls hl => ?_)
  refine lv_iconst (v := 0) hx hb dX9_lookAtRound_4 (by decide) ?_
  refine lv_istore (lv' := [(4, .int (0 : Int32)), (3, .int (0 : Int32)), (2, .int (0 : Int32)), (0, .ref (g 999)), (1, .int p0)]) hx hb dX9_lookAtRound_5 hl (by decide) rfl (fun ls hl => ?_)
  refine lv_iconst (v := 0) hx hb dX9_lookAtRound_7 (by decide) ?_
  refine lv_istore (lv' := [(5, .int (0 : Int32)), (4, .int (0 : Int32)), (3, .int (0 : Int32)), (2, .int (0 : Int32)), (0, .ref (g 999)), (1, .int p0)]) hx hb dX9_lookAtRound_8 hl (by decide) rfl (fun ls hl => ?_)
  exact w_X9_lookAtRound_10 C0 FU p0 (0 : Int32) (0 : Int32) (0 : Int32) (0 : Int32) um h _ _ ls hP hD hS (lv_sub hl [4, 5, 3, 2, 1, 0] rfl)
theorem k_X9_findRound_0 : Cond.fieldLink RX9 73 "FeatherHallModel" "courts" "I" ∈ wsX9_findRound := (List.mem_cons_of_mem _ (List.mem_append_left _ (List.mem_append_left _ (List.mem_of_getElem? (i := 0) rfl))))
theorem ki_X9_findRound_X9 : ∀ w ∈ u_ws RX9 TX9 38, w ∈ wsX9_findRound := fun _ hh => (List.mem_cons_of_mem _ (List.mem_append_right _ hh))
theorem k_X9_findRound_1 : Cond.fieldLink RX9 206 "FeatherHallModel" "bestGames" "I" ∈ wsX9_findRound := (List.mem_cons_of_mem _ (List.mem_append_left _ (List.mem_append_left _ (List.mem_of_getElem? (i := 1) rfl))))
theorem k_X9_findRound_2 : Cond.fieldLink RX9 88 "FeatherHallModel" "option" "[I" ∈ wsX9_findRound := (List.mem_cons_of_mem _ (List.mem_append_left _ (List.mem_append_left _ (List.mem_of_getElem? (i := 2) rfl))))
theorem k_X9_findRound_3 : Cond.fieldLink RX9 91 "FeatherHallModel" "mate" "[I" ∈ wsX9_findRound := (List.mem_cons_of_mem _ (List.mem_append_left _ (List.mem_append_left _ (List.mem_of_getElem? (i := 3) rfl))))
theorem k_X9_findRound_4 : Cond.fieldLink RX9 76 "FeatherHallModel" "isThere" "[Z" ∈ wsX9_findRound := (List.mem_cons_of_mem _ (List.mem_append_left _ (List.mem_append_left _ (List.mem_of_getElem? (i := 4) rfl))))
theorem hd_X9_findRound : yX9_findRound.cls = RX9 ∧ yX9_findRound.cls ≠ "java/lang/invoke/MethodHandle" ∧ yX9_findRound.cls ≠ "java/lang/invoke/VarHandle" ∧ (parseMethodDescriptor yX9_findRound.desc).map (fun d => d.parameters.length) = some 0 := by decide +kernel
set_option maxHeartbeats 4000000 in
set_option maxRecDepth 100000 in
theorem w_X9_findRound_220 {p : Program} {l : Launch} {e : Env} {s : State} {m : MethodId} {below : List Frame} {meth : Method} {c : Code} {args : Array Value} {D : va_G} {cy : Nat → ClassId} {g : Nat → Nat} {A : Nat → Prop} {um' : St} (C0 : Cx p s m meth c args cX9_findRound 7 none wsX9_findRound RX9 D cy A) {k_65 : Int32 → Int32 → Int32 → St → Option (St)} (hk_65 : ∀ (l1 : Int32) (l2 : Int32) (l3 : Int32) (um : St), k_65 l1 l2 l3 um = some um' → ∀ (H : Heap) (locs : List Loc) (ls : Array Slot), va_P D vwCl (wX9 cy g um) H → va_D A (wX9 cy g um) → va_S A s.heap H locs → lv_has ls 7 [(0, .ref (g 999)), (1, .int l1), (2, .int l2), (3, .int l3)] → W p l e (rmH 2) s m args below meth c H locs 0 0 (QV below args s A D cy (wX9 cy g um')) (F0 m 65 ls [])) {k_178 : Int32 → Int32 → Int32 → Int32 → Int32 → St → Option (St)} (hk_178 : ∀ (l1 : Int32) (l2 : Int32) (l3 : Int32) (l5 : Int32) (l6 : Int32) (um : St), k_178 l1 l2 l3 l5 l6 um = some um' → ∀ (H : Heap) (locs : List Loc) (ls : Array Slot), va_P D vwCl (wX9 cy g um) H → va_D A (wX9 cy g um) → va_S A s.heap H locs → lv_has ls 7 [(0, .ref (g 999)), (1, .int l1), (2, .int l2), (3, .int l3), (5, .int l5), (6, .int l6)] → W p l e (rmH 2) s m args below meth c H locs 0 0 (QV below args s A D cy (wX9 cy g um')) (F0 m 178 ls [])) : ∀ (l1 : Int32) (l2 : Int32) (l3 : Int32) (l5 : Int32) (l6 : Int32) (um : St), f_X9_findRound_220 k_65 k_178 l1 l2 l3 l5 l6 um = some um' → ∀ (H : Heap) (locs : List Loc) (ls : Array Slot), va_P D vwCl (wX9 cy g um) H → va_D A (wX9 cy g um) → va_S A s.heap H locs → lv_has ls 7 [(0, .ref (g 999)), (1, .int l1), (2, .int l2), (3, .int l3), (5, .int l5), (6, .int l6)] → W p l e (rmH 2) s m args below meth c H locs 0 0 (QV below args s A D cy (wX9 cy g um')) (F0 m 220 ls []) := by
  obtain ⟨hx, hb, hr, hml, hown, hts, hlocks, hK, hA⟩ := id C0
  intro l1 l2 l3 l5 l6 um h H locs ls hP hD hS hl
  rw [f_X9_findRound_220] at h
  obtain ⟨v25, ev25, h⟩ := nm_ex h
  refine lv_iinc (v := v25) (lv' := [(6, .int v25), (0, .ref (g 999)), (1, .int l1), (2, .int l2), (3, .int l3), (5, .int l5)]) hx hb dX9_findRound_220 hl (k := 5) rfl (by rw [ev25]; rfl) (by decide) rfl (fun ls hl => ?_)
  clear ev25
  refine lv_goto (tgt := 178) hx hb dX9_findRound_223 (by decide) ?_
  exact hk_178 l1 l2 l3 l5 v25 um h _ _ ls hP hD hS (lv_sub hl [1, 2, 3, 4, 5, 0] rfl)
set_option maxHeartbeats 4000000 in
set_option maxRecDepth 100000 in
theorem w_X9_findRound_315 {p : Program} {l : Launch} {e : Env} {s : State} {m : MethodId} {below : List Frame} {meth : Method} {c : Code} {args : Array Value} {D : va_G} {cy : Nat → ClassId} {g : Nat → Nat} {A : Nat → Prop} {um' : St} (C0 : Cx p s m meth c args cX9_findRound 7 none wsX9_findRound RX9 D cy A) {k_65 : Int32 → Int32 → Int32 → St → Option (St)} (hk_65 : ∀ (l1 : Int32) (l2 : Int32) (l3 : Int32) (um : St), k_65 l1 l2 l3 um = some um' → ∀ (H : Heap) (locs : List Loc) (ls : Array Slot), va_P D vwCl (wX9 cy g um) H → va_D A (wX9 cy g um) → va_S A s.heap H locs → lv_has ls 7 [(0, .ref (g 999)), (1, .int l1), (2, .int l2), (3, .int l3)] → W p l e (rmH 2) s m args below meth c H locs 0 0 (QV below args s A D cy (wX9 cy g um')) (F0 m 65 ls [])) : ∀ (l1 : Int32) (l2 : Int32) (s0 : Int32) (s1 : Int32) (um : St), f_X9_findRound_315 k_65 l1 l2 s0 s1 um = some um' → ∀ (H : Heap) (locs : List Loc) (ls : Array Slot), va_P D vwCl (wX9 cy g um) H → va_D A (wX9 cy g um) → va_S A s.heap H locs → lv_has ls 7 [(0, .ref (g 999)), (1, .int l1), (2, .int l2)] → W p l e (rmH 2) s m args below meth c H locs 0 0 (QV below args s A D cy (wX9 cy g um')) (F0 m 315 ls [.int s0, .int s1]) := by
  obtain ⟨hx, hb, hr, hml, hown, hts, hlocks, hK, hA⟩ := id C0
  intro l1 l2 s0 s1 um h H locs ls hP hD hS hl
  rw [f_X9_findRound_315] at h
  refine lv_isub hx hb dX9_findRound_315 ?_
  refine x_nm h (fun v17 h => ?_)
  refine lv_istore_n (lv' := [(3, .int v17), (0, .ref (g 999)), (1, .int l1), (2, .int l2)]) hx hb dX9_findRound_316 rfl hl (by decide) rfl (fun ls hl => ?_)
  refine lv_goto (tgt := 65) hx hb dX9_findRound_317 (by decide) ?_
  exact hk_65 l1 l2 v17 um h _ _ ls hP hD hS (lv_sub hl [1, 2, 3, 0] rfl)
set_option maxHeartbeats 4000000 in
set_option maxRecDepth 100000 in
theorem w_X9_findRound_304 {p : Program} {l : Launch} {e : Env} {s : State} {m : MethodId} {below : List Frame} {meth : Method} {c : Code} {args : Array Value} {D : va_G} {cy : Nat → ClassId} {g : Nat → Nat} {A : Nat → Prop} {um' : St} (C0 : Cx p s m meth c args cX9_findRound 7 none wsX9_findRound RX9 D cy A) {k_65 : Int32 → Int32 → Int32 → St → Option (St)} (hk_65 : ∀ (l1 : Int32) (l2 : Int32) (l3 : Int32) (um : St), k_65 l1 l2 l3 um = some um' → ∀ (H : Heap) (locs : List Loc) (ls : Array Slot), va_P D vwCl (wX9 cy g um) H → va_D A (wX9 cy g um) → va_S A s.heap H locs → lv_has ls 7 [(0, .ref (g 999)), (1, .int l1), (2, .int l2), (3, .int l3)] → W p l e (rmH 2) s m args below meth c H locs 0 0 (QV below args s A D cy (wX9 cy g um')) (F0 m 65 ls [])) : ∀ (l1 : Int32) (l2 : Int32) (l3 : Int32) (l4 : Int32) (um : St), f_X9_findRound_304 k_65 l1 l2 l3 l4 um = some um' → ∀ (H : Heap) (locs : List Loc) (ls : Array Slot), va_P D vwCl (wX9 cy g um) H → va_D A (wX9 cy g um) → va_S A s.heap H locs → lv_has ls 7 [(0, .ref (g 999)), (1, .int l1), (2, .int l2), (3, .int l3), (4, .int l4)] → W p l e (rmH 2) s m args below meth c H locs 0 0 (QV below args s A D cy (wX9 cy g um')) (F0 m 304 ls []) := by
  obtain ⟨hx, hb, hr, hml, hown, hts, hlocks, hK, hA⟩ := id C0
  intro l1 l2 l3 l4 um h H locs ls hP hD hS hl
  rw [f_X9_findRound_304] at h
  refine lv_iload_n hx hb dX9_findRound_304 rfl (lv_at hl 3 rfl) ?_
  refine lv_iload hx hb dX9_findRound_305 (lv_at hl 4 rfl) ?_
  refine x_if_eq (tgt := 314) hx hb dX9_findRound_307 (by decide) h (fun _ h => ?_) (fun _ h => ?_)
  · refine lv_iconst (v := 0) hx hb dX9_findRound_314 (by decide) ?_
    exact w_X9_findRound_315 C0 hk_65 l1 l2 (0 : Int32) l3 um h _ _ ls hP hD hS (lv_sub hl [0, 1, 2] rfl)
  · refine lv_iconst (v := 1) hx hb dX9_findRound_310 (by decide) ?_
    refine lv_goto (tgt := 315) hx hb dX9_findRound_311 (by decide) ?_
    exact w_X9_findRound_315 C0 hk_65 l1 l2 (1 : Int32) l3 um h _ _ ls hP hD hS (lv_sub hl [0, 1, 2] rfl)
set_option maxHeartbeats 4000000 in
set_option maxRecDepth 100000 in
theorem w_X9_findRound_301 {p : Program} {l : Launch} {e : Env} {s : State} {m : MethodId} {below : List Frame} {meth : Method} {c : Code} {args : Array Value} {D : va_G} {cy : Nat → ClassId} {g : Nat → Nat} {A : Nat → Prop} {um' : St} (C0 : Cx p s m meth c args cX9_findRound 7 none wsX9_findRound RX9 D cy A) {k_65 : Int32 → Int32 → Int32 → St → Option (St)} (hk_65 : ∀ (l1 : Int32) (l2 : Int32) (l3 : Int32) (um : St), k_65 l1 l2 l3 um = some um' → ∀ (H : Heap) (locs : List Loc) (ls : Array Slot), va_P D vwCl (wX9 cy g um) H → va_D A (wX9 cy g um) → va_S A s.heap H locs → lv_has ls 7 [(0, .ref (g 999)), (1, .int l1), (2, .int l2), (3, .int l3)] → W p l e (rmH 2) s m args below meth c H locs 0 0 (QV below args s A D cy (wX9 cy g um')) (F0 m 65 ls [])) : ∀ (l1 : Int32) (l2 : Int32) (l3 : Int32) (l4 : Int32) (um : St), f_X9_findRound_301 k_65 l1 l2 l3 l4 um = some um' → ∀ (H : Heap) (locs : List Loc) (ls : Array Slot), va_P D vwCl (wX9 cy g um) H → va_D A (wX9 cy g um) → va_S A s.heap H locs → lv_has ls 7 [(0, .ref (g 999)), (1, .int l1), (2, .int l2), (3, .int l3), (4, .int l4)] → W p l e (rmH 2) s m args below meth c H locs 0 0 (QV below args s A D cy (wX9 cy g um')) (F0 m 301 ls []) := by
  obtain ⟨hx, hb, hr, hml, hown, hts, hlocks, hK, hA⟩ := id C0
  intro l1 l2 l3 l4 um h H locs ls hP hD hS hl
  rw [f_X9_findRound_301] at h
  obtain ⟨v26, ev26, h⟩ := nm_ex h
  refine lv_iinc (v := v26) (lv' := [(3, .int v26), (0, .ref (g 999)), (1, .int l1), (2, .int l2), (4, .int l4)]) hx hb dX9_findRound_301 hl (k := 3) rfl (by rw [ev26]; rfl) (by decide) rfl (fun ls hl => ?_)
  clear ev26
  exact w_X9_findRound_304 C0 hk_65 l1 l2 v26 l4 um h _ _ ls hP hD hS (lv_sub hl [1, 2, 3, 0, 4] rfl)
set_option maxHeartbeats 4000000 in
set_option maxRecDepth 100000 in
theorem w_X9_findRound_269 {p : Program} {l : Launch} {e : Env} {s : State} {m : MethodId} {below : List Frame} {meth : Method} {c : Code} {args : Array Value} {D : va_G} {cy : Nat → ClassId} {g : Nat → Nat} {A : Nat → Prop} {um' : St} (C0 : Cx p s m meth c args cX9_findRound 7 none wsX9_findRound RX9 D cy A) {k_65 : Int32 → Int32 → Int32 → St → Option (St)} (hk_65 : ∀ (l1 : Int32) (l2 : Int32) (l3 : Int32) (um : St), k_65 l1 l2 l3 um = some um' → ∀ (H : Heap) (locs : List Loc) (ls : Array Slot), va_P D vwCl (wX9 cy g um) H → va_D A (wX9 cy g um) → va_S A s.heap H locs → lv_has ls 7 [(0, .ref (g 999)), (1, .int l1), (2, .int l2), (3, .int l3)] → W p l e (rmH 2) s m args below meth c H locs 0 0 (QV below args s A D cy (wX9 cy g um')) (F0 m 65 ls [])) : ∀ (l1 : Int32) (l2 : Int32) (l3 : Int32) (l4 : Int32) (l6 : Int32) (s0 : Int32) (s1 : Int32) (um : St), f_X9_findRound_269 k_65 l1 l2 l3 l4 l6 s0 s1 um = some um' → ∀ (H : Heap) (locs : List Loc) (ls : Array Slot), va_P D vwCl (wX9 cy g um) H → va_D A (wX9 cy g um) → va_S A s.heap H locs → lv_has ls 7 [(0, .ref (g 999)), (1, .int l1), (2, .int l2), (3, .int l3), (4, .int l4), (6, .int l6)] → W p l e (rmH 2) s m args below meth c H locs 0 0 (QV below args s A D cy (wX9 cy g um')) (F0 m 269 ls [.int s0, .int s1, .ref (g 931)]) := by
  obtain ⟨hx, hb, hr, hml, hown, hts, hlocks, hK, hA⟩ := id C0
  intro l1 l2 l3 l4 l6 s0 s1 um h H locs ls hP hD hS hl
  rw [f_X9_findRound_269] at h
  refine x_iast (Wd := (fun uz => wX9 cy g uz)) (u := um) (k := 31) hx hb hK hP hD hS 23 rfl rfl (fun _ => rfl) h dX9_findRound_269 (fun um21 H locs h hP hD hS => ?_)
  refine lv_iload hx hb dX9_findRound_270 (lv_at hl 4 rfl) ?_
  refine x_if_ne (tgt := 304) hx hb dX9_findRound_272 (by decide) h (fun _ h => ?_) (fun _ h => ?_)
  · refine lv_iload hx hb dX9_findRound_275 (lv_at hl 5 rfl) ?_
    refine lv_bipush (v := 8) hx hb dX9_findRound_277 (by decide) ?_
    refine x_icmp_ge (tgt := 301) hx hb dX9_findRound_279 (by decide) h (fun _ h => ?_) (fun _ h => ?_)
    · exact w_X9_findRound_301 C0 hk_65 l1 l2 l3 l4 um21 h _ _ ls hP hD hS (lv_sub hl [0, 1, 2, 3, 4] rfl)
    · refine lv_aload_n hx hb dX9_findRound_282 rfl (lv_at hl 0 rfl) ?_
      refine va_get (D := D) (ci := 8) (v := .ref (g 932)) (C := RX9) (T := TX9) (N := 38) hx hb hts ki_X9_findRound_X9 hown hK hP 0 rfl rfl 32 (by decide) (hts _ k_X9_findRound_3) (fun _ h9 => h9) rfl dX9_findRound_283 ?_
      refine lv_iload_n hx hb dX9_findRound_286 rfl (lv_at hl 3 rfl) ?_
      refine lv_iload hx hb dX9_findRound_287 (lv_at hl 5 rfl) ?_
      refine x_iast (Wd := (fun uz => wX9 cy g uz)) (u := um21) (k := 32) hx hb hK hP hD hS 24 rfl rfl (fun _ => rfl) h dX9_findRound_289 (fun um22 H locs h hP hD hS => ?_)
      refine lv_aload_n hx hb dX9_findRound_290 rfl (lv_at hl 0 rfl) ?_
      refine va_get (D := D) (ci := 8) (v := .ref (g 932)) (C := RX9) (T := TX9) (N := 38) hx hb hts ki_X9_findRound_X9 hown hK hP 0 rfl rfl 32 (by decide) (hts _ k_X9_findRound_3) (fun _ h9 => h9) rfl dX9_findRound_291 ?_
      refine lv_iload hx hb dX9_findRound_294 (lv_at hl 5 rfl) ?_
      refine lv_iload_n hx hb dX9_findRound_296 rfl (lv_at hl 3 rfl) ?_
      refine x_iast (Wd := (fun uz => wX9 cy g uz)) (u := um22) (k := 32) hx hb hK hP hD hS 24 rfl rfl (fun _ => rfl) h dX9_findRound_297 (fun um23 H locs h hP hD hS => ?_)
      obtain ⟨v24, ev24, h⟩ := nm_ex h
      refine lv_iinc (v := v24) (lv' := [(2, .int v24), (0, .ref (g 999)), (1, .int l1), (3, .int l3), (4, .int l4), (6, .int l6)]) hx hb dX9_findRound_298 hl (k := 2) rfl (by rw [ev24]; rfl) (by decide) rfl (fun ls hl => ?_)
      clear ev24
      exact w_X9_findRound_301 C0 hk_65 l1 v24 l3 l4 um23 h _ _ ls hP hD hS (lv_sub hl [1, 2, 0, 3, 4] rfl)
  · exact w_X9_findRound_304 C0 hk_65 l1 l2 l3 l4 um21 h _ _ ls hP hD hS (lv_sub hl [0, 1, 2, 3, 4] rfl)
set_option maxHeartbeats 4000000 in
set_option maxRecDepth 100000 in
theorem w_X9_findRound_251 {p : Program} {l : Launch} {e : Env} {s : State} {m : MethodId} {below : List Frame} {meth : Method} {c : Code} {args : Array Value} {D : va_G} {cy : Nat → ClassId} {g : Nat → Nat} {A : Nat → Prop} {um' : St} (C0 : Cx p s m meth c args cX9_findRound 7 none wsX9_findRound RX9 D cy A) {k_65 : Int32 → Int32 → Int32 → St → Option (St)} (hk_65 : ∀ (l1 : Int32) (l2 : Int32) (l3 : Int32) (um : St), k_65 l1 l2 l3 um = some um' → ∀ (H : Heap) (locs : List Loc) (ls : Array Slot), va_P D vwCl (wX9 cy g um) H → va_D A (wX9 cy g um) → va_S A s.heap H locs → lv_has ls 7 [(0, .ref (g 999)), (1, .int l1), (2, .int l2), (3, .int l3)] → W p l e (rmH 2) s m args below meth c H locs 0 0 (QV below args s A D cy (wX9 cy g um')) (F0 m 65 ls [])) : ∀ (l1 : Int32) (l2 : Int32) (l3 : Int32) (l6 : Int32) (s0 : Int32) (um : St), f_X9_findRound_251 k_65 l1 l2 l3 l6 s0 um = some um' → ∀ (H : Heap) (locs : List Loc) (ls : Array Slot), va_P D vwCl (wX9 cy g um) H → va_D A (wX9 cy g um) → va_S A s.heap H locs → lv_has ls 7 [(0, .ref (g 999)), (1, .int l1), (2, .int l2), (3, .int l3), (6, .int l6)] → W p l e (rmH 2) s m args below meth c H locs 0 0 (QV below args s A D cy (wX9 cy g um')) (F0 m 251 ls [.int s0]) := by
  obtain ⟨hx, hb, hr, hml, hown, hts, hlocks, hK, hA⟩ := id C0
  intro l1 l2 l3 l6 s0 um h H locs ls hP hD hS hl
  rw [f_X9_findRound_251] at h
  refine lv_istore (lv' := [(4, .int s0), (0, .ref (g 999)), (1, .int l1), (2, .int l2), (3, .int l3), (6, .int l6)]) hx hb dX9_findRound_251 hl (by decide) rfl (fun ls hl => ?_)
  refine lv_aload_n hx hb dX9_findRound_253 rfl (lv_at hl 1 rfl) ?_
  refine va_get (D := D) (ci := 8) (v := .ref (g 931)) (C := RX9) (T := TX9) (N := 38) hx hb hts ki_X9_findRound_X9 hown hK hP 0 rfl rfl 31 (by decide) (hts _ k_X9_findRound_2) (fun _ h9 => h9) rfl dX9_findRound_254 ?_
  refine lv_iload_n hx hb dX9_findRound_257 rfl (lv_at hl 4 rfl) ?_
  refine lv_iload hx hb dX9_findRound_258 (lv_at hl 0 rfl) ?_
  refine x_if_eq (tgt := 267) hx hb dX9_findRound_260 (by decide) h (fun _ h => ?_) (fun _ h => ?_)
  · refine lv_iload hx hb dX9_findRound_267 (lv_at hl 5 rfl) ?_
    exact w_X9_findRound_269 C0 hk_65 l1 l2 l3 s0 l6 l6 l3 um h _ _ ls hP hD hS (lv_sub hl [1, 2, 3, 4, 0, 5] rfl)
  · refine lv_iconst (v := -1) hx hb dX9_findRound_263 (by decide) ?_
    refine lv_goto (tgt := 269) hx hb dX9_findRound_264 (by decide) ?_
    exact w_X9_findRound_269 C0 hk_65 l1 l2 l3 s0 l6 (-1 : Int32) l3 um h _ _ ls hP hD hS (lv_sub hl [1, 2, 3, 4, 0, 5] rfl)
set_option maxHeartbeats 4000000 in
set_option maxRecDepth 100000 in
theorem w_X9_findRound_246 {p : Program} {l : Launch} {e : Env} {s : State} {m : MethodId} {below : List Frame} {meth : Method} {c : Code} {args : Array Value} {D : va_G} {cy : Nat → ClassId} {g : Nat → Nat} {A : Nat → Prop} {um' : St} (C0 : Cx p s m meth c args cX9_findRound 7 none wsX9_findRound RX9 D cy A) {k_65 : Int32 → Int32 → Int32 → St → Option (St)} (hk_65 : ∀ (l1 : Int32) (l2 : Int32) (l3 : Int32) (um : St), k_65 l1 l2 l3 um = some um' → ∀ (H : Heap) (locs : List Loc) (ls : Array Slot), va_P D vwCl (wX9 cy g um) H → va_D A (wX9 cy g um) → va_S A s.heap H locs → lv_has ls 7 [(0, .ref (g 999)), (1, .int l1), (2, .int l2), (3, .int l3)] → W p l e (rmH 2) s m args below meth c H locs 0 0 (QV below args s A D cy (wX9 cy g um')) (F0 m 65 ls [])) : ∀ (l1 : Int32) (l2 : Int32) (l3 : Int32) (l6 : Int32) (um : St), f_X9_findRound_246 k_65 l1 l2 l3 l6 um = some um' → ∀ (H : Heap) (locs : List Loc) (ls : Array Slot), va_P D vwCl (wX9 cy g um) H → va_D A (wX9 cy g um) → va_S A s.heap H locs → lv_has ls 7 [(0, .ref (g 999)), (1, .int l1), (2, .int l2), (3, .int l3), (6, .int l6)] → W p l e (rmH 2) s m args below meth c H locs 0 0 (QV below args s A D cy (wX9 cy g um')) (F0 m 246 ls []) := by
  obtain ⟨hx, hb, hr, hml, hown, hts, hlocks, hK, hA⟩ := id C0
  intro l1 l2 l3 l6 um h H locs ls hP hD hS hl
  rw [f_X9_findRound_246] at h
  refine lv_iconst (v := 1) hx hb dX9_findRound_246 (by decide) ?_
  refine lv_goto (tgt := 251) hx hb dX9_findRound_247 (by decide) ?_
  exact w_X9_findRound_251 C0 hk_65 l1 l2 l3 l6 (1 : Int32) um h _ _ ls hP hD hS (lv_sub hl [0, 1, 2, 3, 4] rfl)
set_option maxHeartbeats 4000000 in
set_option maxRecDepth 100000 in
theorem w_X9_findRound_250 {p : Program} {l : Launch} {e : Env} {s : State} {m : MethodId} {below : List Frame} {meth : Method} {c : Code} {args : Array Value} {D : va_G} {cy : Nat → ClassId} {g : Nat → Nat} {A : Nat → Prop} {um' : St} (C0 : Cx p s m meth c args cX9_findRound 7 none wsX9_findRound RX9 D cy A) {k_65 : Int32 → Int32 → Int32 → St → Option (St)} (hk_65 : ∀ (l1 : Int32) (l2 : Int32) (l3 : Int32) (um : St), k_65 l1 l2 l3 um = some um' → ∀ (H : Heap) (locs : List Loc) (ls : Array Slot), va_P D vwCl (wX9 cy g um) H → va_D A (wX9 cy g um) → va_S A s.heap H locs → lv_has ls 7 [(0, .ref (g 999)), (1, .int l1), (2, .int l2), (3, .int l3)] → W p l e (rmH 2) s m args below meth c H locs 0 0 (QV below args s A D cy (wX9 cy g um')) (F0 m 65 ls [])) : ∀ (l1 : Int32) (l2 : Int32) (l3 : Int32) (l6 : Int32) (um : St), f_X9_findRound_250 k_65 l1 l2 l3 l6 um = some um' → ∀ (H : Heap) (locs : List Loc) (ls : Array Slot), va_P D vwCl (wX9 cy g um) H → va_D A (wX9 cy g um) → va_S A s.heap H locs → lv_has ls 7 [(0, .ref (g 999)), (1, .int l1), (2, .int l2), (3, .int l3), (6, .int l6)] → W p l e (rmH 2) s m args below meth c H locs 0 0 (QV below args s A D cy (wX9 cy g um')) (F0 m 250 ls []) := by
  obtain ⟨hx, hb, hr, hml, hown, hts, hlocks, hK, hA⟩ := id C0
  intro l1 l2 l3 l6 um h H locs ls hP hD hS hl
  rw [f_X9_findRound_250] at h
  refine lv_iconst (v := 0) hx hb dX9_findRound_250 (by decide) ?_
  exact w_X9_findRound_251 C0 hk_65 l1 l2 l3 l6 (0 : Int32) um h _ _ ls hP hD hS (lv_sub hl [0, 1, 2, 3, 4] rfl)
set_option maxHeartbeats 4000000 in
set_option maxRecDepth 100000 in
theorem w_X9_findRound_226 {p : Program} {l : Launch} {e : Env} {s : State} {m : MethodId} {below : List Frame} {meth : Method} {c : Code} {args : Array Value} {D : va_G} {cy : Nat → ClassId} {g : Nat → Nat} {A : Nat → Prop} {um' : St} (C0 : Cx p s m meth c args cX9_findRound 7 none wsX9_findRound RX9 D cy A) {k_65 : Int32 → Int32 → Int32 → St → Option (St)} (hk_65 : ∀ (l1 : Int32) (l2 : Int32) (l3 : Int32) (um : St), k_65 l1 l2 l3 um = some um' → ∀ (H : Heap) (locs : List Loc) (ls : Array Slot), va_P D vwCl (wX9 cy g um) H → va_D A (wX9 cy g um) → va_S A s.heap H locs → lv_has ls 7 [(0, .ref (g 999)), (1, .int l1), (2, .int l2), (3, .int l3)] → W p l e (rmH 2) s m args below meth c H locs 0 0 (QV below args s A D cy (wX9 cy g um')) (F0 m 65 ls [])) : ∀ (l1 : Int32) (l2 : Int32) (l3 : Int32) (l5 : Int32) (l6 : Int32) (um : St), f_X9_findRound_226 k_65 l1 l2 l3 l5 l6 um = some um' → ∀ (H : Heap) (locs : List Loc) (ls : Array Slot), va_P D vwCl (wX9 cy g um) H → va_D A (wX9 cy g um) → va_S A s.heap H locs → lv_has ls 7 [(0, .ref (g 999)), (1, .int l1), (2, .int l2), (3, .int l3), (5, .int l5), (6, .int l6)] → W p l e (rmH 2) s m args below meth c H locs 0 0 (QV below args s A D cy (wX9 cy g um')) (F0 m 226 ls []) := by
  obtain ⟨hx, hb, hr, hml, hown, hts, hlocks, hK, hA⟩ := id C0
  intro l1 l2 l3 l5 l6 um h H locs ls hP hD hS hl
  rw [f_X9_findRound_226] at h
  refine lv_iload hx hb dX9_findRound_226 (lv_at hl 4 rfl) ?_
  refine lv_bipush (v := 9) hx hb dX9_findRound_228 (by decide) ?_
  refine x_icmp_eq (tgt := 246) hx hb dX9_findRound_230 (by decide) h (fun _ h => ?_) (fun _ h => ?_)
  · exact w_X9_findRound_246 C0 hk_65 l1 l2 l3 l6 um h _ _ ls hP hD hS (lv_sub hl [0, 1, 2, 3, 5] rfl)
  · refine lv_iload hx hb dX9_findRound_233 (lv_at hl 5 rfl) ?_
    refine lv_bipush (v := 8) hx hb dX9_findRound_235 (by decide) ?_
    refine x_icmp_le (tgt := 250) hx hb dX9_findRound_237 (by decide) h (fun _ h => ?_) (fun _ h => ?_)
    · exact w_X9_findRound_250 C0 hk_65 l1 l2 l3 l6 um h _ _ ls hP hD hS (lv_sub hl [0, 1, 2, 3, 5] rfl)
    · refine lv_iload hx hb dX9_findRound_240 (lv_at hl 4 rfl) ?_
      refine lv_iconst (v := -1) hx hb dX9_findRound_242 (by decide) ?_
      refine x_icmp_eq (tgt := 250) hx hb dX9_findRound_243 (by decide) h (fun _ h => ?_) (fun _ h => ?_)
      · exact w_X9_findRound_250 C0 hk_65 l1 l2 l3 l6 um h _ _ ls hP hD hS (lv_sub hl [0, 1, 2, 3, 5] rfl)
      · exact w_X9_findRound_246 C0 hk_65 l1 l2 l3 l6 um h _ _ ls hP hD hS (lv_sub hl [0, 1, 2, 3, 5] rfl)
set_option maxHeartbeats 4000000 in
set_option maxRecDepth 100000 in
theorem w_X9_findRound_178 {p : Program} {l : Launch} {e : Env} {s : State} {m : MethodId} {below : List Frame} {meth : Method} {c : Code} {args : Array Value} {D : va_G} {cy : Nat → ClassId} {g : Nat → Nat} {A : Nat → Prop} {um' : St} (C0 : Cx p s m meth c args cX9_findRound 7 none wsX9_findRound RX9 D cy A) {k_65 : Int32 → Int32 → Int32 → St → Option (St)} (hk_65 : ∀ (l1 : Int32) (l2 : Int32) (l3 : Int32) (um : St), k_65 l1 l2 l3 um = some um' → ∀ (H : Heap) (locs : List Loc) (ls : Array Slot), va_P D vwCl (wX9 cy g um) H → va_D A (wX9 cy g um) → va_S A s.heap H locs → lv_has ls 7 [(0, .ref (g 999)), (1, .int l1), (2, .int l2), (3, .int l3)] → W p l e (rmH 2) s m args below meth c H locs 0 0 (QV below args s A D cy (wX9 cy g um')) (F0 m 65 ls [])) : ∀ (nn : Nat) (l1 : Int32) (l2 : Int32) (l3 : Int32) (l5 : Int32) (l6 : Int32) (um : St), f_X9_findRound_178 k_65 nn l1 l2 l3 l5 l6 um = some um' → ∀ (H : Heap) (locs : List Loc) (ls : Array Slot), va_P D vwCl (wX9 cy g um) H → va_D A (wX9 cy g um) → va_S A s.heap H locs → lv_has ls 7 [(0, .ref (g 999)), (1, .int l1), (2, .int l2), (3, .int l3), (5, .int l5), (6, .int l6)] → W p l e (rmH 2) s m args below meth c H locs 0 0 (QV below args s A D cy (wX9 cy g um')) (F0 m 178 ls []) := by
  obtain ⟨hx, hb, hr, hml, hown, hts, hlocks, hK, hA⟩ := id C0
  intro nn
  induction nn with
  | zero => intro l1 l2 l3 l5 l6 um h; rw [f_X9_findRound_178] at h; cases h
  | succ nn ih =>
    intro l1 l2 l3 l5 l6 um h H locs ls hP hD hS hl
    rw [f_X9_findRound_178] at h
    refine lv_iload hx hb dX9_findRound_178 (lv_at hl 5 rfl) ?_
    refine lv_bipush (v := 8) hx hb dX9_findRound_180 (by decide) ?_
    refine x_icmp_ge (tgt := 226) hx hb dX9_findRound_182 (by decide) h (fun _ h => ?_) (fun _ h => ?_)
    · exact w_X9_findRound_226 C0 hk_65 l1 l2 l3 l5 l6 um h _ _ ls hP hD hS (lv_sub hl [0, 1, 2, 3, 4, 5] rfl)
    · refine lv_aload_n hx hb dX9_findRound_185 rfl (lv_at hl 0 rfl) ?_
      refine va_get (D := D) (ci := 8) (v := .ref (g 926)) (C := RX9) (T := TX9) (N := 38) hx hb hts ki_X9_findRound_X9 hown hK hP 0 rfl rfl 26 (by decide) (hts _ k_X9_findRound_4) (fun _ h9 => h9) rfl dX9_findRound_186 ?_
      refine lv_iload_n hx hb dX9_findRound_189 rfl (lv_at hl 3 rfl) ?_
      refine x_zald hx hb hK hP 19 rfl rfl h dX9_findRound_190 (fun v18 h => ?_)
      refine x_if_eq (tgt := 220) hx hb dX9_findRound_191 (by decide) h (fun _ h => ?_) (fun _ h => ?_)
      · exact w_X9_findRound_220 C0 hk_65 ih l1 l2 l3 l5 l6 um h _ _ ls hP hD hS (lv_sub hl [0, 1, 2, 3, 4, 5] rfl)
      · refine lv_aload_n hx hb dX9_findRound_194 rfl (lv_at hl 0 rfl) ?_
        refine va_get (D := D) (ci := 8) (v := .ref (g 926)) (C := RX9) (T := TX9) (N := 38) hx hb hts ki_X9_findRound_X9 hown hK hP 0 rfl rfl 26 (by decide) (hts _ k_X9_findRound_4) (fun _ h9 => h9) rfl dX9_findRound_195 ?_
        refine lv_iload hx hb dX9_findRound_198 (lv_at hl 5 rfl) ?_
        refine x_zald hx hb hK hP 19 rfl rfl h dX9_findRound_200 (fun v19 h => ?_)
        refine x_if_eq (tgt := 220) hx hb dX9_findRound_201 (by decide) h (fun _ h => ?_) (fun _ h => ?_)
        · exact w_X9_findRound_220 C0 hk_65 ih l1 l2 l3 l5 l6 um h _ _ ls hP hD hS (lv_sub hl [0, 1, 2, 3, 4, 5] rfl)
        · refine lv_aload_n hx hb dX9_findRound_204 rfl (lv_at hl 0 rfl) ?_
          refine va_get (D := D) (ci := 8) (v := .ref (g 932)) (C := RX9) (T := TX9) (N := 38) hx hb hts ki_X9_findRound_X9 hown hK hP 0 rfl rfl 32 (by decide) (hts _ k_X9_findRound_3) (fun _ h9 => h9) rfl dX9_findRound_205 ?_
          refine lv_iload hx hb dX9_findRound_208 (lv_at hl 5 rfl) ?_
          refine x_iald hx hb hK hP 24 rfl rfl h dX9_findRound_210 (fun v20 h => ?_)
          refine lv_iconst (v := -1) hx hb dX9_findRound_211 (by decide) ?_
          refine x_icmp_ne (tgt := 220) hx hb dX9_findRound_212 (by decide) h (fun _ h => ?_) (fun _ h => ?_)
          · refine lv_iload_n hx hb dX9_findRound_215 rfl (lv_at hl 2 rfl) ?_
            refine lv_iload_n hx hb dX9_findRound_216 rfl (lv_at hl 1 rfl) ?_
            refine x_icmp_ne (tgt := 226) hx hb dX9_findRound_217 (by decide) h (fun _ h => ?_) (fun _ h => ?_)
            · exact w_X9_findRound_220 C0 hk_65 ih l1 l2 l3 l5 l6 um h _ _ ls hP hD hS (lv_sub hl [0, 1, 2, 3, 4, 5] rfl)
            · exact w_X9_findRound_226 C0 hk_65 l1 l2 l3 l5 l6 um h _ _ ls hP hD hS (lv_sub hl [0, 1, 2, 3, 4, 5] rfl)
          · exact w_X9_findRound_220 C0 hk_65 ih l1 l2 l3 l5 l6 um h _ _ ls hP hD hS (lv_sub hl [0, 1, 2, 3, 4, 5] rfl)
set_option maxHeartbeats 4000000 in
set_option maxRecDepth 100000 in
theorem w_X9_findRound_176 {p : Program} {l : Launch} {e : Env} {s : State} {m : MethodId} {below : List Frame} {meth : Method} {c : Code} {args : Array Value} {D : va_G} {cy : Nat → ClassId} {g : Nat → Nat} {A : Nat → Prop} {um' : St} (C0 : Cx p s m meth c args cX9_findRound 7 none wsX9_findRound RX9 D cy A) {k_65 : Int32 → Int32 → Int32 → St → Option (St)} (hk_65 : ∀ (l1 : Int32) (l2 : Int32) (l3 : Int32) (um : St), k_65 l1 l2 l3 um = some um' → ∀ (H : Heap) (locs : List Loc) (ls : Array Slot), va_P D vwCl (wX9 cy g um) H → va_D A (wX9 cy g um) → va_S A s.heap H locs → lv_has ls 7 [(0, .ref (g 999)), (1, .int l1), (2, .int l2), (3, .int l3)] → W p l e (rmH 2) s m args below meth c H locs 0 0 (QV below args s A D cy (wX9 cy g um')) (F0 m 65 ls [])) : ∀ (l1 : Int32) (l2 : Int32) (l3 : Int32) (l5 : Int32) (s0 : Int32) (um : St), f_X9_findRound_176 k_65 l1 l2 l3 l5 s0 um = some um' → ∀ (H : Heap) (locs : List Loc) (ls : Array Slot), va_P D vwCl (wX9 cy g um) H → va_D A (wX9 cy g um) → va_S A s.heap H locs → lv_has ls 7 [(0, .ref (g 999)), (1, .int l1), (2, .int l2), (3, .int l3), (5, .int l5)] → W p l e (rmH 2) s m args below meth c H locs 0 0 (QV below args s A D cy (wX9 cy g um')) (F0 m 176 ls [.int s0]) := by
  obtain ⟨hx, hb, hr, hml, hown, hts, hlocks, hK, hA⟩ := id C0
  intro l1 l2 l3 l5 s0 um h H locs ls hP hD hS hl
  rw [f_X9_findRound_176] at h
  refine lv_istore (lv' := [(6, .int s0), (0, .ref (g 999)), (1, .int l1), (2, .int l2), (3, .int l3), (5, .int l5)]) hx hb dX9_findRound_176 hl (by decide) rfl (fun ls hl => ?_)
  exact w_X9_findRound_178 C0 hk_65 FU l1 l2 l3 l5 s0 um h _ _ ls hP hD hS (lv_sub hl [1, 2, 3, 4, 5, 0] rfl)
set_option maxHeartbeats 4000000 in
set_option maxRecDepth 100000 in
theorem w_X9_findRound_160 {p : Program} {l : Launch} {e : Env} {s : State} {m : MethodId} {below : List Frame} {meth : Method} {c : Code} {args : Array Value} {D : va_G} {cy : Nat → ClassId} {g : Nat → Nat} {A : Nat → Prop} {um' : St} (C0 : Cx p s m meth c args cX9_findRound 7 none wsX9_findRound RX9 D cy A) {k_65 : Int32 → Int32 → Int32 → St → Option (St)} (hk_65 : ∀ (l1 : Int32) (l2 : Int32) (l3 : Int32) (um : St), k_65 l1 l2 l3 um = some um' → ∀ (H : Heap) (locs : List Loc) (ls : Array Slot), va_P D vwCl (wX9 cy g um) H → va_D A (wX9 cy g um) → va_S A s.heap H locs → lv_has ls 7 [(0, .ref (g 999)), (1, .int l1), (2, .int l2), (3, .int l3)] → W p l e (rmH 2) s m args below meth c H locs 0 0 (QV below args s A D cy (wX9 cy g um')) (F0 m 65 ls [])) : ∀ (l1 : Int32) (l2 : Int32) (l3 : Int32) (l5 : Int32) (um : St), f_X9_findRound_160 k_65 l1 l2 l3 l5 um = some um' → ∀ (H : Heap) (locs : List Loc) (ls : Array Slot), va_P D vwCl (wX9 cy g um) H → va_D A (wX9 cy g um) → va_S A s.heap H locs → lv_has ls 7 [(0, .ref (g 999)), (1, .int l1), (2, .int l2), (3, .int l3), (5, .int l5)] → W p l e (rmH 2) s m args below meth c H locs 0 0 (QV below args s A D cy (wX9 cy g um')) (F0 m 160 ls []) := by
  obtain ⟨hx, hb, hr, hml, hown, hts, hlocks, hK, hA⟩ := id C0
  intro l1 l2 l3 l5 um h H locs ls hP hD hS hl
  rw [f_X9_findRound_160] at h
  refine lv_iload hx hb dX9_findRound_160 (lv_at hl 4 rfl) ?_
  refine lv_iconst (v := -1) hx hb dX9_findRound_162 (by decide) ?_
  refine x_icmp_ne (tgt := 172) hx hb dX9_findRound_163 (by decide) h (fun _ h => ?_) (fun _ h => ?_)
  · refine lv_iload_n hx hb dX9_findRound_166 rfl (lv_at hl 3 rfl) ?_
    refine lv_iconst (v := 1) hx hb dX9_findRound_167 (by decide) ?_
    refine lv_iadd hx hb dX9_findRound_168 ?_
    refine lv_goto (tgt := 176) hx hb dX9_findRound_169 (by decide) ?_
    exact w_X9_findRound_176 C0 hk_65 l1 l2 l3 l5 (l3 + (1 : Int32)) um h _ _ ls hP hD hS (lv_sub hl [0, 1, 2, 3, 4] rfl)
  · refine lv_iload hx hb dX9_findRound_172 (lv_at hl 4 rfl) ?_
    refine lv_iconst (v := 1) hx hb dX9_findRound_174 (by decide) ?_
    refine lv_iadd hx hb dX9_findRound_175 ?_
    exact w_X9_findRound_176 C0 hk_65 l1 l2 l3 l5 (l5 + (1 : Int32)) um h _ _ ls hP hD hS (lv_sub hl [0, 1, 2, 3, 4] rfl)
set_option maxHeartbeats 4000000 in
set_option maxRecDepth 100000 in
theorem w_X9_findRound_131 {p : Program} {l : Launch} {e : Env} {s : State} {m : MethodId} {below : List Frame} {meth : Method} {c : Code} {args : Array Value} {D : va_G} {cy : Nat → ClassId} {g : Nat → Nat} {A : Nat → Prop} {um' : St} (C0 : Cx p s m meth c args cX9_findRound 7 none wsX9_findRound RX9 D cy A) {k_65 : Int32 → Int32 → Int32 → St → Option (St)} (hk_65 : ∀ (l1 : Int32) (l2 : Int32) (l3 : Int32) (um : St), k_65 l1 l2 l3 um = some um' → ∀ (H : Heap) (locs : List Loc) (ls : Array Slot), va_P D vwCl (wX9 cy g um) H → va_D A (wX9 cy g um) → va_S A s.heap H locs → lv_has ls 7 [(0, .ref (g 999)), (1, .int l1), (2, .int l2), (3, .int l3)] → W p l e (rmH 2) s m args below meth c H locs 0 0 (QV below args s A D cy (wX9 cy g um')) (F0 m 65 ls [])) : ∀ (l1 : Int32) (l2 : Int32) (l3 : Int32) (l5 : Int32) (um : St), f_X9_findRound_131 k_65 l1 l2 l3 l5 um = some um' → ∀ (H : Heap) (locs : List Loc) (ls : Array Slot), va_P D vwCl (wX9 cy g um) H → va_D A (wX9 cy g um) → va_S A s.heap H locs → lv_has ls 7 [(0, .ref (g 999)), (1, .int l1), (2, .int l2), (3, .int l3), (5, .int l5)] → W p l e (rmH 2) s m args below meth c H locs 0 0 (QV below args s A D cy (wX9 cy g um')) (F0 m 131 ls []) := by
  obtain ⟨hx, hb, hr, hml, hown, hts, hlocks, hK, hA⟩ := id C0
  intro l1 l2 l3 l5 um h H locs ls hP hD hS hl
  rw [f_X9_findRound_131] at h
  refine lv_iload hx hb dX9_findRound_131 (lv_at hl 4 rfl) ?_
  refine lv_iconst (v := 0) hx hb dX9_findRound_133 (by decide) ?_
  refine lv_bipush (v := 7) hx hb dX9_findRound_134 (by decide) ?_
  obtain ⟨r12, e13, h⟩ := bd_some h
  refine x_callSI (As := [.int l5, .int (0 : Int32), .int (7 : Int32)]) (rest := []) (n := 3) ⟨hx, hb, hml, hown, hts⟩ (c_X9_in l D cy  l5 (0 : Int32) (7 : Int32) r12 e13) gX9_findRound_X9_in rfl hd_X9_in ⟨Nat.le_of_ble_eq_true rfl, Nat.le_of_ble_eq_true rfl⟩ ⟨rfl, rfl⟩ hK (sp_nil _) (sp_nil _) hP hD hS hA rfl hl.1 rfl (Nat.le_of_ble_eq_true rfl) dX9_findRound_136 ⟨Nat.zero_le _, Nat.zero_le _⟩ (fun H locs hP hD hS => ?_)
  clear e13
  refine x_if_eq (tgt := 160) hx hb dX9_findRound_139 (by decide) h (fun _ h => ?_) (fun _ h => ?_)
  · exact w_X9_findRound_160 C0 hk_65 l1 l2 l3 l5 um h _ _ ls hP hD hS (lv_sub hl [0, 1, 2, 3, 4] rfl)
  · refine lv_aload_n hx hb dX9_findRound_142 rfl (lv_at hl 0 rfl) ?_
    refine va_get (D := D) (ci := 8) (v := .ref (g 932)) (C := RX9) (T := TX9) (N := 38) hx hb hts ki_X9_findRound_X9 hown hK hP 0 rfl rfl 32 (by decide) (hts _ k_X9_findRound_3) (fun _ h9 => h9) rfl dX9_findRound_143 ?_
    refine lv_iload_n hx hb dX9_findRound_146 rfl (lv_at hl 3 rfl) ?_
    refine lv_iconst (v := -1) hx hb dX9_findRound_147 (by decide) ?_
    refine x_iast (Wd := (fun uz => wX9 cy g uz)) (u := um) (k := 32) hx hb hK hP hD hS 24 rfl rfl (fun _ => rfl) h dX9_findRound_148 (fun um14 H locs h hP hD hS => ?_)
    refine lv_aload_n hx hb dX9_findRound_149 rfl (lv_at hl 0 rfl) ?_
    refine va_get (D := D) (ci := 8) (v := .ref (g 932)) (C := RX9) (T := TX9) (N := 38) hx hb hts ki_X9_findRound_X9 hown hK hP 0 rfl rfl 32 (by decide) (hts _ k_X9_findRound_3) (fun _ h9 => h9) rfl dX9_findRound_150 ?_
    refine lv_iload hx hb dX9_findRound_153 (lv_at hl 4 rfl) ?_
    refine lv_iconst (v := -1) hx hb dX9_findRound_155 (by decide) ?_
    refine x_iast (Wd := (fun uz => wX9 cy g uz)) (u := um14) (k := 32) hx hb hK hP hD hS 24 rfl rfl (fun _ => rfl) h dX9_findRound_156 (fun um15 H locs h hP hD hS => ?_)
    obtain ⟨v16, ev16, h⟩ := nm_ex h
    refine lv_iinc (v := v16) (lv' := [(2, .int v16), (0, .ref (g 999)), (1, .int l1), (3, .int l3), (5, .int l5)]) hx hb dX9_findRound_157 hl (k := 2) rfl (by rw [ev16]; rfl) (by decide) rfl (fun ls hl => ?_)
    clear ev16
    exact w_X9_findRound_160 C0 hk_65 l1 v16 l3 l5 um15 h _ _ ls hP hD hS (lv_sub hl [1, 2, 0, 3, 4] rfl)
set_option maxHeartbeats 4000000 in
set_option maxRecDepth 100000 in
theorem w_X9_findRound_80 {p : Program} {l : Launch} {e : Env} {s : State} {m : MethodId} {below : List Frame} {meth : Method} {c : Code} {args : Array Value} {D : va_G} {cy : Nat → ClassId} {g : Nat → Nat} {A : Nat → Prop} {um' : St} (C0 : Cx p s m meth c args cX9_findRound 7 none wsX9_findRound RX9 D cy A) {k_65 : Int32 → Int32 → Int32 → St → Option (St)} (hk_65 : ∀ (l1 : Int32) (l2 : Int32) (l3 : Int32) (um : St), k_65 l1 l2 l3 um = some um' → ∀ (H : Heap) (locs : List Loc) (ls : Array Slot), va_P D vwCl (wX9 cy g um) H → va_D A (wX9 cy g um) → va_S A s.heap H locs → lv_has ls 7 [(0, .ref (g 999)), (1, .int l1), (2, .int l2), (3, .int l3)] → W p l e (rmH 2) s m args below meth c H locs 0 0 (QV below args s A D cy (wX9 cy g um')) (F0 m 65 ls [])) : ∀ (l1 : Int32) (l2 : Int32) (l3 : Int32) (s0 : Int32) (um : St), f_X9_findRound_80 k_65 l1 l2 l3 s0 um = some um' → ∀ (H : Heap) (locs : List Loc) (ls : Array Slot), va_P D vwCl (wX9 cy g um) H → va_D A (wX9 cy g um) → va_S A s.heap H locs → lv_has ls 7 [(0, .ref (g 999)), (1, .int l1), (2, .int l2), (3, .int l3)] → W p l e (rmH 2) s m args below meth c H locs 0 0 (QV below args s A D cy (wX9 cy g um')) (F0 m 80 ls [.int s0]) := by
  obtain ⟨hx, hb, hr, hml, hown, hts, hlocks, hK, hA⟩ := id C0
  intro l1 l2 l3 s0 um h H locs ls hP hD hS hl
  rw [f_X9_findRound_80] at h
  refine lv_istore (lv' := [(4, .int s0), (0, .ref (g 999)), (1, .int l1), (2, .int l2), (3, .int l3)]) hx hb dX9_findRound_80 hl (by decide) rfl (fun ls hl => ?_)
  refine lv_iload hx hb dX9_findRound_82 (lv_at hl 0 rfl) ?_
  refine x_if_eq (tgt := 100) hx hb dX9_findRound_84 (by decide) h (fun _ h => ?_) (fun _ h => ?_)
  · refine lv_aload_n hx hb dX9_findRound_100 rfl (lv_at hl 1 rfl) ?_
    refine va_get (D := D) (ci := 8) (v := .ref (g 931)) (C := RX9) (T := TX9) (N := 38) hx hb hts ki_X9_findRound_X9 hown hK hP 0 rfl rfl 31 (by decide) (hts _ k_X9_findRound_2) (fun _ h9 => h9) rfl dX9_findRound_101 ?_
    refine lv_iload_n hx hb dX9_findRound_104 rfl (lv_at hl 4 rfl) ?_
    refine x_iald hx hb hK hP 23 rfl rfl h dX9_findRound_105 (fun v8 h => ?_)
    refine lv_istore (lv' := [(5, .int v8), (4, .int s0), (0, .ref (g 999)), (1, .int l1), (2, .int l2), (3, .int l3)]) hx hb dX9_findRound_106 hl (by decide) rfl (fun ls hl => ?_)
    refine lv_iload hx hb dX9_findRound_108 (lv_at hl 0 rfl) ?_
    refine lv_iconst (v := -1) hx hb dX9_findRound_110 (by decide) ?_
    refine x_icmp_ne (tgt := 131) hx hb dX9_findRound_111 (by decide) h (fun _ h => ?_) (fun _ h => ?_)
    · refine lv_aload_n hx hb dX9_findRound_114 rfl (lv_at hl 2 rfl) ?_
      refine va_get (D := D) (ci := 8) (v := .ref (g 932)) (C := RX9) (T := TX9) (N := 38) hx hb hts ki_X9_findRound_X9 hown hK hP 0 rfl rfl 32 (by decide) (hts _ k_X9_findRound_3) (fun _ h9 => h9) rfl dX9_findRound_115 ?_
      refine lv_iload_n hx hb dX9_findRound_118 rfl (lv_at hl 5 rfl) ?_
      refine x_iald hx hb hK hP 24 rfl rfl h dX9_findRound_119 (fun v9 h => ?_)
      refine lv_iconst (v := -1) hx hb dX9_findRound_120 (by decide) ?_
      refine x_icmp_eq (tgt := 131) hx hb dX9_findRound_121 (by decide) h (fun _ h => ?_) (fun _ h => ?_)
      · exact w_X9_findRound_131 C0 hk_65 l1 l2 l3 v8 um h _ _ ls hP hD hS (lv_sub hl [2, 3, 4, 5, 0] rfl)
      · refine lv_bipush (v := 9) hx hb dX9_findRound_124 (by decide) ?_
        refine lv_istore (lv' := [(6, .int (9 : Int32)), (5, .int v8), (4, .int s0), (0, .ref (g 999)), (1, .int l1), (2, .int l2), (3, .int l3)]) hx hb dX9_findRound_126 hl (by decide) rfl (fun ls hl => ?_)
        refine lv_goto (tgt := 226) hx hb dX9_findRound_128 (by decide) ?_
        exact w_X9_findRound_226 C0 hk_65 l1 l2 l3 v8 (9 : Int32) um h _ _ ls hP hD hS (lv_sub hl [3, 4, 5, 6, 1, 0] rfl)
    · exact w_X9_findRound_131 C0 hk_65 l1 l2 l3 v8 um h _ _ ls hP hD hS (lv_sub hl [2, 3, 4, 5, 0] rfl)
  · refine lv_iload_n hx hb dX9_findRound_87 rfl (lv_at hl 3 rfl) ?_
    refine lv_iload_n hx hb dX9_findRound_88 rfl (lv_at hl 2 rfl) ?_
    refine x_icmp_ne (tgt := 304) hx hb dX9_findRound_89 (by decide) h (fun _ h => ?_) (fun _ h => ?_)
    · refine lv_aload_n hx hb dX9_findRound_92 rfl (lv_at hl 1 rfl) ?_
      refine lv_iload_n hx hb dX9_findRound_93 rfl (lv_at hl 3 rfl) ?_
      obtain ⟨um10, e11, h⟩ := bd_some h
      refine x_callVV (As := [.int l2]) (rest := []) (n := 1) ⟨hx, hb, hml, hown, hts⟩ (c_X9_lookAtRound l D cy g um l2 um10 e11) gX9_findRound_X9_lookAtRound rfl hd_X9_lookAtRound ⟨Nat.le_of_ble_eq_true rfl, Nat.le_of_ble_eq_true rfl⟩ ⟨rfl, rfl⟩ hK (sp_all _) (sp_all _) hP hD hS hA 0 rfl rfl rfl hl.1 rfl (Nat.le_of_ble_eq_true rfl) dX9_findRound_94 ⟨Nat.zero_le _, Nat.zero_le _⟩ (fun H locs hP hD hS => ?_)
      clear e11
      refine lv_goto (tgt := 304) hx hb dX9_findRound_97 (by decide) ?_
      exact w_X9_findRound_304 C0 hk_65 l1 l2 l3 s0 um10 h _ _ ls hP hD hS (lv_sub hl [1, 2, 3, 4, 0] rfl)
    · exact w_X9_findRound_304 C0 hk_65 l1 l2 l3 s0 um h _ _ ls hP hD hS (lv_sub hl [1, 2, 3, 4, 0] rfl)
set_option maxHeartbeats 4000000 in
set_option maxRecDepth 100000 in
theorem w_X9_findRound_65 {p : Program} {l : Launch} {e : Env} {s : State} {m : MethodId} {below : List Frame} {meth : Method} {c : Code} {args : Array Value} {D : va_G} {cy : Nat → ClassId} {g : Nat → Nat} {A : Nat → Prop} {um' : St} (C0 : Cx p s m meth c args cX9_findRound 7 none wsX9_findRound RX9 D cy A) : ∀ (nn : Nat) (l1 : Int32) (l2 : Int32) (l3 : Int32) (um : St), f_X9_findRound_65 nn l1 l2 l3 um = some um' → ∀ (H : Heap) (locs : List Loc) (ls : Array Slot), va_P D vwCl (wX9 cy g um) H → va_D A (wX9 cy g um) → va_S A s.heap H locs → lv_has ls 7 [(0, .ref (g 999)), (1, .int l1), (2, .int l2), (3, .int l3)] → W p l e (rmH 2) s m args below meth c H locs 0 0 (QV below args s A D cy (wX9 cy g um')) (F0 m 65 ls []) := by
  obtain ⟨hx, hb, hr, hml, hown, hts, hlocks, hK, hA⟩ := id C0
  intro nn
  induction nn with
  | zero => intro l1 l2 l3 um h; rw [f_X9_findRound_65] at h; cases h
  | succ nn ih =>
    intro l1 l2 l3 um h H locs ls hP hD hS hl
    rw [f_X9_findRound_65] at h
    refine lv_iload_n hx hb dX9_findRound_65 rfl (lv_at hl 3 rfl) ?_
    refine x_if_lt (tgt := 320) hx hb dX9_findRound_66 (by decide) h (fun _ h => ?_) (fun _ h => ?_)
    · cases h
      exact x_vret hx hb hr hlocks hK hP hD hS dX9_findRound_320 rfl
    · refine lv_iload_n hx hb dX9_findRound_69 rfl (lv_at hl 3 rfl) ?_
      refine lv_bipush (v := 8) hx hb dX9_findRound_70 (by decide) ?_
      refine x_icmp_ne (tgt := 79) hx hb dX9_findRound_72 (by decide) h (fun _ h => ?_) (fun _ h => ?_)
      · refine lv_iconst (v := 1) hx hb dX9_findRound_75 (by decide) ?_
        refine lv_goto (tgt := 80) hx hb dX9_findRound_76 (by decide) ?_
        exact w_X9_findRound_80 C0 ih l1 l2 l3 (1 : Int32) um h _ _ ls hP hD hS (lv_sub hl [0, 1, 2, 3] rfl)
      · refine lv_iconst (v := 0) hx hb dX9_findRound_79 (by decide) ?_
        exact w_X9_findRound_80 C0 ih l1 l2 l3 (0 : Int32) um h _ _ ls hP hD hS (lv_sub hl [0, 1, 2, 3] rfl)
set_option maxHeartbeats 4000000 in
set_option maxRecDepth 100000 in
theorem w_X9_findRound_36 {p : Program} {l : Launch} {e : Env} {s : State} {m : MethodId} {below : List Frame} {meth : Method} {c : Code} {args : Array Value} {D : va_G} {cy : Nat → ClassId} {g : Nat → Nat} {A : Nat → Prop} {um' : St} (C0 : Cx p s m meth c args cX9_findRound 7 none wsX9_findRound RX9 D cy A) : ∀ (nn : Nat) (l1 : Int32) (l2 : Int32) (l3 : Int32) (l4 : Int32) (um : St), f_X9_findRound_36 nn l1 l2 l3 l4 um = some um' → ∀ (H : Heap) (locs : List Loc) (ls : Array Slot), va_P D vwCl (wX9 cy g um) H → va_D A (wX9 cy g um) → va_S A s.heap H locs → lv_has ls 7 [(0, .ref (g 999)), (1, .int l1), (2, .int l2), (3, .int l3), (4, .int l4)] → W p l e (rmH 2) s m args below meth c H locs 0 0 (QV below args s A D cy (wX9 cy g um')) (F0 m 36 ls []) := by
  obtain ⟨hx, hb, hr, hml, hown, hts, hlocks, hK, hA⟩ := id C0
  intro nn
  induction nn with
  | zero => intro l1 l2 l3 l4 um h; rw [f_X9_findRound_36] at h; cases h
  | succ nn ih =>
    intro l1 l2 l3 l4 um h H locs ls hP hD hS hl
    rw [f_X9_findRound_36] at h
    refine lv_iload hx hb dX9_findRound_36 (lv_at hl 4 rfl) ?_
    refine lv_bipush (v := 8) hx hb dX9_findRound_38 (by decide) ?_
    refine x_icmp_ge (tgt := 65) hx hb dX9_findRound_40 (by decide) h (fun _ h => ?_) (fun _ h => ?_)
    · exact w_X9_findRound_65 C0 FU l1 l2 l3 um h _ _ ls hP hD hS (lv_sub hl [0, 1, 2, 3] rfl)
    · refine lv_aload_n hx hb dX9_findRound_43 rfl (lv_at hl 0 rfl) ?_
      refine va_get (D := D) (ci := 8) (v := .ref (g 931)) (C := RX9) (T := TX9) (N := 38) hx hb hts ki_X9_findRound_X9 hown hK hP 0 rfl rfl 31 (by decide) (hts _ k_X9_findRound_2) (fun _ h9 => h9) rfl dX9_findRound_44 ?_
      refine lv_iload hx hb dX9_findRound_47 (lv_at hl 4 rfl) ?_
      refine lv_iconst (v := -1) hx hb dX9_findRound_49 (by decide) ?_
      refine x_iast (Wd := (fun uz => wX9 cy g uz)) (u := um) (k := 31) hx hb hK hP hD hS 23 rfl rfl (fun _ => rfl) h dX9_findRound_50 (fun um5 H locs h hP hD hS => ?_)
      refine lv_aload_n hx hb dX9_findRound_51 rfl (lv_at hl 0 rfl) ?_
      refine va_get (D := D) (ci := 8) (v := .ref (g 932)) (C := RX9) (T := TX9) (N := 38) hx hb hts ki_X9_findRound_X9 hown hK hP 0 rfl rfl 32 (by decide) (hts _ k_X9_findRound_3) (fun _ h9 => h9) rfl dX9_findRound_52 ?_
      refine lv_iload hx hb dX9_findRound_55 (lv_at hl 4 rfl) ?_
      refine lv_iconst (v := -1) hx hb dX9_findRound_57 (by decide) ?_
      refine x_iast (Wd := (fun uz => wX9 cy g uz)) (u := um5) (k := 32) hx hb hK hP hD hS 24 rfl rfl (fun _ => rfl) h dX9_findRound_58 (fun um6 H locs h hP hD hS => ?_)
      obtain ⟨v7, ev7, h⟩ := nm_ex h
      refine lv_iinc (v := v7) (lv' := [(4, .int v7), (0, .ref (g 999)), (1, .int l1), (2, .int l2), (3, .int l3)]) hx hb dX9_findRound_59 hl (k := 4) rfl (by rw [ev7]; rfl) (by decide) rfl (fun ls hl => ?_)
      clear ev7
      refine lv_goto (tgt := 36) hx hb dX9_findRound_62 (by decide) ?_
      exact ih l1 l2 l3 v7 um6 h _ _ ls hP hD hS (lv_sub hl [1, 2, 3, 4, 0] rfl)
set_option maxHeartbeats 4000000 in
set_option maxRecDepth 100000 in
theorem w_X9_findRound_23 {p : Program} {l : Launch} {e : Env} {s : State} {m : MethodId} {below : List Frame} {meth : Method} {c : Code} {args : Array Value} {D : va_G} {cy : Nat → ClassId} {g : Nat → Nat} {A : Nat → Prop} {um' : St} (C0 : Cx p s m meth c args cX9_findRound 7 none wsX9_findRound RX9 D cy A) : ∀ (s0 : Int32) (um : St), f_X9_findRound_23 s0 um = some um' → ∀ (H : Heap) (locs : List Loc) (ls : Array Slot), va_P D vwCl (wX9 cy g um) H → va_D A (wX9 cy g um) → va_S A s.heap H locs → lv_has ls 7 [(0, .ref (g 999))] → W p l e (rmH 2) s m args below meth c H locs 0 0 (QV below args s A D cy (wX9 cy g um')) (F0 m 23 ls [.int s0]) := by
  obtain ⟨hx, hb, hr, hml, hown, hts, hlocks, hK, hA⟩ := id C0
  intro s0 um h H locs ls hP hD hS hl
  rw [f_X9_findRound_23] at h
  refine lv_istore_n (lv' := [(1, .int s0), (0, .ref (g 999))]) hx hb dX9_findRound_23 rfl hl (by decide) rfl (fun ls hl => ?_)
  refine lv_aload_n hx hb dX9_findRound_24 rfl (lv_at hl 1 rfl) ?_
  refine lv_iconst (v := -1) hx hb dX9_findRound_25 (by decide) ?_
  refine x_put (D := D) (ci := 8) (Wd := (fun uz => wX9 cy g uz)) (u := um) (C := RX9) (T := TX9) (N := 38) hx hb hts ki_X9_findRound_X9 tyX9 tyX9_ok nmX9 hown hK hP hD hS 0 rfl rfl 34 (by decide) (hts _ k_X9_findRound_1) (fun _ h9 => h9) rfl (tyX9_ok 34 (by decide)) rfl rfl (Nat.le_of_ble_eq_true rfl) (fun _ => rfl) h dX9_findRound_26 (fun um4 H locs h hP hD hS => ?_)
  refine lv_iconst (v := 0) hx hb dX9_findRound_29 (by decide) ?_
  refine lv_istore_n (lv' := [(2, .int (0 : Int32)), (1, .int s0), (0, .ref (g 999))]) hx hb dX9_findRound_30 rfl hl (by decide) rfl (fun ls hl => ?_)
  refine lv_iconst (v := 0) hx hb dX9_findRound_31 (by decide) ?_
  refine lv_istore_n (lv' := [(3, .int (0 : Int32)), (2, .int (0 : Int32)), (1, .int s0), (0, .ref (g 999))]) hx hb dX9_findRound_32 rfl hl (by decide) rfl (fun ls hl => ?_)
  refine lv_iconst (v := 0) hx hb dX9_findRound_33 (by decide) ?_
  refine lv_istore (lv' := [(4, .int (0 : Int32)), (3, .int (0 : Int32)), (2, .int (0 : Int32)), (1, .int s0), (0, .ref (g 999))]) hx hb dX9_findRound_34 hl (by decide) rfl (fun ls hl => ?_)
  exact w_X9_findRound_36 C0 FU s0 (0 : Int32) (0 : Int32) (0 : Int32) um4 h _ _ ls hP hD hS (lv_sub hl [4, 3, 2, 1, 0] rfl)
set_option maxHeartbeats 4000000 in
set_option maxRecDepth 100000 in
theorem c_X9_findRound (l : Launch) (D : va_G) (cy : Nat → ClassId) (g : Nat → Nat) (um : St) (um' : St) (h : f_X9_findRound um = some um') : CtV l yX9_findRound wsX9_findRound (rmH 2) [.ref (g 999)] D cy (wX9 cy g um) (wX9 cy g um') := by
  refine ct_enter (D := D) (cy := cy) (cc := cX9_findRound) (maxL := 7) (ret := none) (w := wX9 cy g um) (Qc := fun sz => va_Qv (fun (_ : Unit) => True) (Bw D cy (va_A (wX9 cy g um) sz) (wX9 cy g um')) (va_A (wX9 cy g um) sz)) (by decide) rfl (Nat.le_of_ble_eq_true rfl) ?_
  intro p e s m below meth c A C0 hAe ls hl hP hD hS
  have e1 : MQ below ((fun sz => va_Qv (fun (_ : Unit) => True) (Bw D cy (va_A (wX9 cy g um) sz) (wX9 cy g um')) (va_A (wX9 cy g um) sz)) s.heap.size) [.ref (g 999)].toArray s 0 0 A = QV below [.ref (g 999)].toArray s A D cy (wX9 cy g um') := by rw [hAe]; rfl
  rw [e1]
  clear e1 hAe
  obtain ⟨hx, hb, hr, hml, hown, hts, hlocks, hK, hA⟩ := id C0
  have hl : lv_has ls 7 [(0, .ref (g 999))] := hl
  rw [f_X9_findRound] at h
  refine lv_aload_n hx hb dX9_findRound_0 rfl (lv_at hl 0 rfl) ?_
  obtain ⟨r1, e2, h⟩ := bd_some h
  refine x_callVI (As := []) (rest := []) (n := 0) ⟨hx, hb, hml, hown, hts⟩ (c_X9_thereMany l D cy g um r1 e2) gX9_findRound_X9_thereMany rfl hd_X9_thereMany ⟨Nat.le_of_ble_eq_true rfl, Nat.le_of_ble_eq_true rfl⟩ ⟨rfl, rfl⟩ hK (sp_all _) (sp_all _) hP hD hS hA 0 rfl rfl rfl hl.1 rfl (Nat.le_of_ble_eq_true rfl) dX9_findRound_1 ⟨Nat.zero_le _, Nat.zero_le _⟩ (fun H locs hP hD hS => ?_)
  clear e2
  refine lv_iconst (v := 2) hx hb dX9_findRound_4 (by decide) ?_
  refine lv_idiv hx hb dX9_findRound_5 (by decide) ?_
  refine x_nm h (fun v3 h => ?_)
  refine lv_istore_n (lv' := [(1, .int v3), (0, .ref (g 999))]) hx hb dX9_findRound_6 rfl hl (by decide) rfl (fun ls hl => ?_)
  refine lv_iload_n hx hb dX9_findRound_7 rfl (lv_at hl 0 rfl) ?_
  refine lv_aload_n hx hb dX9_findRound_8 rfl (lv_at hl 1 rfl) ?_
  refine va_get (D := D) (ci := 8) (v := .int (um.1 25)) (C := RX9) (T := TX9) (N := 38) hx hb hts ki_X9_findRound_X9 hown hK hP 0 rfl rfl 25 (by decide) (hts _ k_X9_findRound_0) (fun _ h9 => h9) rfl dX9_findRound_9 ?_
  refine x_icmp_ge (tgt := 19) hx hb dX9_findRound_12 (by decide) h (fun _ h => ?_) (fun _ h => ?_)
  · refine lv_aload_n hx hb dX9_findRound_19 rfl (lv_at hl 1 rfl) ?_
    refine va_get (D := D) (ci := 8) (v := .int (um.1 25)) (C := RX9) (T := TX9) (N := 38) hx hb hts ki_X9_findRound_X9 hown hK hP 0 rfl rfl 25 (by decide) (hts _ k_X9_findRound_0) (fun _ h9 => h9) rfl dX9_findRound_20 ?_
    exact w_X9_findRound_23 C0 (um.1 25) um h _ _ ls hP hD hS (lv_sub hl [1] rfl)
  · refine lv_iload_n hx hb dX9_findRound_15 rfl (lv_at hl 0 rfl) ?_
    refine lv_goto (tgt := 23) hx hb dX9_findRound_16 (by decide) ?_
    exact w_X9_findRound_23 C0 v3 um h _ _ ls hP hD hS (lv_sub hl [1] rfl)
theorem k_X9_against_0 : Cond.fieldLink RX9 94 "FeatherHallModel" "best" "[I" ∈ wsX9_against := (List.mem_cons_of_mem _ (List.mem_append_left _ (List.mem_append_left _ (List.mem_of_getElem? (i := 0) rfl))))
theorem ki_X9_against_X9 : ∀ w ∈ u_ws RX9 TX9 38, w ∈ wsX9_against := fun _ hh => (List.mem_cons_of_mem _ (List.mem_append_right _ hh))
theorem hd_X9_against : yX9_against.cls = RX9 ∧ yX9_against.cls ≠ "java/lang/invoke/MethodHandle" ∧ yX9_against.cls ≠ "java/lang/invoke/VarHandle" ∧ (parseMethodDescriptor yX9_against.desc).map (fun d => d.parameters.length) = some 1 := by decide +kernel
set_option maxHeartbeats 4000000 in
set_option maxRecDepth 100000 in
theorem c_X9_against (l : Launch) (D : va_G) (cy : Nat → ClassId) (g : Nat → Nat) (um : St) (p0 : Int32) (r : Int32) (um' : St) (h : f_X9_against p0 um = some (r, um')) : CtI l yX9_against wsX9_against (rmH 3) [.ref (g 999), .int p0] D cy (wX9 cy g um) (wX9 cy g um') r := by
  refine ct_enter (D := D) (cy := cy) (cc := cX9_against) (maxL := 2) (ret := (some .int)) (w := wX9 cy g um) (Qc := fun sz => va_Qi (fun r' (_ : Unit) => r' = r) (Bw D cy (va_A (wX9 cy g um) sz) (wX9 cy g um')) (va_A (wX9 cy g um) sz)) (by decide) rfl (Nat.le_of_ble_eq_true rfl) ?_
  intro p e s m below meth c A C0 hAe ls hl hP hD hS
  have e1 : MQ below ((fun sz => va_Qi (fun r' (_ : Unit) => r' = r) (Bw D cy (va_A (wX9 cy g um) sz) (wX9 cy g um')) (va_A (wX9 cy g um) sz)) s.heap.size) [.ref (g 999), .int p0].toArray s 0 0 A = QI below [.ref (g 999), .int p0].toArray s A D cy (wX9 cy g um') r := by rw [hAe]; rfl
  rw [e1]
  clear e1 hAe
  obtain ⟨hx, hb, hr, hml, hown, hts, hlocks, hK, hA⟩ := id C0
  have hl : lv_has ls 2 [(0, .ref (g 999)), (1, .int p0)] := hl
  rw [f_X9_against] at h
  refine lv_iload_n hx hb dX9_against_0 rfl (lv_at hl 1 rfl) ?_
  obtain ⟨r1, e2, h⟩ := bd_some h
  refine x_callSI (As := [.int p0]) (rest := []) (n := 1) ⟨hx, hb, hml, hown, hts⟩ (c_X9_isPlayer l D cy  p0 r1 e2) gX9_against_X9_isPlayer rfl hd_X9_isPlayer ⟨Nat.le_of_ble_eq_true rfl, Nat.le_of_ble_eq_true rfl⟩ ⟨rfl, rfl⟩ hK (sp_nil _) (sp_nil _) hP hD hS hA rfl hl.1 rfl (Nat.le_of_ble_eq_true rfl) dX9_against_1 ⟨Nat.zero_le _, Nat.zero_le _⟩ (fun H locs hP hD hS => ?_)
  clear e2
  refine x_if_ne (tgt := 10) hx hb dX9_against_4 (by decide) h (fun _ h => ?_) (fun _ h => ?_)
  · refine lv_bipush (v := -2) hx hb dX9_against_7 (by decide) ?_
    cases h
    exact x_iret hx hb hr hlocks hK hP hD hS dX9_against_9 rfl rfl
  · refine lv_aload_n hx hb dX9_against_10 rfl (lv_at hl 0 rfl) ?_
    obtain ⟨um3, e4, h⟩ := bd_some h
    refine x_callVV (As := []) (rest := []) (n := 0) ⟨hx, hb, hml, hown, hts⟩ (c_X9_findRound l D cy g um um3 e4) gX9_against_X9_findRound rfl hd_X9_findRound ⟨Nat.le_of_ble_eq_true rfl, Nat.le_of_ble_eq_true rfl⟩ ⟨rfl, rfl⟩ hK (sp_all _) (sp_all _) hP hD hS hA 0 rfl rfl rfl hl.1 rfl (Nat.le_of_ble_eq_true rfl) dX9_against_11 ⟨Nat.zero_le _, Nat.zero_le _⟩ (fun H locs hP hD hS => ?_)
    clear e4
    refine lv_aload_n hx hb dX9_against_14 rfl (lv_at hl 0 rfl) ?_
    refine va_get (D := D) (ci := 8) (v := .ref (g 933)) (C := RX9) (T := TX9) (N := 38) hx hb hts ki_X9_against_X9 hown hK hP 0 rfl rfl 33 (by decide) (hts _ k_X9_against_0) (fun _ h9 => h9) rfl dX9_against_15 ?_
    refine lv_iload_n hx hb dX9_against_18 rfl (lv_at hl 1 rfl) ?_
    refine x_iald hx hb hK hP 25 rfl rfl h dX9_against_19 (fun v5 h => ?_)
    cases h
    exact x_iret hx hb hr hlocks hK hP hD hS dX9_against_20 rfl rfl
theorem k_X9_round_0 : Cond.fieldLink RX9 206 "FeatherHallModel" "bestGames" "I" ∈ wsX9_round := (List.mem_cons_of_mem _ (List.mem_append_left _ (List.mem_append_left _ (List.mem_of_getElem? (i := 0) rfl))))
theorem ki_X9_round_X9 : ∀ w ∈ u_ws RX9 TX9 38, w ∈ wsX9_round := fun _ hh => (List.mem_cons_of_mem _ (List.mem_append_right _ hh))
theorem k_X9_round_1 : Cond.fieldLink RX9 209 "FeatherHallModel" "bestWaited" "I" ∈ wsX9_round := (List.mem_cons_of_mem _ (List.mem_append_left _ (List.mem_append_left _ (List.mem_of_getElem? (i := 1) rfl))))
theorem k_X9_round_2 : Cond.fieldLink RX9 212 "FeatherHallModel" "bestHad" "I" ∈ wsX9_round := (List.mem_cons_of_mem _ (List.mem_append_left _ (List.mem_append_left _ (List.mem_of_getElem? (i := 2) rfl))))
theorem k_X9_round_3 : Cond.fieldLink RX9 215 "FeatherHallModel" "bestGrades" "I" ∈ wsX9_round := (List.mem_cons_of_mem _ (List.mem_append_left _ (List.mem_append_left _ (List.mem_of_getElem? (i := 3) rfl))))
theorem hd_X9_round : yX9_round.cls = RX9 ∧ yX9_round.cls ≠ "java/lang/invoke/MethodHandle" ∧ yX9_round.cls ≠ "java/lang/invoke/VarHandle" ∧ (parseMethodDescriptor yX9_round.desc).map (fun d => d.parameters.length) = some 1 := by decide +kernel
set_option maxHeartbeats 4000000 in
set_option maxRecDepth 100000 in
theorem c_X9_round (l : Launch) (D : va_G) (cy : Nat → ClassId) (g : Nat → Nat) (um : St) (p0 : Int32) (r : Int32) (um' : St) (h : f_X9_round p0 um = some (r, um')) : CtI l yX9_round wsX9_round (rmH 3) [.ref (g 999), .int p0] D cy (wX9 cy g um) (wX9 cy g um') r := by
  refine ct_enter (D := D) (cy := cy) (cc := cX9_round) (maxL := 2) (ret := (some .int)) (w := wX9 cy g um) (Qc := fun sz => va_Qi (fun r' (_ : Unit) => r' = r) (Bw D cy (va_A (wX9 cy g um) sz) (wX9 cy g um')) (va_A (wX9 cy g um) sz)) (by decide) rfl (Nat.le_of_ble_eq_true rfl) ?_
  intro p e s m below meth c A C0 hAe ls hl hP hD hS
  have e1 : MQ below ((fun sz => va_Qi (fun r' (_ : Unit) => r' = r) (Bw D cy (va_A (wX9 cy g um) sz) (wX9 cy g um')) (va_A (wX9 cy g um) sz)) s.heap.size) [.ref (g 999), .int p0].toArray s 0 0 A = QI below [.ref (g 999), .int p0].toArray s A D cy (wX9 cy g um') r := by rw [hAe]; rfl
  rw [e1]
  clear e1 hAe
  obtain ⟨hx, hb, hr, hml, hown, hts, hlocks, hK, hA⟩ := id C0
  have hl : lv_has ls 2 [(0, .ref (g 999)), (1, .int p0)] := hl
  rw [f_X9_round] at h
  refine lv_iload_n hx hb dX9_round_0 rfl (lv_at hl 1 rfl) ?_
  refine lv_iconst (v := 0) hx hb dX9_round_1 (by decide) ?_
  refine lv_iconst (v := 3) hx hb dX9_round_2 (by decide) ?_
  obtain ⟨r1, e2, h⟩ := bd_some h
  refine x_callSI (As := [.int p0, .int (0 : Int32), .int (3 : Int32)]) (rest := []) (n := 3) ⟨hx, hb, hml, hown, hts⟩ (c_X9_in l D cy  p0 (0 : Int32) (3 : Int32) r1 e2) gX9_round_X9_in rfl hd_X9_in ⟨Nat.le_of_ble_eq_true rfl, Nat.le_of_ble_eq_true rfl⟩ ⟨rfl, rfl⟩ hK (sp_nil _) (sp_nil _) hP hD hS hA rfl hl.1 rfl (Nat.le_of_ble_eq_true rfl) dX9_round_3 ⟨Nat.zero_le _, Nat.zero_le _⟩ (fun H locs hP hD hS => ?_)
  clear e2
  refine x_if_ne (tgt := 12) hx hb dX9_round_6 (by decide) h (fun _ h => ?_) (fun _ h => ?_)
  · refine lv_bipush (v := -3) hx hb dX9_round_9 (by decide) ?_
    cases h
    exact x_iret hx hb hr hlocks hK hP hD hS dX9_round_11 rfl rfl
  · refine lv_aload_n hx hb dX9_round_12 rfl (lv_at hl 0 rfl) ?_
    obtain ⟨um3, e4, h⟩ := bd_some h
    refine x_callVV (As := []) (rest := []) (n := 0) ⟨hx, hb, hml, hown, hts⟩ (c_X9_findRound l D cy g um um3 e4) gX9_round_X9_findRound rfl hd_X9_findRound ⟨Nat.le_of_ble_eq_true rfl, Nat.le_of_ble_eq_true rfl⟩ ⟨rfl, rfl⟩ hK (sp_all _) (sp_all _) hP hD hS hA 0 rfl rfl rfl hl.1 rfl (Nat.le_of_ble_eq_true rfl) dX9_round_13 ⟨Nat.zero_le _, Nat.zero_le _⟩ (fun H locs hP hD hS => ?_)
    clear e4
    refine lv_iload_n hx hb dX9_round_16 rfl (lv_at hl 1 rfl) ?_
    refine x_if_ne (tgt := 27) hx hb dX9_round_17 (by decide) h (fun _ h => ?_) (fun _ h => ?_)
    · refine lv_aload_n hx hb dX9_round_20 rfl (lv_at hl 0 rfl) ?_
      refine va_get (D := D) (ci := 8) (v := .int (um3.1 34)) (C := RX9) (T := TX9) (N := 38) hx hb hts ki_X9_round_X9 hown hK hP 0 rfl rfl 34 (by decide) (hts _ k_X9_round_0) (fun _ h9 => h9) rfl dX9_round_21 ?_
      refine lv_goto (tgt := 55) hx hb dX9_round_24 (by decide) ?_
      cases h
      exact x_iret hx hb hr hlocks hK hP hD hS dX9_round_55 rfl rfl
    · refine lv_iload_n hx hb dX9_round_27 rfl (lv_at hl 1 rfl) ?_
      refine lv_iconst (v := 1) hx hb dX9_round_28 (by decide) ?_
      refine x_icmp_ne (tgt := 39) hx hb dX9_round_29 (by decide) h (fun _ h => ?_) (fun _ h => ?_)
      · refine lv_aload_n hx hb dX9_round_32 rfl (lv_at hl 0 rfl) ?_
        refine va_get (D := D) (ci := 8) (v := .int (um3.1 35)) (C := RX9) (T := TX9) (N := 38) hx hb hts ki_X9_round_X9 hown hK hP 0 rfl rfl 35 (by decide) (hts _ k_X9_round_1) (fun _ h9 => h9) rfl dX9_round_33 ?_
        refine lv_goto (tgt := 55) hx hb dX9_round_36 (by decide) ?_
        cases h
        exact x_iret hx hb hr hlocks hK hP hD hS dX9_round_55 rfl rfl
      · refine lv_iload_n hx hb dX9_round_39 rfl (lv_at hl 1 rfl) ?_
        refine lv_iconst (v := 2) hx hb dX9_round_40 (by decide) ?_
        refine x_icmp_ne (tgt := 51) hx hb dX9_round_41 (by decide) h (fun _ h => ?_) (fun _ h => ?_)
        · refine lv_aload_n hx hb dX9_round_44 rfl (lv_at hl 0 rfl) ?_
          refine va_get (D := D) (ci := 8) (v := .int (um3.1 36)) (C := RX9) (T := TX9) (N := 38) hx hb hts ki_X9_round_X9 hown hK hP 0 rfl rfl 36 (by decide) (hts _ k_X9_round_2) (fun _ h9 => h9) rfl dX9_round_45 ?_
          refine lv_goto (tgt := 55) hx hb dX9_round_48 (by decide) ?_
          cases h
          exact x_iret hx hb hr hlocks hK hP hD hS dX9_round_55 rfl rfl
        · refine lv_aload_n hx hb dX9_round_51 rfl (lv_at hl 0 rfl) ?_
          refine va_get (D := D) (ci := 8) (v := .int (um3.1 37)) (C := RX9) (T := TX9) (N := 38) hx hb hts ki_X9_round_X9 hown hK hP 0 rfl rfl 37 (by decide) (hts _ k_X9_round_3) (fun _ h9 => h9) rfl dX9_round_52 ?_
          cases h
          exact x_iret hx hb hr hlocks hK hP hD hS dX9_round_55 rfl rfl
theorem k_X9_played_0 : Cond.fieldLink RX9 225 "FeatherHallModel" "roundsPlayed" "I" ∈ wsX9_played := (List.mem_cons_of_mem _ (List.mem_append_left _ (List.mem_append_left _ (List.mem_of_getElem? (i := 4) rfl))))
theorem ki_X9_played_X9 : ∀ w ∈ u_ws RX9 TX9 38, w ∈ wsX9_played := fun _ hh => (List.mem_cons_of_mem _ (List.mem_append_right _ hh))
theorem k_X9_played_1 : Cond.fieldLink RX9 206 "FeatherHallModel" "bestGames" "I" ∈ wsX9_played := (List.mem_cons_of_mem _ (List.mem_append_left _ (List.mem_append_left _ (List.mem_of_getElem? (i := 5) rfl))))
theorem k_X9_played_2 : Cond.fieldLink RX9 76 "FeatherHallModel" "isThere" "[Z" ∈ wsX9_played := (List.mem_cons_of_mem _ (List.mem_append_left _ (List.mem_append_left _ (List.mem_of_getElem? (i := 0) rfl))))
theorem k_X9_played_3 : Cond.fieldLink RX9 82 "FeatherHallModel" "waited" "[I" ∈ wsX9_played := (List.mem_cons_of_mem _ (List.mem_append_left _ (List.mem_append_left _ (List.mem_of_getElem? (i := 1) rfl))))
theorem k_X9_played_4 : Cond.fieldLink RX9 94 "FeatherHallModel" "best" "[I" ∈ wsX9_played := (List.mem_cons_of_mem _ (List.mem_append_left _ (List.mem_append_left _ (List.mem_of_getElem? (i := 2) rfl))))
theorem k_X9_played_5 : Cond.fieldLink RX9 85 "FeatherHallModel" "had" "[I" ∈ wsX9_played := (List.mem_cons_of_mem _ (List.mem_append_left _ (List.mem_append_left _ (List.mem_of_getElem? (i := 3) rfl))))
theorem hd_X9_played : yX9_played.cls = RX9 ∧ yX9_played.cls ≠ "java/lang/invoke/MethodHandle" ∧ yX9_played.cls ≠ "java/lang/invoke/VarHandle" ∧ (parseMethodDescriptor yX9_played.desc).map (fun d => d.parameters.length) = some 0 := by decide +kernel
set_option maxHeartbeats 4000000 in
set_option maxRecDepth 100000 in
theorem w_X9_played_79 {p : Program} {l : Launch} {e : Env} {s : State} {m : MethodId} {below : List Frame} {meth : Method} {c : Code} {args : Array Value} {D : va_G} {cy : Nat → ClassId} {g : Nat → Nat} {A : Nat → Prop} {r : Int32} {um' : St} (C0 : Cx p s m meth c args cX9_played 2 (some .int) wsX9_played RX9 D cy A) {k_6 : Int32 → St → Option (Int32 × St)} (hk_6 : ∀ (l1 : Int32) (um : St), k_6 l1 um = some (r, um') → ∀ (H : Heap) (locs : List Loc) (ls : Array Slot), va_P D vwCl (wX9 cy g um) H → va_D A (wX9 cy g um) → va_S A s.heap H locs → lv_has ls 2 [(0, .ref (g 999)), (1, .int l1)] → W p l e (rmH 3) s m args below meth c H locs 0 0 (QI below args s A D cy (wX9 cy g um') r) (F0 m 6 ls [])) : ∀ (l1 : Int32) (um : St), f_X9_played_79 k_6 l1 um = some (r, um') → ∀ (H : Heap) (locs : List Loc) (ls : Array Slot), va_P D vwCl (wX9 cy g um) H → va_D A (wX9 cy g um) → va_S A s.heap H locs → lv_has ls 2 [(0, .ref (g 999)), (1, .int l1)] → W p l e (rmH 3) s m args below meth c H locs 0 0 (QI below args s A D cy (wX9 cy g um') r) (F0 m 79 ls []) := by
  obtain ⟨hx, hb, hr, hml, hown, hts, hlocks, hK, hA⟩ := id C0
  intro l1 um h H locs ls hP hD hS hl
  rw [f_X9_played_79] at h
  obtain ⟨v7, ev7, h⟩ := nm_ex h
  refine lv_iinc (v := v7) (lv' := [(1, .int v7), (0, .ref (g 999))]) hx hb dX9_played_79 hl (k := 1) rfl (by rw [ev7]; rfl) (by decide) rfl (fun ls hl => ?_)
  clear ev7
  refine lv_goto (tgt := 6) hx hb dX9_played_82 (by decide) ?_
  exact hk_6 v7 um h _ _ ls hP hD hS (lv_sub hl [1, 0] rfl)
set_option maxHeartbeats 4000000 in
set_option maxRecDepth 100000 in
theorem w_X9_played_48 {p : Program} {l : Launch} {e : Env} {s : State} {m : MethodId} {below : List Frame} {meth : Method} {c : Code} {args : Array Value} {D : va_G} {cy : Nat → ClassId} {g : Nat → Nat} {A : Nat → Prop} {r : Int32} {um' : St} (C0 : Cx p s m meth c args cX9_played 2 (some .int) wsX9_played RX9 D cy A) {k_6 : Int32 → St → Option (Int32 × St)} (hk_6 : ∀ (l1 : Int32) (um : St), k_6 l1 um = some (r, um') → ∀ (H : Heap) (locs : List Loc) (ls : Array Slot), va_P D vwCl (wX9 cy g um) H → va_D A (wX9 cy g um) → va_S A s.heap H locs → lv_has ls 2 [(0, .ref (g 999)), (1, .int l1)] → W p l e (rmH 3) s m args below meth c H locs 0 0 (QI below args s A D cy (wX9 cy g um') r) (F0 m 6 ls [])) : ∀ (l1 : Int32) (s0 : Int32) (s1 : Int32) (um : St), f_X9_played_48 k_6 l1 s0 s1 um = some (r, um') → ∀ (H : Heap) (locs : List Loc) (ls : Array Slot), va_P D vwCl (wX9 cy g um) H → va_D A (wX9 cy g um) → va_S A s.heap H locs → lv_has ls 2 [(0, .ref (g 999)), (1, .int l1)] → W p l e (rmH 3) s m args below meth c H locs 0 0 (QI below args s A D cy (wX9 cy g um') r) (F0 m 48 ls [.int s0, .int s1, .ref (g 928)]) := by
  obtain ⟨hx, hb, hr, hml, hown, hts, hlocks, hK, hA⟩ := id C0
  intro l1 s0 s1 um h H locs ls hP hD hS hl
  rw [f_X9_played_48] at h
  refine x_iast (Wd := (fun uz => wX9 cy g uz)) (u := um) (k := 28) hx hb hK hP hD hS 21 rfl rfl (fun _ => rfl) h dX9_played_48 (fun um8 H locs h hP hD hS => ?_)
  refine lv_aload_n hx hb dX9_played_49 rfl (lv_at hl 0 rfl) ?_
  refine va_get (D := D) (ci := 8) (v := .ref (g 933)) (C := RX9) (T := TX9) (N := 38) hx hb hts ki_X9_played_X9 hown hK hP 0 rfl rfl 33 (by decide) (hts _ k_X9_played_4) (fun _ h9 => h9) rfl dX9_played_50 ?_
  refine lv_iload_n hx hb dX9_played_53 rfl (lv_at hl 1 rfl) ?_
  refine x_iald hx hb hK hP 25 rfl rfl h dX9_played_54 (fun v9 h => ?_)
  refine lv_iconst (v := -1) hx hb dX9_played_55 (by decide) ?_
  refine x_icmp_eq (tgt := 79) hx hb dX9_played_56 (by decide) h (fun _ h => ?_) (fun _ h => ?_)
  · exact w_X9_played_79 C0 hk_6 l1 um8 h _ _ ls hP hD hS (lv_sub hl [0, 1] rfl)
  · refine lv_aload_n hx hb dX9_played_59 rfl (lv_at hl 0 rfl) ?_
    refine va_get (D := D) (ci := 8) (v := .ref (g 929)) (C := RX9) (T := TX9) (N := 38) hx hb hts ki_X9_played_X9 hown hK hP 0 rfl rfl 29 (by decide) (hts _ k_X9_played_5) (fun _ h9 => h9) rfl dX9_played_60 ?_
    refine lv_bipush (v := 8) hx hb dX9_played_63 (by decide) ?_
    refine lv_iload_n hx hb dX9_played_65 rfl (lv_at hl 1 rfl) ?_
    refine lv_imul hx hb dX9_played_66 ?_
    refine lv_aload_n hx hb dX9_played_67 rfl (lv_at hl 0 rfl) ?_
    refine va_get (D := D) (ci := 8) (v := .ref (g 933)) (C := RX9) (T := TX9) (N := 38) hx hb hts ki_X9_played_X9 hown hK hP 0 rfl rfl 33 (by decide) (hts _ k_X9_played_4) (fun _ h9 => h9) rfl dX9_played_68 ?_
    refine lv_iload_n hx hb dX9_played_71 rfl (lv_at hl 1 rfl) ?_
    refine x_iald hx hb hK hP 25 rfl rfl h dX9_played_72 (fun v10 h => ?_)
    refine lv_iadd hx hb dX9_played_73 ?_
    refine x_nm h (fun v11 h => ?_)
    refine lv_dup2_11 hx hb dX9_played_74 rfl rfl ?_
    refine x_iald hx hb hK hP 22 rfl rfl h dX9_played_75 (fun v12 h => ?_)
    refine lv_iconst (v := 1) hx hb dX9_played_76 (by decide) ?_
    refine lv_iadd hx hb dX9_played_77 ?_
    refine x_iast (Wd := (fun uz => wX9 cy g uz)) (u := um8) (k := 29) hx hb hK hP hD hS 22 rfl rfl (fun _ => rfl) h dX9_played_78 (fun um13 H locs h hP hD hS => ?_)
    exact w_X9_played_79 C0 hk_6 l1 um13 h _ _ ls hP hD hS (lv_sub hl [0, 1] rfl)
set_option maxHeartbeats 4000000 in
set_option maxRecDepth 100000 in
theorem w_X9_played_6 {p : Program} {l : Launch} {e : Env} {s : State} {m : MethodId} {below : List Frame} {meth : Method} {c : Code} {args : Array Value} {D : va_G} {cy : Nat → ClassId} {g : Nat → Nat} {A : Nat → Prop} {r : Int32} {um' : St} (C0 : Cx p s m meth c args cX9_played 2 (some .int) wsX9_played RX9 D cy A) : ∀ (nn : Nat) (l1 : Int32) (um : St), f_X9_played_6 nn l1 um = some (r, um') → ∀ (H : Heap) (locs : List Loc) (ls : Array Slot), va_P D vwCl (wX9 cy g um) H → va_D A (wX9 cy g um) → va_S A s.heap H locs → lv_has ls 2 [(0, .ref (g 999)), (1, .int l1)] → W p l e (rmH 3) s m args below meth c H locs 0 0 (QI below args s A D cy (wX9 cy g um') r) (F0 m 6 ls []) := by
  obtain ⟨hx, hb, hr, hml, hown, hts, hlocks, hK, hA⟩ := id C0
  intro nn
  induction nn with
  | zero => intro l1 um h; rw [f_X9_played_6] at h; cases h
  | succ nn ih =>
    intro l1 um h H locs ls hP hD hS hl
    rw [f_X9_played_6] at h
    refine lv_iload_n hx hb dX9_played_6 rfl (lv_at hl 1 rfl) ?_
    refine lv_bipush (v := 8) hx hb dX9_played_7 (by decide) ?_
    refine x_icmp_ge (tgt := 85) hx hb dX9_played_9 (by decide) h (fun _ h => ?_) (fun _ h => ?_)
    · refine lv_aload_n hx hb dX9_played_85 rfl (lv_at hl 0 rfl) ?_
      refine lv_dup hx hb dX9_played_86 rfl ?_
      refine va_get (D := D) (ci := 8) (v := .int (um.1 30)) (C := RX9) (T := TX9) (N := 38) hx hb hts ki_X9_played_X9 hown hK hP 0 rfl rfl 30 (by decide) (hts _ k_X9_played_0) (fun _ h9 => h9) rfl dX9_played_87 ?_
      refine lv_iconst (v := 1) hx hb dX9_played_90 (by decide) ?_
      refine lv_iadd hx hb dX9_played_91 ?_
      refine x_put (D := D) (ci := 8) (Wd := (fun uz => wX9 cy g uz)) (u := um) (C := RX9) (T := TX9) (N := 38) hx hb hts ki_X9_played_X9 tyX9 tyX9_ok nmX9 hown hK hP hD hS 0 rfl rfl 30 (by decide) (hts _ k_X9_played_0) (fun _ h9 => h9) rfl (tyX9_ok 30 (by decide)) rfl rfl (Nat.le_of_ble_eq_true rfl) (fun _ => rfl) h dX9_played_92 (fun um3 H locs h hP hD hS => ?_)
      refine lv_aload_n hx hb dX9_played_95 rfl (lv_at hl 0 rfl) ?_
      refine va_get (D := D) (ci := 8) (v := .int (um3.1 34)) (C := RX9) (T := TX9) (N := 38) hx hb hts ki_X9_played_X9 hown hK hP 0 rfl rfl 34 (by decide) (hts _ k_X9_played_1) (fun _ h9 => h9) rfl dX9_played_96 ?_
      cases h
      exact x_iret hx hb hr hlocks hK hP hD hS dX9_played_99 rfl rfl
    · refine lv_aload_n hx hb dX9_played_12 rfl (lv_at hl 0 rfl) ?_
      refine va_get (D := D) (ci := 8) (v := .ref (g 926)) (C := RX9) (T := TX9) (N := 38) hx hb hts ki_X9_played_X9 hown hK hP 0 rfl rfl 26 (by decide) (hts _ k_X9_played_2) (fun _ h9 => h9) rfl dX9_played_13 ?_
      refine lv_iload_n hx hb dX9_played_16 rfl (lv_at hl 1 rfl) ?_
      refine x_zald hx hb hK hP 19 rfl rfl h dX9_played_17 (fun v4 h => ?_)
      refine x_if_eq (tgt := 79) hx hb dX9_played_18 (by decide) h (fun _ h => ?_) (fun _ h => ?_)
      · exact w_X9_played_79 C0 ih l1 um h _ _ ls hP hD hS (lv_sub hl [0, 1] rfl)
      · refine lv_aload_n hx hb dX9_played_21 rfl (lv_at hl 0 rfl) ?_
        refine va_get (D := D) (ci := 8) (v := .ref (g 928)) (C := RX9) (T := TX9) (N := 38) hx hb hts ki_X9_played_X9 hown hK hP 0 rfl rfl 28 (by decide) (hts _ k_X9_played_3) (fun _ h9 => h9) rfl dX9_played_22 ?_
        refine lv_iload_n hx hb dX9_played_25 rfl (lv_at hl 1 rfl) ?_
        refine lv_aload_n hx hb dX9_played_26 rfl (lv_at hl 0 rfl) ?_
        refine va_get (D := D) (ci := 8) (v := .ref (g 933)) (C := RX9) (T := TX9) (N := 38) hx hb hts ki_X9_played_X9 hown hK hP 0 rfl rfl 33 (by decide) (hts _ k_X9_played_4) (fun _ h9 => h9) rfl dX9_played_27 ?_
        refine lv_iload_n hx hb dX9_played_30 rfl (lv_at hl 1 rfl) ?_
        refine x_iald hx hb hK hP 25 rfl rfl h dX9_played_31 (fun v5 h => ?_)
        refine lv_iconst (v := -1) hx hb dX9_played_32 (by decide) ?_
        refine x_icmp_ne (tgt := 47) hx hb dX9_played_33 (by decide) h (fun _ h => ?_) (fun _ h => ?_)
        · refine lv_aload_n hx hb dX9_played_36 rfl (lv_at hl 0 rfl) ?_
          refine va_get (D := D) (ci := 8) (v := .ref (g 928)) (C := RX9) (T := TX9) (N := 38) hx hb hts ki_X9_played_X9 hown hK hP 0 rfl rfl 28 (by decide) (hts _ k_X9_played_3) (fun _ h9 => h9) rfl dX9_played_37 ?_
          refine lv_iload_n hx hb dX9_played_40 rfl (lv_at hl 1 rfl) ?_
          refine x_iald hx hb hK hP 21 rfl rfl h dX9_played_41 (fun v6 h => ?_)
          refine lv_iconst (v := 1) hx hb dX9_played_42 (by decide) ?_
          refine lv_iadd hx hb dX9_played_43 ?_
          refine lv_goto (tgt := 48) hx hb dX9_played_44 (by decide) ?_
          exact w_X9_played_48 C0 ih l1 (v6 + (1 : Int32)) l1 um h _ _ ls hP hD hS (lv_sub hl [0, 1] rfl)
        · refine lv_iconst (v := 0) hx hb dX9_played_47 (by decide) ?_
          exact w_X9_played_48 C0 ih l1 (0 : Int32) l1 um h _ _ ls hP hD hS (lv_sub hl [0, 1] rfl)
set_option maxHeartbeats 4000000 in
set_option maxRecDepth 100000 in
theorem c_X9_played (l : Launch) (D : va_G) (cy : Nat → ClassId) (g : Nat → Nat) (um : St) (r : Int32) (um' : St) (h : f_X9_played um = some (r, um')) : CtI l yX9_played wsX9_played (rmH 3) [.ref (g 999)] D cy (wX9 cy g um) (wX9 cy g um') r := by
  refine ct_enter (D := D) (cy := cy) (cc := cX9_played) (maxL := 2) (ret := (some .int)) (w := wX9 cy g um) (Qc := fun sz => va_Qi (fun r' (_ : Unit) => r' = r) (Bw D cy (va_A (wX9 cy g um) sz) (wX9 cy g um')) (va_A (wX9 cy g um) sz)) (by decide) rfl (Nat.le_of_ble_eq_true rfl) ?_
  intro p e s m below meth c A C0 hAe ls hl hP hD hS
  have e1 : MQ below ((fun sz => va_Qi (fun r' (_ : Unit) => r' = r) (Bw D cy (va_A (wX9 cy g um) sz) (wX9 cy g um')) (va_A (wX9 cy g um) sz)) s.heap.size) [.ref (g 999)].toArray s 0 0 A = QI below [.ref (g 999)].toArray s A D cy (wX9 cy g um') r := by rw [hAe]; rfl
  rw [e1]
  clear e1 hAe
  obtain ⟨hx, hb, hr, hml, hown, hts, hlocks, hK, hA⟩ := id C0
  have hl : lv_has ls 2 [(0, .ref (g 999))] := hl
  rw [f_X9_played] at h
  refine lv_aload_n hx hb dX9_played_0 rfl (lv_at hl 0 rfl) ?_
  obtain ⟨um1, e2, h⟩ := bd_some h
  refine x_callVV (As := []) (rest := []) (n := 0) ⟨hx, hb, hml, hown, hts⟩ (c_X9_findRound l D cy g um um1 e2) gX9_played_X9_findRound rfl hd_X9_findRound ⟨Nat.le_of_ble_eq_true rfl, Nat.le_of_ble_eq_true rfl⟩ ⟨rfl, rfl⟩ hK (sp_all _) (sp_all _) hP hD hS hA 0 rfl rfl rfl hl.1 rfl (Nat.le_of_ble_eq_true rfl) dX9_played_1 ⟨Nat.zero_le _, Nat.zero_le _⟩ (fun H locs hP hD hS => ?_)
  clear e2
  refine lv_iconst (v := 0) hx hb dX9_played_4 (by decide) ?_
  refine lv_istore_n (lv' := [(1, .int (0 : Int32)), (0, .ref (g 999))]) hx hb dX9_played_5 rfl hl (by decide) rfl (fun ls hl => ?_)
  exact w_X9_played_6 C0 FU (0 : Int32) um1 h _ _ ls hP hD hS (lv_sub hl [1, 0] rfl)
theorem k_X9_had_0 : Cond.fieldLink RX9 85 "FeatherHallModel" "had" "[I" ∈ wsX9_had := (List.mem_cons_of_mem _ (List.mem_append_left _ (List.mem_of_getElem? (i := 0) rfl)))
theorem ki_X9_had_X9 : ∀ w ∈ u_ws RX9 TX9 38, w ∈ wsX9_had := fun _ hh => (List.mem_cons_of_mem _ (List.mem_append_right _ hh))
theorem hd_X9_had : yX9_had.cls = RX9 ∧ yX9_had.cls ≠ "java/lang/invoke/MethodHandle" ∧ yX9_had.cls ≠ "java/lang/invoke/VarHandle" ∧ (parseMethodDescriptor yX9_had.desc).map (fun d => d.parameters.length) = some 2 := by decide +kernel
set_option maxHeartbeats 4000000 in
set_option maxRecDepth 100000 in
theorem c_X9_had (l : Launch) (D : va_G) (cy : Nat → ClassId) (g : Nat → Nat) (um : St) (p0 : Int32) (p1 : Int32) (r : Int32) (h : f_X9_had um p0 p1 = some r) : CtI l yX9_had wsX9_had (rmH 2) [.ref (g 999), .int p0, .int p1] D cy (wX9 cy g um) (wX9 cy g um) r := by
  refine ct_enter (D := D) (cy := cy) (cc := cX9_had) (maxL := 3) (ret := (some .int)) (w := wX9 cy g um) (Qc := fun sz => va_Qi (fun r' (_ : Unit) => r' = r) (Bw D cy (va_A (wX9 cy g um) sz) (wX9 cy g um)) (va_A (wX9 cy g um) sz)) (by decide) rfl (Nat.le_of_ble_eq_true rfl) ?_
  intro p e s m below meth c A C0 hAe ls hl hP hD hS
  have e1 : MQ below ((fun sz => va_Qi (fun r' (_ : Unit) => r' = r) (Bw D cy (va_A (wX9 cy g um) sz) (wX9 cy g um)) (va_A (wX9 cy g um) sz)) s.heap.size) [.ref (g 999), .int p0, .int p1].toArray s 0 0 A = QI below [.ref (g 999), .int p0, .int p1].toArray s A D cy (wX9 cy g um) r := by rw [hAe]; rfl
  rw [e1]
  clear e1 hAe
  obtain ⟨hx, hb, hr, hml, hown, hts, hlocks, hK, hA⟩ := id C0
  have hl : lv_has ls 3 [(0, .ref (g 999)), (1, .int p0), (2, .int p1)] := hl
  rw [f_X9_had] at h
  refine lv_iload_n hx hb dX9_had_0 rfl (lv_at hl 1 rfl) ?_
  obtain ⟨r1, e2, h⟩ := bd_some h
  refine x_callSI (As := [.int p0]) (rest := []) (n := 1) ⟨hx, hb, hml, hown, hts⟩ (c_X9_isPlayer l D cy  p0 r1 e2) gX9_had_X9_isPlayer rfl hd_X9_isPlayer ⟨Nat.le_of_ble_eq_true rfl, Nat.le_of_ble_eq_true rfl⟩ ⟨rfl, rfl⟩ hK (sp_nil _) (sp_nil _) hP hD hS hA rfl hl.1 rfl (Nat.le_of_ble_eq_true rfl) dX9_had_1 ⟨Nat.zero_le _, Nat.zero_le _⟩ (fun H locs hP hD hS => ?_)
  clear e2
  refine x_if_eq (tgt := 33) hx hb dX9_had_4 (by decide) h (fun _ h => ?_) (fun _ h => ?_)
  · refine lv_bipush (v := -2) hx hb dX9_had_33 (by decide) ?_
    cases h
    exact x_iret hx hb hr hlocks hK hP hD hS dX9_had_35 rfl rfl
  · refine lv_iload_n hx hb dX9_had_7 rfl (lv_at hl 2 rfl) ?_
    obtain ⟨r3, e4, h⟩ := bd_some h
    refine x_callSI (As := [.int p1]) (rest := []) (n := 1) ⟨hx, hb, hml, hown, hts⟩ (c_X9_isPlayer l D cy  p1 r3 e4) gX9_had_X9_isPlayer rfl hd_X9_isPlayer ⟨Nat.le_of_ble_eq_true rfl, Nat.le_of_ble_eq_true rfl⟩ ⟨rfl, rfl⟩ hK (sp_nil _) (sp_nil _) hP hD hS hA rfl hl.1 rfl (Nat.le_of_ble_eq_true rfl) dX9_had_8 ⟨Nat.zero_le _, Nat.zero_le _⟩ (fun H locs hP hD hS => ?_)
    clear e4
    refine x_if_eq (tgt := 33) hx hb dX9_had_11 (by decide) h (fun _ h => ?_) (fun _ h => ?_)
    · refine lv_bipush (v := -2) hx hb dX9_had_33 (by decide) ?_
      cases h
      exact x_iret hx hb hr hlocks hK hP hD hS dX9_had_35 rfl rfl
    · refine lv_iload_n hx hb dX9_had_14 rfl (lv_at hl 1 rfl) ?_
      refine lv_iload_n hx hb dX9_had_15 rfl (lv_at hl 2 rfl) ?_
      refine x_icmp_eq (tgt := 33) hx hb dX9_had_16 (by decide) h (fun _ h => ?_) (fun _ h => ?_)
      · refine lv_bipush (v := -2) hx hb dX9_had_33 (by decide) ?_
        cases h
        exact x_iret hx hb hr hlocks hK hP hD hS dX9_had_35 rfl rfl
      · refine lv_aload_n hx hb dX9_had_19 rfl (lv_at hl 0 rfl) ?_
        refine va_get (D := D) (ci := 8) (v := .ref (g 929)) (C := RX9) (T := TX9) (N := 38) hx hb hts ki_X9_had_X9 hown hK hP 0 rfl rfl 29 (by decide) (hts _ k_X9_had_0) (fun _ h9 => h9) rfl dX9_had_20 ?_
        refine lv_bipush (v := 8) hx hb dX9_had_23 (by decide) ?_
        refine lv_iload_n hx hb dX9_had_25 rfl (lv_at hl 1 rfl) ?_
        refine lv_imul hx hb dX9_had_26 ?_
        refine lv_iload_n hx hb dX9_had_27 rfl (lv_at hl 2 rfl) ?_
        refine lv_iadd hx hb dX9_had_28 ?_
        refine x_iald hx hb hK hP 22 rfl rfl h dX9_had_29 (fun v5 h => ?_)
        refine lv_goto (tgt := 35) hx hb dX9_had_30 (by decide) ?_
        cases h
        exact x_iret hx hb hr hlocks hK hP hD hS dX9_had_35 rfl rfl
theorem k_X9_of_0 : Cond.fieldLink RX9 25 "FeatherHallModel" "tired" "[I" ∈ wsX9_of := (List.mem_cons_of_mem _ (List.mem_append_left _ (List.mem_of_getElem? (i := 0) rfl)))
theorem ki_X9_of_X9 : ∀ w ∈ u_ws RX9 TX9 38, w ∈ wsX9_of := fun _ hh => (List.mem_cons_of_mem _ (List.mem_append_right _ hh))
theorem k_X9_of_1 : Cond.fieldLink RX9 76 "FeatherHallModel" "isThere" "[Z" ∈ wsX9_of := (List.mem_cons_of_mem _ (List.mem_append_left _ (List.mem_of_getElem? (i := 1) rfl)))
theorem k_X9_of_2 : Cond.fieldLink RX9 82 "FeatherHallModel" "waited" "[I" ∈ wsX9_of := (List.mem_cons_of_mem _ (List.mem_append_left _ (List.mem_of_getElem? (i := 2) rfl)))
theorem k_X9_of_3 : Cond.fieldLink RX9 79 "FeatherHallModel" "grade" "[I" ∈ wsX9_of := (List.mem_cons_of_mem _ (List.mem_append_left _ (List.mem_of_getElem? (i := 3) rfl)))
theorem k_X9_of_4 : Cond.fieldLink RX9 85 "FeatherHallModel" "had" "[I" ∈ wsX9_of := (List.mem_cons_of_mem _ (List.mem_append_left _ (List.mem_of_getElem? (i := 4) rfl)))
theorem hd_X9_of : yX9_of.cls = RX9 ∧ yX9_of.cls ≠ "java/lang/invoke/MethodHandle" ∧ yX9_of.cls ≠ "java/lang/invoke/VarHandle" ∧ (parseMethodDescriptor yX9_of.desc).map (fun d => d.parameters.length) = some 2 := by decide +kernel
set_option maxHeartbeats 4000000 in
set_option maxRecDepth 100000 in
theorem w_X9_of_104 {p : Program} {l : Launch} {e : Env} {s : State} {m : MethodId} {below : List Frame} {meth : Method} {c : Code} {args : Array Value} {D : va_G} {cy : Nat → ClassId} {g : Nat → Nat} {A : Nat → Prop} {um : St} {r : Int32} (C0 : Cx p s m meth c args cX9_of 5 (some .int) wsX9_of RX9 D cy A) : ∀ (nn : Nat) (l1 : Int32) (l3 : Int32) (l4 : Int32), f_X9_of_104 um nn l1 l3 l4 = some r → ∀ (H : Heap) (locs : List Loc) (ls : Array Slot), va_P D vwCl (wX9 cy g um) H → va_D A (wX9 cy g um) → va_S A s.heap H locs → lv_has ls 5 [(0, .ref (g 999)), (1, .int l1), (3, .int l3), (4, .int l4)] → W p l e (rmH 2) s m args below meth c H locs 0 0 (QI below args s A D cy (wX9 cy g um) r) (F0 m 104 ls []) := by
  obtain ⟨hx, hb, hr, hml, hown, hts, hlocks, hK, hA⟩ := id C0
  intro nn
  induction nn with
  | zero => intro l1 l3 l4 h; rw [f_X9_of_104] at h; cases h
  | succ nn ih =>
    intro l1 l3 l4 h H locs ls hP hD hS hl
    rw [f_X9_of_104] at h
    refine lv_iload hx hb dX9_of_104 (lv_at hl 3 rfl) ?_
    refine lv_bipush (v := 8) hx hb dX9_of_106 (by decide) ?_
    refine x_icmp_ge (tgt := 132) hx hb dX9_of_108 (by decide) h (fun _ h => ?_) (fun _ h => ?_)
    · refine lv_iload_n hx hb dX9_of_132 rfl (lv_at hl 2 rfl) ?_
      cases h
      exact x_iret hx hb hr hlocks hK hP hD hS dX9_of_133 rfl rfl
    · refine lv_iload_n hx hb dX9_of_111 rfl (lv_at hl 2 rfl) ?_
      refine lv_aload_n hx hb dX9_of_112 rfl (lv_at hl 0 rfl) ?_
      refine va_get (D := D) (ci := 8) (v := .ref (g 929)) (C := RX9) (T := TX9) (N := 38) hx hb hts ki_X9_of_X9 hown hK hP 0 rfl rfl 29 (by decide) (hts _ k_X9_of_4) (fun _ h9 => h9) rfl dX9_of_113 ?_
      refine lv_bipush (v := 8) hx hb dX9_of_116 (by decide) ?_
      refine lv_iload_n hx hb dX9_of_118 rfl (lv_at hl 1 rfl) ?_
      refine lv_imul hx hb dX9_of_119 ?_
      refine lv_iload hx hb dX9_of_120 (lv_at hl 3 rfl) ?_
      refine lv_iadd hx hb dX9_of_122 ?_
      refine x_iald hx hb hK hP 22 rfl rfl h dX9_of_123 (fun v10 h => ?_)
      refine lv_iadd hx hb dX9_of_124 ?_
      refine x_nm h (fun v11 h => ?_)
      refine lv_istore_n (lv' := [(3, .int v11), (0, .ref (g 999)), (1, .int l1), (4, .int l4)]) hx hb dX9_of_125 rfl hl (by decide) rfl (fun ls hl => ?_)
      obtain ⟨v12, ev12, h⟩ := nm_ex h
      refine lv_iinc (v := v12) (lv' := [(4, .int v12), (3, .int v11), (0, .ref (g 999)), (1, .int l1)]) hx hb dX9_of_126 hl (k := 3) rfl (by rw [ev12]; rfl) (by decide) rfl (fun ls hl => ?_)
      clear ev12
      refine lv_goto (tgt := 104) hx hb dX9_of_129 (by decide) ?_
      exact ih l1 v11 v12 h _ _ ls hP hD hS (lv_sub hl [2, 3, 1, 0] rfl)
set_option maxHeartbeats 4000000 in
set_option maxRecDepth 100000 in
theorem c_X9_of (l : Launch) (D : va_G) (cy : Nat → ClassId) (g : Nat → Nat) (um : St) (p0 : Int32) (p1 : Int32) (r : Int32) (h : f_X9_of um p0 p1 = some r) : CtI l yX9_of wsX9_of (rmH 2) [.ref (g 999), .int p0, .int p1] D cy (wX9 cy g um) (wX9 cy g um) r := by
  refine ct_enter (D := D) (cy := cy) (cc := cX9_of) (maxL := 5) (ret := (some .int)) (w := wX9 cy g um) (Qc := fun sz => va_Qi (fun r' (_ : Unit) => r' = r) (Bw D cy (va_A (wX9 cy g um) sz) (wX9 cy g um)) (va_A (wX9 cy g um) sz)) (by decide) rfl (Nat.le_of_ble_eq_true rfl) ?_
  intro p e s m below meth c A C0 hAe ls hl hP hD hS
  have e1 : MQ below ((fun sz => va_Qi (fun r' (_ : Unit) => r' = r) (Bw D cy (va_A (wX9 cy g um) sz) (wX9 cy g um)) (va_A (wX9 cy g um) sz)) s.heap.size) [.ref (g 999), .int p0, .int p1].toArray s 0 0 A = QI below [.ref (g 999), .int p0, .int p1].toArray s A D cy (wX9 cy g um) r := by rw [hAe]; rfl
  rw [e1]
  clear e1 hAe
  obtain ⟨hx, hb, hr, hml, hown, hts, hlocks, hK, hA⟩ := id C0
  have hl : lv_has ls 5 [(0, .ref (g 999)), (1, .int p0), (2, .int p1)] := hl
  rw [f_X9_of] at h
  refine lv_iload_n hx hb dX9_of_0 rfl (lv_at hl 1 rfl) ?_
  obtain ⟨r1, e2, h⟩ := bd_some h
  refine x_callSI (As := [.int p0]) (rest := []) (n := 1) ⟨hx, hb, hml, hown, hts⟩ (c_X9_isPlayer l D cy  p0 r1 e2) gX9_of_X9_isPlayer rfl hd_X9_isPlayer ⟨Nat.le_of_ble_eq_true rfl, Nat.le_of_ble_eq_true rfl⟩ ⟨rfl, rfl⟩ hK (sp_nil _) (sp_nil _) hP hD hS hA rfl hl.1 rfl (Nat.le_of_ble_eq_true rfl) dX9_of_1 ⟨Nat.zero_le _, Nat.zero_le _⟩ (fun H locs hP hD hS => ?_)
  clear e2
  refine x_if_ne (tgt := 10) hx hb dX9_of_4 (by decide) h (fun _ h => ?_) (fun _ h => ?_)
  · refine lv_bipush (v := -2) hx hb dX9_of_7 (by decide) ?_
    cases h
    exact x_iret hx hb hr hlocks hK hP hD hS dX9_of_9 rfl rfl
  · refine lv_iconst (v := 0) hx hb dX9_of_10 (by decide) ?_
    refine lv_istore_n (lv' := [(3, .int (0 : Int32)), (0, .ref (g 999)), (1, .int p0), (2, .int p1)]) hx hb dX9_of_11 rfl hl (by decide) rfl (fun ls hl => ?_)
    refine lv_iload_n hx hb dX9_of_12 rfl (lv_at hl 3 rfl) ?_
    by_cases q0 : p1 = (0 : Int32)
    · subst q0
      rw [if_pos rfl] at h
      refine lv_tableIn (tgt := 48) (off := 35) hx hb dX9_of_13 (by decide) (by decide) rfl (by decide) ?_
      refine lv_aload_n hx hb dX9_of_48 rfl (lv_at hl 1 rfl) ?_
      refine lv_iload_n hx hb dX9_of_49 rfl (lv_at hl 2 rfl) ?_
      obtain ⟨r3, e4, h⟩ := bd_some h
      refine x_callVI (As := [.int p0]) (rest := []) (n := 1) ⟨hx, hb, hml, hown, hts⟩ (c_X9_stride l D cy g um p0 r3 e4) gX9_of_X9_stride rfl hd_X9_stride ⟨Nat.le_of_ble_eq_true rfl, Nat.le_of_ble_eq_true rfl⟩ ⟨rfl, rfl⟩ hK (sp_all _) (sp_all _) hP hD hS hA 0 rfl rfl rfl hl.1 rfl (Nat.le_of_ble_eq_true rfl) dX9_of_50 ⟨Nat.zero_le _, Nat.zero_le _⟩ (fun H locs hP hD hS => ?_)
      clear e4
      cases h
      exact x_iret hx hb hr hlocks hK hP hD hS dX9_of_53 rfl rfl
    rw [if_neg q0] at h
    by_cases q1 : p1 = (1 : Int32)
    · subst q1
      rw [if_pos rfl] at h
      refine lv_tableIn (tgt := 54) (off := 41) hx hb dX9_of_13 (by decide) (by decide) rfl (by decide) ?_
      refine lv_aload_n hx hb dX9_of_54 rfl (lv_at hl 1 rfl) ?_
      refine va_get (D := D) (ci := 8) (v := .ref (g 906)) (C := RX9) (T := TX9) (N := 38) hx hb hts ki_X9_of_X9 hown hK hP 0 rfl rfl 6 (by decide) (hts _ k_X9_of_0) (fun _ h9 => h9) rfl dX9_of_55 ?_
      refine lv_iload_n hx hb dX9_of_58 rfl (lv_at hl 2 rfl) ?_
      refine x_iald hx hb hK hP 6 rfl rfl h dX9_of_59 (fun v5 h => ?_)
      cases h
      exact x_iret hx hb hr hlocks hK hP hD hS dX9_of_60 rfl rfl
    rw [if_neg q1] at h
    by_cases q2 : p1 = (2 : Int32)
    · subst q2
      rw [if_pos rfl] at h
      refine lv_tableIn (tgt := 61) (off := 48) hx hb dX9_of_13 (by decide) (by decide) rfl (by decide) ?_
      refine lv_aload_n hx hb dX9_of_61 rfl (lv_at hl 1 rfl) ?_
      refine va_get (D := D) (ci := 8) (v := .ref (g 926)) (C := RX9) (T := TX9) (N := 38) hx hb hts ki_X9_of_X9 hown hK hP 0 rfl rfl 26 (by decide) (hts _ k_X9_of_1) (fun _ h9 => h9) rfl dX9_of_62 ?_
      refine lv_iload_n hx hb dX9_of_65 rfl (lv_at hl 2 rfl) ?_
      refine x_zald hx hb hK hP 19 rfl rfl h dX9_of_66 (fun v6 h => ?_)
      refine x_if_eq (tgt := 79) hx hb dX9_of_67 (by decide) h (fun _ h => ?_) (fun _ h => ?_)
      · refine lv_iconst (v := -1) hx hb dX9_of_79 (by decide) ?_
        cases h
        exact x_iret hx hb hr hlocks hK hP hD hS dX9_of_80 rfl rfl
      · refine lv_aload_n hx hb dX9_of_70 rfl (lv_at hl 1 rfl) ?_
        refine va_get (D := D) (ci := 8) (v := .ref (g 928)) (C := RX9) (T := TX9) (N := 38) hx hb hts ki_X9_of_X9 hown hK hP 0 rfl rfl 28 (by decide) (hts _ k_X9_of_2) (fun _ h9 => h9) rfl dX9_of_71 ?_
        refine lv_iload_n hx hb dX9_of_74 rfl (lv_at hl 2 rfl) ?_
        refine x_iald hx hb hK hP 21 rfl rfl h dX9_of_75 (fun v7 h => ?_)
        refine lv_goto (tgt := 80) hx hb dX9_of_76 (by decide) ?_
        cases h
        exact x_iret hx hb hr hlocks hK hP hD hS dX9_of_80 rfl rfl
    rw [if_neg q2] at h
    by_cases q3 : p1 = (3 : Int32)
    · subst q3
      rw [if_pos rfl] at h
      refine lv_tableIn (tgt := 81) (off := 68) hx hb dX9_of_13 (by decide) (by decide) rfl (by decide) ?_
      refine lv_aload_n hx hb dX9_of_81 rfl (lv_at hl 1 rfl) ?_
      refine va_get (D := D) (ci := 8) (v := .ref (g 926)) (C := RX9) (T := TX9) (N := 38) hx hb hts ki_X9_of_X9 hown hK hP 0 rfl rfl 26 (by decide) (hts _ k_X9_of_1) (fun _ h9 => h9) rfl dX9_of_82 ?_
      refine lv_iload_n hx hb dX9_of_85 rfl (lv_at hl 2 rfl) ?_
      refine x_zald hx hb hK hP 19 rfl rfl h dX9_of_86 (fun v8 h => ?_)
      refine x_if_eq (tgt := 99) hx hb dX9_of_87 (by decide) h (fun _ h => ?_) (fun _ h => ?_)
      · refine lv_iconst (v := -1) hx hb dX9_of_99 (by decide) ?_
        cases h
        exact x_iret hx hb hr hlocks hK hP hD hS dX9_of_100 rfl rfl
      · refine lv_aload_n hx hb dX9_of_90 rfl (lv_at hl 1 rfl) ?_
        refine va_get (D := D) (ci := 8) (v := .ref (g 927)) (C := RX9) (T := TX9) (N := 38) hx hb hts ki_X9_of_X9 hown hK hP 0 rfl rfl 27 (by decide) (hts _ k_X9_of_3) (fun _ h9 => h9) rfl dX9_of_91 ?_
        refine lv_iload_n hx hb dX9_of_94 rfl (lv_at hl 2 rfl) ?_
        refine x_iald hx hb hK hP 20 rfl rfl h dX9_of_95 (fun v9 h => ?_)
        refine lv_goto (tgt := 100) hx hb dX9_of_96 (by decide) ?_
        cases h
        exact x_iret hx hb hr hlocks hK hP hD hS dX9_of_100 rfl rfl
    rw [if_neg q3] at h
    by_cases q4 : p1 = (4 : Int32)
    · subst q4
      rw [if_pos rfl] at h
      refine lv_tableIn (tgt := 101) (off := 88) hx hb dX9_of_13 (by decide) (by decide) rfl (by decide) ?_
      refine lv_iconst (v := 0) hx hb dX9_of_101 (by decide) ?_
      refine lv_istore (lv' := [(4, .int (0 : Int32)), (3, .int (0 : Int32)), (0, .ref (g 999)), (1, .int p0), (2, .int (4 : Int32))]) hx hb dX9_of_102 hl (by decide) rfl (fun ls hl => ?_)
      exact w_X9_of_104 C0 FU p0 (0 : Int32) (0 : Int32) h _ _ ls hP hD hS (lv_sub hl [2, 3, 1, 0] rfl)
    rw [if_neg q4] at h
    refine lv_tableOut (tgt := 134) hx hb dX9_of_13 (sw_out5 q0 q1 q2 q3 q4) (by decide) ?_
    refine lv_bipush (v := -3) hx hb dX9_of_134 (by decide) ?_
    cases h
    exact x_iret hx hb hr hlocks hK hP hD hS dX9_of_136 rfl rfl
theorem k_X9_count_0 : Cond.fieldLink RX9 176 "FeatherHallModel" "notes" "I" ∈ wsX9_count := (List.mem_cons_of_mem _ (List.mem_append_left _ (List.mem_of_getElem? (i := 0) rfl)))
theorem ki_X9_count_X9 : ∀ w ∈ u_ws RX9 TX9 38, w ∈ wsX9_count := fun _ hh => (List.mem_cons_of_mem _ (List.mem_append_right _ hh))
theorem k_X9_count_1 : Cond.fieldLink RX9 225 "FeatherHallModel" "roundsPlayed" "I" ∈ wsX9_count := (List.mem_cons_of_mem _ (List.mem_append_left _ (List.mem_of_getElem? (i := 1) rfl)))
theorem k_X9_count_2 : Cond.fieldLink RX9 197 "FeatherHallModel" "planned" "I" ∈ wsX9_count := (List.mem_cons_of_mem _ (List.mem_append_left _ (List.mem_of_getElem? (i := 2) rfl)))
theorem hd_X9_count : yX9_count.cls = RX9 ∧ yX9_count.cls ≠ "java/lang/invoke/MethodHandle" ∧ yX9_count.cls ≠ "java/lang/invoke/VarHandle" ∧ (parseMethodDescriptor yX9_count.desc).map (fun d => d.parameters.length) = some 1 := by decide +kernel
set_option maxHeartbeats 4000000 in
set_option maxRecDepth 100000 in
theorem c_X9_count (l : Launch) (D : va_G) (cy : Nat → ClassId) (g : Nat → Nat) (um : St) (p0 : Int32) (r : Int32) (h : f_X9_count um p0 = some r) : CtI l yX9_count wsX9_count (rmH 3) [.ref (g 999), .int p0] D cy (wX9 cy g um) (wX9 cy g um) r := by
  refine ct_enter (D := D) (cy := cy) (cc := cX9_count) (maxL := 2) (ret := (some .int)) (w := wX9 cy g um) (Qc := fun sz => va_Qi (fun r' (_ : Unit) => r' = r) (Bw D cy (va_A (wX9 cy g um) sz) (wX9 cy g um)) (va_A (wX9 cy g um) sz)) (by decide) rfl (Nat.le_of_ble_eq_true rfl) ?_
  intro p e s m below meth c A C0 hAe ls hl hP hD hS
  have e1 : MQ below ((fun sz => va_Qi (fun r' (_ : Unit) => r' = r) (Bw D cy (va_A (wX9 cy g um) sz) (wX9 cy g um)) (va_A (wX9 cy g um) sz)) s.heap.size) [.ref (g 999), .int p0].toArray s 0 0 A = QI below [.ref (g 999), .int p0].toArray s A D cy (wX9 cy g um) r := by rw [hAe]; rfl
  rw [e1]
  clear e1 hAe
  obtain ⟨hx, hb, hr, hml, hown, hts, hlocks, hK, hA⟩ := id C0
  have hl : lv_has ls 2 [(0, .ref (g 999)), (1, .int p0)] := hl
  rw [f_X9_count] at h
  refine lv_iload_n hx hb dX9_count_0 rfl (lv_at hl 1 rfl) ?_
  refine x_if_ne (tgt := 11) hx hb dX9_count_1 (by decide) h (fun _ h => ?_) (fun _ h => ?_)
  · refine lv_aload_n hx hb dX9_count_4 rfl (lv_at hl 0 rfl) ?_
    refine va_get (D := D) (ci := 8) (v := .int (um.1 16)) (C := RX9) (T := TX9) (N := 38) hx hb hts ki_X9_count_X9 hown hK hP 0 rfl rfl 16 (by decide) (hts _ k_X9_count_0) (fun _ h9 => h9) rfl dX9_count_5 ?_
    refine lv_goto (tgt := 61) hx hb dX9_count_8 (by decide) ?_
    cases h
    exact x_iret hx hb hr hlocks hK hP hD hS dX9_count_61 rfl rfl
  · refine lv_iload_n hx hb dX9_count_11 rfl (lv_at hl 1 rfl) ?_
    refine lv_iconst (v := 1) hx hb dX9_count_12 (by decide) ?_
    refine x_icmp_ne (tgt := 23) hx hb dX9_count_13 (by decide) h (fun _ h => ?_) (fun _ h => ?_)
    · refine lv_aload_n hx hb dX9_count_16 rfl (lv_at hl 0 rfl) ?_
      obtain ⟨r1, e2, h⟩ := bd_some h
      refine x_callVI (As := []) (rest := []) (n := 0) ⟨hx, hb, hml, hown, hts⟩ (c_X9_triedMany l D cy g um r1 e2) gX9_count_X9_triedMany rfl hd_X9_triedMany ⟨Nat.le_of_ble_eq_true rfl, Nat.le_of_ble_eq_true rfl⟩ ⟨rfl, rfl⟩ hK (sp_all _) (sp_all _) hP hD hS hA 0 rfl rfl rfl hl.1 rfl (Nat.le_of_ble_eq_true rfl) dX9_count_17 ⟨Nat.zero_le _, Nat.zero_le _⟩ (fun H locs hP hD hS => ?_)
      clear e2
      refine lv_goto (tgt := 61) hx hb dX9_count_20 (by decide) ?_
      cases h
      exact x_iret hx hb hr hlocks hK hP hD hS dX9_count_61 rfl rfl
    · refine lv_iload_n hx hb dX9_count_23 rfl (lv_at hl 1 rfl) ?_
      refine lv_iconst (v := 2) hx hb dX9_count_24 (by decide) ?_
      refine x_icmp_ne (tgt := 35) hx hb dX9_count_25 (by decide) h (fun _ h => ?_) (fun _ h => ?_)
      · refine lv_aload_n hx hb dX9_count_28 rfl (lv_at hl 0 rfl) ?_
        obtain ⟨r3, e4, h⟩ := bd_some h
        refine x_callVI (As := []) (rest := []) (n := 0) ⟨hx, hb, hml, hown, hts⟩ (c_X9_thereMany l D cy g um r3 e4) gX9_count_X9_thereMany rfl hd_X9_thereMany ⟨Nat.le_of_ble_eq_true rfl, Nat.le_of_ble_eq_true rfl⟩ ⟨rfl, rfl⟩ hK (sp_all _) (sp_all _) hP hD hS hA 0 rfl rfl rfl hl.1 rfl (Nat.le_of_ble_eq_true rfl) dX9_count_29 ⟨Nat.zero_le _, Nat.zero_le _⟩ (fun H locs hP hD hS => ?_)
        clear e4
        refine lv_goto (tgt := 61) hx hb dX9_count_32 (by decide) ?_
        cases h
        exact x_iret hx hb hr hlocks hK hP hD hS dX9_count_61 rfl rfl
      · refine lv_iload_n hx hb dX9_count_35 rfl (lv_at hl 1 rfl) ?_
        refine lv_iconst (v := 3) hx hb dX9_count_36 (by decide) ?_
        refine x_icmp_ne (tgt := 47) hx hb dX9_count_37 (by decide) h (fun _ h => ?_) (fun _ h => ?_)
        · refine lv_aload_n hx hb dX9_count_40 rfl (lv_at hl 0 rfl) ?_
          refine va_get (D := D) (ci := 8) (v := .int (um.1 30)) (C := RX9) (T := TX9) (N := 38) hx hb hts ki_X9_count_X9 hown hK hP 0 rfl rfl 30 (by decide) (hts _ k_X9_count_1) (fun _ h9 => h9) rfl dX9_count_41 ?_
          refine lv_goto (tgt := 61) hx hb dX9_count_44 (by decide) ?_
          cases h
          exact x_iret hx hb hr hlocks hK hP hD hS dX9_count_61 rfl rfl
        · refine lv_iload_n hx hb dX9_count_47 rfl (lv_at hl 1 rfl) ?_
          refine lv_iconst (v := 4) hx hb dX9_count_48 (by decide) ?_
          refine x_icmp_ne (tgt := 59) hx hb dX9_count_49 (by decide) h (fun _ h => ?_) (fun _ h => ?_)
          · refine lv_aload_n hx hb dX9_count_52 rfl (lv_at hl 0 rfl) ?_
            refine va_get (D := D) (ci := 8) (v := .int (um.1 23)) (C := RX9) (T := TX9) (N := 38) hx hb hts ki_X9_count_X9 hown hK hP 0 rfl rfl 23 (by decide) (hts _ k_X9_count_2) (fun _ h9 => h9) rfl dX9_count_53 ?_
            refine lv_goto (tgt := 61) hx hb dX9_count_56 (by decide) ?_
            cases h
            exact x_iret hx hb hr hlocks hK hP hD hS dX9_count_61 rfl rfl
          · refine lv_bipush (v := -3) hx hb dX9_count_59 (by decide) ?_
            cases h
            exact x_iret hx hb hr hlocks hK hP hD hS dX9_count_61 rfl rfl
