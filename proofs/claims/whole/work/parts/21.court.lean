theorem hd_X2_rowOf : yX2_rowOf.cls ≠ "java/lang/invoke/MethodHandle" ∧ yX2_rowOf.cls ≠ "java/lang/invoke/VarHandle" ∧ (parseMethodDescriptor yX2_rowOf.desc).map (fun d => d.parameters.length) = some 1 := by decide +kernel
set_option maxHeartbeats 4000000 in
set_option maxRecDepth 100000 in
theorem c_X2_rowOf (l : Launch) (D : va_G) (cy : Nat → ClassId) (p0 : Int32) (r : Int32) (h : f_X2_rowOf p0 = some r) : CtI l yX2_rowOf wsX2_rowOf (rmH 0) [.int p0] D cy (([] : va_W)) (([] : va_W)) r := by
  refine ct_enter (D := D) (cy := cy) (cc := cX2_rowOf) (maxL := 1) (ret := (some .int)) (w := ([] : va_W)) (Qc := fun sz => va_Qi (fun r' (_ : Unit) => r' = r) (Bw D cy (va_A (([] : va_W)) sz) (([] : va_W))) (va_A (([] : va_W)) sz)) (by decide) rfl (Nat.le_of_ble_eq_true rfl) ?_
  intro p e s m below meth c A C0 hAe ls hl hP hD hS
  have e1 : MQ below ((fun sz => va_Qi (fun r' (_ : Unit) => r' = r) (Bw D cy (va_A (([] : va_W)) sz) (([] : va_W))) (va_A (([] : va_W)) sz)) s.heap.size) [.int p0].toArray s 0 0 A = QI below [.int p0].toArray s A D cy (([] : va_W)) r := by rw [hAe]; rfl
  rw [e1]
  clear e1 hAe
  obtain ⟨hx, hb, hr, hml, hown, hts, hlocks, hK, hA⟩ := id C0
  have hl : lv_has ls 1 [(0, .int p0)] := hl
  rw [f_X2_rowOf] at h
  refine lv_iload_n hx hb dX2_rowOf_0 rfl (lv_at hl 0 rfl) ?_
  refine lv_iconst (v := 4) hx hb dX2_rowOf_1 (by decide) ?_
  refine lv_idiv hx hb dX2_rowOf_2 (by decide) ?_
  cases h
  exact x_iret hx hb hr hlocks hK hP hD hS dX2_rowOf_3 rfl rfl
theorem hd_X2_colOf : yX2_colOf.cls ≠ "java/lang/invoke/MethodHandle" ∧ yX2_colOf.cls ≠ "java/lang/invoke/VarHandle" ∧ (parseMethodDescriptor yX2_colOf.desc).map (fun d => d.parameters.length) = some 1 := by decide +kernel
set_option maxHeartbeats 4000000 in
set_option maxRecDepth 100000 in
theorem c_X2_colOf (l : Launch) (D : va_G) (cy : Nat → ClassId) (p0 : Int32) (r : Int32) (h : f_X2_colOf p0 = some r) : CtI l yX2_colOf wsX2_colOf (rmH 0) [.int p0] D cy (([] : va_W)) (([] : va_W)) r := by
  refine ct_enter (D := D) (cy := cy) (cc := cX2_colOf) (maxL := 1) (ret := (some .int)) (w := ([] : va_W)) (Qc := fun sz => va_Qi (fun r' (_ : Unit) => r' = r) (Bw D cy (va_A (([] : va_W)) sz) (([] : va_W))) (va_A (([] : va_W)) sz)) (by decide) rfl (Nat.le_of_ble_eq_true rfl) ?_
  intro p e s m below meth c A C0 hAe ls hl hP hD hS
  have e1 : MQ below ((fun sz => va_Qi (fun r' (_ : Unit) => r' = r) (Bw D cy (va_A (([] : va_W)) sz) (([] : va_W))) (va_A (([] : va_W)) sz)) s.heap.size) [.int p0].toArray s 0 0 A = QI below [.int p0].toArray s A D cy (([] : va_W)) r := by rw [hAe]; rfl
  rw [e1]
  clear e1 hAe
  obtain ⟨hx, hb, hr, hml, hown, hts, hlocks, hK, hA⟩ := id C0
  have hl : lv_has ls 1 [(0, .int p0)] := hl
  rw [f_X2_colOf] at h
  refine lv_iload_n hx hb dX2_colOf_0 rfl (lv_at hl 0 rfl) ?_
  refine lv_iconst (v := 4) hx hb dX2_colOf_1 (by decide) ?_
  refine lv_irem hx hb dX2_colOf_2 (by decide) ?_
  cases h
  exact x_iret hx hb hr hlocks hK hP hD hS dX2_colOf_3 rfl rfl
theorem k_X2_far_0 : Cond.methodLink RX2 13 Lib.Math.abs.name ∈ wsX2_far := (List.mem_cons_of_mem _ (List.mem_of_getElem? (i := 0) rfl))
theorem k_X2_far_1 : Cond.static Lib.Math.abs.name ∈ wsX2_far := (List.mem_cons_of_mem _ (List.mem_of_getElem? (i := 1) rfl))
theorem k_X2_far_2 : Cond.initialized "java/lang/Math" ∈ wsX2_far := (List.mem_cons_of_mem _ (List.mem_of_getElem? (i := 2) rfl))
theorem k_X2_far_3 : Cond.code Lib.Math.abs.name Lib.Math.abs.code 1 (some .int) ∈ wsX2_far := (List.mem_cons_of_mem _ (List.mem_of_getElem? (i := 3) rfl))
theorem k_X2_far_4 : Cond.methodLink RX2 21 Lib.Math.max.name ∈ wsX2_far := (List.mem_cons_of_mem _ (List.mem_of_getElem? (i := 4) rfl))
theorem k_X2_far_5 : Cond.static Lib.Math.max.name ∈ wsX2_far := (List.mem_cons_of_mem _ (List.mem_of_getElem? (i := 5) rfl))
theorem k_X2_far_6 : Cond.code Lib.Math.max.name Lib.Math.max.code 2 (some .int) ∈ wsX2_far := (List.mem_cons_of_mem _ (List.mem_of_getElem? (i := 6) rfl))
theorem hd_X2_far : yX2_far.cls ≠ "java/lang/invoke/MethodHandle" ∧ yX2_far.cls ≠ "java/lang/invoke/VarHandle" ∧ (parseMethodDescriptor yX2_far.desc).map (fun d => d.parameters.length) = some 2 := by decide +kernel
set_option maxHeartbeats 4000000 in
set_option maxRecDepth 100000 in
theorem c_X2_far (l : Launch) (D : va_G) (cy : Nat → ClassId) (p0 : Int32) (p1 : Int32) (r : Int32) (h : f_X2_far p0 p1 = some r) : CtI l yX2_far wsX2_far (rmH 1) [.int p0, .int p1] D cy (([] : va_W)) (([] : va_W)) r := by
  refine ct_enter (D := D) (cy := cy) (cc := cX2_far) (maxL := 2) (ret := (some .int)) (w := ([] : va_W)) (Qc := fun sz => va_Qi (fun r' (_ : Unit) => r' = r) (Bw D cy (va_A (([] : va_W)) sz) (([] : va_W))) (va_A (([] : va_W)) sz)) (by decide) rfl (Nat.le_of_ble_eq_true rfl) ?_
  intro p e s m below meth c A C0 hAe ls hl hP hD hS
  have e1 : MQ below ((fun sz => va_Qi (fun r' (_ : Unit) => r' = r) (Bw D cy (va_A (([] : va_W)) sz) (([] : va_W))) (va_A (([] : va_W)) sz)) s.heap.size) [.int p0, .int p1].toArray s 0 0 A = QI below [.int p0, .int p1].toArray s A D cy (([] : va_W)) r := by rw [hAe]; rfl
  rw [e1]
  clear e1 hAe
  obtain ⟨hx, hb, hr, hml, hown, hts, hlocks, hK, hA⟩ := id C0
  have hl : lv_has ls 2 [(0, .int p0), (1, .int p1)] := hl
  rw [f_X2_far] at h
  refine lv_iload_n hx hb dX2_far_0 rfl (lv_at hl 0 rfl) ?_
  obtain ⟨r1, e2, h⟩ := bd_some h
  refine x_callSI (As := [.int p0]) (rest := []) (n := 1) ⟨hx, hb, hml, hown, hts⟩ (c_X2_rowOf l D cy  p0 r1 e2) gX2_far_X2_rowOf rfl hd_X2_rowOf ⟨Nat.le_of_ble_eq_true rfl, Nat.le_of_ble_eq_true rfl⟩ ⟨rfl, rfl⟩ hK (sp_nil _) (sp_nil _) hP hD hS hA rfl hl.1 rfl (Nat.le_of_ble_eq_true rfl) dX2_far_1 ⟨Nat.zero_le _, Nat.zero_le _⟩ (fun H locs hP hD hS => ?_)
  clear e2
  refine lv_iload_n hx hb dX2_far_4 rfl (lv_at hl 1 rfl) ?_
  obtain ⟨r3, e4, h⟩ := bd_some h
  refine x_callSI (As := [.int p1]) (rest := [.int r1]) (n := 1) ⟨hx, hb, hml, hown, hts⟩ (c_X2_rowOf l D cy  p1 r3 e4) gX2_far_X2_rowOf rfl hd_X2_rowOf ⟨Nat.le_of_ble_eq_true rfl, Nat.le_of_ble_eq_true rfl⟩ ⟨rfl, rfl⟩ hK (sp_nil _) (sp_nil _) hP hD hS hA rfl hl.1 rfl (Nat.le_of_ble_eq_true rfl) dX2_far_5 ⟨Nat.zero_le _, Nat.zero_le _⟩ (fun H locs hP hD hS => ?_)
  clear e4
  refine lv_isub hx hb dX2_far_8 ?_
  refine x_nm h (fun v5 h => ?_)
  refine va_mabs hx hb (hml.trans hl.1.symm) hown (hts _ k_X2_far_0) (hts _ k_X2_far_1) (hts _ k_X2_far_2) (hts _ k_X2_far_3) (Nat.le_of_ble_eq_true rfl) (Nat.le_of_ble_eq_true rfl) (Nat.zero_le _) (Nat.zero_le _) dX2_far_9 ?_
  refine x_nm h (fun v6 h => ?_)
  refine lv_iload_n hx hb dX2_far_12 rfl (lv_at hl 0 rfl) ?_
  obtain ⟨r7, e8, h⟩ := bd_some h
  refine x_callSI (As := [.int p0]) (rest := [.int v6]) (n := 1) ⟨hx, hb, hml, hown, hts⟩ (c_X2_colOf l D cy  p0 r7 e8) gX2_far_X2_colOf rfl hd_X2_colOf ⟨Nat.le_of_ble_eq_true rfl, Nat.le_of_ble_eq_true rfl⟩ ⟨rfl, rfl⟩ hK (sp_nil _) (sp_nil _) hP hD hS hA rfl hl.1 rfl (Nat.le_of_ble_eq_true rfl) dX2_far_13 ⟨Nat.zero_le _, Nat.zero_le _⟩ (fun H locs hP hD hS => ?_)
  clear e8
  refine lv_iload_n hx hb dX2_far_16 rfl (lv_at hl 1 rfl) ?_
  obtain ⟨r9, e10, h⟩ := bd_some h
  refine x_callSI (As := [.int p1]) (rest := [.int r7, .int v6]) (n := 1) ⟨hx, hb, hml, hown, hts⟩ (c_X2_colOf l D cy  p1 r9 e10) gX2_far_X2_colOf rfl hd_X2_colOf ⟨Nat.le_of_ble_eq_true rfl, Nat.le_of_ble_eq_true rfl⟩ ⟨rfl, rfl⟩ hK (sp_nil _) (sp_nil _) hP hD hS hA rfl hl.1 rfl (Nat.le_of_ble_eq_true rfl) dX2_far_17 ⟨Nat.zero_le _, Nat.zero_le _⟩ (fun H locs hP hD hS => ?_)
  clear e10
  refine lv_isub hx hb dX2_far_20 ?_
  refine x_nm h (fun v11 h => ?_)
  refine va_mabs hx hb (hml.trans hl.1.symm) hown (hts _ k_X2_far_0) (hts _ k_X2_far_1) (hts _ k_X2_far_2) (hts _ k_X2_far_3) (Nat.le_of_ble_eq_true rfl) (Nat.le_of_ble_eq_true rfl) (Nat.zero_le _) (Nat.zero_le _) dX2_far_21 ?_
  refine x_nm h (fun v12 h => ?_)
  refine va_mmax hx hb (hml.trans hl.1.symm) hown (hts _ k_X2_far_4) (hts _ k_X2_far_5) (hts _ k_X2_far_2) (hts _ k_X2_far_6) (Nat.le_of_ble_eq_true rfl) (Nat.le_of_ble_eq_true rfl) (Nat.zero_le _) (Nat.zero_le _) dX2_far_24 ?_
  refine x_nm h (fun v13 h => ?_)
  cases h
  exact x_iret hx hb hr hlocks hK hP hD hS dX2_far_27 rfl rfl
theorem k_X2_near_0 : Cond.methodLink RX2 21 Lib.Math.max.name ∈ wsX2_near := (List.mem_cons_of_mem _ (List.mem_of_getElem? (i := 1) rfl))
theorem k_X2_near_1 : Cond.static Lib.Math.max.name ∈ wsX2_near := (List.mem_cons_of_mem _ (List.mem_of_getElem? (i := 2) rfl))
theorem k_X2_near_2 : Cond.initialized "java/lang/Math" ∈ wsX2_near := (List.mem_cons_of_mem _ (List.mem_of_getElem? (i := 3) rfl))
theorem k_X2_near_3 : Cond.code Lib.Math.max.name Lib.Math.max.code 2 (some .int) ∈ wsX2_near := (List.mem_cons_of_mem _ (List.mem_of_getElem? (i := 4) rfl))
theorem k_X2_near_4 : Cond.methodLink RX2 26 Lib.Math.min.name ∈ wsX2_near := (List.mem_cons_of_mem _ (List.mem_of_getElem? (i := 5) rfl))
theorem k_X2_near_5 : Cond.static Lib.Math.min.name ∈ wsX2_near := (List.mem_cons_of_mem _ (List.mem_of_getElem? (i := 6) rfl))
theorem k_X2_near_6 : Cond.code Lib.Math.min.name Lib.Math.min.code 2 (some .int) ∈ wsX2_near := (List.mem_cons_of_mem _ (List.mem_of_getElem? (i := 7) rfl))
theorem k_X2_near_7 : Cond.constant RX2 25 (65535) ∈ wsX2_near := (List.mem_cons_of_mem _ (List.mem_of_getElem? (i := 0) rfl))
theorem hd_X2_near : yX2_near.cls ≠ "java/lang/invoke/MethodHandle" ∧ yX2_near.cls ≠ "java/lang/invoke/VarHandle" ∧ (parseMethodDescriptor yX2_near.desc).map (fun d => d.parameters.length) = some 2 := by decide +kernel
set_option maxHeartbeats 4000000 in
set_option maxRecDepth 100000 in
theorem c_X2_near (l : Launch) (D : va_G) (cy : Nat → ClassId) (p0 : Int32) (p1 : Int32) (r : Int32) (h : f_X2_near p0 p1 = some r) : CtI l yX2_near wsX2_near (rmH 1) [.int p0, .int p1] D cy (([] : va_W)) (([] : va_W)) r := by
  refine ct_enter (D := D) (cy := cy) (cc := cX2_near) (maxL := 8) (ret := (some .int)) (w := ([] : va_W)) (Qc := fun sz => va_Qi (fun r' (_ : Unit) => r' = r) (Bw D cy (va_A (([] : va_W)) sz) (([] : va_W))) (va_A (([] : va_W)) sz)) (by decide) rfl (Nat.le_of_ble_eq_true rfl) ?_
  intro p e s m below meth c A C0 hAe ls hl hP hD hS
  have e1 : MQ below ((fun sz => va_Qi (fun r' (_ : Unit) => r' = r) (Bw D cy (va_A (([] : va_W)) sz) (([] : va_W))) (va_A (([] : va_W)) sz)) s.heap.size) [.int p0, .int p1].toArray s 0 0 A = QI below [.int p0, .int p1].toArray s A D cy (([] : va_W)) r := by rw [hAe]; rfl
  rw [e1]
  clear e1 hAe
  obtain ⟨hx, hb, hr, hml, hown, hts, hlocks, hK, hA⟩ := id C0
  have hl : lv_has ls 8 [(0, .int p0), (1, .int p1)] := hl
  rw [f_X2_near] at h
  refine lv_iload_n hx hb dX2_near_0 rfl (lv_at hl 1 rfl) ?_
  refine lv_iconst (v := 3) hx hb dX2_near_1 (by decide) ?_
  refine x_icmp_lt (tgt := 8) hx hb dX2_near_2 (by decide) h (fun _ h => ?_) (fun _ h => ?_)
  · refine lv_iconst (v := 0) hx hb dX2_near_8 (by decide) ?_
    refine lv_iload_n hx hb dX2_near_9 rfl (lv_at hl 0 rfl) ?_
    obtain ⟨r1, e2, h⟩ := bd_some h
    refine x_callSI (As := [.int p0]) (rest := [.int (0 : Int32)]) (n := 1) ⟨hx, hb, hml, hown, hts⟩ (c_X2_rowOf l D cy  p0 r1 e2) gX2_near_X2_rowOf rfl hd_X2_rowOf ⟨Nat.le_of_ble_eq_true rfl, Nat.le_of_ble_eq_true rfl⟩ ⟨rfl, rfl⟩ hK (sp_nil _) (sp_nil _) hP hD hS hA rfl hl.1 rfl (Nat.le_of_ble_eq_true rfl) dX2_near_10 ⟨Nat.zero_le _, Nat.zero_le _⟩ (fun H locs hP hD hS => ?_)
    clear e2
    refine lv_iload_n hx hb dX2_near_13 rfl (lv_at hl 1 rfl) ?_
    refine lv_isub hx hb dX2_near_14 ?_
    refine x_nm h (fun v3 h => ?_)
    refine va_mmax hx hb (hml.trans hl.1.symm) hown (hts _ k_X2_near_0) (hts _ k_X2_near_1) (hts _ k_X2_near_2) (hts _ k_X2_near_3) (Nat.le_of_ble_eq_true rfl) (Nat.le_of_ble_eq_true rfl) (Nat.zero_le _) (Nat.zero_le _) dX2_near_15 ?_
    refine x_nm h (fun v4 h => ?_)
    refine lv_istore_n (lv' := [(2, .int v4), (0, .int p0), (1, .int p1)]) hx hb dX2_near_18 rfl hl (by decide) rfl (fun ls hl => ?_)
    refine lv_iconst (v := 3) hx hb dX2_near_19 (by decide) ?_
    refine lv_iload_n hx hb dX2_near_20 rfl (lv_at hl 1 rfl) ?_
    obtain ⟨r5, e6, h⟩ := bd_some h
    refine x_callSI (As := [.int p0]) (rest := [.int (3 : Int32)]) (n := 1) ⟨hx, hb, hml, hown, hts⟩ (c_X2_rowOf l D cy  p0 r5 e6) gX2_near_X2_rowOf rfl hd_X2_rowOf ⟨Nat.le_of_ble_eq_true rfl, Nat.le_of_ble_eq_true rfl⟩ ⟨rfl, rfl⟩ hK (sp_nil _) (sp_nil _) hP hD hS hA rfl hl.1 rfl (Nat.le_of_ble_eq_true rfl) dX2_near_21 ⟨Nat.zero_le _, Nat.zero_le _⟩ (fun H locs hP hD hS => ?_)
    clear e6
    refine lv_iload_n hx hb dX2_near_24 rfl (lv_at hl 2 rfl) ?_
    refine lv_iadd hx hb dX2_near_25 ?_
    refine x_nm h (fun v7 h => ?_)
    refine va_mmin hx hb (hml.trans hl.1.symm) hown (hts _ k_X2_near_4) (hts _ k_X2_near_5) (hts _ k_X2_near_2) (hts _ k_X2_near_6) (Nat.le_of_ble_eq_true rfl) (Nat.le_of_ble_eq_true rfl) (Nat.zero_le _) (Nat.zero_le _) dX2_near_26 ?_
    refine x_nm h (fun v8 h => ?_)
    refine lv_istore_n (lv' := [(3, .int v8), (2, .int v4), (0, .int p0), (1, .int p1)]) hx hb dX2_near_29 rfl hl (by decide) rfl (fun ls hl => ?_)
    refine lv_iconst (v := 0) hx hb dX2_near_30 (by decide) ?_
    refine lv_iload_n hx hb dX2_near_31 rfl (lv_at hl 2 rfl) ?_
    obtain ⟨r9, e10, h⟩ := bd_some h
    refine x_callSI (As := [.int p0]) (rest := [.int (0 : Int32)]) (n := 1) ⟨hx, hb, hml, hown, hts⟩ (c_X2_colOf l D cy  p0 r9 e10) gX2_near_X2_colOf rfl hd_X2_colOf ⟨Nat.le_of_ble_eq_true rfl, Nat.le_of_ble_eq_true rfl⟩ ⟨rfl, rfl⟩ hK (sp_nil _) (sp_nil _) hP hD hS hA rfl hl.1 rfl (Nat.le_of_ble_eq_true rfl) dX2_near_32 ⟨Nat.zero_le _, Nat.zero_le _⟩ (fun H locs hP hD hS => ?_)
    clear e10
    refine lv_iload_n hx hb dX2_near_35 rfl (lv_at hl 3 rfl) ?_
    refine lv_isub hx hb dX2_near_36 ?_
    refine x_nm h (fun v11 h => ?_)
    refine va_mmax hx hb (hml.trans hl.1.symm) hown (hts _ k_X2_near_0) (hts _ k_X2_near_1) (hts _ k_X2_near_2) (hts _ k_X2_near_3) (Nat.le_of_ble_eq_true rfl) (Nat.le_of_ble_eq_true rfl) (Nat.zero_le _) (Nat.zero_le _) dX2_near_37 ?_
    refine x_nm h (fun v12 h => ?_)
    refine lv_istore (lv' := [(4, .int v12), (3, .int v8), (2, .int v4), (0, .int p0), (1, .int p1)]) hx hb dX2_near_40 hl (by decide) rfl (fun ls hl => ?_)
    refine lv_iconst (v := 3) hx hb dX2_near_42 (by decide) ?_
    refine lv_iload_n hx hb dX2_near_43 rfl (lv_at hl 3 rfl) ?_
    obtain ⟨r13, e14, h⟩ := bd_some h
    refine x_callSI (As := [.int p0]) (rest := [.int (3 : Int32)]) (n := 1) ⟨hx, hb, hml, hown, hts⟩ (c_X2_colOf l D cy  p0 r13 e14) gX2_near_X2_colOf rfl hd_X2_colOf ⟨Nat.le_of_ble_eq_true rfl, Nat.le_of_ble_eq_true rfl⟩ ⟨rfl, rfl⟩ hK (sp_nil _) (sp_nil _) hP hD hS hA rfl hl.1 rfl (Nat.le_of_ble_eq_true rfl) dX2_near_44 ⟨Nat.zero_le _, Nat.zero_le _⟩ (fun H locs hP hD hS => ?_)
    clear e14
    refine lv_iload_n hx hb dX2_near_47 rfl (lv_at hl 4 rfl) ?_
    refine lv_iadd hx hb dX2_near_48 ?_
    refine x_nm h (fun v15 h => ?_)
    refine va_mmin hx hb (hml.trans hl.1.symm) hown (hts _ k_X2_near_4) (hts _ k_X2_near_5) (hts _ k_X2_near_2) (hts _ k_X2_near_6) (Nat.le_of_ble_eq_true rfl) (Nat.le_of_ble_eq_true rfl) (Nat.zero_le _) (Nat.zero_le _) dX2_near_49 ?_
    refine x_nm h (fun v16 h => ?_)
    refine lv_istore (lv' := [(5, .int v16), (4, .int v12), (3, .int v8), (2, .int v4), (0, .int p0), (1, .int p1)]) hx hb dX2_near_52 hl (by decide) rfl (fun ls hl => ?_)
    refine lv_ldc hx hb hown (hts _ k_X2_near_7) dX2_near_54 ?_
    refine lv_iconst (v := 4) hx hb dX2_near_56 (by decide) ?_
    refine lv_iload_n hx hb dX2_near_57 rfl (lv_at hl 3 rfl) ?_
    refine lv_imul hx hb dX2_near_58 ?_
    refine lv_ishl hx hb dX2_near_59 ?_
    refine lv_ldc hx hb hown (hts _ k_X2_near_7) dX2_near_60 ?_
    refine lv_iconst (v := 4) hx hb dX2_near_62 (by decide) ?_
    refine lv_iconst (v := 3) hx hb dX2_near_63 (by decide) ?_
    refine lv_iload_n hx hb dX2_near_64 rfl (lv_at hl 2 rfl) ?_
    refine lv_isub hx hb dX2_near_65 ?_
    refine lv_imul hx hb dX2_near_66 ?_
    refine lv_ishr hx hb dX2_near_67 ?_
    refine lv_iand hx hb dX2_near_68 ?_
    refine x_nm h (fun v17 h => ?_)
    refine lv_istore (lv' := [(6, .int v17), (5, .int v16), (4, .int v12), (3, .int v8), (2, .int v4), (0, .int p0), (1, .int p1)]) hx hb dX2_near_69 hl (by decide) rfl (fun ls hl => ?_)
    refine lv_bipush (v := 15) hx hb dX2_near_71 (by decide) ?_
    refine lv_iload hx hb dX2_near_73 (lv_at hl 2 rfl) ?_
    refine lv_ishl hx hb dX2_near_75 ?_
    refine lv_bipush (v := 15) hx hb dX2_near_76 (by decide) ?_
    refine lv_iconst (v := 3) hx hb dX2_near_78 (by decide) ?_
    refine lv_iload hx hb dX2_near_79 (lv_at hl 1 rfl) ?_
    refine lv_isub hx hb dX2_near_81 ?_
    refine lv_ishr hx hb dX2_near_82 ?_
    refine lv_iand hx hb dX2_near_83 ?_
    refine lv_sipush (v := 4369) hx hb dX2_near_84 (by decide) ?_
    refine lv_imul hx hb dX2_near_87 ?_
    refine x_nm h (fun v18 h => ?_)
    refine lv_istore (lv' := [(7, .int v18), (6, .int v17), (5, .int v16), (4, .int v12), (3, .int v8), (2, .int v4), (0, .int p0), (1, .int p1)]) hx hb dX2_near_88 hl (by decide) rfl (fun ls hl => ?_)
    refine lv_iload hx hb dX2_near_90 (lv_at hl 1 rfl) ?_
    refine lv_iload hx hb dX2_near_92 (lv_at hl 0 rfl) ?_
    refine lv_iand hx hb dX2_near_94 ?_
    cases h
    exact x_iret hx hb hr hlocks hK hP hD hS dX2_near_95 rfl rfl
  · refine lv_ldc hx hb hown (hts _ k_X2_near_7) dX2_near_5 ?_
    cases h
    exact x_iret hx hb hr hlocks hK hP hD hS dX2_near_7 rfl rfl
theorem hd_X2_holds : yX2_holds.cls ≠ "java/lang/invoke/MethodHandle" ∧ yX2_holds.cls ≠ "java/lang/invoke/VarHandle" ∧ (parseMethodDescriptor yX2_holds.desc).map (fun d => d.parameters.length) = some 2 := by decide +kernel
set_option maxHeartbeats 4000000 in
set_option maxRecDepth 100000 in
theorem c_X2_holds (l : Launch) (D : va_G) (cy : Nat → ClassId) (p0 : Int32) (p1 : Int32) (r : Int32) (h : f_X2_holds p0 p1 = some r) : CtI l yX2_holds wsX2_holds (rmH 0) [.int p0, .int p1] D cy (([] : va_W)) (([] : va_W)) r := by
  refine ct_enter (D := D) (cy := cy) (cc := cX2_holds) (maxL := 2) (ret := (some .boolean)) (w := ([] : va_W)) (Qc := fun sz => va_Qi (fun r' (_ : Unit) => r' = r) (Bw D cy (va_A (([] : va_W)) sz) (([] : va_W))) (va_A (([] : va_W)) sz)) (by decide) rfl (Nat.le_of_ble_eq_true rfl) ?_
  intro p e s m below meth c A C0 hAe ls hl hP hD hS
  have e1 : MQ below ((fun sz => va_Qi (fun r' (_ : Unit) => r' = r) (Bw D cy (va_A (([] : va_W)) sz) (([] : va_W))) (va_A (([] : va_W)) sz)) s.heap.size) [.int p0, .int p1].toArray s 0 0 A = QI below [.int p0, .int p1].toArray s A D cy (([] : va_W)) r := by rw [hAe]; rfl
  rw [e1]
  clear e1 hAe
  obtain ⟨hx, hb, hr, hml, hown, hts, hlocks, hK, hA⟩ := id C0
  have hl : lv_has ls 2 [(0, .int p0), (1, .int p1)] := hl
  rw [f_X2_holds] at h
  refine lv_iload_n hx hb dX2_holds_0 rfl (lv_at hl 0 rfl) ?_
  refine lv_iload_n hx hb dX2_holds_1 rfl (lv_at hl 1 rfl) ?_
  refine lv_ishr hx hb dX2_holds_2 ?_
  refine lv_iconst (v := 1) hx hb dX2_holds_3 (by decide) ?_
  refine lv_iand hx hb dX2_holds_4 ?_
  refine lv_iconst (v := 1) hx hb dX2_holds_5 (by decide) ?_
  refine x_icmp_ne (tgt := 13) hx hb dX2_holds_6 (by decide) h (fun _ h => ?_) (fun _ h => ?_)
  · refine lv_iconst (v := 1) hx hb dX2_holds_9 (by decide) ?_
    refine lv_goto (tgt := 14) hx hb dX2_holds_10 (by decide) ?_
    cases h
    exact x_zret hx hb hr hlocks hK hP hD hS (Or.inr rfl) dX2_holds_14 rfl rfl
  · refine lv_iconst (v := 0) hx hb dX2_holds_13 (by decide) ?_
    cases h
    exact x_zret hx hb hr hlocks hK hP hD hS (Or.inl rfl) dX2_holds_14 rfl rfl
